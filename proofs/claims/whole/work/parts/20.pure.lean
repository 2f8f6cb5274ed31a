def zStrLen (i : Nat) : Int32 := nI (zLen.getD i 0)
def zStrCh (i : Nat) (k : Int32) : Int32 := (zByt.getD i []).getD k.toNatClampNeg 0
def zIxF (c : Int32) : List Int32 → Nat → Int32
  | [], _ => -1
  | b :: l, k => if b = c then nI k else zIxF c l (k + 1)
def zStrIx (i : Nat) (c : Int32) : Int32 := zIxF c (zByt.getD i []) 0
def f_X11_between (p0 : Int32) (p1 : Int32) (p2 : Int32) : Int32 :=
  (if p0 < p1 then (0 : Int32) else (if p2 < p0 then (0 : Int32) else (1 : Int32)))
theorem bo_X11_between (p0 : Int32) (p1 : Int32) (p2 : Int32) : f_X11_between p0 p1 p2 = 0 ∨ f_X11_between p0 p1 p2 = 1 := by
  unfold f_X11_between
  repeat' split
  all_goals first | exact Or.inl rfl | exact Or.inr rfl
def f_X10_addSort (σ : Zst) (p0 : Int32) (p1 : Int32) (p2 : Int32) : Option (Zst × Int32) :=
  (if (if (f_X11_between p0 (1 : Int32) (100 : Int32)) = (0 : Int32) then (0 : Int32) else (if (f_X11_between p1 (-5 : Int32) (5 : Int32)) = (0 : Int32) then (0 : Int32) else (if (f_X11_between p2 (1 : Int32) (100 : Int32)) = (0 : Int32) then (0 : Int32) else (1 : Int32)))) = (0 : Int32) then some (σ, (-1 : Int32)) else (if (σ.1 10) < (8 : Int32) then gIx (σ.1 10) 8 (gIx (σ.1 10) 8 (gIx (σ.1 10) 8 (some ((zI (zA (zA (zA σ 10 (upd (σ.2.1 10) (Int32.toNatClampNeg (σ.1 10)) p0)) 11 (upd (σ.2.1 11) (Int32.toNatClampNeg (σ.1 10)) p1)) 12 (upd (σ.2.1 12) (Int32.toNatClampNeg (σ.1 10)) p2)) 10 ((σ.1 10) + (1 : Int32))), (((σ.1 10) + (1 : Int32)) - (1 : Int32)))))) else some (σ, (-1 : Int32))))
def f_X11_sort (σ : Zst) (p0 : Int32) (p1 : Int32) (p2 : Int32) : Option (Zst × Int32) :=
  (f_X10_addSort σ p0 p1 p2).bind fun t1 => some (t1.1, t1.2)
def f_X11_isKind (p0 : Int32) : Int32 :=
  (f_X11_between p0 (0 : Int32) (5 : Int32))
theorem bo_X11_isKind (p0 : Int32) : f_X11_isKind p0 = 0 ∨ f_X11_isKind p0 = 1 := by
  unfold f_X11_isKind
  repeat' split
  all_goals first | exact Or.inl rfl | exact Or.inr rfl | exact (bo_X11_between p0 (0 : Int32) (5 : Int32))
def f_X10_cellCount (σ0 : Zst)  : Int32 :=
  ((12 : Int32) * (σ0.1 11))
def f_X10_hasCell (σ0 : Zst) (p0 : Int32) : Int32 :=
  (if p0 < (0 : Int32) then (0 : Int32) else (if (f_X10_cellCount σ0) ≤ p0 then (0 : Int32) else (1 : Int32)))
theorem bo_X10_hasCell (σ0 : Zst) (p0 : Int32) : f_X10_hasCell σ0 p0 = 0 ∨ f_X10_hasCell σ0 p0 = 1 := by
  unfold f_X10_hasCell
  repeat' split
  all_goals first | exact Or.inl rfl | exact Or.inr rfl
def f_X10_hasSort (σ0 : Zst) (p0 : Int32) : Int32 :=
  (if p0 < (0 : Int32) then (0 : Int32) else (if (σ0.1 10) ≤ p0 then (0 : Int32) else (1 : Int32)))
theorem bo_X10_hasSort (σ0 : Zst) (p0 : Int32) : f_X10_hasSort σ0 p0 = 0 ∨ f_X10_hasSort σ0 p0 = 1 := by
  unfold f_X10_hasSort
  repeat' split
  all_goals first | exact Or.inl rfl | exact Or.inr rfl
def f_X10_hasNumber (σ0 : Zst) (p0 : Int32) (p1 : Int32) (p2 : Int32) : Int32 :=
  (if (f_X11_isKind p0) = (0 : Int32) then (0 : Int32) else (if (f_X10_hasCell σ0 p1) = (0 : Int32) then (0 : Int32) else (if (f_X10_hasSort σ0 p2) = (0 : Int32) then (0 : Int32) else (1 : Int32))))
theorem bo_X10_hasNumber (σ0 : Zst) (p0 : Int32) (p1 : Int32) (p2 : Int32) : f_X10_hasNumber σ0 p0 p1 p2 = 0 ∨ f_X10_hasNumber σ0 p0 p1 p2 = 1 := by
  unfold f_X10_hasNumber
  repeat' split
  all_goals first | exact Or.inl rfl | exact Or.inr rfl | exact (bo_X10_hasCell σ0 p1) | exact (bo_X10_hasSort σ0 p2) | exact (bo_X11_isKind p0)
def f_X4_placeOf (p0 : Int32) (p1 : Int32) (p2 : Int32) : Int32 :=
  (if (if p0 < (0 : Int32) then (0 : Int32) else (if (6 : Int32) ≤ p0 then (0 : Int32) else (if p1 < (0 : Int32) then (0 : Int32) else (if (96 : Int32) ≤ p1 then (0 : Int32) else (if p2 < (0 : Int32) then (0 : Int32) else (if (8 : Int32) ≤ p2 then (0 : Int32) else (1 : Int32))))))) = (0 : Int32) then (-1 : Int32) else ((((p0 * (96 : Int32)) + p1) * (8 : Int32)) + p2))
def f_X4_of (σ0 : Zst) (p0 : Int32) (p1 : Int32) (p2 : Int32) : Option Int32 :=
  (if (f_X4_placeOf p0 p1 p2) < (0 : Int32) then some (-1 : Int32) else (if (4608 : Int32) ≤ (f_X4_placeOf p0 p1 p2) then some (-1 : Int32) else gIx (f_X4_placeOf p0 p1 p2) 4608 (some ((σ0.2.1 1) (Int32.toNatClampNeg (f_X4_placeOf p0 p1 p2))))))
def f_X4_change (σ : Zst) (p0 : Int32) (p1 : Int32) (p2 : Int32) (p3 : Int32) : Option Zst :=
  (if (f_X4_placeOf p0 p1 p2) < (0 : Int32) then some σ else (if (4608 : Int32) ≤ (f_X4_placeOf p0 p1 p2) then some σ else gIx (f_X4_placeOf p0 p1 p2) 4608 (some (zA σ 1 (upd (σ.2.1 1) (Int32.toNatClampNeg (f_X4_placeOf p0 p1 p2)) p3)))))
def f_X11_put (σ : Zst) (p0 : Int32) (p1 : Int32) (p2 : Int32) (p3 : Int32) : Option (Zst × Int32) :=
  (if (f_X10_hasNumber σ p0 p1 p2) = (0 : Int32) then some (σ, (-2 : Int32)) else (if (f_X11_between p3 (-1 : Int32) (999 : Int32)) = (0 : Int32) then some (σ, (-2 : Int32)) else (f_X4_of σ p0 p1 p2).bind fun t1 => (f_X4_change σ p0 p1 p2 p3).bind fun t2 => some (t2, t1)))
def f_X11_get (σ0 : Zst) (p0 : Int32) (p1 : Int32) (p2 : Int32) : Option Int32 :=
  (if (f_X10_hasNumber σ0 p0 p1 p2) = (0 : Int32) then some (-2 : Int32) else (f_X4_of σ0 p0 p1 p2).bind fun t1 => some t1)
def f_X5_clear (σ : Zst)  : Option Zst :=
  some (zI σ 0 (0 : Int32))
def f_X5_add (σ : Zst) (p0 : Int64) : Option Zst :=
  (if (8 : Int32) ≤ (σ.1 0) then some σ else gIx (σ.1 0) 8 (some (zI (zL σ 0 (vp_updL (σ.2.2.1 0) (Int32.toNatClampNeg (σ.1 0)) p0)) 0 ((σ.1 0) + (1 : Int32)))))
def f_X11_hasBit (p0 : Int32) (p1 : Int32) : Int32 :=
  (if ((jShr p0 p1) &&& (1 : Int32)) = (1 : Int32) then (1 : Int32) else (0 : Int32))
theorem bo_X11_hasBit (p0 : Int32) (p1 : Int32) : f_X11_hasBit p0 p1 = 0 ∨ f_X11_hasBit p0 p1 = 1 := by
  unfold f_X11_hasBit
  repeat' split
  all_goals first | exact Or.inl rfl | exact Or.inr rfl
def f_X4_has (σ0 : Zst) (p0 : Int32) (p1 : Int32) (p2 : Int32) : Option Int32 :=
  (f_X4_of σ0 p0 p1 p2).bind fun t1 => some (if t1 < (0 : Int32) then (0 : Int32) else (1 : Int32))
def L_X0_total_64 (σ : Zst) (v1 : Int32) (v2 : Int32) (v3 : Int32) (v4 : Int32) : Nat → Int32 → Int32 → Int32 → Option (Zst × Int32)
  | 0, _, _, _ => none
  | n64 + 1, v6, v7, v8 => (if (f_X10_cellCount σ) ≤ v8 then (f_X5_clear σ).bind fun t1 => (f_X5_add t1 (Int32.toInt64 v7)).bind fun t2 => some (t2, v6) else (if (if (f_X11_hasBit v3 (v8 / (12 : Int32))) = (0 : Int32) then (0 : Int32) else (if (f_X11_hasBit v4 (jRem v8 (12 : Int32))) = (0 : Int32) then (0 : Int32) else (1 : Int32))) = (0 : Int32) then L_X0_total_64 σ v1 v2 v3 v4 n64 v6 v7 (v8 + (1 : Int32)) else (f_X4_has σ v1 v8 v2).bind fun t6 => (if t6 = (0 : Int32) then L_X0_total_64 σ v1 v2 v3 v4 n64 v6 v7 (v8 + (1 : Int32)) else (f_X4_of σ v1 v8 v2).bind fun t7 => L_X0_total_64 σ v1 v2 v3 v4 n64 (v6 + t7) (v7 + (1 : Int32)) (v8 + (1 : Int32)))))
def f_X0_total (σ : Zst) (p0 : Int32) (p1 : Int32) (p2 : Int32) (p3 : Int32) : Option (Zst × Int32) :=
  (if (f_X11_isKind p0) = (0 : Int32) then some (σ, (-1 : Int32)) else (if (f_X10_hasSort σ p1) = (0 : Int32) then some (σ, (-1 : Int32)) else (if (if (f_X11_between p2 (1 : Int32) (255 : Int32)) = (0 : Int32) then (0 : Int32) else (if (f_X11_between p3 (1 : Int32) (4095 : Int32)) = (0 : Int32) then (0 : Int32) else (1 : Int32))) = (0 : Int32) then some (σ, (-1 : Int32)) else L_X0_total_64 σ p0 p1 p2 p3 zFu (0 : Int32) (0 : Int32) (0 : Int32))))
def f_X11_sum (σ : Zst) (p0 : Int32) (p1 : Int32) (p2 : Int32) (p3 : Int32) : Option (Zst × Int32) :=
  (f_X0_total σ p0 p1 p2 p3).bind fun t1 => some (t1.1, t1.2)
def f_X12_in (p0 : Int64) (p1 : Int64) (p2 : Int64) : Int32 :=
  (if p0 < p1 then (0 : Int32) else (if p2 < p0 then (0 : Int32) else (1 : Int32)))
theorem bo_X12_in (p0 : Int64) (p1 : Int64) (p2 : Int64) : f_X12_in p0 p1 p2 = 0 ∨ f_X12_in p0 p1 p2 = 1 := by
  unfold f_X12_in
  repeat' split
  all_goals first | exact Or.inl rfl | exact Or.inr rfl
def f_X12_isKind (p0 : Int32) : Int32 :=
  (f_X12_in (Int32.toInt64 p0) (0 : Int64) (5 : Int64))
theorem bo_X12_isKind (p0 : Int32) : f_X12_isKind p0 = 0 ∨ f_X12_isKind p0 = 1 := by
  unfold f_X12_isKind
  repeat' split
  all_goals first | exact Or.inl rfl | exact Or.inr rfl | exact (bo_X12_in (Int32.toInt64 p0) (0 : Int64) (5 : Int64))
def f_X12_isCell (σ0 : Zst) (p0 : Int32) : Int32 :=
  (f_X12_in (Int32.toInt64 p0) (0 : Int64) (Int32.toInt64 (((12 : Int32) * (σ0.1 3)) - (1 : Int32))))
theorem bo_X12_isCell (σ0 : Zst) (p0 : Int32) : f_X12_isCell σ0 p0 = 0 ∨ f_X12_isCell σ0 p0 = 1 := by
  unfold f_X12_isCell
  repeat' split
  all_goals first | exact Or.inl rfl | exact Or.inr rfl | exact (bo_X12_in (Int32.toInt64 p0) (0 : Int64) (Int32.toInt64 (((12 : Int32) * (σ0.1 3)) - (1 : Int32))))
def f_X12_isSort (σ0 : Zst) (p0 : Int32) : Int32 :=
  (f_X12_in (Int32.toInt64 p0) (0 : Int64) (Int32.toInt64 ((σ0.1 2) - (1 : Int32))))
theorem bo_X12_isSort (σ0 : Zst) (p0 : Int32) : f_X12_isSort σ0 p0 = 0 ∨ f_X12_isSort σ0 p0 = 1 := by
  unfold f_X12_isSort
  repeat' split
  all_goals first | exact Or.inl rfl | exact Or.inr rfl | exact (bo_X12_in (Int32.toInt64 p0) (0 : Int64) (Int32.toInt64 ((σ0.1 2) - (1 : Int32))))
def f_X12_placeOf (p0 : Int32) (p1 : Int32) (p2 : Int32) : Int32 :=
  ((((p0 * (96 : Int32)) + p1) * (8 : Int32)) + p2)
def f_X12_at (σ0 : Zst) (p0 : Int32) (p1 : Int32) (p2 : Int32) : Option Int32 :=
  gIx (f_X12_placeOf p0 p1 p2) 4608 (some (((σ0.2.1 8) (Int32.toNatClampNeg (f_X12_placeOf p0 p1 p2))) - (1 : Int32)))
def f_X12_get (σ : Zst) (p0 : Int32) (p1 : Int32) (p2 : Int32) : Option (Zst × Int32) :=
  (if (f_X12_isKind p0) = (0 : Int32) then some ((zI σ 0 (0 : Int32)), (-2 : Int32)) else (if (f_X12_isCell (zI σ 0 (0 : Int32)) p1) = (0 : Int32) then some ((zI σ 0 (0 : Int32)), (-2 : Int32)) else (if (f_X12_isSort (zI σ 0 (0 : Int32)) p2) = (0 : Int32) then some ((zI σ 0 (0 : Int32)), (-2 : Int32)) else (f_X12_at (zI σ 0 (0 : Int32)) p0 p1 p2).bind fun t1 => some ((zI σ 0 (0 : Int32)), t1))))
