noncomputable section
def zStrLen (i : Nat) : Int32 := nI (zLen.getD i 0)
def zStrCh (i : Nat) (k : Int32) : Int32 := (zByt.getD i []).getD k.toNatClampNeg 0
def zIxF (c : Int32) : List Int32 → Nat → Int32
  | [], _ => -1
  | b :: l, k => if b = c then nI k else zIxF c l (k + 1)
def zStrIx (i : Nat) (c : Int32) : Int32 := zIxF c (zByt.getD i []) 0
def f_X11_between (p0 : Int32) (p1 : Int32) (p2 : Int32) : Int32 :=
  (if p0 < p1 then (0 : Int32) else (if p2 < p0 then (0 : Int32) else (1 : Int32)))
theorem bo_X11_between (p0 : Int32) (p1 : Int32) (p2 : Int32) : f_X11_between p0 p1 p2 = 0 ∨ f_X11_between p0 p1 p2 = 1 := by
  unfold f_X11_between
  repeat' split
  all_goals first | exact Or.inl rfl | exact Or.inr rfl
def f_X10_addSort (σ : Zst) (p0 : Int32) (p1 : Int32) (p2 : Int32) : Option (Zst × Int32) :=
  (if (if (f_X11_between p0 (1 : Int32) (100 : Int32)) = (0 : Int32) then (0 : Int32) else (if (f_X11_between p1 (-5 : Int32) (5 : Int32)) = (0 : Int32) then (0 : Int32) else (if (f_X11_between p2 (1 : Int32) (100 : Int32)) = (0 : Int32) then (0 : Int32) else (1 : Int32)))) = (0 : Int32) then some (σ, (-1 : Int32)) else (if (σ.1 10) < (8 : Int32) then gIx (σ.1 10) 8 (gIx (σ.1 10) 8 (gIx (σ.1 10) 8 (some ((zI (zA (zA (zA σ 10 (upd (σ.2.1 10) (Int32.toNatClampNeg (σ.1 10)) p0)) 11 (upd (σ.2.1 11) (Int32.toNatClampNeg (σ.1 10)) p1)) 12 (upd (σ.2.1 12) (Int32.toNatClampNeg (σ.1 10)) p2)) 10 ((σ.1 10) + (1 : Int32))), (((σ.1 10) + (1 : Int32)) - (1 : Int32)))))) else some (σ, (-1 : Int32))))
def f_X11_sort (σ : Zst) (p0 : Int32) (p1 : Int32) (p2 : Int32) : Option (Zst × Int32) :=
  (f_X10_addSort σ p0 p1 p2).bind fun t1 => some (t1.1, t1.2)
def f_X10_hasSort (σ0 : Zst) (p0 : Int32) : Int32 :=
  (if p0 < (0 : Int32) then (0 : Int32) else (if (σ0.1 10) ≤ p0 then (0 : Int32) else (1 : Int32)))
theorem bo_X10_hasSort (σ0 : Zst) (p0 : Int32) : f_X10_hasSort σ0 p0 = 0 ∨ f_X10_hasSort σ0 p0 = 1 := by
  unfold f_X10_hasSort
  repeat' split
  all_goals first | exact Or.inl rfl | exact Or.inr rfl
def f_X10_setGone (σ : Zst) (p0 : Int32) (p1 : Int32) (p2 : Int32) (p3 : Int32) : Option (Zst × Int32) :=
  (if (f_X10_hasSort σ p0) = (0 : Int32) then some (σ, (0 : Int32)) else (if (if (f_X11_between p1 (0 : Int32) (100 : Int32)) = (0 : Int32) then (0 : Int32) else (if (f_X11_between p2 (0 : Int32) (100 : Int32)) = (0 : Int32) then (0 : Int32) else (if (f_X11_between p3 (0 : Int32) (100 : Int32)) = (0 : Int32) then (0 : Int32) else (1 : Int32)))) = (0 : Int32) then some (σ, (0 : Int32)) else (if ((p1 + p2) + p3) ≤ (100 : Int32) then gIx p0 8 (gIx p0 8 (gIx p0 8 (some ((zA (zA (zA σ 13 (upd (σ.2.1 13) (Int32.toNatClampNeg p0) p1)) 14 (upd (σ.2.1 14) (Int32.toNatClampNeg p0) p2)) 15 (upd (σ.2.1 15) (Int32.toNatClampNeg p0) p3)), (1 : Int32))))) else some (σ, (0 : Int32)))))
def f_X11_goes (σ : Zst) (p0 : Int32) (p1 : Int32) (p2 : Int32) (p3 : Int32) : Option (Zst × Int32) :=
  (f_X10_setGone σ p0 p1 p2 p3).bind fun t1 => gBo t1.2 (some (t1.1, t1.2))
def f_X10_addStreet (σ : Zst) (p0 : Int32) : Option (Zst × Int32) :=
  (if (f_X11_between p0 (1 : Int32) (100 : Int32)) = (0 : Int32) then some (σ, (-1 : Int32)) else (if (σ.1 11) < (8 : Int32) then gIx (σ.1 11) 8 (gIx (σ.1 11) 8 (some ((zI (zA (zA σ 17 (upd (σ.2.1 17) (Int32.toNatClampNeg (σ.1 11)) p0)) 18 (upd (σ.2.1 18) (Int32.toNatClampNeg (σ.1 11)) (-1 : Int32))) 11 ((σ.1 11) + (1 : Int32))), (((σ.1 11) + (1 : Int32)) - (1 : Int32))))) else some (σ, (-1 : Int32))))
def f_X11_street (σ : Zst) (p0 : Int32) : Option (Zst × Int32) :=
  (f_X10_addStreet σ p0).bind fun t1 => some (t1.1, t1.2)
def f_X11_isWeek (p0 : Int32) : Int32 :=
  (f_X11_between p0 (0 : Int32) (11 : Int32))
theorem bo_X11_isWeek (p0 : Int32) : f_X11_isWeek p0 = 0 ∨ f_X11_isWeek p0 = 1 := by
  unfold f_X11_isWeek
  repeat' split
  all_goals first | exact Or.inl rfl | exact Or.inr rfl | exact (bo_X11_between p0 (0 : Int32) (11 : Int32))
def f_X10_setLack (σ : Zst) (p0 : Int32) (p1 : Int32) (p2 : Int32) : Option (Zst × Int32) :=
  (if (f_X10_hasSort σ p0) = (0 : Int32) then some (σ, (0 : Int32)) else (if (f_X11_isWeek p1) = (0 : Int32) then some (σ, (0 : Int32)) else (if p2 = (0 : Int32) then gIx p0 8 (gIx p0 8 (some ((zA σ 16 (upd (σ.2.1 16) (Int32.toNatClampNeg p0) (((σ.2.1 16) (Int32.toNatClampNeg p0)) &&& ((jShl (1 : Int32) p1) ^^^ (-1 : Int32))))), (1 : Int32)))) else gIx p0 8 (gIx p0 8 (some ((zA σ 16 (upd (σ.2.1 16) (Int32.toNatClampNeg p0) (((σ.2.1 16) (Int32.toNatClampNeg p0)) ||| (jShl (1 : Int32) p1)))), (1 : Int32)))))))
def f_X11_lack (σ : Zst) (p0 : Int32) (p1 : Int32) (p2 : Int32) : Option (Zst × Int32) :=
  (f_X10_setLack σ p0 p1 p2).bind fun t1 => gBo t1.2 (some (t1.1, t1.2))
def f_X11_isKind (p0 : Int32) : Int32 :=
  (f_X11_between p0 (0 : Int32) (5 : Int32))
theorem bo_X11_isKind (p0 : Int32) : f_X11_isKind p0 = 0 ∨ f_X11_isKind p0 = 1 := by
  unfold f_X11_isKind
  repeat' split
  all_goals first | exact Or.inl rfl | exact Or.inr rfl | exact (bo_X11_between p0 (0 : Int32) (5 : Int32))
def f_X10_cellCount (σ0 : Zst)  : Int32 :=
  ((12 : Int32) * (σ0.1 11))
def f_X10_hasCell (σ0 : Zst) (p0 : Int32) : Int32 :=
  (if p0 < (0 : Int32) then (0 : Int32) else (if (f_X10_cellCount σ0) ≤ p0 then (0 : Int32) else (1 : Int32)))
theorem bo_X10_hasCell (σ0 : Zst) (p0 : Int32) : f_X10_hasCell σ0 p0 = 0 ∨ f_X10_hasCell σ0 p0 = 1 := by
  unfold f_X10_hasCell
  repeat' split
  all_goals first | exact Or.inl rfl | exact Or.inr rfl
def f_X10_hasNumber (σ0 : Zst) (p0 : Int32) (p1 : Int32) (p2 : Int32) : Int32 :=
  (if (f_X11_isKind p0) = (0 : Int32) then (0 : Int32) else (if (f_X10_hasCell σ0 p1) = (0 : Int32) then (0 : Int32) else (if (f_X10_hasSort σ0 p2) = (0 : Int32) then (0 : Int32) else (1 : Int32))))
theorem bo_X10_hasNumber (σ0 : Zst) (p0 : Int32) (p1 : Int32) (p2 : Int32) : f_X10_hasNumber σ0 p0 p1 p2 = 0 ∨ f_X10_hasNumber σ0 p0 p1 p2 = 1 := by
  unfold f_X10_hasNumber
  repeat' split
  all_goals first | exact Or.inl rfl | exact Or.inr rfl | exact (bo_X10_hasCell σ0 p1) | exact (bo_X10_hasSort σ0 p2) | exact (bo_X11_isKind p0)
def f_X4_placeOf (p0 : Int32) (p1 : Int32) (p2 : Int32) : Int32 :=
  (if (if p0 < (0 : Int32) then (0 : Int32) else (if (6 : Int32) ≤ p0 then (0 : Int32) else (if p1 < (0 : Int32) then (0 : Int32) else (if (96 : Int32) ≤ p1 then (0 : Int32) else (if p2 < (0 : Int32) then (0 : Int32) else (if (8 : Int32) ≤ p2 then (0 : Int32) else (1 : Int32))))))) = (0 : Int32) then (-1 : Int32) else ((((p0 * (96 : Int32)) + p1) * (8 : Int32)) + p2))
def f_X4_of (σ0 : Zst) (p0 : Int32) (p1 : Int32) (p2 : Int32) : Option Int32 :=
  (if (f_X4_placeOf p0 p1 p2) < (0 : Int32) then some (-1 : Int32) else (if (4608 : Int32) ≤ (f_X4_placeOf p0 p1 p2) then some (-1 : Int32) else gIx (f_X4_placeOf p0 p1 p2) 4608 (some ((σ0.2.1 1) (Int32.toNatClampNeg (f_X4_placeOf p0 p1 p2))))))
def f_X4_change (σ : Zst) (p0 : Int32) (p1 : Int32) (p2 : Int32) (p3 : Int32) : Option Zst :=
  (if (f_X4_placeOf p0 p1 p2) < (0 : Int32) then some σ else (if (4608 : Int32) ≤ (f_X4_placeOf p0 p1 p2) then some σ else gIx (f_X4_placeOf p0 p1 p2) 4608 (some (zA σ 1 (upd (σ.2.1 1) (Int32.toNatClampNeg (f_X4_placeOf p0 p1 p2)) p3)))))
def f_X11_put (σ : Zst) (p0 : Int32) (p1 : Int32) (p2 : Int32) (p3 : Int32) : Option (Zst × Int32) :=
  (if (f_X10_hasNumber σ p0 p1 p2) = (0 : Int32) then some (σ, (-2 : Int32)) else (if (f_X11_between p3 (-1 : Int32) (999 : Int32)) = (0 : Int32) then some (σ, (-2 : Int32)) else (f_X4_of σ p0 p1 p2).bind fun t1 => (f_X4_change σ p0 p1 p2 p3).bind fun t2 => some (t2, t1)))
def f_X11_get (σ0 : Zst) (p0 : Int32) (p1 : Int32) (p2 : Int32) : Option Int32 :=
  (if (f_X10_hasNumber σ0 p0 p1 p2) = (0 : Int32) then some (-2 : Int32) else (f_X4_of σ0 p0 p1 p2).bind fun t1 => some t1)
def f_X10_entryOf (p0 : Int32) (p1 : Int32) : Int32 :=
  (if p0 = (0 : Int32) then (Int8.toInt32 (Int32.toInt8 p1)) else (if p0 = (1 : Int32) then (Int16.toInt32 (Int32.toInt16 p1)) else p1))
def f_X11_within (p0 : Int32) (p1 : Int32) (p2 : Int32) : Int32 :=
  (if p1 ≤ p0 then (if p0 ≤ p2 then p0 else p2) else p1)
def L_X10_readSheet_63 (v1 : Int32) (v2 : Int32) (v4 : Int32) (v5 : Int32) (v6 : Int32) : Nat → Zst → Int32 → Option (Zst × Int32)
  | 0, _, _ => none
  | n63 + 1, σ, v7 => (if v6 ≤ v7 then some (σ, v6) else (f_X4_change σ (0 : Int32) v7 v1 (f_X11_within (if v2 = (3 : Int32) then (-1 : Int32) else (f_X10_entryOf v2 (v4 + (v7 * v5)))) (-1 : Int32) (999 : Int32))).bind fun t3 => L_X10_readSheet_63 v1 v2 v4 v5 v6 n63 t3 (v7 + (1 : Int32)))
def J_X10_readSheet_37 (σ : Zst) (v1 : Int32) (v2 : Int32) (v3 : Int32) (v4 : Int32) (v5 : Int32) : Option (Zst × Int32) :=
  L_X10_readSheet_63 v1 v2 v4 v5 (if v2 = (3 : Int32) then (f_X10_cellCount σ) else (if v3 ≤ (f_X10_cellCount σ) then v3 else (f_X10_cellCount σ))) zFu σ (0 : Int32)
def f_X10_readSheet (σ : Zst) (p0 : Int32) (p1 : Int32) (p2 : Int32) (p3 : Int32) (p4 : Int32) : Option (Zst × Int32) :=
  (if (f_X10_hasSort σ p0) = (0 : Int32) then some (σ, (-1 : Int32)) else (if (f_X11_between p1 (0 : Int32) (3 : Int32)) = (0 : Int32) then some (σ, (-1 : Int32)) else (if p2 ≤ (96 : Int32) then (if p1 = (3 : Int32) then J_X10_readSheet_37 σ p0 p1 p2 p3 p4 else (if (0 : Int32) ≤ p2 then J_X10_readSheet_37 σ p0 p1 p2 p3 p4 else some (σ, (-2 : Int32)))) else some (σ, (-1 : Int32)))))
def f_X11_sheet (σ : Zst) (p0 : Int32) (p1 : Int32) (p2 : Int32) (p3 : Int32) (p4 : Int32) : Option (Zst × Int32) :=
  (f_X10_readSheet σ p0 p1 p2 p3 p4).bind fun t1 => some (t1.1, t1.2)
def L_X9_append_14 (v1 : Int32) : Nat → Zst → Int32 → Option (Zst × Int32)
  | 0, _, _ => none
  | n14 + 1, σ, v2 => (if v2 < (0 : Int32) then some (σ, (σ.1 1)) else gIx (σ.1 1) 60 (L_X9_append_14 v1 n14 (zI (zA σ 0 (upd (σ.2.1 0) (Int32.toNatClampNeg (σ.1 1)) ((jUshr v1 v2) &&& (255 : Int32)))) 1 ((σ.1 1) + (1 : Int32))) (v2 + (-8 : Int32))))
def f_X9_append (σ : Zst) (p0 : Int32) : Option (Zst × Int32) :=
  (if (σ.1 1) ≤ (56 : Int32) then L_X9_append_14 p0 zFu σ (24 : Int32) else some (σ, (-1 : Int32)))
def f_X11_sign (σ : Zst) (p0 : Int32) : Option (Zst × Int32) :=
  (f_X9_append σ p0).bind fun t1 => some (t1.1, t1.2)
def f_X9_cut (σ : Zst) (p0 : Int32) : Option (Zst × Int32) :=
  (if p0 < (0 : Int32) then some (σ, (0 : Int32)) else (if p0 ≤ (σ.1 1) then some ((zI σ 1 p0), (1 : Int32)) else some (σ, (0 : Int32))))
def f_X11_end (σ : Zst) (p0 : Int32) : Option (Zst × Int32) :=
  (f_X9_cut σ p0).bind fun t1 => gBo t1.2 (some (t1.1, t1.2))
def f_X1_isText_L (p0 : Int32) : Int32 :=
  (if p0 < (0 : Int32) then (0 : Int32) else (if (6 : Int32) ≤ p0 then (0 : Int32) else (1 : Int32)))
theorem bo_X1_isText_L (p0 : Int32) : f_X1_isText_L p0 = 0 ∨ f_X1_isText_L p0 = 1 := by
  unfold f_X1_isText_L
  repeat' split
  all_goals first | exact Or.inl rfl | exact Or.inr rfl
def f_X2_isLaw (p0 : Int32) : Int32 :=
  (f_X1_isText_L p0)
theorem bo_X2_isLaw (p0 : Int32) : f_X2_isLaw p0 = 0 ∨ f_X2_isLaw p0 = 1 := by
  unfold f_X2_isLaw
  repeat' split
  all_goals first | exact Or.inl rfl | exact Or.inr rfl | exact (bo_X1_isText_L p0)
def f_X2_begin (σ : Zst)  : Option Zst :=
  some (zI (zI (zI (zI σ 4 (1 : Int32)) 5 (0 : Int32)) 6 (0 : Int32)) 7 (0 : Int32))
def f_X9_size (σ0 : Zst)  : Int32 :=
  (σ0.1 1)
def f_X2_couldEnd (σ0 : Zst)  : Int32 :=
  (if (σ0.1 4) = (0 : Int32) then (if (σ0.1 5) = (0 : Int32) then (1 : Int32) else (0 : Int32)) else (0 : Int32))
theorem bo_X2_couldEnd (σ0 : Zst)  : f_X2_couldEnd σ0 = 0 ∨ f_X2_couldEnd σ0 = 1 := by
  unfold f_X2_couldEnd
  repeat' split
  all_goals first | exact Or.inl rfl | exact Or.inr rfl
def f_X9_at (σ0 : Zst) (p0 : Int32) : Option Int32 :=
  (if p0 < (0 : Int32) then some (-1 : Int32) else (if (σ0.1 1) ≤ p0 then some (-1 : Int32) else gIx p0 60 (some ((σ0.2.1 0) (Int32.toNatClampNeg p0)))))
def f_X2_isDigit (p0 : Int32) : Int32 :=
  (if p0 < (48 : Int32) then (0 : Int32) else (if (57 : Int32) < p0 then (0 : Int32) else (1 : Int32)))
theorem bo_X2_isDigit (p0 : Int32) : f_X2_isDigit p0 = 0 ∨ f_X2_isDigit p0 = 1 := by
  unfold f_X2_isDigit
  repeat' split
  all_goals first | exact Or.inl rfl | exact Or.inr rfl
def f_X2_isComparison (p0 : Int32) : Int32 :=
  (if p0 = (60 : Int32) then (1 : Int32) else (if p0 = (62 : Int32) then (1 : Int32) else (if p0 = (61 : Int32) then (1 : Int32) else (0 : Int32))))
theorem bo_X2_isComparison (p0 : Int32) : f_X2_isComparison p0 = 0 ∨ f_X2_isComparison p0 = 1 := by
  unfold f_X2_isComparison
  repeat' split
  all_goals first | exact Or.inl rfl | exact Or.inr rfl
def f_X11_hasBit (p0 : Int32) (p1 : Int32) : Int32 :=
  (if ((jShr p0 p1) &&& (1 : Int32)) = (1 : Int32) then (1 : Int32) else (0 : Int32))
theorem bo_X11_hasBit (p0 : Int32) (p1 : Int32) : f_X11_hasBit p0 p1 = 0 ∨ f_X11_hasBit p0 p1 = 1 := by
  unfold f_X11_hasBit
  repeat' split
  all_goals first | exact Or.inl rfl | exact Or.inr rfl
def J_X2_takesBehind_134 (σ : Zst) : Option (Zst × Int32) :=
  some ((zI σ 7 ((σ.1 7) &&& ((jShl (1 : Int32) (σ.1 5)) ^^^ (-1 : Int32)))), (1 : Int32))
def f_X2_takesBehind (σ : Zst) (p0 : Int32) : Option (Zst × Int32) :=
  (if (f_X2_isDigit p0) = (0 : Int32) then (if p0 = (41 : Int32) then some ((zI (zI σ 6 (0 : Int32)) 5 ((σ.1 5) - (1 : Int32))), (if ((σ.1 5) - (1 : Int32)) < (0 : Int32) then (0 : Int32) else (1 : Int32))) else (if (f_X2_isComparison p0) = (0 : Int32) then (if p0 = (124 : Int32) then J_X2_takesBehind_134 (zI (zI σ 6 (0 : Int32)) 4 (1 : Int32)) else (if p0 = (38 : Int32) then J_X2_takesBehind_134 (zI (zI σ 6 (0 : Int32)) 4 (1 : Int32)) else some ((zI (zI σ 6 (0 : Int32)) 4 (1 : Int32)), (if p0 = (43 : Int32) then (1 : Int32) else (if p0 = (45 : Int32) then (1 : Int32) else (if p0 = (42 : Int32) then (1 : Int32) else (if p0 = (47 : Int32) then (1 : Int32) else (0 : Int32)))))))) else some ((zI (zI (zI σ 6 (0 : Int32)) 4 (1 : Int32)) 7 ((σ.1 7) ||| (jShl (1 : Int32) (σ.1 5)))), (if (f_X11_hasBit (σ.1 7) (σ.1 5)) = (0 : Int32) then (1 : Int32) else (0 : Int32))))) else some ((zI σ 6 ((σ.1 6) + (1 : Int32))), (if ((σ.1 6) + (1 : Int32)) ≤ (1 : Int32) then (0 : Int32) else (if (3 : Int32) < ((σ.1 6) + (1 : Int32)) then (0 : Int32) else (1 : Int32)))))
def f_X2_isThing (σ0 : Zst) (p0 : Int32) : Int32 :=
  (if p0 = (98 : Int32) then (if (σ0.1 3) ≤ (0 : Int32) then (0 : Int32) else (1 : Int32)) else (if p0 = (101 : Int32) then (if (σ0.1 3) ≤ (1 : Int32) then (0 : Int32) else (1 : Int32)) else (if p0 = (104 : Int32) then (1 : Int32) else (if p0 = (107 : Int32) then (1 : Int32) else (if p0 = (108 : Int32) then (1 : Int32) else (if p0 = (113 : Int32) then (1 : Int32) else (if p0 = (114 : Int32) then (1 : Int32) else (if p0 = (116 : Int32) then (1 : Int32) else (if p0 = (119 : Int32) then (1 : Int32) else (if p0 = (122 : Int32) then (1 : Int32) else (0 : Int32)))))))))))
theorem bo_X2_isThing (σ0 : Zst) (p0 : Int32) : f_X2_isThing σ0 p0 = 0 ∨ f_X2_isThing σ0 p0 = 1 := by
  unfold f_X2_isThing
  repeat' split
  all_goals first | exact Or.inl rfl | exact Or.inr rfl
def f_X2_takesAhead (σ : Zst) (p0 : Int32) : Option (Zst × Int32) :=
  (if p0 = (33 : Int32) then some (σ, (1 : Int32)) else (if p0 = (45 : Int32) then some (σ, (1 : Int32)) else (if p0 = (40 : Int32) then some ((zI (zI σ 5 ((σ.1 5) + (1 : Int32))) 7 ((σ.1 7) &&& ((jShl (1 : Int32) ((σ.1 5) + (1 : Int32))) ^^^ (-1 : Int32)))), (if (5 : Int32) < ((σ.1 5) + (1 : Int32)) then (0 : Int32) else (1 : Int32))) else some ((zI (zI σ 6 (if (f_X2_isDigit p0) = (0 : Int32) then (0 : Int32) else (1 : Int32))) 4 (0 : Int32)), (if (if (f_X2_isDigit p0) = (0 : Int32) then (0 : Int32) else (1 : Int32)) = (1 : Int32) then (1 : Int32) else (if (f_X2_isThing (zI (zI σ 6 (if (f_X2_isDigit p0) = (0 : Int32) then (0 : Int32) else (1 : Int32))) 4 (0 : Int32)) p0) = (0 : Int32) then (0 : Int32) else (1 : Int32)))))))
def f_X2_takes (σ : Zst) (p0 : Int32) : Option (Zst × Int32) :=
  (if (σ.1 4) = (0 : Int32) then (f_X2_takesBehind σ p0).bind fun t1 => gBo t1.2 (some (t1.1, t1.2)) else (f_X2_takesAhead σ p0).bind fun t2 => gBo t2.2 (some (t2.1, t2.2)))
def L_X1_wrongPlace_L_6 (k40 : Zst → Option (Zst × Int32)) : Nat → Zst → Int32 → Option (Zst × Int32)
  | 0, _, _ => none
  | n6 + 1, σ, v2 => (if (f_X9_size σ) ≤ v2 then k40 σ else (if (40 : Int32) ≤ v2 then k40 σ else (f_X9_at σ v2).bind fun t1 => (f_X2_takes σ t1).bind fun t2 => (if t2.2 = (0 : Int32) then some (t2.1, v2) else L_X1_wrongPlace_L_6 k40 n6 t2.1 (v2 + (1 : Int32)))))
def J_X1_wrongPlace_L_40 (σ : Zst) : Option (Zst × Int32) :=
  (if (f_X9_size σ) ≤ (40 : Int32) then some (σ, (if (f_X2_couldEnd σ) = (0 : Int32) then (f_X9_size σ) else (-1 : Int32))) else some (σ, (40 : Int32)))
def f_X1_wrongPlace_L (σ : Zst)  : Option (Zst × Int32) :=
  (f_X2_begin σ).bind fun t5 => L_X1_wrongPlace_L_6 (fun σ6 => J_X1_wrongPlace_L_40 σ6) zFu t5 (0 : Int32)
def L_X1_write_L_25 (k65 : Zst → Option (Zst × Int32)) (v1 : Int32) : Nat → Zst → Int32 → Option (Zst × Int32)
  | 0, _, _ => none
  | n25 + 1, σ, v4 => (if (f_X9_size σ) ≤ v4 then k65 σ else (if (40 : Int32) ≤ v4 then k65 σ else (f_X9_at σ v4).bind fun t1 => gIx ((v1 * (40 : Int32)) + v4) 240 (L_X1_write_L_25 k65 v1 n25 (zA σ 7 (upd (σ.2.1 7) (Int32.toNatClampNeg ((v1 * (40 : Int32)) + v4)) t1)) (v4 + (1 : Int32)))))
def J_X1_write_L_65 (σ : Zst) (v1 : Int32) : Option (Zst × Int32) :=
  gIx v1 6 (some ((zA σ 8 (upd (σ.2.1 8) (Int32.toNatClampNeg v1) (f_X9_size σ))), (0 : Int32)))
def f_X1_write_L (σ : Zst) (p0 : Int32) : Option (Zst × Int32) :=
  (f_X1_wrongPlace_L σ).bind fun t2 => (if t2.2 < (0 : Int32) then (if (f_X1_isText_L p0) = (0 : Int32) then some (t2.1, (0 : Int32)) else L_X1_write_L_25 (fun σ3 => J_X1_write_L_65 σ3 p0) p0 zFu t2.1 (0 : Int32)) else some (t2.1, ((-1 : Int32) - t2.2)))
def f_X2_enact (σ : Zst) (p0 : Int32) : Option (Zst × Int32) :=
  (f_X1_write_L (zI σ 3 p0) p0).bind fun t1 => some (t1.1, t1.2)
def J_X11_law_28 (σ : Zst) (s0 : Int32) : Option (Zst × Int32) :=
  (f_X9_cut σ (0 : Int32)).bind fun t1 => some (t1.1, s0)
def f_X11_law (σ : Zst) (p0 : Int32) : Option (Zst × Int32) :=
  (if (f_X2_isLaw p0) = (0 : Int32) then J_X11_law_28 σ (-100 : Int32) else (f_X2_enact σ p0).bind fun t2 => J_X11_law_28 t2.1 t2.2)
def f_X10_hasStreet (σ0 : Zst) (p0 : Int32) : Int32 :=
  (if p0 < (0 : Int32) then (0 : Int32) else (if (σ0.1 11) ≤ p0 then (0 : Int32) else (1 : Int32)))
theorem bo_X10_hasStreet (σ0 : Zst) (p0 : Int32) : f_X10_hasStreet σ0 p0 = 0 ∨ f_X10_hasStreet σ0 p0 = 1 := by
  unfold f_X10_hasStreet
  repeat' split
  all_goals first | exact Or.inl rfl | exact Or.inr rfl
def f_X2_let (σ : Zst) (p0 : Int32) (p1 : Int32) : Option Zst :=
  (if (p0 - (97 : Int32)) < (0 : Int32) then some σ else (if (26 : Int32) ≤ (p0 - (97 : Int32)) then some σ else gIx (p0 - (97 : Int32)) 26 (some (zA σ 9 (upd (σ.2.1 9) (Int32.toNatClampNeg (p0 - (97 : Int32))) p1)))))
def f_X10_rightOf (σ0 : Zst) (p0 : Int32) : Option Int32 :=
  (if (f_X10_hasSort σ0 p0) = (0 : Int32) then some (0 : Int32) else gIx p0 8 (some ((σ0.2.1 11) (Int32.toNatClampNeg p0))))
def f_X10_leavesOf (σ0 : Zst) (p0 : Int32) : Option Int32 :=
  (if (f_X10_hasSort σ0 p0) = (0 : Int32) then some (1 : Int32) else gIx p0 8 (some ((σ0.2.1 10) (Int32.toNatClampNeg p0))))
def f_X10_isLack (σ0 : Zst) (p0 : Int32) (p1 : Int32) : Option Int32 :=
  (if (f_X10_hasSort σ0 p0) = (0 : Int32) then some (0 : Int32) else (if (f_X11_isWeek p1) = (0 : Int32) then some (0 : Int32) else gIx p0 8 (some (if (f_X11_hasBit ((σ0.2.1 16) (Int32.toNatClampNeg p0)) p1) = (0 : Int32) then (0 : Int32) else (1 : Int32)))))
def f_X1_sizeOf_L (σ0 : Zst) (p0 : Int32) : Option Int32 :=
  (if (f_X1_isText_L p0) = (0 : Int32) then some (0 : Int32) else gIx p0 6 (some ((σ0.2.1 8) (Int32.toNatClampNeg p0))))
def f_X1_signAt_L (σ0 : Zst) (p0 : Int32) (p1 : Int32) : Option Int32 :=
  (if p0 < (0 : Int32) then (if (0 : Int32) = (0 : Int32) then some (-1 : Int32) else gIx ((p0 * (40 : Int32)) + p1) 240 (some ((σ0.2.1 7) (Int32.toNatClampNeg ((p0 * (40 : Int32)) + p1))))) else (if (6 : Int32) ≤ p0 then (if (0 : Int32) = (0 : Int32) then some (-1 : Int32) else gIx ((p0 * (40 : Int32)) + p1) 240 (some ((σ0.2.1 7) (Int32.toNatClampNeg ((p0 * (40 : Int32)) + p1))))) else (if p1 < (0 : Int32) then (if (0 : Int32) = (0 : Int32) then some (-1 : Int32) else gIx ((p0 * (40 : Int32)) + p1) 240 (some ((σ0.2.1 7) (Int32.toNatClampNeg ((p0 * (40 : Int32)) + p1))))) else gIx p0 6 ((if (if ((σ0.2.1 8) (Int32.toNatClampNeg p0)) ≤ p1 then (0 : Int32) else (1 : Int32)) = (0 : Int32) then some (-1 : Int32) else gIx ((p0 * (40 : Int32)) + p1) 240 (some ((σ0.2.1 7) (Int32.toNatClampNeg ((p0 * (40 : Int32)) + p1)))))))))
def f_X2_here (σ0 : Zst)  : Option Int32 :=
  (f_X1_signAt_L σ0 (σ0.1 3) (σ0.1 8)).bind fun t1 => some t1
def L_X2_either_6 (F : Nat → Zst → Int32 → Option (Zst × Int32)) (v1 : Int32) : Nat → Zst → Int32 → Option (Zst × Int32)
  | 0, _, _ => none
  | n6 + 1, σ, v2 => (if (σ.1 9) ≤ (σ.1 8) then some (σ, v2) else (f_X2_here σ).bind fun t1 => (if t1 = (124 : Int32) then (F 1 (zI σ 8 ((σ.1 8) + (1 : Int32))) v1).bind fun t2 => L_X2_either_6 F v1 n6 t2.1 (if v2 = (0 : Int32) then (if t2.2 = (0 : Int32) then (0 : Int32) else (1 : Int32)) else (1 : Int32)) else some (σ, v2)))
def f_X2_either (F : Nat → Zst → Int32 → Option (Zst × Int32)) (σ : Zst) (p0 : Int32) : Option (Zst × Int32) :=
  (F 1 σ p0).bind fun t6 => L_X2_either_6 F p0 zFu t6.1 t6.2
def L_X2_both_6 (F : Nat → Zst → Int32 → Option (Zst × Int32)) (v1 : Int32) : Nat → Zst → Int32 → Option (Zst × Int32)
  | 0, _, _ => none
  | n6 + 1, σ, v2 => (if (σ.1 9) ≤ (σ.1 8) then some (σ, v2) else (f_X2_here σ).bind fun t1 => (if t1 = (38 : Int32) then (F 2 (zI σ 8 ((σ.1 8) + (1 : Int32))) v1).bind fun t2 => L_X2_both_6 F v1 n6 t2.1 (if v2 = (0 : Int32) then (0 : Int32) else (if t2.2 = (0 : Int32) then (0 : Int32) else (1 : Int32))) else some (σ, v2)))
def f_X2_both (F : Nat → Zst → Int32 → Option (Zst × Int32)) (σ : Zst) (p0 : Int32) : Option (Zst × Int32) :=
  (F 2 σ p0).bind fun t6 => L_X2_both_6 F p0 zFu t6.1 t6.2
def f_X2_comparison (F : Nat → Zst → Int32 → Option (Zst × Int32)) (σ : Zst) (p0 : Int32) : Option (Zst × Int32) :=
  (F 3 σ p0).bind fun t1 => (f_X2_here t1.1).bind fun t2 => (if (f_X2_isComparison t2) = (0 : Int32) then some (t1.1, t1.2) else (F 3 (zI t1.1 8 ((t1.1.1 8) + (1 : Int32))) p0).bind fun t3 => some (t3.1, (if (if t2 = (60 : Int32) then (if t3.2 ≤ t1.2 then (0 : Int32) else (1 : Int32)) else (if t2 = (62 : Int32) then (if t1.2 ≤ t3.2 then (0 : Int32) else (1 : Int32)) else (if t1.2 = t3.2 then (1 : Int32) else (0 : Int32)))) = (0 : Int32) then (0 : Int32) else (1 : Int32))))
def J_X2_added_35 (F : Nat → Zst → Int32 → Option (Zst × Int32)) (k6 : Zst → Int32 → Option (Zst × Int32)) (σ : Zst) (v1 : Int32) (v2 : Int32) : Option (Zst × Int32) :=
  (f_X2_here σ).bind fun t1 => (F 4 (zI σ 8 ((σ.1 8) + (1 : Int32))) v1).bind fun t4 => k6 t4.1 (if (if t1 = (43 : Int32) then (1 : Int32) else (0 : Int32)) = (0 : Int32) then (v2 - t4.2) else (v2 + t4.2))
def L_X2_added_6 (F : Nat → Zst → Int32 → Option (Zst × Int32)) (v1 : Int32) : Nat → Zst → Int32 → Option (Zst × Int32)
  | 0, _, _ => none
  | n6 + 1, σ, v2 => (if (σ.1 9) ≤ (σ.1 8) then some (σ, v2) else (f_X2_here σ).bind fun t7 => (if t7 = (43 : Int32) then J_X2_added_35 F (fun σ w2 => L_X2_added_6 F v1 n6 σ w2) σ v1 v2 else (f_X2_here σ).bind fun t8 => (if t8 = (45 : Int32) then J_X2_added_35 F (fun σ w2 => L_X2_added_6 F v1 n6 σ w2) σ v1 v2 else some (σ, v2))))
def f_X2_added (F : Nat → Zst → Int32 → Option (Zst × Int32)) (σ : Zst) (p0 : Int32) : Option (Zst × Int32) :=
  (F 4 σ p0).bind fun t9 => L_X2_added_6 F p0 zFu t9.1 t9.2
def J_X2_multiplied_35 (F : Nat → Zst → Int32 → Option (Zst × Int32)) (k6 : Zst → Int32 → Option (Zst × Int32)) (σ : Zst) (v1 : Int32) (v2 : Int32) : Option (Zst × Int32) :=
  (f_X2_here σ).bind fun t1 => (F 5 (zI σ 8 ((σ.1 8) + (1 : Int32))) v1).bind fun t4 => (if (if t1 = (42 : Int32) then (1 : Int32) else (0 : Int32)) = (0 : Int32) then (if t4.2 = (0 : Int32) then k6 t4.1 (0 : Int32) else gNz t4.2 (k6 t4.1 (v2 / t4.2))) else k6 t4.1 (v2 * t4.2))
def L_X2_multiplied_6 (F : Nat → Zst → Int32 → Option (Zst × Int32)) (v1 : Int32) : Nat → Zst → Int32 → Option (Zst × Int32)
  | 0, _, _ => none
  | n6 + 1, σ, v2 => (if (σ.1 9) ≤ (σ.1 8) then some (σ, v2) else (f_X2_here σ).bind fun t5 => (if t5 = (42 : Int32) then J_X2_multiplied_35 F (fun σ w2 => L_X2_multiplied_6 F v1 n6 σ w2) σ v1 v2 else (f_X2_here σ).bind fun t6 => (if t6 = (47 : Int32) then J_X2_multiplied_35 F (fun σ w2 => L_X2_multiplied_6 F v1 n6 σ w2) σ v1 v2 else some (σ, v2))))
def f_X2_multiplied (F : Nat → Zst → Int32 → Option (Zst × Int32)) (σ : Zst) (p0 : Int32) : Option (Zst × Int32) :=
  (F 5 σ p0).bind fun t7 => L_X2_multiplied_6 F p0 zFu t7.1 t7.2
def L_X2_thing_5 (F : Nat → Zst → Int32 → Option (Zst × Int32)) (k47 : Zst → Option (Zst × Int32)) (v1 : Int32) (v2 : Int32) : Nat → Zst → Option (Zst × Int32)
  | 0, _ => none
  | n5 + 1, σ => (if (σ.1 9) ≤ (σ.1 8) then k47 σ else (f_X2_here σ).bind fun t1 => (if t1 = (33 : Int32) then L_X2_thing_5 F k47 v1 v2 n5 (zI σ 8 ((σ.1 8) + (1 : Int32))) else (f_X2_here σ).bind fun t2 => (if t2 = (45 : Int32) then L_X2_thing_5 F k47 v1 v2 n5 (zI σ 8 ((σ.1 8) + (1 : Int32))) else k47 σ)))
def L_X2_thing_64 (F : Nat → Zst → Int32 → Option (Zst × Int32)) (σ : Zst) (v2 : Int32) : Nat → Int32 → Int32 → Option (Zst × Int32)
  | 0, _, _ => none
  | n64 + 1, v4, v5 => (if v5 < v2 then some (σ, v4) else (f_X1_signAt_L σ (σ.1 3) v5).bind fun t3 => L_X2_thing_64 F σ v2 n64 (if t3 = (45 : Int32) then (-v4) else (if v4 = (0 : Int32) then (1 : Int32) else (0 : Int32))) (v5 + (-1 : Int32)))
def J_X2_thing_47 (F : Nat → Zst → Int32 → Option (Zst × Int32)) (σ : Zst) (v1 : Int32) (v2 : Int32) : Option (Zst × Int32) :=
  (F 6 σ v1).bind fun t7 => L_X2_thing_64 F t7.1 v2 zFu t7.2 ((σ.1 8) - (1 : Int32))
def f_X2_thing (F : Nat → Zst → Int32 → Option (Zst × Int32)) (σ : Zst) (p0 : Int32) : Option (Zst × Int32) :=
  L_X2_thing_5 F (fun σ8 => J_X2_thing_47 F σ8 p0 (σ.1 8)) p0 (σ.1 8) zFu σ
def f_X4_draw (σ : Zst) (p0 : Int32) : Option (Zst × Int32) :=
  (if p0 ≤ (0 : Int32) then some ((zI σ 2 (((σ.1 2) * (1103515245 : Int32)) + (12345 : Int32))), (0 : Int32)) else gNz p0 (some ((zI σ 2 (((σ.1 2) * (1103515245 : Int32)) + (12345 : Int32))), (jRem (jUshr (((σ.1 2) * (1103515245 : Int32)) + (12345 : Int32)) (16 : Int32)) p0))))
def L_X2_bareThing_14 (F : Nat → Zst → Int32 → Option (Zst × Int32))  : Nat → Zst → Int32 → Option (Zst × Int32)
  | 0, _, _ => none
  | n14 + 1, σ, v3 => (if (σ.1 9) ≤ (σ.1 8) then some (σ, v3) else (f_X2_here σ).bind fun t1 => (if (f_X2_isDigit t1) = (0 : Int32) then some (σ, v3) else (f_X2_here σ).bind fun t2 => L_X2_bareThing_14 F n14 (zI σ 8 ((σ.1 8) + (1 : Int32))) (((v3 * (10 : Int32)) + t2) - (48 : Int32))))
def J_X2_bareThing_104 (F : Nat → Zst → Int32 → Option (Zst × Int32)) (σ : Zst) (v2 : Int32) : Option (Zst × Int32) :=
  (if v2 = (122 : Int32) then (f_X4_draw σ (10 : Int32)).bind fun t3 => some (t3.1, t3.2) else (if (v2 - (97 : Int32)) < (0 : Int32) then some (σ, (0 : Int32)) else (if (26 : Int32) ≤ (v2 - (97 : Int32)) then some (σ, (0 : Int32)) else gIx (v2 - (97 : Int32)) 26 (some (σ, ((σ.2.1 9) (Int32.toNatClampNeg (v2 - (97 : Int32)))))))))
def f_X2_bareThing (F : Nat → Zst → Int32 → Option (Zst × Int32)) (σ : Zst) (p0 : Int32) : Option (Zst × Int32) :=
  (f_X2_here σ).bind fun t4 => (if (f_X2_isDigit t4) = (0 : Int32) then (if t4 = (40 : Int32) then (if (5 : Int32) ≤ p0 then J_X2_bareThing_104 F (zI σ 8 ((σ.1 8) + (1 : Int32))) t4 else (F 0 (zI σ 8 ((σ.1 8) + (1 : Int32))) (p0 + (1 : Int32))).bind fun t5 => some ((zI t5.1 8 ((t5.1.1 8) + (1 : Int32))), t5.2)) else J_X2_bareThing_104 F (zI σ 8 ((σ.1 8) + (1 : Int32))) t4) else L_X2_bareThing_14 F zFu σ (0 : Int32))
def f_X2rec : Nat → Nat → Zst → Int32 → Option (Zst × Int32)
  | 0, _, _, _ => none
  | d + 1, w, σ, x => if w = 0 then f_X2_either (f_X2rec d) σ x else (if w = 1 then f_X2_both (f_X2rec d) σ x else (if w = 2 then f_X2_comparison (f_X2rec d) σ x else (if w = 3 then f_X2_added (f_X2rec d) σ x else (if w = 4 then f_X2_multiplied (f_X2rec d) σ x else (if w = 5 then f_X2_thing (f_X2rec d) σ x else (if w = 6 then f_X2_bareThing (f_X2rec d) σ x else (none)))))))
def f_X2_reckon (σ : Zst) (p0 : Int32) (p1 : Int32) : Option (Zst × Int32) :=
  (f_X1_sizeOf_L (zI (zI σ 3 p0) 8 (0 : Int32)) p0).bind fun t1 => (if t1 = (0 : Int32) then some ((zI (zI (zI σ 3 p0) 8 (0 : Int32)) 9 t1), p1) else (f_X2rec zDp 0 (zI (zI (zI σ 3 p0) 8 (0 : Int32)) 9 t1) (0 : Int32)).bind fun t2 => some (t2.1, t2.2))
def f_X4_addToBag (σ : Zst) (p0 : Int32) (p1 : Int32) (p2 : Int32) : Option Zst :=
  (f_X4_of σ (0 : Int32) p0 p1).bind fun t1 => (f_X4_change σ (0 : Int32) p0 p1 (jMin (999 : Int32) ((jMax (0 : Int32) t1) + p2))).bind fun t2 => some t2
def f_X10_throwAway (σ : Zst) (p0 : Int32) (p1 : Int32) (p2 : Int32) (p3 : Int32) : Option (Zst × Int32) :=
  (if (f_X10_hasSort σ p2) = (0 : Int32) then some (σ, (0 : Int32)) else gIx p2 8 (gIx p2 8 (gIx p2 8 ((f_X4_addToBag σ (((12 : Int32) * p0) + p1) p2 (((p3 - ((p3 * ((σ.2.1 13) (Int32.toNatClampNeg p2))) / (100 : Int32))) - ((p3 * ((σ.2.1 14) (Int32.toNatClampNeg p2))) / (100 : Int32))) - ((p3 * ((σ.2.1 15) (Int32.toNatClampNeg p2))) / (100 : Int32)))).bind fun t1 => (if ((p3 * ((σ.2.1 15) (Int32.toNatClampNeg p2))) / (100 : Int32)) ≤ (0 : Int32) then some (t1, (((p3 - ((p3 * ((σ.2.1 13) (Int32.toNatClampNeg p2))) / (100 : Int32))) - ((p3 * ((σ.2.1 14) (Int32.toNatClampNeg p2))) / (100 : Int32))) - ((p3 * ((σ.2.1 15) (Int32.toNatClampNeg p2))) / (100 : Int32)))) else (f_X4_addToBag t1 (((12 : Int32) * (if (f_X10_hasStreet t1 (p0 + (1 : Int32))) = (0 : Int32) then (0 : Int32) else (p0 + (1 : Int32)))) + p1) p2 ((p3 * ((σ.2.1 15) (Int32.toNatClampNeg p2))) / (100 : Int32))).bind fun t4 => some (t4, (((p3 - ((p3 * ((σ.2.1 13) (Int32.toNatClampNeg p2))) / (100 : Int32))) - ((p3 * ((σ.2.1 14) (Int32.toNatClampNeg p2))) / (100 : Int32))) - ((p3 * ((σ.2.1 15) (Int32.toNatClampNeg p2))) / (100 : Int32)))))))))
def L_X10_liveSort_162 (k212 : Zst → Option (Zst × Int32)) (v1 : Int32) (v2 : Int32) (v3 : Int32) (v5 : Int32) (v6 : Int32) (v7 : Int32) : Nat → Zst → Int32 → Option (Zst × Int32)
  | 0, _, _ => none
  | n162 + 1, σ, v8 => (if (4 : Int32) ≤ v8 then k212 σ else (f_X2_reckon σ ((2 : Int32) + v8) v5).bind fun t1 => (f_X4_change t1.1 ((2 : Int32) + v8) v7 v3 (f_X11_within t1.2 (0 : Int32) (999 : Int32))).bind fun t2 => L_X10_liveSort_162 k212 v1 v2 v3 v5 v6 v7 n162 t2 (v8 + (1 : Int32)))
def J_X10_liveSort_212 (σ : Zst) (v1 : Int32) (v2 : Int32) (v3 : Int32) (v6 : Int32) : Option (Zst × Int32) :=
  (f_X10_throwAway σ v1 v2 v3 v6).bind fun t3 => some (t3.1, t3.2)
def f_X10_liveSort (σ : Zst) (p0 : Int32) (p1 : Int32) (p2 : Int32) : Option (Zst × Int32) :=
  (f_X2_let σ (107 : Int32) p2).bind fun t4 => (f_X10_rightOf t4 p2).bind fun t5 => (f_X2_let t4 (114 : Int32) t5).bind fun t6 => (f_X10_leavesOf t6 p2).bind fun t7 => (f_X2_let t6 (108 : Int32) t7).bind fun t8 => (f_X10_isLack t8 p2 p1).bind fun t9 => (f_X2_let t8 (113 : Int32) (if t9 = (0 : Int32) then (0 : Int32) else (1 : Int32))).bind fun t12 => (f_X2_reckon t12 (0 : Int32) (0 : Int32)).bind fun t13 => (f_X2_let t13.1 (98 : Int32) (f_X11_within t13.2 (0 : Int32) (999 : Int32))).bind fun t14 => (f_X2_reckon t14 (1 : Int32) (f_X11_within t13.2 (0 : Int32) (999 : Int32))).bind fun t15 => (f_X2_let t15.1 (101 : Int32) (f_X11_within t15.2 (0 : Int32) (f_X11_within t13.2 (0 : Int32) (999 : Int32)))).bind fun t16 => (f_X10_leavesOf t16 p2).bind fun t17 => (f_X4_change t16 (1 : Int32) (((12 : Int32) * p0) + p1) p2 (f_X11_within t13.2 (0 : Int32) (999 : Int32))).bind fun t18 => L_X10_liveSort_162 (fun σ19 => J_X10_liveSort_212 σ19 p0 p1 p2 (((((f_X11_within t15.2 (0 : Int32) (f_X11_within t13.2 (0 : Int32) (999 : Int32))) * t17) / (100 : Int32)) + (f_X11_within t13.2 (0 : Int32) (999 : Int32))) - (f_X11_within t15.2 (0 : Int32) (f_X11_within t13.2 (0 : Int32) (999 : Int32))))) p0 p1 p2 (f_X11_within t15.2 (0 : Int32) (f_X11_within t13.2 (0 : Int32) (999 : Int32))) (((((f_X11_within t15.2 (0 : Int32) (f_X11_within t13.2 (0 : Int32) (999 : Int32))) * t17) / (100 : Int32)) + (f_X11_within t13.2 (0 : Int32) (999 : Int32))) - (f_X11_within t15.2 (0 : Int32) (f_X11_within t13.2 (0 : Int32) (999 : Int32)))) (((12 : Int32) * p0) + p1) zFu t18 (0 : Int32)
def L_X10_liveWeek_57 (v1 : Int32) (v2 : Int32) : Nat → Zst → Int32 → Int32 → Option (Zst × Int32)
  | 0, _, _, _ => none
  | n57 + 1, σ, v3, v4 => (if (σ.1 10) ≤ v4 then some (σ, v3) else (f_X10_liveSort σ v1 v2 v4).bind fun t1 => L_X10_liveWeek_57 v1 v2 n57 t1.1 (v3 + t1.2) (v4 + (1 : Int32)))
def f_X10_liveWeek (σ : Zst) (p0 : Int32) (p1 : Int32) : Option (Zst × Int32) :=
  (if (f_X10_hasStreet σ p0) = (0 : Int32) then some (σ, (-1 : Int32)) else (if (f_X11_isWeek p1) = (0 : Int32) then some (σ, (-1 : Int32)) else gIx p0 8 ((f_X2_let σ (104 : Int32) ((σ.2.1 17) (Int32.toNatClampNeg p0))).bind fun t2 => (f_X2_let t2 (116 : Int32) p0).bind fun t3 => (f_X2_let t3 (119 : Int32) p1).bind fun t4 => L_X10_liveWeek_57 p0 p1 zFu t4 (0 : Int32) (0 : Int32))))
def f_X11_live (σ : Zst) (p0 : Int32) (p1 : Int32) : Option (Zst × Int32) :=
  (f_X10_liveWeek σ p0 p1).bind fun t1 => some (t1.1, t1.2)
def f_X4_reseed (σ : Zst) (p0 : Int32) : Option (Zst × Int32) :=
  some ((zI σ 2 p0), (σ.1 2))
def f_X11_seed (σ : Zst) (p0 : Int32) : Option (Zst × Int32) :=
  (f_X4_reseed σ p0).bind fun t1 => some (t1.1, t1.2)
def f_X5_clear (σ : Zst)  : Option Zst :=
  some (zI σ 0 (0 : Int32))
def f_X5_add (σ : Zst) (p0 : Int64) : Option Zst :=
  (if (8 : Int32) ≤ (σ.1 0) then some σ else gIx (σ.1 0) 8 (some (zI (zL σ 0 (vp_updL (σ.2.2.1 0) (Int32.toNatClampNeg (σ.1 0)) p0)) 0 ((σ.1 0) + (1 : Int32)))))
def f_X4_has (σ0 : Zst) (p0 : Int32) (p1 : Int32) (p2 : Int32) : Option Int32 :=
  (f_X4_of σ0 p0 p1 p2).bind fun t1 => some (if t1 < (0 : Int32) then (0 : Int32) else (1 : Int32))
def L_X0_total_64 (k152 : Int32 → Int32 → Option (Zst × Int32)) (σ : Zst) (v1 : Int32) (v2 : Int32) (v3 : Int32) (v4 : Int32) : Nat → Int32 → Int32 → Int32 → Option (Zst × Int32)
  | 0, _, _, _ => none
  | n64 + 1, v6, v7, v8 => (if (f_X10_cellCount σ) ≤ v8 then k152 v6 v7 else (if (if (f_X11_hasBit v3 (v8 / (12 : Int32))) = (0 : Int32) then (0 : Int32) else (if (f_X11_hasBit v4 (jRem v8 (12 : Int32))) = (0 : Int32) then (0 : Int32) else (1 : Int32))) = (0 : Int32) then L_X0_total_64 k152 σ v1 v2 v3 v4 n64 v6 v7 (v8 + (1 : Int32)) else (f_X4_has σ v1 v8 v2).bind fun t4 => (if t4 = (0 : Int32) then L_X0_total_64 k152 σ v1 v2 v3 v4 n64 v6 v7 (v8 + (1 : Int32)) else (f_X4_of σ v1 v8 v2).bind fun t5 => L_X0_total_64 k152 σ v1 v2 v3 v4 n64 (v6 + t5) (v7 + (1 : Int32)) (v8 + (1 : Int32)))))
def J_X0_total_152 (σ : Zst) (v6 : Int32) (v7 : Int32) : Option (Zst × Int32) :=
  (f_X5_clear σ).bind fun t6 => (f_X5_add t6 (Int32.toInt64 v7)).bind fun t7 => some (t7, v6)
def f_X0_total (σ : Zst) (p0 : Int32) (p1 : Int32) (p2 : Int32) (p3 : Int32) : Option (Zst × Int32) :=
  (if (f_X11_isKind p0) = (0 : Int32) then some (σ, (-1 : Int32)) else (if (f_X10_hasSort σ p1) = (0 : Int32) then some (σ, (-1 : Int32)) else (if (if (f_X11_between p2 (1 : Int32) (255 : Int32)) = (0 : Int32) then (0 : Int32) else (if (f_X11_between p3 (1 : Int32) (4095 : Int32)) = (0 : Int32) then (0 : Int32) else (1 : Int32))) = (0 : Int32) then some (σ, (-1 : Int32)) else L_X0_total_64 (fun w11 w12 => J_X0_total_152 σ w11 w12) σ p0 p1 p2 p3 zFu (0 : Int32) (0 : Int32) (0 : Int32))))
def f_X11_sum (σ : Zst) (p0 : Int32) (p1 : Int32) (p2 : Int32) (p3 : Int32) : Option (Zst × Int32) :=
  (f_X0_total σ p0 p1 p2 p3).bind fun t1 => some (t1.1, t1.2)
def f_X10_staysOf (σ0 : Zst) (p0 : Int32) : Option Int32 :=
  (if (f_X10_hasSort σ0 p0) = (0 : Int32) then some (100 : Int32) else gIx p0 8 (gIx p0 8 (gIx p0 8 (some ((((100 : Int32) - ((σ0.2.1 13) (Int32.toNatClampNeg p0))) - ((σ0.2.1 14) (Int32.toNatClampNeg p0))) - ((σ0.2.1 15) (Int32.toNatClampNeg p0)))))))
def L_X11_commonDivisor_15  : Nat → Int64 → Int64 → Int32 → Option Int64
  | 0, _, _, _ => none
  | n15 + 1, v4, v6, v8 => (if (100 : Int32) ≤ v8 then some v4 else (if v6 = (0 : Int64) then some v4 else gNzL v6 (L_X11_commonDivisor_15  n15 v6 (jRemL v4 v6) (v8 + (1 : Int32)))))
def f_X11_commonDivisor (p0 : Int64) (p1 : Int64) : Option Int64 :=
  L_X11_commonDivisor_15  zFu (jAbsL p0) (jAbsL p1) (0 : Int32)
def f_X5_addFraction (σ : Zst) (p0 : Int64) (p1 : Int64) : Option Zst :=
  (f_X11_commonDivisor p0 p1).bind fun t1 => (if t1 = (0 : Int64) then some σ else gNzL (if (0 : Int64) ≤ p1 then t1 else (-t1)) ((f_X5_add σ (p0 / (if (0 : Int64) ≤ p1 then t1 else (-t1)))).bind fun t4 => gNzL (if (0 : Int64) ≤ p1 then t1 else (-t1)) ((f_X5_add t4 (p1 / (if (0 : Int64) ≤ p1 then t1 else (-t1)))).bind fun t5 => some t5)))
def f_X0_eatenInCell (σ : Zst) (p0 : Int32) (p1 : Int32) (p2 : Int32) : Option (Zst × Int32) :=
  (if (f_X10_hasSort σ p0) = (0 : Int32) then some (σ, (-1 : Int32)) else (if (f_X10_hasCell σ p1) = (0 : Int32) then some (σ, (-1 : Int32)) else (if (f_X11_between p2 (0 : Int32) (100 : Int32)) = (0 : Int32) then some (σ, (-1 : Int32)) else (f_X4_has σ (0 : Int32) p1 p0).bind fun t1 => (if t1 = (0 : Int32) then some (σ, (-2 : Int32)) else (f_X4_of σ (0 : Int32) p1 p0).bind fun t2 => (f_X10_leavesOf σ p0).bind fun t3 => (f_X10_staysOf σ p0).bind fun t4 => (f_X5_clear σ).bind fun t5 => (f_X5_addFraction t5 ((Int32.toInt64 t2) * (Int32.toInt64 ((100 : Int32) - p2))) (Int32.toInt64 t3)).bind fun t6 => (if t4 = (0 : Int32) then some (t6, (-3 : Int32)) else (f_X5_addFraction t6 (((Int32.toInt64 t2) * (100 : Int64)) * (100 : Int64)) ((Int32.toInt64 t3) * (Int32.toInt64 t4))).bind fun t7 => some (t7, (0 : Int32)))))))
def f_X11_bounds (σ : Zst) (p0 : Int32) (p1 : Int32) (p2 : Int32) : Option (Zst × Int32) :=
  (f_X0_eatenInCell σ p0 p1 p2).bind fun t1 => some (t1.1, t1.2)
def f_X11_isWay (p0 : Int32) : Int32 :=
  (f_X11_between p0 (0 : Int32) (3 : Int32))
theorem bo_X11_isWay (p0 : Int32) : f_X11_isWay p0 = 0 ∨ f_X11_isWay p0 = 1 := by
  unfold f_X11_isWay
  repeat' split
  all_goals first | exact Or.inl rfl | exact Or.inr rfl | exact (bo_X11_between p0 (0 : Int32) (3 : Int32))
def L_X0_surely_42 (k129 : Int64 → Int64 → Int32 → Option (Zst × Int32)) (σ : Zst) (v1 : Int32) (v2 : Int32) (v3 : Int32) : Nat → Int64 → Int64 → Int32 → Int32 → Option (Zst × Int32)
  | 0, _, _, _, _ => none
  | n42 + 1, v4, v6, v8, v9 => (if (f_X10_cellCount σ) ≤ v9 then k129 v4 v6 v8 else (f_X4_has σ (0 : Int32) v9 v1).bind fun t1 => (if t1 = (0 : Int32) then L_X0_surely_42 k129 σ v1 v2 v3 n42 v4 v6 v8 (v9 + (1 : Int32)) else (f_X4_has σ ((2 : Int32) + v2) v9 v1).bind fun t2 => (if t2 = (0 : Int32) then L_X0_surely_42 k129 σ v1 v2 v3 n42 v4 v6 v8 (v9 + (1 : Int32)) else (f_X4_of σ (0 : Int32) v9 v1).bind fun t3 => (f_X4_of σ ((2 : Int32) + v2) v9 v1).bind fun t4 => L_X0_surely_42 k129 σ v1 v2 v3 n42 (v4 + (Int32.toInt64 t3)) (v6 + (Int32.toInt64 t4)) (1 : Int32) (v9 + (1 : Int32)))))
def J_X0_surely_129 (σ : Zst) (v1 : Int32) (v3 : Int32) (v4 : Int64) (v6 : Int64) (v8 : Int32) : Option (Zst × Int32) :=
  (if v8 = (0 : Int32) then some (σ, (-2 : Int32)) else (f_X10_leavesOf σ v1).bind fun t5 => (f_X10_staysOf σ v1).bind fun t6 => (f_X5_clear σ).bind fun t7 => (f_X5_addFraction t7 (v4 * (Int32.toInt64 ((100 : Int32) - v3))) (Int32.toInt64 t5)).bind fun t8 => (f_X5_add t8 v6).bind fun t9 => (if (v4 * (Int32.toInt64 ((100 : Int32) - v3))) ≤ (v6 * (Int32.toInt64 t5)) then some (t9, (if (Int32.toInt64 t6) ≤ (0 : Int64) then (0 : Int32) else (if ((v6 * (Int32.toInt64 t5)) * (Int32.toInt64 t6)) ≤ ((v4 * (100 : Int64)) * (100 : Int64)) then (0 : Int32) else (2 : Int32)))) else some (t9, (1 : Int32))))
def f_X0_surely (σ : Zst) (p0 : Int32) (p1 : Int32) (p2 : Int32) : Option (Zst × Int32) :=
  (if (f_X10_hasSort σ p0) = (0 : Int32) then some (σ, (-1 : Int32)) else (if (f_X11_isWay p1) = (0 : Int32) then some (σ, (-1 : Int32)) else (if (f_X11_between p2 (0 : Int32) (100 : Int32)) = (0 : Int32) then some (σ, (-1 : Int32)) else L_X0_surely_42 (fun w13 w14 w15 => J_X0_surely_129 σ p0 p2 w13 w14 w15) σ p0 p1 p2 zFu (0 : Int64) (0 : Int64) (0 : Int32) (0 : Int32))))
def f_X11_line (σ : Zst) (p0 : Int32) (p1 : Int32) (p2 : Int32) : Option (Zst × Int32) :=
  (f_X0_surely σ p0 p1 p2).bind fun t1 => some (t1.1, t1.2)
def f_X0_measureOne (σ : Zst) (p0 : Int32) : Option Zst :=
  some (zI (zI (zI (zI (zI (zI σ 14 (if (σ.1 12) = (0 : Int32) then p0 else (if (σ.1 14) ≤ p0 then (σ.1 14) else p0))) 15 (if (σ.1 12) = (0 : Int32) then p0 else (if p0 ≤ (σ.1 15) then (σ.1 15) else p0))) 16 ((σ.1 16) + (if p0 ≤ (0 : Int32) then (0 : Int32) else (1 : Int32)))) 17 ((σ.1 17) + (if (0 : Int32) ≤ p0 then (0 : Int32) else (1 : Int32)))) 13 ((σ.1 13) + p0)) 12 ((σ.1 12) + (1 : Int32)))
def L_X0_measure_32 (v1 : Int32) (v2 : Int32) : Nat → Zst → Int32 → Option Zst
  | 0, _, _ => none
  | n32 + 1, σ, v3 => (if (f_X10_cellCount σ) ≤ v3 then some σ else (f_X4_has σ (1 : Int32) v3 v1).bind fun t1 => (if t1 = (0 : Int32) then L_X0_measure_32 v1 v2 n32 σ (v3 + (1 : Int32)) else (f_X4_has σ ((2 : Int32) + v2) v3 v1).bind fun t2 => (if t2 = (0 : Int32) then L_X0_measure_32 v1 v2 n32 σ (v3 + (1 : Int32)) else (f_X4_of σ ((2 : Int32) + v2) v3 v1).bind fun t3 => (f_X4_of σ (1 : Int32) v3 v1).bind fun t4 => (f_X0_measureOne σ (t3 - t4)).bind fun t5 => L_X0_measure_32 v1 v2 n32 t5 (v3 + (1 : Int32)))))
def f_X0_measure (σ : Zst) (p0 : Int32) (p1 : Int32) : Option Zst :=
  L_X0_measure_32 p0 p1 zFu (zI (zI (zI (zI (zI (zI σ 12 (0 : Int32)) 13 (0 : Int32)) 14 (0 : Int32)) 15 (0 : Int32)) 16 (0 : Int32)) 17 (0 : Int32)) (0 : Int32)
def f_X0_offBy (σ : Zst) (p0 : Int32) (p1 : Int32) : Option (Zst × Int32) :=
  (if (f_X10_hasSort σ p0) = (0 : Int32) then some (σ, (-1 : Int32)) else (if (f_X11_isWay p1) = (0 : Int32) then some (σ, (-1 : Int32)) else (f_X0_measure σ p0 p1).bind fun t1 => (if (t1.1 12) ≤ (0 : Int32) then some (t1, (t1.1 12)) else (f_X5_clear t1).bind fun t2 => (f_X5_addFraction t2 (Int32.toInt64 (t2.1 13)) (Int32.toInt64 (t2.1 12))).bind fun t3 => (f_X5_add t3 (Int32.toInt64 (t3.1 14))).bind fun t4 => (f_X5_add t4 (Int32.toInt64 (t4.1 15))).bind fun t5 => some (t5, (t5.1 12)))))
def f_X11_off (σ : Zst) (p0 : Int32) (p1 : Int32) : Option (Zst × Int32) :=
  (f_X0_offBy σ p0 p1).bind fun t1 => some (t1.1, t1.2)
def f_J13_compare_74951 (p0 : Int64) (p1 : Int64) : Int32 :=
  (if p1 ≤ p0 then (if p0 = p1 then (0 : Int32) else (1 : Int32)) else (-1 : Int32))
def f_X11_compareFractions (p0 : Int64) (p1 : Int64) (p2 : Int64) (p3 : Int64) : Int32 :=
  (f_J13_compare_74951 (p0 * p3) (p2 * p1))
def L_X0_nearestWay_24 (k93 : Zst → Int32 → Option (Zst × Int32)) (v1 : Int32) : Nat → Zst → Int32 → Int64 → Int64 → Int32 → Option (Zst × Int32)
  | 0, _, _, _, _, _ => none
  | n24 + 1, σ, v2, v3, v5, v7 => (if (4 : Int32) ≤ v7 then k93 σ v2 else (f_X0_measure σ v1 v7).bind fun t1 => (if (t1.1 12) ≤ (0 : Int32) then L_X0_nearestWay_24 k93 v1 n24 t1 v2 v3 v5 (v7 + (1 : Int32)) else (if v2 < (0 : Int32) then L_X0_nearestWay_24 k93 v1 n24 t1 v7 (Int32.toInt64 (jAbs (t1.1 13))) (Int32.toInt64 (t1.1 12)) (v7 + (1 : Int32)) else (if (0 : Int32) ≤ (f_X11_compareFractions (Int32.toInt64 (jAbs (t1.1 13))) (Int32.toInt64 (t1.1 12)) v3 v5) then L_X0_nearestWay_24 k93 v1 n24 t1 v2 v3 v5 (v7 + (1 : Int32)) else L_X0_nearestWay_24 k93 v1 n24 t1 v7 (Int32.toInt64 (jAbs (t1.1 13))) (Int32.toInt64 (t1.1 12)) (v7 + (1 : Int32))))))
def J_X0_nearestWay_93 (σ : Zst) (v1 : Int32) (v2 : Int32) : Option (Zst × Int32) :=
  (if v2 < (0 : Int32) then some (σ, v2) else (f_X0_measure σ v1 v2).bind fun t2 => (f_X5_clear t2).bind fun t3 => (f_X5_add t3 (Int32.toInt64 (t3.1 16))).bind fun t4 => (f_X5_add t4 (Int32.toInt64 (t4.1 17))).bind fun t5 => some (t5, v2))
def f_X0_nearestWay (σ : Zst) (p0 : Int32) : Option (Zst × Int32) :=
  (if (f_X10_hasSort σ p0) = (0 : Int32) then some (σ, (-1 : Int32)) else L_X0_nearestWay_24 (fun σ7 w6 => J_X0_nearestWay_93 σ7 p0 w6) p0 zFu σ (-2 : Int32) (0 : Int64) (1 : Int64) (0 : Int32))
def f_X11_nearest (σ : Zst) (p0 : Int32) : Option (Zst × Int32) :=
  (f_X0_nearestWay σ p0).bind fun t1 => some (t1.1, t1.2)
def f_X10_sortCount (σ0 : Zst)  : Int32 :=
  (σ0.1 10)
def J_X0_worstSort_94 (k41 : Zst → Int32 → Int64 → Int64 → Int32 → Option (Zst × Int32)) (σ : Zst) (v1 : Int32) (v3 : Int32) (v9 : Int32) : Option (Zst × Int32) :=
  k41 σ v9 (Int32.toInt64 (σ.1 13)) (Int32.toInt64 (σ.1 12)) (v9 + (1 : Int32))
def L_X0_worstSort_41 (k118 : Zst → Int32 → Int64 → Int64 → Option (Zst × Int32)) (v1 : Int32) (v3 : Int32) : Nat → Zst → Int32 → Int64 → Int64 → Int32 → Option (Zst × Int32)
  | 0, _, _, _, _, _ => none
  | n41 + 1, σ, v4, v5, v7, v9 => (if (f_X10_sortCount σ) ≤ v9 then k118 σ v4 v5 v7 else (f_X0_measure σ v9 v1).bind fun t1 => (if (t1.1 12) ≤ (0 : Int32) then L_X0_worstSort_41 k118 v1 v3 n41 t1 v4 v5 v7 (v9 + (1 : Int32)) else (if v4 < (0 : Int32) then J_X0_worstSort_94 (fun σ w4 w5 w7 w9 => L_X0_worstSort_41 k118 v1 v3 n41 σ w4 w5 w7 w9) t1 v1 v3 v9 else (if ((f_X11_compareFractions (Int32.toInt64 (t1.1 13)) (Int32.toInt64 (t1.1 12)) v5 v7) * v3) ≤ (0 : Int32) then L_X0_worstSort_41 k118 v1 v3 n41 t1 v4 v5 v7 (v9 + (1 : Int32)) else J_X0_worstSort_94 (fun σ w4 w5 w7 w9 => L_X0_worstSort_41 k118 v1 v3 n41 σ w4 w5 w7 w9) t1 v1 v3 v9))))
def J_X0_worstSort_118 (σ : Zst) (v4 : Int32) (v5 : Int64) (v7 : Int64) : Option (Zst × Int32) :=
  (if v4 < (0 : Int32) then some (σ, v4) else (f_X5_clear σ).bind fun t2 => (f_X5_addFraction t2 v5 v7).bind fun t3 => some (t3, v4))
def f_X0_worstSort (σ : Zst) (p0 : Int32) (p1 : Int32) : Option (Zst × Int32) :=
  (if (f_X11_isWay p0) = (0 : Int32) then some (σ, (-1 : Int32)) else (if (f_X11_between p1 (0 : Int32) (1 : Int32)) = (0 : Int32) then some (σ, (-1 : Int32)) else L_X0_worstSort_41 (fun σ9 w6 w7 w8 => J_X0_worstSort_118 σ9 w6 w7 w8) p0 (if p1 = (0 : Int32) then (1 : Int32) else (-1 : Int32)) zFu σ (-2 : Int32) (0 : Int64) (1 : Int64) (0 : Int32)))
def f_X11_worst (σ : Zst) (p0 : Int32) (p1 : Int32) : Option (Zst × Int32) :=
  (f_X0_worstSort σ p0 p1).bind fun t1 => some (t1.1, t1.2)
def f_J6_compare_7cf53 (p0 : Int32) (p1 : Int32) : Int32 :=
  (if p1 ≤ p0 then (if p0 = p1 then (0 : Int32) else (1 : Int32)) else (-1 : Int32))
def f_X0_goesWithRight (σ : Zst) (p0 : Int32) (p1 : Int32) (p2 : Int32) : Option (Zst × Int32) :=
  (f_X0_measure σ p0 p2).bind fun t1 => (f_X0_measure t1 p1 p2).bind fun t2 => (if (Int32.toInt64 (t1.1 12)) = (0 : Int64) then some (t2, (-2 : Int32)) else (if (t2.1 12) = (0 : Int32) then some (t2, (-2 : Int32)) else (f_X10_rightOf t2 p0).bind fun t3 => (f_X10_rightOf t2 p1).bind fun t4 => some (t2, (if ((f_J6_compare_7cf53 t3 t4) * (f_X11_compareFractions (Int32.toInt64 (t1.1 13)) (Int32.toInt64 (t1.1 12)) (Int32.toInt64 (t2.1 13)) (Int32.toInt64 (t2.1 12)))) ≤ (0 : Int32) then (if (0 : Int32) ≤ ((f_J6_compare_7cf53 t3 t4) * (f_X11_compareFractions (Int32.toInt64 (t1.1 13)) (Int32.toInt64 (t1.1 12)) (Int32.toInt64 (t2.1 13)) (Int32.toInt64 (t2.1 12)))) then (0 : Int32) else (-1 : Int32)) else (1 : Int32)))))
def L_X0_pairsByRight_37 (k109 : Zst → Int32 → Int32 → Int32 → Option (Zst × Int32)) (v1 : Int32) (v5 : Int32) : Nat → Zst → Int32 → Int32 → Int32 → Int32 → Option (Zst × Int32)
  | 0, _, _, _, _, _ => none
  | n37 + 1, σ, v2, v3, v4, v6 => (if (f_X10_sortCount σ) ≤ v6 then k109 σ v2 v3 v4 else (f_X0_goesWithRight σ v5 v6 v1).bind fun t1 => L_X0_pairsByRight_37 k109 v1 v5 n37 t1.1 (v2 + (if t1.2 = (1 : Int32) then (1 : Int32) else (0 : Int32))) (v3 + (if t1.2 = (-1 : Int32) then (1 : Int32) else (0 : Int32))) (v4 + (if t1.2 = (0 : Int32) then (1 : Int32) else (0 : Int32))) (v6 + (1 : Int32)))
def J_X0_pairsByRight_109 (k19 : Zst → Int32 → Int32 → Int32 → Int32 → Option (Zst × Int32)) (σ : Zst) (v1 : Int32) (v2 : Int32) (v3 : Int32) (v4 : Int32) (v5 : Int32) : Option (Zst × Int32) :=
  k19 σ v2 v3 v4 (v5 + (1 : Int32))
def L_X0_pairsByRight_19 (k115 : Zst → Int32 → Int32 → Int32 → Option (Zst × Int32)) (v1 : Int32) : Nat → Zst → Int32 → Int32 → Int32 → Int32 → Option (Zst × Int32)
  | 0, _, _, _, _, _ => none
  | n19 + 1, σ, v2, v3, v4, v5 => (if (f_X10_sortCount σ) ≤ v5 then k115 σ v2 v3 v4 else L_X0_pairsByRight_37 (fun σ11 w8 w9 w10 => J_X0_pairsByRight_109 (fun σ w2 w3 w4 w5 => L_X0_pairsByRight_19 k115 v1 n19 σ w2 w3 w4 w5) σ11 v1 w8 w9 w10 v5) v1 v5 zFu σ v2 v3 v4 (v5 + (1 : Int32)))
def J_X0_pairsByRight_115 (σ : Zst) (v2 : Int32) (v3 : Int32) (v4 : Int32) : Option (Zst × Int32) :=
  (f_X5_clear σ).bind fun t12 => (f_X5_add t12 (Int32.toInt64 v3)).bind fun t13 => (f_X5_add t13 (Int32.toInt64 v4)).bind fun t14 => some (t14, v2)
def f_X0_pairsByRight (σ : Zst) (p0 : Int32) : Option (Zst × Int32) :=
  (if (f_X11_isWay p0) = (0 : Int32) then some (σ, (-1 : Int32)) else L_X0_pairsByRight_19 (fun σ18 w15 w16 w17 => J_X0_pairsByRight_115 σ18 w15 w16 w17) p0 zFu σ (0 : Int32) (0 : Int32) (0 : Int32) (0 : Int32))
def f_X11_right (σ : Zst) (p0 : Int32) : Option (Zst × Int32) :=
  (f_X0_pairsByRight σ p0).bind fun t1 => some (t1.1, t1.2)
def L_J7_fill_d0a16_28_6 (v1 : Int64) (v4 : Int32) : Nat → Zst → Int32 → Option Zst
  | 0, _, _ => none
  | n6 + 1, σ, v3 => (if v4 ≤ v3 then some σ else gIx v3 3 (L_J7_fill_d0a16_28_6 v1 v4 n6 (zL σ 1 (vp_updL (σ.2.2.1 1) (Int32.toNatClampNeg v3) v1)) (v3 + (1 : Int32))))
def f_J7_fill_d0a16_28 (σ : Zst) (p0 : Int64) : Option Zst :=
  L_J7_fill_d0a16_28_6 p0 (3 : Int32) zFu σ (0 : Int32)
def L_J7_fill_d0a16_29_6 (v1 : Int64) (v4 : Int32) : Nat → Zst → Int32 → Option Zst
  | 0, _, _ => none
  | n6 + 1, σ, v3 => (if v4 ≤ v3 then some σ else gIx v3 9 (L_J7_fill_d0a16_29_6 v1 v4 n6 (zL σ 2 (vp_updL (σ.2.2.1 2) (Int32.toNatClampNeg v3) v1)) (v3 + (1 : Int32))))
def f_J7_fill_d0a16_29 (σ : Zst) (p0 : Int64) : Option Zst :=
  L_J7_fill_d0a16_29_6 p0 (9 : Int32) zFu σ (0 : Int32)
def f_X0_isWhole (σ0 : Zst) (p0 : Int32) (p1 : Int32) (p2 : Int32) : Option Int32 :=
  (f_X4_has σ0 (0 : Int32) p2 p0).bind fun t1 => (if t1 = (0 : Int32) then some (0 : Int32) else (f_X4_has σ0 (1 : Int32) p2 p0).bind fun t2 => (if t2 = (0 : Int32) then some (0 : Int32) else (f_X4_has σ0 ((2 : Int32) + p1) p2 p0).bind fun t3 => some (if t3 = (0 : Int32) then (0 : Int32) else (1 : Int32))))
def f_X0_kindOf (p0 : Int32) (p1 : Int32) : Int32 :=
  (if p0 = (2 : Int32) then ((2 : Int32) + p1) else p0)
def L_X0_gatherOne_52 (k98 : Zst → Option Zst) (v1 : Int32) (v2 : Int32) (v3 : Int32) (v4 : Int32) (v5 : Int64) : Nat → Zst → Int32 → Option Zst
  | 0, _, _ => none
  | n52 + 1, σ, v7 => (if (3 : Int32) ≤ v7 then k98 σ else gIx ((v4 * (3 : Int32)) + v7) 9 ((f_X4_of σ (f_X0_kindOf v7 v2) v3 v1).bind fun t1 => gIx ((v4 * (3 : Int32)) + v7) 9 (L_X0_gatherOne_52 k98 v1 v2 v3 v4 v5 n52 (zL σ 2 (vp_updL (σ.2.2.1 2) (Int32.toNatClampNeg ((v4 * (3 : Int32)) + v7)) (((σ.2.2.1 2) (Int32.toNatClampNeg ((v4 * (3 : Int32)) + v7))) + (v5 * (Int32.toInt64 t1))))) (v7 + (1 : Int32)))))
def J_X0_gatherOne_98 (k13 : Zst → Int32 → Option Zst) (σ : Zst) (v1 : Int32) (v2 : Int32) (v3 : Int32) (v4 : Int32) : Option Zst :=
  k13 σ (v4 + (1 : Int32))
def L_X0_gatherOne_13 (v1 : Int32) (v2 : Int32) (v3 : Int32) : Nat → Zst → Int32 → Option Zst
  | 0, _, _ => none
  | n13 + 1, σ, v4 => (if (3 : Int32) ≤ v4 then some σ else (f_X4_of σ (f_X0_kindOf v4 v2) v3 v1).bind fun t2 => gIx v4 3 (gIx v4 3 (L_X0_gatherOne_52 (fun σ3 => J_X0_gatherOne_98 (fun σ w4 => L_X0_gatherOne_13 v1 v2 v3 n13 σ w4) σ3 v1 v2 v3 v4) v1 v2 v3 v4 (Int32.toInt64 t2) zFu (zL σ 1 (vp_updL (σ.2.2.1 1) (Int32.toNatClampNeg v4) (((σ.2.2.1 1) (Int32.toNatClampNeg v4)) + (Int32.toInt64 t2)))) (0 : Int32))))
def f_X0_gatherOne (σ : Zst) (p0 : Int32) (p1 : Int32) (p2 : Int32) : Option Zst :=
  L_X0_gatherOne_13 p0 p1 p2 zFu (zI σ 18 ((σ.1 18) + (1 : Int32))) (0 : Int32)
def L_X0_gather_23 (v1 : Int32) (v2 : Int32) : Nat → Zst → Int32 → Option Zst
  | 0, _, _ => none
  | n23 + 1, σ, v3 => (if (f_X10_cellCount σ) ≤ v3 then some σ else (f_X0_isWhole σ v1 v2 v3).bind fun t1 => (if t1 = (0 : Int32) then L_X0_gather_23 v1 v2 n23 σ (v3 + (1 : Int32)) else (f_X0_gatherOne σ v1 v2 v3).bind fun t2 => L_X0_gather_23 v1 v2 n23 t2 (v3 + (1 : Int32))))
def f_X0_gather (σ : Zst) (p0 : Int32) (p1 : Int32) : Option Zst :=
  (f_J7_fill_d0a16_28 (zI σ 18 (0 : Int32)) (0 : Int64)).bind fun t3 => (f_J7_fill_d0a16_29 t3 (0 : Int64)).bind fun t4 => L_X0_gather_23 p0 p1 zFu t4 (0 : Int32)
def f_X0_spread (σ0 : Zst) (p0 : Int32) (p1 : Int32) : Option Int64 :=
  (if (if (f_X11_between p0 (0 : Int32) (2 : Int32)) = (0 : Int32) then (0 : Int32) else (if (f_X11_between p1 (0 : Int32) (2 : Int32)) = (0 : Int32) then (0 : Int32) else (1 : Int32))) = (0 : Int32) then some (0 : Int64) else gIx ((p0 * (3 : Int32)) + p1) 9 (gIx p0 3 (gIx p1 3 (some (((Int32.toInt64 (σ0.1 18)) * ((σ0.2.2.1 2) (Int32.toNatClampNeg ((p0 * (3 : Int32)) + p1)))) - (((σ0.2.2.1 1) (Int32.toNatClampNeg p0)) * ((σ0.2.2.1 1) (Int32.toNatClampNeg p1))))))))
def f_X0_lowerOf (σ0 : Zst) (p0 : Int32) : Option Int64 :=
  (f_X0_spread σ0 (jRem (p0 + (1 : Int32)) (3 : Int32)) (jRem (p0 + (2 : Int32)) (3 : Int32))).bind fun t1 => (f_X0_spread σ0 p0 p0).bind fun t2 => some (t1 * t2)
def L_X0_thousandths_43 (k181 : Int64 → Option Int64) (v0 : Int64) (v2 : Int64) (v4 : Int64) (v6 : Int64) (v8 : Int64) : Nat → Int64 → Int64 → Int32 → Option Int64
  | 0, _, _, _ => none
  | n43 + 1, v10, v12, v14 => (if v14 < (0 : Int32) then k181 v10 else (if (f_X11_hasBit (1000 : Int32) v14) = (0 : Int32) then L_X0_thousandths_43 k181 v0 v2 v4 v6 v8 n43 ((v10 + v10) + (Int32.toInt64 (if (if v12 < (v4 - v12) then (0 : Int32) else (1 : Int32)) = (0 : Int32) then (0 : Int32) else (1 : Int32)))) (if (if v12 < (v4 - v12) then (0 : Int32) else (1 : Int32)) = (0 : Int32) then (v12 + v12) else (v12 - (v4 - v12))) (v14 + (-1 : Int32)) else L_X0_thousandths_43 k181 v0 v2 v4 v6 v8 n43 (((v10 + v10) + (Int32.toInt64 (if (if v12 < (v4 - v12) then (0 : Int32) else (1 : Int32)) = (0 : Int32) then (0 : Int32) else (1 : Int32)))) + (if (if (if (if v12 < (v4 - v12) then (0 : Int32) else (1 : Int32)) = (0 : Int32) then (v12 + v12) else (v12 - (v4 - v12))) < (v4 - v6) then (0 : Int32) else (1 : Int32)) = (0 : Int32) then (0 : Int64) else (1 : Int64))) (if (if (if (if v12 < (v4 - v12) then (0 : Int32) else (1 : Int32)) = (0 : Int32) then (v12 + v12) else (v12 - (v4 - v12))) < (v4 - v6) then (0 : Int32) else (1 : Int32)) = (0 : Int32) then ((if (if v12 < (v4 - v12) then (0 : Int32) else (1 : Int32)) = (0 : Int32) then (v12 + v12) else (v12 - (v4 - v12))) + v6) else ((if (if v12 < (v4 - v12) then (0 : Int32) else (1 : Int32)) = (0 : Int32) then (v12 + v12) else (v12 - (v4 - v12))) - (v4 - v6))) (v14 + (-1 : Int32))))
def J_X0_thousandths_181 (v0 : Int64) (v2 : Int64) (v8 : Int64) (v10 : Int64) : Option Int64 :=
  some (if (if (0 : Int64) ≤ v0 then (0 : Int32) else (1 : Int32)) = (if (0 : Int64) ≤ v2 then (0 : Int32) else (1 : Int32)) then ((v8 * (1000 : Int64)) + v10) else (-((v8 * (1000 : Int64)) + v10)))
def f_X0_thousandths (p0 : Int64) (p1 : Int64) : Option Int64 :=
  (if (jAbsL p1) = (0 : Int64) then some (0 : Int64) else gNzL (jAbsL p1) (gNzL (jAbsL p1) (L_X0_thousandths_43 (fun w19 => J_X0_thousandths_181 p0 p1 ((jAbsL p0) / (jAbsL p1)) w19) p0 p1 (jAbsL p1) (jRemL (jAbsL p0) (jAbsL p1)) ((jAbsL p0) / (jAbsL p1)) zFu (0 : Int64) (0 : Int64) (9 : Int32))))
def L_X0_threeApart_77  : Nat → Zst → Int32 → Option (Zst × Int32)
  | 0, _, _ => none
  | n77 + 1, σ, v3 => (if (3 : Int32) ≤ v3 then some (σ, (σ.1 18)) else (f_X0_spread σ v3 (jRem (v3 + (1 : Int32)) (3 : Int32))).bind fun t1 => (f_X0_spread σ v3 (jRem (v3 + (2 : Int32)) (3 : Int32))).bind fun t2 => (f_X0_lowerOf σ v3).bind fun t3 => (f_X0_thousandths (t1 * t2) t3).bind fun t4 => (f_X5_add σ t4).bind fun t5 => L_X0_threeApart_77  n77 t5 (v3 + (1 : Int32)))
def f_X0_threeApart (σ : Zst) (p0 : Int32) (p1 : Int32) : Option (Zst × Int32) :=
  (if (f_X10_hasSort σ p0) = (0 : Int32) then some (σ, (-1 : Int32)) else (if (f_X11_isWay p1) = (0 : Int32) then some (σ, (-1 : Int32)) else (f_X0_gather σ p0 p1).bind fun t6 => (if (t6.1 18) < (2 : Int32) then some (t6, (-2 : Int32)) else (f_X0_lowerOf t6 (0 : Int32)).bind fun t7 => (if t7 = (0 : Int64) then some (t6, (-2 : Int32)) else (f_X0_lowerOf t6 (1 : Int32)).bind fun t8 => (if t8 = (0 : Int64) then some (t6, (-2 : Int32)) else (f_X0_lowerOf t6 (2 : Int32)).bind fun t9 => (if t9 = (0 : Int64) then some (t6, (-2 : Int32)) else (f_X5_clear t6).bind fun t10 => L_X0_threeApart_77  zFu t10 (0 : Int32)))))))
def f_X11_three (σ : Zst) (p0 : Int32) (p1 : Int32) : Option (Zst × Int32) :=
  (f_X0_threeApart σ p0 p1).bind fun t1 => some (t1.1, t1.2)
def f_X0_saidByShop (σ : Zst) (p0 : Int32) (p1 : Int32) : Option (Zst × Int32) :=
  (if (f_X10_hasSort σ p0) = (0 : Int32) then some (σ, (-1 : Int32)) else (if (f_X11_isWay p1) = (0 : Int32) then some (σ, (-1 : Int32)) else (f_X0_gather σ p0 p1).bind fun t1 => (if (t1.1 18) < (2 : Int32) then some (t1, (-2 : Int32)) else (f_X0_spread t1 (0 : Int32) (1 : Int32)).bind fun t2 => (if t2 = (0 : Int64) then some (t1, (-2 : Int32)) else (f_X5_clear t1).bind fun t3 => (f_X0_spread t3 (0 : Int32) (2 : Int32)).bind fun t4 => (f_X0_spread t3 (0 : Int32) (1 : Int32)).bind fun t5 => (f_X5_addFraction t3 t4 t5).bind fun t6 => some (t6, (0 : Int32))))))
def f_X11_slope (σ : Zst) (p0 : Int32) (p1 : Int32) : Option (Zst × Int32) :=
  (f_X0_saidByShop σ p0 p1).bind fun t1 => some (t1.1, t1.2)
def f_X0_hasNeighbours (σ0 : Zst) (p0 : Int32) (p1 : Int32) (p2 : Int32) : Option Int32 :=
  (f_X4_has σ0 (1 : Int32) p2 p0).bind fun t1 => (if t1 = (0 : Int32) then some (0 : Int32) else (f_X4_has σ0 ((2 : Int32) + p1) p2 p0).bind fun t2 => (if t2 = (0 : Int32) then some (0 : Int32) else (f_X4_has σ0 (5 : Int32) p2 p0).bind fun t3 => some (if t3 = (0 : Int32) then (0 : Int32) else (1 : Int32))))
def L_X0_nearerNeighbours_33 (k188 : Int32 → Int32 → Int32 → Option (Zst × Int32)) (σ : Zst) (v1 : Int32) (v2 : Int32) : Nat → Int32 → Int32 → Int32 → Int32 → Option (Zst × Int32)
  | 0, _, _, _, _ => none
  | n33 + 1, v3, v4, v5, v6 => (if (f_X10_cellCount σ) ≤ v6 then k188 v3 v4 v5 else (f_X0_hasNeighbours σ v1 v2 v6).bind fun t1 => (if t1 = (0 : Int32) then L_X0_nearerNeighbours_33 k188 σ v1 v2 n33 v3 v4 v5 (v6 + (1 : Int32)) else (f_X4_of σ (1 : Int32) v6 v1).bind fun t2 => (f_X4_of σ ((2 : Int32) + v2) v6 v1).bind fun t3 => (f_X4_of σ (5 : Int32) v6 v1).bind fun t4 => L_X0_nearerNeighbours_33 k188 σ v1 v2 n33 (v3 + (if (jAbs (t3 - t2)) ≤ (jAbs (t4 - t2)) then (0 : Int32) else (1 : Int32))) (v4 + (if (jAbs (t4 - t2)) ≤ (jAbs (t3 - t2)) then (0 : Int32) else (1 : Int32))) (v5 + (if (jMin (jAbs (t3 - t2)) (jAbs (t4 - t2))) ≤ (jAbs (((t3 + t4) / (2 : Int32)) - t2)) then (0 : Int32) else (1 : Int32))) (v6 + (1 : Int32))))
def J_X0_nearerNeighbours_188 (σ : Zst) (v3 : Int32) (v4 : Int32) (v5 : Int32) : Option (Zst × Int32) :=
  (f_X5_clear σ).bind fun t11 => (f_X5_add t11 (Int32.toInt64 v4)).bind fun t12 => (f_X5_add t12 (Int32.toInt64 v5)).bind fun t13 => some (t13, v3)
def f_X0_nearerNeighbours (σ : Zst) (p0 : Int32) (p1 : Int32) : Option (Zst × Int32) :=
  (if (f_X10_hasSort σ p0) = (0 : Int32) then some (σ, (-1 : Int32)) else (if (f_X11_between p1 (0 : Int32) (2 : Int32)) = (0 : Int32) then some (σ, (-1 : Int32)) else L_X0_nearerNeighbours_33 (fun w14 w15 w16 => J_X0_nearerNeighbours_188 σ w14 w15 w16) σ p0 p1 zFu (0 : Int32) (0 : Int32) (0 : Int32) (0 : Int32)))
def f_X11_others (σ : Zst) (p0 : Int32) (p1 : Int32) : Option (Zst × Int32) :=
  (f_X0_nearerNeighbours σ p0 p1).bind fun t1 => some (t1.1, t1.2)
def L_X0_leastShare_10 (k63 : Int32 → Int64 → Option (Zst × Int32)) (σ : Zst) (v1 : Int64) (v3 : Int64) (v5 : Int64) : Nat → Int32 → Int64 → Int32 → Option (Zst × Int32)
  | 0, _, _, _ => none
  | n10 + 1, v7, v8, v10 => (if (100 : Int32) < v10 then k63 v7 v8 else (if v8 ≤ ((((v1 * (Int32.toInt64 v10)) * (Int32.toInt64 v10)) + (((2 : Int64) * v3) * (Int32.toInt64 v10))) + v5) then L_X0_leastShare_10 k63 σ v1 v3 v5 n10 v7 v8 (v10 + (1 : Int32)) else L_X0_leastShare_10 k63 σ v1 v3 v5 n10 v10 ((((v1 * (Int32.toInt64 v10)) * (Int32.toInt64 v10)) + (((2 : Int64) * v3) * (Int32.toInt64 v10))) + v5) (v10 + (1 : Int32))))
def J_X0_leastShare_63 (σ : Zst) (v7 : Int32) (v8 : Int64) : Option (Zst × Int32) :=
  (f_X5_clear σ).bind fun t1 => (f_X5_add t1 v8).bind fun t2 => some (t2, v7)
def f_X0_leastShare (σ : Zst) (p0 : Int64) (p1 : Int64) (p2 : Int64) : Option (Zst × Int32) :=
  L_X0_leastShare_10 (fun w3 w4 => J_X0_leastShare_63 σ w3 w4) σ p0 p1 p2 zFu (0 : Int32) p2 (1 : Int32)
def L_X0_bestShare_36 (k151 : Int32 → Int64 → Int64 → Int64 → Option (Zst × Int32)) (σ : Zst) (v1 : Int32) (v2 : Int32) : Nat → Int32 → Int64 → Int64 → Int64 → Int32 → Option (Zst × Int32)
  | 0, _, _, _, _, _ => none
  | n36 + 1, v3, v4, v6, v8, v10 => (if (f_X10_cellCount σ) ≤ v10 then k151 v3 v4 v6 v8 else (f_X0_hasNeighbours σ v1 v2 v10).bind fun t1 => (if t1 = (0 : Int32) then L_X0_bestShare_36 k151 σ v1 v2 n36 v3 v4 v6 v8 (v10 + (1 : Int32)) else (f_X4_of σ ((2 : Int32) + v2) v10 v1).bind fun t2 => (f_X4_of σ (5 : Int32) v10 v1).bind fun t3 => (f_X4_of σ (1 : Int32) v10 v1).bind fun t4 => L_X0_bestShare_36 k151 σ v1 v2 n36 (1 : Int32) (v4 + (((Int32.toInt64 t3) - (Int32.toInt64 t2)) * ((Int32.toInt64 t3) - (Int32.toInt64 t2)))) (v6 + (((Int32.toInt64 t3) - (Int32.toInt64 t2)) * ((100 : Int64) * ((Int32.toInt64 t2) - (Int32.toInt64 t4))))) (v8 + (((100 : Int64) * ((Int32.toInt64 t2) - (Int32.toInt64 t4))) * ((100 : Int64) * ((Int32.toInt64 t2) - (Int32.toInt64 t4))))) (v10 + (1 : Int32))))
def J_X0_bestShare_151 (σ : Zst) (v3 : Int32) (v4 : Int64) (v6 : Int64) (v8 : Int64) : Option (Zst × Int32) :=
  (if v3 = (0 : Int32) then some (σ, (-2 : Int32)) else (f_X0_leastShare σ v4 v6 v8).bind fun t5 => some (t5.1, t5.2))
def f_X0_bestShare (σ : Zst) (p0 : Int32) (p1 : Int32) : Option (Zst × Int32) :=
  (if (f_X10_hasSort σ p0) = (0 : Int32) then some (σ, (-1 : Int32)) else (if (f_X11_between p1 (0 : Int32) (2 : Int32)) = (0 : Int32) then some (σ, (-1 : Int32)) else L_X0_bestShare_36 (fun w6 w7 w8 w9 => J_X0_bestShare_151 σ w6 w7 w8 w9) σ p0 p1 zFu (0 : Int32) (0 : Int64) (0 : Int64) (0 : Int64) (0 : Int32)))
def f_X11_worth (σ : Zst) (p0 : Int32) (p1 : Int32) : Option (Zst × Int32) :=
  (f_X0_bestShare σ p0 p1).bind fun t1 => some (t1.1, t1.2)
def L_X8_clearThings_2 (v1 : Int32) : Nat → Zst → Int32 → Option Zst
  | 0, _, _ => none
  | n2 + 1, σ, v2 => (if (v1 + (2 : Int32)) ≤ v2 then some σ else (if v2 < (0 : Int32) then L_X8_clearThings_2 v1 n2 σ (v2 + (1 : Int32)) else (if (10 : Int32) ≤ v2 then L_X8_clearThings_2 v1 n2 σ (v2 + (1 : Int32)) else gIx v2 10 (gIx v2 10 (L_X8_clearThings_2 v1 n2 (zL (zL σ 3 (vp_updL (σ.2.2.1 3) (Int32.toNatClampNeg v2) (0 : Int64))) 4 (vp_updL (σ.2.2.1 4) (Int32.toNatClampNeg v2) (0 : Int64))) (v2 + (1 : Int32)))))))
def f_X8_clearThings (σ : Zst) (p0 : Int32) : Option Zst :=
  L_X8_clearThings_2 p0 zFu σ p0
def f_X8_addTo (σ : Zst) (p0 : Int32) (p1 : Int32) (p2 : Int32) : Option Zst :=
  (if p0 < (0 : Int32) then some σ else (if (10 : Int32) ≤ p0 then some σ else gIx p0 10 (gIx p0 10 (gIx p0 10 (gIx p0 10 (some (zL (zL σ 3 (vp_updL (σ.2.2.1 3) (Int32.toNatClampNeg p0) (((σ.2.2.1 3) (Int32.toNatClampNeg p0)) + (Int32.toInt64 p1)))) 4 (vp_updL (σ.2.2.1 4) (Int32.toNatClampNeg p0) (((σ.2.2.1 4) (Int32.toNatClampNeg p0)) + (Int32.toInt64 p2))))))))))
def L_X8_measureWaste_7 (k114 : Zst → Option Zst) (v1 : Int32) : Nat → Zst → Int32 → Option Zst
  | 0, _, _ => none
  | n7 + 1, σ, v2 => (if (f_X10_cellCount σ) ≤ v2 then k114 σ else (f_X4_has σ (0 : Int32) v2 v1).bind fun t1 => (if t1 = (0 : Int32) then L_X8_measureWaste_7 k114 v1 n7 σ (v2 + (1 : Int32)) else (f_X4_has σ (1 : Int32) v2 v1).bind fun t2 => (if t2 = (0 : Int32) then L_X8_measureWaste_7 k114 v1 n7 σ (v2 + (1 : Int32)) else (f_X4_of σ (1 : Int32) v2 v1).bind fun t3 => (f_X4_of σ (0 : Int32) v2 v1).bind fun t4 => (f_X10_leavesOf σ v1).bind fun t5 => (f_X10_isLack σ v1 (jRem v2 (12 : Int32))).bind fun t6 => (f_X8_addTo σ (if t6 = (0 : Int32) then (1 : Int32) else (0 : Int32)) (t4 - ((t3 * t5) / (100 : Int32))) t3).bind fun t9 => L_X8_measureWaste_7 k114 v1 n7 t9 (v2 + (1 : Int32)))))
def J_X8_measureWaste_136 (σ : Zst) : Option Zst :=
  (f_X8_clearThings σ (0 : Int32)).bind fun t10 => some t10
def J_X8_measureWaste_114 (σ : Zst) : Option Zst :=
  (if ((σ.2.2.1 4) (Int32.toNatClampNeg (0 : Int32))) = (0 : Int64) then J_X8_measureWaste_136 σ else (if ((σ.2.2.1 4) (Int32.toNatClampNeg (1 : Int32))) = (0 : Int64) then J_X8_measureWaste_136 σ else some σ))
def f_X8_measureWaste (σ : Zst) (p0 : Int32) : Option Zst :=
  (f_X8_clearThings σ (0 : Int32)).bind fun t11 => L_X8_measureWaste_7 (fun σ12 => J_X8_measureWaste_114 σ12) p0 zFu t11 (0 : Int32)
def f_X8_isHad (σ0 : Zst) (p0 : Int32) : Option Int32 :=
  (if p0 < (0 : Int32) then some (0 : Int32) else (if (10 : Int32) ≤ p0 then some (0 : Int32) else gIx p0 10 (some (if ((σ0.2.2.1 4) (Int32.toNatClampNeg p0)) ≤ (0 : Int64) then (0 : Int32) else (1 : Int32)))))
def f_X8_compareThings (σ0 : Zst) (p0 : Int32) (p1 : Int32) : Option Int32 :=
  (f_X8_isHad σ0 p0).bind fun t1 => (if t1 = (0 : Int32) then (if (0 : Int32) = (0 : Int32) then some (0 : Int32) else gIx p0 10 (gIx p0 10 (gIx p1 10 (gIx p1 10 (some (f_X11_compareFractions ((σ0.2.2.1 3) (Int32.toNatClampNeg p0)) ((σ0.2.2.1 4) (Int32.toNatClampNeg p0)) ((σ0.2.2.1 3) (Int32.toNatClampNeg p1)) ((σ0.2.2.1 4) (Int32.toNatClampNeg p1)))))))) else (f_X8_isHad σ0 p1).bind fun t2 => (if (if t2 = (0 : Int32) then (0 : Int32) else (1 : Int32)) = (0 : Int32) then some (0 : Int32) else gIx p0 10 (gIx p0 10 (gIx p1 10 (gIx p1 10 (some (f_X11_compareFractions ((σ0.2.2.1 3) (Int32.toNatClampNeg p0)) ((σ0.2.2.1 4) (Int32.toNatClampNeg p0)) ((σ0.2.2.1 3) (Int32.toNatClampNeg p1)) ((σ0.2.2.1 4) (Int32.toNatClampNeg p1)))))))))
def f_X8_wasteInLack (σ : Zst) (p0 : Int32) : Option (Zst × Int32) :=
  (if (f_X10_hasSort σ p0) = (0 : Int32) then some (σ, (-1 : Int32)) else (f_X8_measureWaste σ p0).bind fun t1 => (if ((t1.2.2.1 4) (Int32.toNatClampNeg (0 : Int32))) = (0 : Int64) then some (t1, (-2 : Int32)) else (f_X5_clear t1).bind fun t2 => (f_X5_addFraction t2 ((t2.2.2.1 3) (Int32.toNatClampNeg (0 : Int32))) ((t2.2.2.1 4) (Int32.toNatClampNeg (0 : Int32)))).bind fun t3 => (f_X5_addFraction t3 ((t3.2.2.1 3) (Int32.toNatClampNeg (1 : Int32))) ((t3.2.2.1 4) (Int32.toNatClampNeg (1 : Int32)))).bind fun t4 => (f_X8_compareThings t4 (0 : Int32) (1 : Int32)).bind fun t5 => some (t4, (if t5 ≤ (0 : Int32) then (if (0 : Int32) ≤ t5 then (0 : Int32) else (2 : Int32)) else (1 : Int32)))))
def f_X11_waste (σ : Zst) (p0 : Int32) : Option (Zst × Int32) :=
  (f_X8_wasteInLack σ p0).bind fun t1 => some (t1.1, t1.2)
def f_X8_isFull (σ0 : Zst)  : Int32 :=
  (if (σ0.1 19) < (6 : Int32) then (0 : Int32) else (1 : Int32))
theorem bo_X8_isFull (σ0 : Zst)  : f_X8_isFull σ0 = 0 ∨ f_X8_isFull σ0 = 1 := by
  unfold f_X8_isFull
  repeat' split
  all_goals first | exact Or.inl rfl | exact Or.inr rfl
def f_X8_begin (σ : Zst)  : Option Zst :=
  some (zI σ 20 (0 : Int32))
def f_X8_couldEnd (σ0 : Zst)  : Int32 :=
  (if (σ0.1 20) = (0 : Int32) then (1 : Int32) else (if (jRem (σ0.1 20) (4 : Int32)) = (3 : Int32) then (1 : Int32) else (0 : Int32)))
theorem bo_X8_couldEnd (σ0 : Zst)  : f_X8_couldEnd σ0 = 0 ∨ f_X8_couldEnd σ0 = 1 := by
  unfold f_X8_couldEnd
  repeat' split
  all_goals first | exact Or.inl rfl | exact Or.inr rfl
def f_X8_thingOf (p0 : Int32) : Option Int32 :=
  (if p0 < (0 : Int32) then some (-1 : Int32) else (if (255 : Int32) < p0 then some (-1 : Int32) else gLe (0 + 1) 14 (gIx (UInt32.toInt32 ((Int32.toUInt32 p0) % 65536)) 256 (some (zStrIx 0 (UInt32.toInt32 ((Int32.toUInt32 p0) % 65536)))))))
def f_X8_takes (σ : Zst) (p0 : Int32) : Option (Zst × Int32) :=
  (if (jRem (σ.1 20) (4 : Int32)) = (1 : Int32) then some ((zI σ 20 ((σ.1 20) + (1 : Int32))), (if p0 = (60 : Int32) then (1 : Int32) else (if p0 = (62 : Int32) then (1 : Int32) else (if p0 = (61 : Int32) then (1 : Int32) else (0 : Int32))))) else (if (jRem (σ.1 20) (4 : Int32)) = (3 : Int32) then (if p0 = (59 : Int32) then some ((zI σ 20 ((σ.1 20) + (1 : Int32))), (1 : Int32)) else some ((zI σ 20 ((σ.1 20) + (1 : Int32))), (0 : Int32))) else (f_X8_thingOf p0).bind fun t5 => (if t5 < (0 : Int32) then some ((zI σ 20 ((σ.1 20) + (1 : Int32))), (0 : Int32)) else some ((zI σ 20 ((σ.1 20) + (1 : Int32))), (1 : Int32)))))
def L_X1_wrongPlace_S_6 (k40 : Zst → Option (Zst × Int32)) : Nat → Zst → Int32 → Option (Zst × Int32)
  | 0, _, _ => none
  | n6 + 1, σ, v2 => (if (f_X9_size σ) ≤ v2 then k40 σ else (if (40 : Int32) ≤ v2 then k40 σ else (f_X9_at σ v2).bind fun t1 => (f_X8_takes σ t1).bind fun t2 => (if t2.2 = (0 : Int32) then some (t2.1, v2) else L_X1_wrongPlace_S_6 k40 n6 t2.1 (v2 + (1 : Int32)))))
def J_X1_wrongPlace_S_40 (σ : Zst) : Option (Zst × Int32) :=
  (if (f_X9_size σ) ≤ (40 : Int32) then some (σ, (if (f_X8_couldEnd σ) = (0 : Int32) then (f_X9_size σ) else (-1 : Int32))) else some (σ, (40 : Int32)))
def f_X1_wrongPlace_S (σ : Zst)  : Option (Zst × Int32) :=
  (f_X8_begin σ).bind fun t5 => L_X1_wrongPlace_S_6 (fun σ6 => J_X1_wrongPlace_S_40 σ6) zFu t5 (0 : Int32)
def f_X1_isText_S (p0 : Int32) : Int32 :=
  (if p0 < (0 : Int32) then (0 : Int32) else (if (6 : Int32) ≤ p0 then (0 : Int32) else (1 : Int32)))
theorem bo_X1_isText_S (p0 : Int32) : f_X1_isText_S p0 = 0 ∨ f_X1_isText_S p0 = 1 := by
  unfold f_X1_isText_S
  repeat' split
  all_goals first | exact Or.inl rfl | exact Or.inr rfl
def L_X1_write_S_25 (k65 : Zst → Option (Zst × Int32)) (v1 : Int32) : Nat → Zst → Int32 → Option (Zst × Int32)
  | 0, _, _ => none
  | n25 + 1, σ, v4 => (if (f_X9_size σ) ≤ v4 then k65 σ else (if (40 : Int32) ≤ v4 then k65 σ else (f_X9_at σ v4).bind fun t1 => gIx ((v1 * (40 : Int32)) + v4) 240 (L_X1_write_S_25 k65 v1 n25 (zA σ 19 (upd (σ.2.1 19) (Int32.toNatClampNeg ((v1 * (40 : Int32)) + v4)) t1)) (v4 + (1 : Int32)))))
def J_X1_write_S_65 (σ : Zst) (v1 : Int32) : Option (Zst × Int32) :=
  gIx v1 6 (some ((zA σ 20 (upd (σ.2.1 20) (Int32.toNatClampNeg v1) (f_X9_size σ))), (0 : Int32)))
def f_X1_write_S (σ : Zst) (p0 : Int32) : Option (Zst × Int32) :=
  (f_X1_wrongPlace_S σ).bind fun t2 => (if t2.2 < (0 : Int32) then (if (f_X1_isText_S p0) = (0 : Int32) then some (t2.1, (0 : Int32)) else L_X1_write_S_25 (fun σ3 => J_X1_write_S_65 σ3 p0) p0 zFu t2.1 (0 : Int32)) else some (t2.1, ((-1 : Int32) - t2.2)))
def f_X8_listen (σ : Zst)  : Option (Zst × Int32) :=
  (f_X1_write_S σ (σ.1 19)).bind fun t1 => (if (0 : Int32) ≤ t1.2 then some ((zI t1.1 19 ((t1.1.1 19) + (1 : Int32))), (((t1.1.1 19) + (1 : Int32)) - (1 : Int32))) else some (t1.1, t1.2))
def J_X11_story_26 (σ : Zst) (s0 : Int32) : Option (Zst × Int32) :=
  (f_X9_cut σ (0 : Int32)).bind fun t1 => some (t1.1, s0)
def f_X11_story (σ : Zst)  : Option (Zst × Int32) :=
  (if (f_X8_isFull σ) = (0 : Int32) then (f_X8_listen σ).bind fun t2 => J_X11_story_26 t2.1 t2.2 else J_X11_story_26 σ (-100 : Int32))
def L_X8_measureMeans_8 (v1 : Int32) (v2 : Int32) (v3 : Int32) : Nat → Zst → Int32 → Option Zst
  | 0, _, _ => none
  | n8 + 1, σ, v4 => (if (f_X10_cellCount σ) ≤ v4 then some σ else (f_X4_has σ v2 v4 v1).bind fun t1 => (if t1 = (0 : Int32) then L_X8_measureMeans_8 v1 v2 v3 n8 σ (v4 + (1 : Int32)) else (f_X10_isLack σ v1 (jRem v4 (12 : Int32))).bind fun t2 => (f_X4_of σ v2 v4 v1).bind fun t5 => (f_X8_addTo σ (if t2 = (0 : Int32) then (v3 + (1 : Int32)) else v3) t5 (1 : Int32)).bind fun t6 => L_X8_measureMeans_8 v1 v2 v3 n8 t6 (v4 + (1 : Int32))))
def f_X8_measureMeans (σ : Zst) (p0 : Int32) (p1 : Int32) (p2 : Int32) : Option Zst :=
  (f_X8_clearThings σ p2).bind fun t7 => L_X8_measureMeans_8 p0 p1 p2 zFu t7 (0 : Int32)
def f_X1_sizeOf_S (σ0 : Zst) (p0 : Int32) : Option Int32 :=
  (if (f_X1_isText_S p0) = (0 : Int32) then some (0 : Int32) else gIx p0 6 (some ((σ0.2.1 20) (Int32.toNatClampNeg p0))))
def f_X1_signAt_S (σ0 : Zst) (p0 : Int32) (p1 : Int32) : Option Int32 :=
  (if p0 < (0 : Int32) then (if (0 : Int32) = (0 : Int32) then some (-1 : Int32) else gIx ((p0 * (40 : Int32)) + p1) 240 (some ((σ0.2.1 19) (Int32.toNatClampNeg ((p0 * (40 : Int32)) + p1))))) else (if (6 : Int32) ≤ p0 then (if (0 : Int32) = (0 : Int32) then some (-1 : Int32) else gIx ((p0 * (40 : Int32)) + p1) 240 (some ((σ0.2.1 19) (Int32.toNatClampNeg ((p0 * (40 : Int32)) + p1))))) else (if p1 < (0 : Int32) then (if (0 : Int32) = (0 : Int32) then some (-1 : Int32) else gIx ((p0 * (40 : Int32)) + p1) 240 (some ((σ0.2.1 19) (Int32.toNatClampNeg ((p0 * (40 : Int32)) + p1))))) else gIx p0 6 ((if (if ((σ0.2.1 20) (Int32.toNatClampNeg p0)) ≤ p1 then (0 : Int32) else (1 : Int32)) = (0 : Int32) then some (-1 : Int32) else gIx ((p0 * (40 : Int32)) + p1) 240 (some ((σ0.2.1 19) (Int32.toNatClampNeg ((p0 * (40 : Int32)) + p1)))))))))
def f_X8_isSo (σ0 : Zst) (p0 : Int32) (p1 : Int32) (p2 : Int32) : Option Int32 :=
  (f_X8_isHad σ0 p0).bind fun t1 => (if t1 = (0 : Int32) then some (0 : Int32) else (f_X8_isHad σ0 p2).bind fun t2 => (if t2 = (0 : Int32) then some (0 : Int32) else (f_X8_compareThings σ0 p0 p2).bind fun t3 => some (if p1 = (60 : Int32) then (if (0 : Int32) ≤ t3 then (0 : Int32) else (1 : Int32)) else (if p1 = (62 : Int32) then (if t3 ≤ (0 : Int32) then (0 : Int32) else (1 : Int32)) else (if t3 = (0 : Int32) then (1 : Int32) else (0 : Int32))))))
def L_X8_failingOf_4 (σ0 : Zst) (v1 : Int32) : Nat → Int32 → Int32 → Option Int32
  | 0, _, _ => none
  | n4 + 1, v2, v3 => (f_X1_sizeOf_S σ0 v1).bind fun t1 => (if t1 ≤ v3 then some v2 else (f_X1_signAt_S σ0 v1 v3).bind fun t2 => (f_X8_thingOf t2).bind fun t3 => (f_X1_signAt_S σ0 v1 (v3 + (1 : Int32))).bind fun t4 => (f_X1_signAt_S σ0 v1 (v3 + (2 : Int32))).bind fun t5 => (f_X8_thingOf t5).bind fun t6 => (f_X8_isSo σ0 t3 t4 t6).bind fun t7 => (if t7 = (0 : Int32) then L_X8_failingOf_4 σ0 v1 n4 (v2 + (1 : Int32)) (v3 + (4 : Int32)) else L_X8_failingOf_4 σ0 v1 n4 v2 (v3 + (4 : Int32))))
def f_X8_failingOf (σ0 : Zst) (p0 : Int32) : Option Int32 :=
  L_X8_failingOf_4 σ0 p0 zFu (0 : Int32) (0 : Int32)
def L_X8_judge_39  : Nat → Zst → Int32 → Int32 → Option (Zst × Int32)
  | 0, _, _, _ => none
  | n39 + 1, σ, v2, v3 => (if (σ.1 19) ≤ v3 then some (σ, v2) else (if (6 : Int32) ≤ v3 then some (σ, v2) else (f_X8_failingOf σ v3).bind fun t1 => gIx v3 6 (gIx v3 6 ((if ((upd (σ.2.1 21) (Int32.toNatClampNeg v3) t1) (Int32.toNatClampNeg v3)) = (0 : Int32) then L_X8_judge_39  n39 (zA σ 21 (upd (σ.2.1 21) (Int32.toNatClampNeg v3) t1)) (v2 ||| (jShl (1 : Int32) v3)) (v3 + (1 : Int32)) else L_X8_judge_39  n39 (zA σ 21 (upd (σ.2.1 21) (Int32.toNatClampNeg v3) t1)) v2 (v3 + (1 : Int32)))))))
def f_X8_judge (σ : Zst) (p0 : Int32) : Option (Zst × Int32) :=
  (f_X8_measureWaste σ p0).bind fun t2 => (f_X8_measureMeans t2 p0 (1 : Int32) (2 : Int32)).bind fun t3 => (f_X8_measureMeans t3 p0 (0 : Int32) (4 : Int32)).bind fun t4 => (f_X8_measureMeans t4 p0 (5 : Int32) (6 : Int32)).bind fun t5 => (f_X8_measureMeans t5 p0 (2 : Int32) (8 : Int32)).bind fun t6 => L_X8_judge_39  zFu t6 (0 : Int32) (0 : Int32)
def L_X8_standing_29 (v2 : Int32) : Nat → Zst → Int32 → Option (Zst × Int32)
  | 0, _, _ => none
  | n29 + 1, σ, v3 => (if (σ.1 19) ≤ v3 then some (σ, v2) else (if (6 : Int32) ≤ v3 then some (σ, v2) else gIx v3 6 ((f_X5_add σ (Int32.toInt64 ((σ.2.1 21) (Int32.toNatClampNeg v3)))).bind fun t1 => L_X8_standing_29 v2 n29 t1 (v3 + (1 : Int32)))))
def f_X8_standing (σ : Zst) (p0 : Int32) : Option (Zst × Int32) :=
  (if (f_X10_hasSort σ p0) = (0 : Int32) then some (σ, (-1 : Int32)) else (f_X8_judge σ p0).bind fun t2 => (f_X5_clear t2.1).bind fun t3 => L_X8_standing_29 t2.2 zFu t3 (0 : Int32))
def f_X11_holds (σ : Zst) (p0 : Int32) : Option (Zst × Int32) :=
  (f_X8_standing σ p0).bind fun t1 => some (t1.1, t1.2)
def f_J6_bitCount_0f7a4 (p0 : Int32) : Int32 :=
  ((((((((p0 - ((jUshr p0 (1 : Int32)) &&& (1431655765 : Int32))) &&& (858993459 : Int32)) + ((jUshr (p0 - ((jUshr p0 (1 : Int32)) &&& (1431655765 : Int32))) (2 : Int32)) &&& (858993459 : Int32))) + (jUshr (((p0 - ((jUshr p0 (1 : Int32)) &&& (1431655765 : Int32))) &&& (858993459 : Int32)) + ((jUshr (p0 - ((jUshr p0 (1 : Int32)) &&& (1431655765 : Int32))) (2 : Int32)) &&& (858993459 : Int32))) (4 : Int32))) &&& (252645135 : Int32)) + (jUshr (((((p0 - ((jUshr p0 (1 : Int32)) &&& (1431655765 : Int32))) &&& (858993459 : Int32)) + ((jUshr (p0 - ((jUshr p0 (1 : Int32)) &&& (1431655765 : Int32))) (2 : Int32)) &&& (858993459 : Int32))) + (jUshr (((p0 - ((jUshr p0 (1 : Int32)) &&& (1431655765 : Int32))) &&& (858993459 : Int32)) + ((jUshr (p0 - ((jUshr p0 (1 : Int32)) &&& (1431655765 : Int32))) (2 : Int32)) &&& (858993459 : Int32))) (4 : Int32))) &&& (252645135 : Int32)) (8 : Int32))) + (jUshr ((((((p0 - ((jUshr p0 (1 : Int32)) &&& (1431655765 : Int32))) &&& (858993459 : Int32)) + ((jUshr (p0 - ((jUshr p0 (1 : Int32)) &&& (1431655765 : Int32))) (2 : Int32)) &&& (858993459 : Int32))) + (jUshr (((p0 - ((jUshr p0 (1 : Int32)) &&& (1431655765 : Int32))) &&& (858993459 : Int32)) + ((jUshr (p0 - ((jUshr p0 (1 : Int32)) &&& (1431655765 : Int32))) (2 : Int32)) &&& (858993459 : Int32))) (4 : Int32))) &&& (252645135 : Int32)) + (jUshr (((((p0 - ((jUshr p0 (1 : Int32)) &&& (1431655765 : Int32))) &&& (858993459 : Int32)) + ((jUshr (p0 - ((jUshr p0 (1 : Int32)) &&& (1431655765 : Int32))) (2 : Int32)) &&& (858993459 : Int32))) + (jUshr (((p0 - ((jUshr p0 (1 : Int32)) &&& (1431655765 : Int32))) &&& (858993459 : Int32)) + ((jUshr (p0 - ((jUshr p0 (1 : Int32)) &&& (1431655765 : Int32))) (2 : Int32)) &&& (858993459 : Int32))) (4 : Int32))) &&& (252645135 : Int32)) (8 : Int32))) (16 : Int32))) &&& (63 : Int32))
def L_X8_partingSort_7 (k57 : Zst → Int32 → Int32 → Option (Zst × Int32)) : Nat → Zst → Int32 → Int32 → Int32 → Option (Zst × Int32)
  | 0, _, _, _, _ => none
  | n7 + 1, σ, v1, v2, v3 => (if (f_X10_sortCount σ) ≤ v3 then k57 σ v1 v2 else (f_X8_judge σ v3).bind fun t1 => (if t1.2 = (0 : Int32) then L_X8_partingSort_7 k57 n7 t1.1 v1 v2 (v3 + (1 : Int32)) else (if v1 < (0 : Int32) then L_X8_partingSort_7 k57 n7 t1.1 v3 t1.2 (v3 + (1 : Int32)) else (if (f_J6_bitCount_0f7a4 v2) ≤ (f_J6_bitCount_0f7a4 t1.2) then L_X8_partingSort_7 k57 n7 t1.1 v1 v2 (v3 + (1 : Int32)) else L_X8_partingSort_7 k57 n7 t1.1 v3 t1.2 (v3 + (1 : Int32))))))
def J_X8_partingSort_57 (σ : Zst) (v1 : Int32) (v2 : Int32) : Option (Zst × Int32) :=
  (if v1 < (0 : Int32) then some (σ, v1) else (f_X5_clear σ).bind fun t2 => (f_X5_add t2 (Int32.toInt64 v2)).bind fun t3 => some (t3, v1))
def f_X8_partingSort (σ : Zst)  : Option (Zst × Int32) :=
  L_X8_partingSort_7 (fun σ6 w4 w5 => J_X8_partingSort_57 σ6 w4 w5) zFu σ (-2 : Int32) (0 : Int32) (0 : Int32)
def f_X11_parts (σ : Zst)  : Option (Zst × Int32) :=
  (f_X8_partingSort σ).bind fun t1 => some (t1.1, t1.2)
def f_X7_add (σ : Zst) (p0 : Int32) (p1 : Int32) (p2 : Int32) : Option (Zst × Int32) :=
  (if (f_X10_hasSort σ p0) = (0 : Int32) then some (σ, (-1 : Int32)) else (if (f_X10_hasSort σ p1) = (0 : Int32) then some (σ, (-1 : Int32)) else (if (f_X11_between p2 (1 : Int32) (99 : Int32)) = (0 : Int32) then some (σ, (-1 : Int32)) else (if ((σ.1 21) + p2) ≤ (9999 : Int32) then gIx ((p0 * (8 : Int32)) + p1) 64 (gIx ((p0 * (8 : Int32)) + p1) 64 (some ((zI (zA σ 22 (upd (σ.2.1 22) (Int32.toNatClampNeg ((p0 * (8 : Int32)) + p1)) (((σ.2.1 22) (Int32.toNatClampNeg ((p0 * (8 : Int32)) + p1))) + p2))) 21 ((σ.1 21) + p2)), ((σ.1 21) + p2)))) else some (σ, (-1 : Int32))))))
def f_X11_twice (σ : Zst) (p0 : Int32) (p1 : Int32) (p2 : Int32) : Option (Zst × Int32) :=
  (f_X7_add σ p0 p1 p2).bind fun t1 => some (t1.1, t1.2)
def f_X7_takenAs (σ0 : Zst) (p0 : Int32) (p1 : Int32) : Option Int32 :=
  (if (f_X10_hasSort σ0 p0) = (0 : Int32) then some (0 : Int32) else (if (f_X10_hasSort σ0 p1) = (0 : Int32) then some (0 : Int32) else gIx ((p0 * (8 : Int32)) + p1) 64 (some ((σ0.2.1 22) (Int32.toNatClampNeg ((p0 * (8 : Int32)) + p1))))))
def L_X7_takenByFirst_4 (σ0 : Zst) (v1 : Int32) : Nat → Int32 → Int32 → Option Int32
  | 0, _, _ => none
  | n4 + 1, v2, v3 => (if (f_X10_sortCount σ0) ≤ v3 then some v2 else (f_X7_takenAs σ0 v1 v3).bind fun t1 => L_X7_takenByFirst_4 σ0 v1 n4 (v2 + t1) (v3 + (1 : Int32)))
def f_X7_takenByFirst (σ0 : Zst) (p0 : Int32) : Option Int32 :=
  L_X7_takenByFirst_4 σ0 p0 zFu (0 : Int32) (0 : Int32)
def L_X7_takenBySecond_4 (σ0 : Zst) (v1 : Int32) : Nat → Int32 → Int32 → Option Int32
  | 0, _, _ => none
  | n4 + 1, v2, v3 => (if (f_X10_sortCount σ0) ≤ v3 then some v2 else (f_X7_takenAs σ0 v3 v1).bind fun t1 => L_X7_takenBySecond_4 σ0 v1 n4 (v2 + t1) (v3 + (1 : Int32)))
def f_X7_takenBySecond (σ0 : Zst) (p0 : Int32) : Option Int32 :=
  L_X7_takenBySecond_4 σ0 p0 zFu (0 : Int32) (0 : Int32)
def L_X7_agreed_7 (k54 : Int32 → Int64 → Option (Zst × Int32)) (σ : Zst) : Nat → Int32 → Int64 → Int32 → Option (Zst × Int32)
  | 0, _, _, _ => none
  | n7 + 1, v1, v2, v4 => (if (f_X10_sortCount σ) ≤ v4 then k54 v1 v2 else (f_X7_takenAs σ v4 v4).bind fun t1 => (f_X7_takenByFirst σ v4).bind fun t2 => (f_X7_takenBySecond σ v4).bind fun t3 => L_X7_agreed_7 k54 σ n7 (v1 + t1) (v2 + ((Int32.toInt64 t2) * (Int32.toInt64 t3))) (v4 + (1 : Int32)))
def J_X7_agreed_54 (σ : Zst) (v1 : Int32) (v2 : Int64) : Option (Zst × Int32) :=
  (if (((Int32.toInt64 (σ.1 21)) * (Int32.toInt64 (σ.1 21))) - v2) = (0 : Int64) then some (σ, (-2 : Int32)) else (f_X5_clear σ).bind fun t4 => (f_X5_addFraction t4 (((Int32.toInt64 (t4.1 21)) * (Int32.toInt64 v1)) - v2) (((Int32.toInt64 (σ.1 21)) * (Int32.toInt64 (σ.1 21))) - v2)).bind fun t5 => some (t5, v1))
def f_X7_agreed (σ : Zst)  : Option (Zst × Int32) :=
  L_X7_agreed_7 (fun w6 w7 => J_X7_agreed_54 σ w6 w7) σ zFu (0 : Int32) (0 : Int64) (0 : Int32)
def f_X11_alike (σ : Zst)  : Option (Zst × Int32) :=
  (f_X7_agreed σ).bind fun t1 => some (t1.1, t1.2)
def L_X7_mostMixed_27 (k79 : Int32 → Int32 → Int32 → Option (Zst × Int32)) (σ : Zst) (v4 : Int32) : Nat → Int32 → Int32 → Int32 → Int32 → Option (Zst × Int32)
  | 0, _, _, _, _ => none
  | n27 + 1, v1, v2, v3, v5 => (if (f_X10_sortCount σ) ≤ v5 then k79 v1 v2 v3 else (f_X7_takenAs σ v4 v5).bind fun t1 => (f_X7_takenAs σ v5 v4).bind fun t2 => (if (t1 + t2) ≤ v1 then L_X7_mostMixed_27 k79 σ v4 n27 v1 v2 v3 (v5 + (1 : Int32)) else L_X7_mostMixed_27 k79 σ v4 n27 (t1 + t2) v4 v5 (v5 + (1 : Int32))))
def J_X7_mostMixed_79 (k9 : Int32 → Int32 → Int32 → Int32 → Option (Zst × Int32)) (σ : Zst) (v1 : Int32) (v2 : Int32) (v3 : Int32) (v4 : Int32) : Option (Zst × Int32) :=
  k9 v1 v2 v3 (v4 + (1 : Int32))
def L_X7_mostMixed_9 (k85 : Int32 → Int32 → Int32 → Option (Zst × Int32)) (σ : Zst) : Nat → Int32 → Int32 → Int32 → Int32 → Option (Zst × Int32)
  | 0, _, _, _, _ => none
  | n9 + 1, v1, v2, v3, v4 => (if (f_X10_sortCount σ) ≤ v4 then k85 v1 v2 v3 else L_X7_mostMixed_27 (fun w3 w4 w5 => J_X7_mostMixed_79 (fun w1 w2 w3 w4 => L_X7_mostMixed_9 k85 σ n9 w1 w2 w3 w4) σ w3 w4 w5 v4) σ v4 zFu v1 v2 v3 (v4 + (1 : Int32)))
def J_X7_mostMixed_85 (σ : Zst) (v1 : Int32) (v2 : Int32) (v3 : Int32) : Option (Zst × Int32) :=
  (if v1 ≤ (0 : Int32) then some (σ, v1) else (f_X5_clear σ).bind fun t6 => (f_X5_add t6 (Int32.toInt64 v2)).bind fun t7 => (f_X5_add t7 (Int32.toInt64 v3)).bind fun t8 => some (t8, v1))
def f_X7_mostMixed (σ : Zst)  : Option (Zst × Int32) :=
  L_X7_mostMixed_9 (fun w9 w10 w11 => J_X7_mostMixed_85 σ w9 w10 w11) σ zFu (0 : Int32) (0 : Int32) (0 : Int32) (0 : Int32)
def f_X11_mixed (σ : Zst)  : Option (Zst × Int32) :=
  (f_X7_mostMixed σ).bind fun t1 => some (t1.1, t1.2)
def L_X7_spread_64 (v1 : Int32) (v2 : Int32) (v3 : Int32) : Nat → Zst → Int32 → Int32 → Option (Zst × Int32)
  | 0, _, _, _ => none
  | n64 + 1, σ, v4, v5 => (if (f_X10_sortCount σ) ≤ v5 then some (σ, v4) else (f_X4_of σ (0 : Int32) v2 v1).bind fun t1 => (f_X7_takenAs σ v1 v5).bind fun t2 => gNz v3 ((f_X5_add σ (Int32.toInt64 ((t1 * t2) / v3))).bind fun t3 => L_X7_spread_64 v1 v2 v3 n64 t3 (v4 + ((t1 * t2) / v3)) (v5 + (1 : Int32))))
def f_X7_spread (σ : Zst) (p0 : Int32) (p1 : Int32) : Option (Zst × Int32) :=
  (if (f_X10_hasSort σ p0) = (0 : Int32) then some (σ, (-1 : Int32)) else (if (f_X10_hasCell σ p1) = (0 : Int32) then some (σ, (-1 : Int32)) else (f_X7_takenByFirst σ p0).bind fun t4 => (f_X4_has σ (0 : Int32) p1 p0).bind fun t5 => (if t5 = (0 : Int32) then some (σ, (-2 : Int32)) else (if t4 = (0 : Int32) then some (σ, (-2 : Int32)) else (f_X5_clear σ).bind fun t6 => L_X7_spread_64 p0 p1 t4 zFu t6 (0 : Int32) (0 : Int32)))))
def f_X11_truly (σ : Zst) (p0 : Int32) (p1 : Int32) : Option (Zst × Int32) :=
  (f_X7_spread σ p0 p1).bind fun t1 => some (t1.1, t1.2)
def f_X10_streetCount (σ0 : Zst)  : Int32 :=
  (σ0.1 11)
def L_X6_cameAndWent_34 (k211 : Int32 → Int32 → Int32 → Int32 → Option (Zst × Int32)) (σ : Zst) (v1 : Int32) (v2 : Int32) : Nat → Int32 → Int32 → Int32 → Int32 → Int32 → Option (Zst × Int32)
  | 0, _, _, _, _, _ => none
  | n34 + 1, v3, v4, v5, v6, v7 => (if (f_X10_streetCount σ) ≤ v7 then k211 v3 v4 v5 v6 else (f_X4_has σ (0 : Int32) (((12 : Int32) * v7) + v2) v1).bind fun t1 => (if t1 = (0 : Int32) then L_X6_cameAndWent_34 k211 σ v1 v2 n34 v3 v4 v5 v6 (v7 + (1 : Int32)) else (f_X4_has σ (1 : Int32) (((12 : Int32) * v7) + v2) v1).bind fun t2 => (if t2 = (0 : Int32) then L_X6_cameAndWent_34 k211 σ v1 v2 n34 v3 v4 v5 v6 (v7 + (1 : Int32)) else (f_X4_of σ (0 : Int32) (((12 : Int32) * v7) + v2) v1).bind fun t3 => (f_X4_of σ (1 : Int32) (((12 : Int32) * v7) + v2) v1).bind fun t4 => (f_X10_leavesOf σ v1).bind fun t5 => L_X6_cameAndWent_34 k211 σ v1 v2 n34 (v3 + (if t3 ≤ t4 then (0 : Int32) else (t3 - t4))) (v4 + (if ((t4 * t5) / (100 : Int32)) ≤ t3 then (0 : Int32) else (((t4 * t5) / (100 : Int32)) - t3))) (v5 ||| (if t3 ≤ t4 then (0 : Int32) else (jShl (1 : Int32) v7))) (v6 ||| (if ((t4 * t5) / (100 : Int32)) ≤ t3 then (0 : Int32) else (jShl (1 : Int32) v7))) (v7 + (1 : Int32)))))
def J_X6_cameAndWent_211 (σ : Zst) (v3 : Int32) (v4 : Int32) (v5 : Int32) (v6 : Int32) : Option (Zst × Int32) :=
  (f_X5_clear σ).bind fun t14 => (f_X5_add t14 (Int32.toInt64 v4)).bind fun t15 => (f_X5_add t15 (Int32.toInt64 v5)).bind fun t16 => (f_X5_add t16 (Int32.toInt64 v6)).bind fun t17 => some (t17, v3)
def f_X6_cameAndWent (σ : Zst) (p0 : Int32) (p1 : Int32) : Option (Zst × Int32) :=
  (if (f_X10_hasSort σ p0) = (0 : Int32) then some (σ, (-1 : Int32)) else (if (f_X11_isWeek p1) = (0 : Int32) then some (σ, (-1 : Int32)) else L_X6_cameAndWent_34 (fun w18 w19 w20 w21 => J_X6_cameAndWent_211 σ w18 w19 w20 w21) σ p0 p1 zFu (0 : Int32) (0 : Int32) (0 : Int32) (0 : Int32) (0 : Int32)))
def f_X11_moved (σ : Zst) (p0 : Int32) (p1 : Int32) : Option (Zst × Int32) :=
  (f_X6_cameAndWent σ p0 p1).bind fun t1 => some (t1.1, t1.2)
def L_X6_bagsOf_4 (σ0 : Zst) (v1 : Int32) : Nat → Int32 → Int32 → Option Int32
  | 0, _, _ => none
  | n4 + 1, v2, v3 => (if (f_X10_sortCount σ0) ≤ v3 then some v2 else (f_X4_has σ0 (0 : Int32) v1 v3).bind fun t1 => (if t1 = (0 : Int32) then L_X6_bagsOf_4 σ0 v1 n4 v2 (v3 + (1 : Int32)) else (f_X4_of σ0 (0 : Int32) v1 v3).bind fun t4 => L_X6_bagsOf_4 σ0 v1 n4 ((if (0 : Int32) ≤ v2 then v2 else (0 : Int32)) + t4) (v3 + (1 : Int32))))
def f_X6_bagsOf (σ0 : Zst) (p0 : Int32) : Option Int32 :=
  L_X6_bagsOf_4 σ0 p0 zFu (-1 : Int32) (0 : Int32)
def L_X6_insert_2 (k44 : Zst → Int32 → Option Zst) (v2 : Int32) : Nat → Zst → Int32 → Option Zst
  | 0, _, _ => none
  | n2 + 1, σ, v3 => (if v3 ≤ (0 : Int32) then k44 σ v3 else (if (12 : Int32) ≤ v3 then k44 σ v3 else gIx (v3 - (1 : Int32)) 12 ((if ((σ.2.1 24) (Int32.toNatClampNeg (v3 - (1 : Int32)))) ≤ v2 then k44 σ v3 else gIx (v3 - (1 : Int32)) 12 (gIx v3 12 (L_X6_insert_2 k44 v2 n2 (zA σ 24 (upd (σ.2.1 24) (Int32.toNatClampNeg v3) ((σ.2.1 24) (Int32.toNatClampNeg (v3 - (1 : Int32)))))) (v3 + (-1 : Int32))))))))
def J_X6_insert_44 (σ : Zst) (v2 : Int32) (v3 : Int32) : Option Zst :=
  (if v3 < (0 : Int32) then some σ else (if (12 : Int32) ≤ v3 then some σ else gIx v3 12 (some (zA σ 24 (upd (σ.2.1 24) (Int32.toNatClampNeg v3) v2)))))
def f_X6_insert (σ : Zst) (p0 : Int32) (p1 : Int32) : Option Zst :=
  L_X6_insert_2 (fun σ2 w1 => J_X6_insert_44 σ2 p1 w1) p1 zFu σ p0
def L_X6_feastWeeks_17 (k68 : Zst → Int32 → Option (Zst × Int32)) (v1 : Int32) : Nat → Zst → Int32 → Int32 → Option (Zst × Int32)
  | 0, _, _, _ => none
  | n17 + 1, σ, v2, v3 => (if (12 : Int32) ≤ v3 then k68 σ v2 else (f_X6_bagsOf σ (((12 : Int32) * v1) + v3)).bind fun t1 => gIx v3 12 (gIx v3 12 ((if ((upd (σ.2.1 23) (Int32.toNatClampNeg v3) t1) (Int32.toNatClampNeg v3)) < (0 : Int32) then L_X6_feastWeeks_17 k68 v1 n17 (zA σ 23 (upd (σ.2.1 23) (Int32.toNatClampNeg v3) t1)) v2 (v3 + (1 : Int32)) else gIx v3 12 ((f_X6_insert (zA σ 23 (upd (σ.2.1 23) (Int32.toNatClampNeg v3) t1)) v2 ((upd (σ.2.1 23) (Int32.toNatClampNeg v3) t1) (Int32.toNatClampNeg v3))).bind fun t2 => L_X6_feastWeeks_17 k68 v1 n17 t2 (v2 + (1 : Int32)) (v3 + (1 : Int32)))))))
def L_X6_feastWeeks_91 (σ : Zst) (v3 : Int32) : Nat → Int32 → Int32 → Option (Zst × Int32)
  | 0, _, _ => none
  | n91 + 1, v4, v5 => (if (12 : Int32) ≤ v5 then some (σ, v4) else gIx v5 12 (L_X6_feastWeeks_91 σ v3 n91 (v4 ||| (if ((σ.2.1 23) (Int32.toNatClampNeg v5)) ≤ ((2 : Int32) * v3) then (0 : Int32) else (jShl (1 : Int32) v5))) (v5 + (1 : Int32))))
def J_X6_feastWeeks_68 (σ : Zst) (v2 : Int32) : Option (Zst × Int32) :=
  (if v2 = (0 : Int32) then some (σ, (0 : Int32)) else gIx ((v2 - (1 : Int32)) / (2 : Int32)) 12 (L_X6_feastWeeks_91 σ ((σ.2.1 24) (Int32.toNatClampNeg ((v2 - (1 : Int32)) / (2 : Int32)))) zFu (0 : Int32) (0 : Int32)))
def f_X6_feastWeeks (σ : Zst) (p0 : Int32) : Option (Zst × Int32) :=
  (if (f_X10_hasStreet σ p0) = (0 : Int32) then some (σ, (-1 : Int32)) else L_X6_feastWeeks_17 (fun σ6 w5 => J_X6_feastWeeks_68 σ6 w5) p0 zFu σ (0 : Int32) (0 : Int32))
def f_X11_feasts (σ : Zst) (p0 : Int32) : Option (Zst × Int32) :=
  (f_X6_feastWeeks σ p0).bind fun t1 => some (t1.1, t1.2)
def L_X6_gatherMeans_67 (k139 : Int64 → Int32 → Option Zst) (σ : Zst) (v1 : Int32) (v2 : Int32) (v3 : Int32) (v4 : Int32) (v5 : Int32) (v6 : Int32) : Nat → Int64 → Int32 → Int32 → Option Zst
  | 0, _, _, _ => none
  | n67 + 1, v7, v9, v10 => (if v5 ≤ v10 then k139 v7 v9 else (f_X4_has σ v1 (if v3 = (0 : Int32) then (((12 : Int32) * v6) + v10) else (((12 : Int32) * v10) + v6)) v2).bind fun t3 => (if t3 = (0 : Int32) then L_X6_gatherMeans_67 k139 σ v1 v2 v3 v4 v5 v6 n67 v7 v9 (v10 + (1 : Int32)) else (f_X4_of σ v1 (if v3 = (0 : Int32) then (((12 : Int32) * v6) + v10) else (((12 : Int32) * v10) + v6)) v2).bind fun t4 => L_X6_gatherMeans_67 k139 σ v1 v2 v3 v4 v5 v6 n67 (v7 + (Int32.toInt64 t4)) (v9 + (1 : Int32)) (v10 + (1 : Int32))))
def J_X6_gatherMeans_139 (k44 : Zst → Int32 → Option Zst) (σ : Zst) (v1 : Int32) (v2 : Int32) (v3 : Int32) (v4 : Int32) (v5 : Int32) (v6 : Int32) (v7 : Int64) (v9 : Int32) : Option Zst :=
  (if v9 ≤ (0 : Int32) then k44 σ (v6 + (1 : Int32)) else (if (12 : Int32) ≤ (σ.1 22) then k44 σ (v6 + (1 : Int32)) else gNzL (Int32.toInt64 v9) (gIx (σ.1 22) 12 (k44 (zI (zL σ 5 (vp_updL (σ.2.2.1 5) (Int32.toNatClampNeg (σ.1 22)) ((v7 * (27720 : Int64)) / (Int32.toInt64 v9)))) 22 ((σ.1 22) + (1 : Int32))) (v6 + (1 : Int32))))))
def L_X6_gatherMeans_44 (v1 : Int32) (v2 : Int32) (v3 : Int32) (v4 : Int32) (v5 : Int32) : Nat → Zst → Int32 → Option Zst
  | 0, _, _ => none
  | n44 + 1, σ, v6 => (if v4 ≤ v6 then some σ else (if (12 : Int32) ≤ v6 then some σ else L_X6_gatherMeans_67 (fun w5 w6 => J_X6_gatherMeans_139 (fun σ w6 => L_X6_gatherMeans_44 v1 v2 v3 v4 v5 n44 σ w6) σ v1 v2 v3 v4 v5 v6 w5 w6) σ v1 v2 v3 v4 v5 v6 zFu (0 : Int64) (0 : Int32) (0 : Int32)))
def f_X6_gatherMeans (σ : Zst) (p0 : Int32) (p1 : Int32) (p2 : Int32) : Option Zst :=
  L_X6_gatherMeans_44 p0 p1 p2 (if p2 = (0 : Int32) then (f_X10_streetCount (zI σ 22 (0 : Int32))) else (12 : Int32)) (if p2 = (0 : Int32) then (12 : Int32) else (f_X10_streetCount (zI σ 22 (0 : Int32)))) zFu (zI σ 22 (0 : Int32)) (0 : Int32)
def L_J7_fill_53178_42_5 (v1 : Int32) (v3 : Int32) : Nat → Zst → Int32 → Option Zst
  | 0, _, _ => none
  | n5 + 1, σ, v2 => (if v3 ≤ v2 then some σ else gIx v2 13 (L_J7_fill_53178_42_5 v1 v3 n5 (zA σ 25 (upd (σ.2.1 25) (Int32.toNatClampNeg v2) v1)) (v2 + (1 : Int32))))
def f_J7_fill_53178_42 (σ : Zst) (p0 : Int32) : Option Zst :=
  L_J7_fill_53178_42_5 p0 (13 : Int32) zFu σ (0 : Int32)
def L_J7_fill_53178_43_5 (v1 : Int32) (v3 : Int32) : Nat → Zst → Int32 → Option Zst
  | 0, _, _ => none
  | n5 + 1, σ, v2 => (if v3 ≤ v2 then some σ else gIx v2 13 (L_J7_fill_53178_43_5 v1 v3 n5 (zA σ 26 (upd (σ.2.1 26) (Int32.toNatClampNeg v2) v1)) (v2 + (1 : Int32))))
def f_J7_fill_53178_43 (σ : Zst) (p0 : Int32) : Option Zst :=
  L_J7_fill_53178_43_5 p0 (13 : Int32) zFu σ (0 : Int32)
def J_J6_numberOfTrailingZeros_0f7a4_62 (v0 : Int32) (v1 : Int32) : Int32 :=
  (if v0 ≤ (4 : Int32) then (v1 + (jUshr v0 (1 : Int32))) else ((v1 + (2 : Int32)) + (jUshr (jUshr v0 (2 : Int32)) (1 : Int32))))
def J_J6_numberOfTrailingZeros_0f7a4_49 (v0 : Int32) (v1 : Int32) : Int32 :=
  (if v0 ≤ (16 : Int32) then J_J6_numberOfTrailingZeros_0f7a4_62 v0 v1 else J_J6_numberOfTrailingZeros_0f7a4_62 (jUshr v0 (4 : Int32)) (v1 + (4 : Int32)))
def J_J6_numberOfTrailingZeros_0f7a4_34 (v0 : Int32) (v1 : Int32) : Int32 :=
  (if v0 ≤ (256 : Int32) then J_J6_numberOfTrailingZeros_0f7a4_49 v0 v1 else J_J6_numberOfTrailingZeros_0f7a4_49 (jUshr v0 (8 : Int32)) (v1 + (8 : Int32)))
def f_J6_numberOfTrailingZeros_0f7a4 (p0 : Int32) : Int32 :=
  (if (0 : Int32) < ((p0 ^^^ (-1 : Int32)) &&& (p0 - (1 : Int32))) then (if ((p0 ^^^ (-1 : Int32)) &&& (p0 - (1 : Int32))) ≤ (65536 : Int32) then J_J6_numberOfTrailingZeros_0f7a4_34 ((p0 ^^^ (-1 : Int32)) &&& (p0 - (1 : Int32))) (1 : Int32) else J_J6_numberOfTrailingZeros_0f7a4_34 (jUshr ((p0 ^^^ (-1 : Int32)) &&& (p0 - (1 : Int32))) (16 : Int32)) ((1 : Int32) + (16 : Int32))) else (((p0 ^^^ (-1 : Int32)) &&& (p0 - (1 : Int32))) &&& (32 : Int32)))
def L_X6_countWays_21 (k53 : Int64 → Option Zst) (σ : Zst) (v1 : Int32) : Nat → Int64 → Int32 → Option Zst
  | 0, _, _ => none
  | n21 + 1, v2, v4 => (if (σ.1 22) ≤ v4 then k53 v2 else (if (12 : Int32) ≤ v4 then k53 v2 else gIx v4 12 (L_X6_countWays_21 k53 σ v1 n21 (v2 + ((σ.2.2.1 5) (Int32.toNatClampNeg v4))) (v4 + (1 : Int32)))))
def J_X6_countWays_130 (k62 : Zst → Int32 → Int64 → Int32 → Option Zst) (σ : Zst) (v1 : Int32) (v2 : Int64) (v4 : Int32) (v7 : Int32) (s0 : Int64) (s1 : Int64) : Option Zst :=
  (if (12 : Int32) < (f_J6_bitCount_0f7a4 v4) then k62 σ v4 (s1 + s0) (v7 + (1 : Int32)) else gIx (f_J6_bitCount_0f7a4 v4) 13 (gIx (f_J6_bitCount_0f7a4 v4) 13 (gIx (f_J6_bitCount_0f7a4 v4) 13 (gIx (f_J6_bitCount_0f7a4 v4) 13 (k62 (zA (zA σ 25 (upd (σ.2.1 25) (Int32.toNatClampNeg (f_J6_bitCount_0f7a4 v4)) (((σ.2.1 25) (Int32.toNatClampNeg (f_J6_bitCount_0f7a4 v4))) + (1 : Int32)))) 26 (upd (σ.2.1 26) (Int32.toNatClampNeg (f_J6_bitCount_0f7a4 v4)) (((σ.2.1 26) (Int32.toNatClampNeg (f_J6_bitCount_0f7a4 v4))) + (if ((((Int32.toInt64 v1) * (27720 : Int64)) * (Int32.toInt64 (σ.1 22))) * (Int32.toInt64 (f_J6_bitCount_0f7a4 v4))) < (jAbsL (((s1 + s0) * (Int32.toInt64 (σ.1 22))) - (v2 * (Int32.toInt64 (f_J6_bitCount_0f7a4 v4))))) then (0 : Int32) else (1 : Int32))))) v4 (s1 + s0) (v7 + (1 : Int32)))))))
def L_X6_countWays_62 (v1 : Int32) (v2 : Int64) : Nat → Zst → Int32 → Int64 → Int32 → Option Zst
  | 0, _, _, _, _ => none
  | n62 + 1, σ, v4, v5, v7 => (if (jShl (1 : Int32) (σ.1 22)) ≤ v7 then some σ else (if (f_J6_numberOfTrailingZeros_0f7a4 v7) < (12 : Int32) then (if (f_X11_hasBit (v4 ^^^ (jShl (1 : Int32) (f_J6_numberOfTrailingZeros_0f7a4 v7))) (f_J6_numberOfTrailingZeros_0f7a4 v7)) = (0 : Int32) then gIx (f_J6_numberOfTrailingZeros_0f7a4 v7) 12 (J_X6_countWays_130 (fun σ w4 w5 w7 => L_X6_countWays_62 v1 v2 n62 σ w4 w5 w7) σ v1 v2 (v4 ^^^ (jShl (1 : Int32) (f_J6_numberOfTrailingZeros_0f7a4 v7))) v7 (-((σ.2.2.1 5) (Int32.toNatClampNeg (f_J6_numberOfTrailingZeros_0f7a4 v7)))) v5) else gIx (f_J6_numberOfTrailingZeros_0f7a4 v7) 12 (J_X6_countWays_130 (fun σ w4 w5 w7 => L_X6_countWays_62 v1 v2 n62 σ w4 w5 w7) σ v1 v2 (v4 ^^^ (jShl (1 : Int32) (f_J6_numberOfTrailingZeros_0f7a4 v7))) v7 ((σ.2.2.1 5) (Int32.toNatClampNeg (f_J6_numberOfTrailingZeros_0f7a4 v7))) v5)) else J_X6_countWays_130 (fun σ w4 w5 w7 => L_X6_countWays_62 v1 v2 n62 σ w4 w5 w7) σ v1 v2 (v4 ^^^ (jShl (1 : Int32) (f_J6_numberOfTrailingZeros_0f7a4 v7))) v7 (0 : Int64) v5))
def J_X6_countWays_53 (σ : Zst) (v1 : Int32) (v2 : Int64) : Option Zst :=
  L_X6_countWays_62 v1 v2 zFu σ (0 : Int32) (0 : Int64) (1 : Int32)
def f_X6_countWays (σ : Zst) (p0 : Int32) : Option Zst :=
  (f_J7_fill_53178_42 σ (0 : Int32)).bind fun t3 => (f_J7_fill_53178_43 t3 (0 : Int32)).bind fun t4 => L_X6_countWays_21 (fun w5 => J_X6_countWays_53 t4 p0 w5) t4 p0 zFu (0 : Int64) (0 : Int32)
def L_X6_fewest_70 (k109 : Int32 → Option (Zst × Int32)) (σ : Zst) (v4 : Int32) : Nat → Int32 → Option (Zst × Int32)
  | 0, _ => none
  | n70 + 1, v7 => (if (σ.1 22) < v7 then some (σ, (-2 : Int32)) else (if (12 : Int32) < v7 then some (σ, (-2 : Int32)) else gIx v7 13 (gIx v7 13 ((if (((σ.2.1 26) (Int32.toNatClampNeg v7)) * (100 : Int32)) < (v4 * ((σ.2.1 25) (Int32.toNatClampNeg v7))) then L_X6_fewest_70 k109 σ v4 n70 (v7 + (1 : Int32)) else k109 v7)))))
def J_X6_fewest_109 (σ : Zst) (v7 : Int32) : Option (Zst × Int32) :=
  (f_X5_clear σ).bind fun t1 => gIx v7 13 ((f_X5_add t1 (Int32.toInt64 ((t1.2.1 26) (Int32.toNatClampNeg v7)))).bind fun t2 => gIx v7 13 ((f_X5_add t2 (Int32.toInt64 ((t2.2.1 25) (Int32.toNatClampNeg v7)))).bind fun t3 => some (t3, v7)))
def f_X6_fewest (σ : Zst) (p0 : Int32) (p1 : Int32) (p2 : Int32) (p3 : Int32) (p4 : Int32) : Option (Zst × Int32) :=
  (if (f_X11_isKind p0) = (0 : Int32) then some (σ, (-1 : Int32)) else (if (f_X10_hasSort σ p1) = (0 : Int32) then some (σ, (-1 : Int32)) else (if (if (f_X11_between p2 (0 : Int32) (999 : Int32)) = (0 : Int32) then (0 : Int32) else (if (f_X11_between p3 (1 : Int32) (100 : Int32)) = (0 : Int32) then (0 : Int32) else (1 : Int32))) = (0 : Int32) then some (σ, (-1 : Int32)) else (f_X6_gatherMeans σ p0 p1 p4).bind fun t7 => (f_X6_countWays t7 p2).bind fun t8 => L_X6_fewest_70 (fun w9 => J_X6_fewest_109 t8 w9) t8 p3 zFu (1 : Int32))))
def f_X11_need (σ : Zst) (p0 : Int32) (p1 : Int32) (p2 : Int32) (p3 : Int32) : Option (Zst × Int32) :=
  (f_X6_fewest σ p0 p1 p2 p3 (0 : Int32)).bind fun t1 => some (t1.1, t1.2)
def f_X11_weeks (σ : Zst) (p0 : Int32) (p1 : Int32) (p2 : Int32) (p3 : Int32) : Option (Zst × Int32) :=
  (f_X6_fewest σ p0 p1 p2 p3 (1 : Int32)).bind fun t1 => some (t1.1, t1.2)
def f_X3_isLayer (p0 : Int32) : Int32 :=
  (f_X11_between p0 (0 : Int32) (9 : Int32))
theorem bo_X3_isLayer (p0 : Int32) : f_X3_isLayer p0 = 0 ∨ f_X3_isLayer p0 = 1 := by
  unfold f_X3_isLayer
  repeat' split
  all_goals first | exact Or.inl rfl | exact Or.inr rfl | exact (bo_X11_between p0 (0 : Int32) (9 : Int32))
def f_X3_clash (σ0 : Zst) (p0 : Int32) (p1 : Int32) : Option Int32 :=
  (if (if (f_X11_between p0 (0 : Int32) (11 : Int32)) = (0 : Int32) then (0 : Int32) else (if (f_X11_between p1 (0 : Int32) (11 : Int32)) = (0 : Int32) then (0 : Int32) else (1 : Int32))) = (0 : Int32) then some (0 : Int32) else gIx p0 12 (gIx p1 12 ((if ((σ0.2.1 27) (Int32.toNatClampNeg p1)) < ((σ0.2.1 27) (Int32.toNatClampNeg p0)) then some (0 : Int32) else gIx p1 12 (gIx p0 12 (some (if ((σ0.2.1 28) (Int32.toNatClampNeg p1)) ≤ ((σ0.2.1 29) (Int32.toNatClampNeg p0)) then (0 : Int32) else (1 : Int32))))))))
def J_X3_addPaper_127 (k92 : Zst → Int32 → Option (Zst × Int32)) (σ : Zst) (v5 : Int32) : Option (Zst × Int32) :=
  gIx (σ.1 23) 12 (gIx (σ.1 23) 12 (k92 (zA σ 30 (upd (σ.2.1 30) (Int32.toNatClampNeg (σ.1 23)) (((σ.2.1 30) (Int32.toNatClampNeg (σ.1 23))) ||| (jShl (1 : Int32) v5)))) (v5 + (1 : Int32))))
def L_X3_addPaper_92 (k149 : Zst → Option (Zst × Int32)) : Nat → Zst → Int32 → Option (Zst × Int32)
  | 0, _, _ => none
  | n92 + 1, σ, v5 => (if (σ.1 23) ≤ v5 then k149 σ else (f_X3_clash σ v5 (σ.1 23)).bind fun t1 => (if t1 = (0 : Int32) then (f_X3_clash σ (σ.1 23) v5).bind fun t2 => (if t2 = (0 : Int32) then L_X3_addPaper_92 k149 n92 σ (v5 + (1 : Int32)) else J_X3_addPaper_127 (fun σ w5 => L_X3_addPaper_92 k149 n92 σ w5) σ v5) else J_X3_addPaper_127 (fun σ w5 => L_X3_addPaper_92 k149 n92 σ w5) σ v5))
def J_X3_addPaper_149 (σ : Zst) : Option (Zst × Int32) :=
  some ((zI σ 23 ((σ.1 23) + (1 : Int32))), ((σ.1 23) + (1 : Int32)))
def f_X3_addPaper (σ : Zst) (p0 : Int32) (p1 : Int32) (p2 : Int32) : Option (Zst × Int32) :=
  (if (f_X3_isLayer p0) = (0 : Int32) then some (σ, (-1 : Int32)) else (if (if p1 < (1900 : Int32) then (0 : Int32) else (if p2 < p1 then (0 : Int32) else (if (2100 : Int32) < p2 then (0 : Int32) else (1 : Int32)))) = (0 : Int32) then some (σ, (-1 : Int32)) else (if (σ.1 23) < (12 : Int32) then gIx (σ.1 23) 12 (gIx (σ.1 23) 12 (gIx (σ.1 23) 12 (gIx (σ.1 23) 12 (L_X3_addPaper_92 (fun σ7 => J_X3_addPaper_149 σ7) zFu (zA (zA (zA (zA σ 27 (upd (σ.2.1 27) (Int32.toNatClampNeg (σ.1 23)) p0)) 28 (upd (σ.2.1 28) (Int32.toNatClampNeg (σ.1 23)) p1)) 29 (upd (σ.2.1 29) (Int32.toNatClampNeg (σ.1 23)) p2)) 30 (upd (σ.2.1 30) (Int32.toNatClampNeg (σ.1 23)) (0 : Int32))) (0 : Int32))))) else some (σ, (-1 : Int32)))))
def f_X11_paper (σ : Zst) (p0 : Int32) (p1 : Int32) (p2 : Int32) : Option (Zst × Int32) :=
  (f_X3_addPaper σ p0 p1 p2).bind fun t1 => some (t1.1, t1.2)
def f_X3_allPapers (σ0 : Zst)  : Int32 :=
  ((jShl (1 : Int32) (σ0.1 23)) - (1 : Int32))
def L_X3_goTogether_2 (σ0 : Zst) (v1 : Int32) : Nat → Int32 → Option Int32
  | 0, _ => none
  | n2 + 1, v2 => (if (σ0.1 23) ≤ v2 then some (1 : Int32) else (if (12 : Int32) ≤ v2 then some (1 : Int32) else (if (f_X11_hasBit v1 v2) = (0 : Int32) then L_X3_goTogether_2 σ0 v1 n2 (v2 + (1 : Int32)) else gIx v2 12 ((if (((σ0.2.1 30) (Int32.toNatClampNeg v2)) &&& v1) = (0 : Int32) then L_X3_goTogether_2 σ0 v1 n2 (v2 + (1 : Int32)) else some (0 : Int32))))))
def f_X3_goTogether (σ0 : Zst) (p0 : Int32) : Option Int32 :=
  L_X3_goTogether_2 σ0 p0 zFu (0 : Int32)
def L_X3_firstYearOf_6 (σ0 : Zst) (v1 : Int32) : Nat → Int32 → Int32 → Option Int32
  | 0, _, _ => none
  | n6 + 1, v2, v3 => (if (σ0.1 23) ≤ v3 then some v2 else (if (12 : Int32) ≤ v3 then some v2 else gIx v3 12 ((if ((σ0.2.1 27) (Int32.toNatClampNeg v3)) < v1 then L_X3_firstYearOf_6 σ0 v1 n6 v2 (v3 + (1 : Int32)) else gIx v3 12 (L_X3_firstYearOf_6 σ0 v1 n6 (jMax v2 ((σ0.2.1 28) (Int32.toNatClampNeg v3))) (v3 + (1 : Int32)))))))
def f_X3_firstYearOf (σ0 : Zst) (p0 : Int32) : Option Int32 :=
  L_X3_firstYearOf_6 σ0 p0 zFu (1900 : Int32) (0 : Int32)
def L_X3_lastYearOf_6 (σ0 : Zst) (v1 : Int32) : Nat → Int32 → Int32 → Option Int32
  | 0, _, _ => none
  | n6 + 1, v2, v3 => (if (σ0.1 23) ≤ v3 then some v2 else (if (12 : Int32) ≤ v3 then some v2 else gIx v3 12 ((if v1 < ((σ0.2.1 27) (Int32.toNatClampNeg v3)) then L_X3_lastYearOf_6 σ0 v1 n6 v2 (v3 + (1 : Int32)) else gIx v3 12 (L_X3_lastYearOf_6 σ0 v1 n6 (jMin v2 ((σ0.2.1 29) (Int32.toNatClampNeg v3))) (v3 + (1 : Int32)))))))
def f_X3_lastYearOf (σ0 : Zst) (p0 : Int32) : Option Int32 :=
  L_X3_lastYearOf_6 σ0 p0 zFu (2100 : Int32) (0 : Int32)
def f_X3_yearsOf (σ : Zst) (p0 : Int32) : Option (Zst × Int32) :=
  (if (f_X3_isLayer p0) = (0 : Int32) then some (σ, (-1 : Int32)) else (f_X3_goTogether σ (f_X3_allPapers σ)).bind fun t1 => (if t1 = (0 : Int32) then some (σ, (-2 : Int32)) else (f_X3_firstYearOf σ p0).bind fun t2 => (f_X3_lastYearOf σ p0).bind fun t3 => (f_X5_clear σ).bind fun t4 => (f_X5_add t4 (Int32.toInt64 t2)).bind fun t5 => (f_X5_add t5 (Int32.toInt64 t3)).bind fun t6 => some (t6, ((t3 - t2) + (1 : Int32)))))
def f_X11_year (σ : Zst) (p0 : Int32) : Option (Zst × Int32) :=
  (f_X3_yearsOf σ p0).bind fun t1 => some (t1.1, t1.2)
def L_X3_fewestOut_7 (k49 : Int32 → Option (Zst × Int32)) (σ : Zst) : Nat → Int32 → Int32 → Option (Zst × Int32)
  | 0, _, _ => none
  | n7 + 1, v1, v2 => (if (f_X3_allPapers σ) < v2 then k49 v1 else (if (f_J6_bitCount_0f7a4 v1) ≤ (f_J6_bitCount_0f7a4 v2) then L_X3_fewestOut_7 k49 σ n7 v1 (v2 + (1 : Int32)) else (f_X3_goTogether σ ((f_X3_allPapers σ) &&& (v2 ^^^ (-1 : Int32)))).bind fun t1 => (if t1 = (0 : Int32) then L_X3_fewestOut_7 k49 σ n7 v1 (v2 + (1 : Int32)) else L_X3_fewestOut_7 k49 σ n7 v2 (v2 + (1 : Int32)))))
def J_X3_fewestOut_49 (σ : Zst) (v1 : Int32) : Option (Zst × Int32) :=
  (f_X5_clear σ).bind fun t2 => (f_X5_add t2 (Int32.toInt64 v1)).bind fun t3 => some (t3, (f_J6_bitCount_0f7a4 v1))
def f_X3_fewestOut (σ : Zst)  : Option (Zst × Int32) :=
  L_X3_fewestOut_7 (fun w4 => J_X3_fewestOut_49 σ w4) σ zFu (f_X3_allPapers σ) (0 : Int32)
def f_X11_stray (σ : Zst)  : Option (Zst × Int32) :=
  (f_X3_fewestOut σ).bind fun t1 => some (t1.1, t1.2)
def f_X10_lastsOf (σ0 : Zst) (p0 : Int32) : Option Int32 :=
  (if (f_X10_hasSort σ0 p0) = (0 : Int32) then some (1 : Int32) else gIx p0 8 (some ((σ0.2.1 12) (Int32.toNatClampNeg p0))))
def L_X3_grown_20 (k47 : Int64 → Int64 → Option Int64) (v1 : Int32) (v3 : Int32) : Nat → Int64 → Int64 → Int32 → Option Int64
  | 0, _, _, _ => none
  | n20 + 1, v4, v6, v8 => (if v3 ≤ v8 then k47 v4 v6 else L_X3_grown_20 k47 v1 v3 n20 (v4 * (100 : Int64)) (v6 * (Int32.toInt64 v1)) (v8 + (1 : Int32)))
def J_X3_grown_47 (v4 : Int64) (v6 : Int64) : Option Int64 :=
  (if v6 ≤ (0 : Int64) then some (0 : Int64) else gNzL v6 (some (v4 / v6)))
def f_X3_grown (p0 : Int32) (p1 : Int32) (p2 : Int32) : Option Int64 :=
  L_X3_grown_20 (fun w1 w2 => J_X3_grown_47 w1 w2) p1 (f_X11_within (p2 / (10 : Int32)) (0 : Int32) (4 : Int32)) zFu (Int32.toInt64 p0) (1 : Int64) (0 : Int32)
def f_X3_thrownOnce (σ : Zst) (p0 : Int32) (p1 : Int32) (p2 : Int32) (p3 : Int32) : Option (Zst × Int32) :=
  (if (f_X3_isLayer p0) = (0 : Int32) then some (σ, (-1 : Int32)) else (if (f_X10_hasSort σ p1) = (0 : Int32) then some (σ, (-1 : Int32)) else (if (if (f_X11_between p2 (0 : Int32) (9999 : Int32)) = (0 : Int32) then (0 : Int32) else (if (f_X11_between p3 (1900 : Int32) (2100 : Int32)) = (0 : Int32) then (0 : Int32) else (1 : Int32))) = (0 : Int32) then some (σ, (-1 : Int32)) else (f_X3_goTogether σ (f_X3_allPapers σ)).bind fun t4 => (if t4 = (0 : Int32) then some (σ, (-2 : Int32)) else (f_X10_lastsOf σ p1).bind fun t5 => (f_X5_clear σ).bind fun t6 => (f_X3_lastYearOf t6 p0).bind fun t7 => (f_X3_grown p2 t5 (p3 - t7)).bind fun t8 => (f_X5_add t6 t8).bind fun t9 => (f_X3_firstYearOf t9 p0).bind fun t10 => (f_X3_grown p2 t5 (p3 - t10)).bind fun t11 => (f_X5_add t9 t11).bind fun t12 => some (t12, (0 : Int32))))))
def f_X11_was (σ : Zst) (p0 : Int32) (p1 : Int32) (p2 : Int32) (p3 : Int32) : Option (Zst × Int32) :=
  (f_X3_thrownOnce σ p0 p1 p2 p3).bind fun t1 => some (t1.1, t1.2)
def f_X10_setTold (σ : Zst) (p0 : Int32) (p1 : Int32) : Option (Zst × Int32) :=
  (if (f_X10_hasStreet σ p0) = (0 : Int32) then some (σ, (0 : Int32)) else (if p1 = (-1 : Int32) then gIx p0 8 (some ((zA σ 18 (upd (σ.2.1 18) (Int32.toNatClampNeg p0) p1)), (1 : Int32))) else (if (f_X11_isWeek p1) = (0 : Int32) then some (σ, (0 : Int32)) else gIx p0 8 (some ((zA σ 18 (upd (σ.2.1 18) (Int32.toNatClampNeg p0) p1)), (1 : Int32))))))
def f_X11_told (σ : Zst) (p0 : Int32) (p1 : Int32) : Option (Zst × Int32) :=
  (f_X10_setTold σ p0 p1).bind fun t1 => gBo t1.2 (some (t1.1, t1.2))
def L_J7_fill_d0a16_44_6 (v1 : Int64) (v4 : Int32) : Nat → Zst → Int32 → Option Zst
  | 0, _, _ => none
  | n6 + 1, σ, v3 => (if v4 ≤ v3 then some σ else gIx v3 4 (L_J7_fill_d0a16_44_6 v1 v4 n6 (zL σ 6 (vp_updL (σ.2.2.1 6) (Int32.toNatClampNeg v3) v1)) (v3 + (1 : Int32))))
def f_J7_fill_d0a16_44 (σ : Zst) (p0 : Int64) : Option Zst :=
  L_J7_fill_d0a16_44_6 p0 (4 : Int32) zFu σ (0 : Int32)
def L_J7_fill_d0a16_45_6 (v1 : Int64) (v4 : Int32) : Nat → Zst → Int32 → Option Zst
  | 0, _, _ => none
  | n6 + 1, σ, v3 => (if v4 ≤ v3 then some σ else gIx v3 4 (L_J7_fill_d0a16_45_6 v1 v4 n6 (zL σ 7 (vp_updL (σ.2.2.1 7) (Int32.toNatClampNeg v3) v1)) (v3 + (1 : Int32))))
def f_J7_fill_d0a16_45 (σ : Zst) (p0 : Int64) : Option Zst :=
  L_J7_fill_d0a16_45_6 p0 (4 : Int32) zFu σ (0 : Int32)
def f_X10_toldFromOf (σ0 : Zst) (p0 : Int32) : Option Int32 :=
  (if (f_X10_hasStreet σ0 p0) = (0 : Int32) then some (-1 : Int32) else gIx p0 8 (some ((σ0.2.1 18) (Int32.toNatClampNeg p0))))
def L_X6_gatherGroups_19 (v1 : Int32) (v2 : Int32) (v3 : Int32) : Nat → Zst → Int32 → Option Zst
  | 0, _, _ => none
  | n19 + 1, σ, v4 => (if (f_X10_cellCount σ) ≤ v4 then some σ else (f_X10_toldFromOf σ (v4 / (12 : Int32))).bind fun t1 => (if v3 < t1 then L_X6_gatherGroups_19 v1 v2 v3 n19 σ (v4 + (1 : Int32)) else (f_X4_has σ v1 v4 v2).bind fun t2 => (if t2 = (0 : Int32) then L_X6_gatherGroups_19 v1 v2 v3 n19 σ (v4 + (1 : Int32)) else gIx (if t1 = (-1 : Int32) then (if (if v3 ≤ (jRem v4 (12 : Int32)) then (0 : Int32) else (1 : Int32)) = (0 : Int32) then (3 : Int32) else (2 : Int32)) else (if (if v3 ≤ (jRem v4 (12 : Int32)) then (0 : Int32) else (1 : Int32)) = (0 : Int32) then (1 : Int32) else (0 : Int32))) 4 ((f_X4_of σ v1 v4 v2).bind fun t11 => gIx (if t1 = (-1 : Int32) then (if (if v3 ≤ (jRem v4 (12 : Int32)) then (0 : Int32) else (1 : Int32)) = (0 : Int32) then (3 : Int32) else (2 : Int32)) else (if (if v3 ≤ (jRem v4 (12 : Int32)) then (0 : Int32) else (1 : Int32)) = (0 : Int32) then (1 : Int32) else (0 : Int32))) 4 (gIx (if t1 = (-1 : Int32) then (if (if v3 ≤ (jRem v4 (12 : Int32)) then (0 : Int32) else (1 : Int32)) = (0 : Int32) then (3 : Int32) else (2 : Int32)) else (if (if v3 ≤ (jRem v4 (12 : Int32)) then (0 : Int32) else (1 : Int32)) = (0 : Int32) then (1 : Int32) else (0 : Int32))) 4 (gIx (if t1 = (-1 : Int32) then (if (if v3 ≤ (jRem v4 (12 : Int32)) then (0 : Int32) else (1 : Int32)) = (0 : Int32) then (3 : Int32) else (2 : Int32)) else (if (if v3 ≤ (jRem v4 (12 : Int32)) then (0 : Int32) else (1 : Int32)) = (0 : Int32) then (1 : Int32) else (0 : Int32))) 4 (L_X6_gatherGroups_19 v1 v2 v3 n19 (zL (zL σ 6 (vp_updL (σ.2.2.1 6) (Int32.toNatClampNeg (if t1 = (-1 : Int32) then (if (if v3 ≤ (jRem v4 (12 : Int32)) then (0 : Int32) else (1 : Int32)) = (0 : Int32) then (3 : Int32) else (2 : Int32)) else (if (if v3 ≤ (jRem v4 (12 : Int32)) then (0 : Int32) else (1 : Int32)) = (0 : Int32) then (1 : Int32) else (0 : Int32)))) (((σ.2.2.1 6) (Int32.toNatClampNeg (if t1 = (-1 : Int32) then (if (if v3 ≤ (jRem v4 (12 : Int32)) then (0 : Int32) else (1 : Int32)) = (0 : Int32) then (3 : Int32) else (2 : Int32)) else (if (if v3 ≤ (jRem v4 (12 : Int32)) then (0 : Int32) else (1 : Int32)) = (0 : Int32) then (1 : Int32) else (0 : Int32))))) + (Int32.toInt64 t11)))) 7 (vp_updL (σ.2.2.1 7) (Int32.toNatClampNeg (if t1 = (-1 : Int32) then (if (if v3 ≤ (jRem v4 (12 : Int32)) then (0 : Int32) else (1 : Int32)) = (0 : Int32) then (3 : Int32) else (2 : Int32)) else (if (if v3 ≤ (jRem v4 (12 : Int32)) then (0 : Int32) else (1 : Int32)) = (0 : Int32) then (1 : Int32) else (0 : Int32)))) (((σ.2.2.1 7) (Int32.toNatClampNeg (if t1 = (-1 : Int32) then (if (if v3 ≤ (jRem v4 (12 : Int32)) then (0 : Int32) else (1 : Int32)) = (0 : Int32) then (3 : Int32) else (2 : Int32)) else (if (if v3 ≤ (jRem v4 (12 : Int32)) then (0 : Int32) else (1 : Int32)) = (0 : Int32) then (1 : Int32) else (0 : Int32))))) + (1 : Int64)))) (v4 + (1 : Int32)))))))))
def f_X6_gatherGroups (σ : Zst) (p0 : Int32) (p1 : Int32) (p2 : Int32) : Option Zst :=
  (f_J7_fill_d0a16_44 σ (0 : Int64)).bind fun t12 => (f_J7_fill_d0a16_45 t12 (0 : Int64)).bind fun t13 => L_X6_gatherGroups_19 p0 p1 p2 zFu t13 (0 : Int32)
def f_X6_effect (σ : Zst) (p0 : Int32) (p1 : Int32) (p2 : Int32) : Option (Zst × Int32) :=
  (if (f_X11_isKind p0) = (0 : Int32) then some (σ, (-1 : Int32)) else (if (f_X10_hasSort σ p1) = (0 : Int32) then some (σ, (-1 : Int32)) else (if (f_X11_between p2 (1 : Int32) (11 : Int32)) = (0 : Int32) then some (σ, (-1 : Int32)) else (f_X6_gatherGroups σ p0 p1 p2).bind fun t1 => (if (((t1.2.2.1 7) (Int32.toNatClampNeg (0 : Int32))) * ((t1.2.2.1 7) (Int32.toNatClampNeg (1 : Int32)))) = (0 : Int64) then some (t1, (-2 : Int32)) else (if (((t1.2.2.1 7) (Int32.toNatClampNeg (2 : Int32))) * ((t1.2.2.1 7) (Int32.toNatClampNeg (3 : Int32)))) = (0 : Int64) then some (t1, (-2 : Int32)) else (f_X5_clear t1).bind fun t2 => (f_X5_addFraction t2 ((((((t1.2.2.1 6) (Int32.toNatClampNeg (1 : Int32))) * ((t1.2.2.1 7) (Int32.toNatClampNeg (0 : Int32)))) - (((t1.2.2.1 6) (Int32.toNatClampNeg (0 : Int32))) * ((t1.2.2.1 7) (Int32.toNatClampNeg (1 : Int32))))) * (((t1.2.2.1 7) (Int32.toNatClampNeg (2 : Int32))) * ((t1.2.2.1 7) (Int32.toNatClampNeg (3 : Int32))))) - (((((t1.2.2.1 6) (Int32.toNatClampNeg (3 : Int32))) * ((t1.2.2.1 7) (Int32.toNatClampNeg (2 : Int32)))) - (((t1.2.2.1 6) (Int32.toNatClampNeg (2 : Int32))) * ((t1.2.2.1 7) (Int32.toNatClampNeg (3 : Int32))))) * (((t1.2.2.1 7) (Int32.toNatClampNeg (0 : Int32))) * ((t1.2.2.1 7) (Int32.toNatClampNeg (1 : Int32)))))) ((((t1.2.2.1 7) (Int32.toNatClampNeg (0 : Int32))) * ((t1.2.2.1 7) (Int32.toNatClampNeg (1 : Int32)))) * (((t1.2.2.1 7) (Int32.toNatClampNeg (2 : Int32))) * ((t1.2.2.1 7) (Int32.toNatClampNeg (3 : Int32)))))).bind fun t3 => some (t3, (if ((((((t1.2.2.1 6) (Int32.toNatClampNeg (1 : Int32))) * ((t1.2.2.1 7) (Int32.toNatClampNeg (0 : Int32)))) - (((t1.2.2.1 6) (Int32.toNatClampNeg (0 : Int32))) * ((t1.2.2.1 7) (Int32.toNatClampNeg (1 : Int32))))) * (((t1.2.2.1 7) (Int32.toNatClampNeg (2 : Int32))) * ((t1.2.2.1 7) (Int32.toNatClampNeg (3 : Int32))))) - (((((t1.2.2.1 6) (Int32.toNatClampNeg (3 : Int32))) * ((t1.2.2.1 7) (Int32.toNatClampNeg (2 : Int32)))) - (((t1.2.2.1 6) (Int32.toNatClampNeg (2 : Int32))) * ((t1.2.2.1 7) (Int32.toNatClampNeg (3 : Int32))))) * (((t1.2.2.1 7) (Int32.toNatClampNeg (0 : Int32))) * ((t1.2.2.1 7) (Int32.toNatClampNeg (1 : Int32)))))) ≤ (0 : Int64) then (if (0 : Int64) ≤ ((((((t1.2.2.1 6) (Int32.toNatClampNeg (1 : Int32))) * ((t1.2.2.1 7) (Int32.toNatClampNeg (0 : Int32)))) - (((t1.2.2.1 6) (Int32.toNatClampNeg (0 : Int32))) * ((t1.2.2.1 7) (Int32.toNatClampNeg (1 : Int32))))) * (((t1.2.2.1 7) (Int32.toNatClampNeg (2 : Int32))) * ((t1.2.2.1 7) (Int32.toNatClampNeg (3 : Int32))))) - (((((t1.2.2.1 6) (Int32.toNatClampNeg (3 : Int32))) * ((t1.2.2.1 7) (Int32.toNatClampNeg (2 : Int32)))) - (((t1.2.2.1 6) (Int32.toNatClampNeg (2 : Int32))) * ((t1.2.2.1 7) (Int32.toNatClampNeg (3 : Int32))))) * (((t1.2.2.1 7) (Int32.toNatClampNeg (0 : Int32))) * ((t1.2.2.1 7) (Int32.toNatClampNeg (1 : Int32)))))) then (0 : Int32) else (2 : Int32)) else (1 : Int32))))))))
def f_X11_does (σ : Zst) (p0 : Int32) (p1 : Int32) (p2 : Int32) : Option (Zst × Int32) :=
  (f_X6_effect σ p0 p1 p2).bind fun t1 => some (t1.1, t1.2)
def f_X4_store (σ : Zst) (p0 : Int32) : Option (Zst × Int32) :=
  (if p0 < (0 : Int32) then some (σ, (0 : Int32)) else (if p0 < (3 : Int32) then gIx p0 3 ((if p0 = 0 then gIx p0 3 (gIx p0 3 (some ((zA (zA (zA σ 2 (va_cpy (σ.2.1 1) (σ.2.1 2) (Int32.toNatClampNeg (0 : Int32)) (Int32.toNatClampNeg (0 : Int32)) (Int32.toNatClampNeg (4608 : Int32)))) 5 (upd (σ.2.1 5) (Int32.toNatClampNeg p0) (σ.1 2))) 6 (upd (σ.2.1 6) (Int32.toNatClampNeg p0) (vp_nar .boolean (1 : Int32)))), (1 : Int32)))) else (if p0 = 1 then gIx p0 3 (gIx p0 3 (some ((zA (zA (zA σ 3 (va_cpy (σ.2.1 1) (σ.2.1 3) (Int32.toNatClampNeg (0 : Int32)) (Int32.toNatClampNeg (0 : Int32)) (Int32.toNatClampNeg (4608 : Int32)))) 5 (upd (σ.2.1 5) (Int32.toNatClampNeg p0) (σ.1 2))) 6 (upd (σ.2.1 6) (Int32.toNatClampNeg p0) (vp_nar .boolean (1 : Int32)))), (1 : Int32)))) else gIx p0 3 (gIx p0 3 (some ((zA (zA (zA σ 4 (va_cpy (σ.2.1 1) (σ.2.1 4) (Int32.toNatClampNeg (0 : Int32)) (Int32.toNatClampNeg (0 : Int32)) (Int32.toNatClampNeg (4608 : Int32)))) 5 (upd (σ.2.1 5) (Int32.toNatClampNeg p0) (σ.1 2))) 6 (upd (σ.2.1 6) (Int32.toNatClampNeg p0) (vp_nar .boolean (1 : Int32)))), (1 : Int32))))))) else some (σ, (0 : Int32))))
def f_X11_keep (σ : Zst) (p0 : Int32) : Option (Zst × Int32) :=
  (f_X4_store σ p0).bind fun t1 => gBo t1.2 (some (t1.1, t1.2))
def f_X4_restore (σ : Zst) (p0 : Int32) : Option (Zst × Int32) :=
  (if p0 < (0 : Int32) then some (σ, (0 : Int32)) else (if (3 : Int32) ≤ p0 then some (σ, (0 : Int32)) else gIx p0 3 ((if ((σ.2.1 6) (Int32.toNatClampNeg p0)) = (0 : Int32) then some (σ, (0 : Int32)) else gIx p0 3 ((if p0 = 0 then gIx p0 3 (some ((zI (zA σ 1 (va_cpy (σ.2.1 2) (σ.2.1 1) (Int32.toNatClampNeg (0 : Int32)) (Int32.toNatClampNeg (0 : Int32)) (Int32.toNatClampNeg (4608 : Int32)))) 2 ((σ.2.1 5) (Int32.toNatClampNeg p0))), (1 : Int32))) else (if p0 = 1 then gIx p0 3 (some ((zI (zA σ 1 (va_cpy (σ.2.1 3) (σ.2.1 1) (Int32.toNatClampNeg (0 : Int32)) (Int32.toNatClampNeg (0 : Int32)) (Int32.toNatClampNeg (4608 : Int32)))) 2 ((σ.2.1 5) (Int32.toNatClampNeg p0))), (1 : Int32))) else gIx p0 3 (some ((zI (zA σ 1 (va_cpy (σ.2.1 4) (σ.2.1 1) (Int32.toNatClampNeg (0 : Int32)) (Int32.toNatClampNeg (0 : Int32)) (Int32.toNatClampNeg (4608 : Int32)))) 2 ((σ.2.1 5) (Int32.toNatClampNeg p0))), (1 : Int32))))))))))
def f_X11_again (σ : Zst) (p0 : Int32) : Option (Zst × Int32) :=
  (f_X4_restore σ p0).bind fun t1 => gBo t1.2 (some (t1.1, t1.2))
def f_X5_size (σ0 : Zst)  : Int32 :=
  (σ0.1 0)
def L_X4_size_4 (σ0 : Zst) : Nat → Int32 → Int32 → Option Int32
  | 0, _, _ => none
  | n4 + 1, v1, v2 => (if (4608 : Int32) ≤ v2 then some v1 else gIx v2 4608 ((if ((σ0.2.1 1) (Int32.toNatClampNeg v2)) < (0 : Int32) then L_X4_size_4 σ0 n4 v1 (v2 + (1 : Int32)) else L_X4_size_4 σ0 n4 (v1 + (1 : Int32)) (v2 + (1 : Int32)))))
def f_X4_size (σ0 : Zst)  : Option Int32 :=
  L_X4_size_4 σ0 zFu (0 : Int32) (0 : Int32)
def f_X3_size (σ0 : Zst)  : Int32 :=
  (σ0.1 23)
def f_X7_size (σ0 : Zst)  : Int32 :=
  (σ0.1 21)
def f_X8_size (σ0 : Zst)  : Int32 :=
  (σ0.1 19)
def L_X2_bits_4 (σ0 : Zst) : Nat → Int32 → Int32 → Option Int32
  | 0, _, _ => none
  | n4 + 1, v1, v2 => (if (6 : Int32) ≤ v2 then some v1 else (f_X1_sizeOf_L σ0 v2).bind fun t1 => (if t1 ≤ (0 : Int32) then L_X2_bits_4 σ0 n4 v1 (v2 + (1 : Int32)) else L_X2_bits_4 σ0 n4 (v1 ||| (jShl (1 : Int32) v2)) (v2 + (1 : Int32))))
def f_X2_bits (σ0 : Zst)  : Option Int32 :=
  L_X2_bits_4 σ0 zFu (0 : Int32) (0 : Int32)
def f_X11_count (σ0 : Zst) (p0 : Int32) : Option Int32 :=
  (if p0 = (0 : Int32) then some (f_X10_sortCount σ0) else (if p0 = (1 : Int32) then some (f_X10_streetCount σ0) else (if p0 = (2 : Int32) then (f_X2_bits σ0).bind fun t4 => some t4 else (if p0 = (3 : Int32) then some (f_X8_size σ0) else (if p0 = (4 : Int32) then some (f_X7_size σ0) else (if p0 = (5 : Int32) then some (f_X3_size σ0) else (if p0 = (6 : Int32) then (f_X4_size σ0).bind fun t9 => some t9 else (if p0 = (7 : Int32) then some (f_X5_size σ0) else (if p0 = (8 : Int32) then some (f_X9_size σ0) else some (-1 : Int32))))))))))
def f_X12_thrown (σ0 : Zst)  : Int32 :=
  (σ0.1 0)
def f_X12_in (p0 : Int64) (p1 : Int64) (p2 : Int64) : Int32 :=
  (if p0 < p1 then (0 : Int32) else (if p2 < p0 then (0 : Int32) else (1 : Int32)))
theorem bo_X12_in (p0 : Int64) (p1 : Int64) (p2 : Int64) : f_X12_in p0 p1 p2 = 0 ∨ f_X12_in p0 p1 p2 = 1 := by
  unfold f_X12_in
  repeat' split
  all_goals first | exact Or.inl rfl | exact Or.inr rfl
def f_X12_sort (σ : Zst) (p0 : Int32) (p1 : Int32) (p2 : Int32) : Option (Zst × Int32) :=
  (if (f_X12_in (Int32.toInt64 p0) (1 : Int64) (100 : Int64)) = (0 : Int32) then some ((zI σ 0 (0 : Int32)), (-1 : Int32)) else (if (f_X12_in (Int32.toInt64 p1) (-5 : Int64) (5 : Int64)) = (0 : Int32) then some ((zI σ 0 (0 : Int32)), (-1 : Int32)) else (if (f_X12_in (Int32.toInt64 p2) (1 : Int64) (100 : Int64)) = (0 : Int32) then some ((zI σ 0 (0 : Int32)), (-1 : Int32)) else (if (σ.1 2) = (8 : Int32) then some ((zI σ 0 (0 : Int32)), (-1 : Int32)) else gIx (σ.1 2) 8 (gIx (σ.1 2) 8 (gIx (σ.1 2) 8 (some ((zI (zA (zA (zA (zI σ 0 (0 : Int32)) 0 (upd (σ.2.1 0) (Int32.toNatClampNeg (σ.1 2)) p0)) 1 (upd (σ.2.1 1) (Int32.toNatClampNeg (σ.1 2)) p1)) 2 (upd (σ.2.1 2) (Int32.toNatClampNeg (σ.1 2)) p2)) 2 ((σ.1 2) + (1 : Int32))), (((σ.1 2) + (1 : Int32)) - (1 : Int32))))))))))
def f_X12_isSort (σ0 : Zst) (p0 : Int32) : Int32 :=
  (f_X12_in (Int32.toInt64 p0) (0 : Int64) (Int32.toInt64 ((σ0.1 2) - (1 : Int32))))
theorem bo_X12_isSort (σ0 : Zst) (p0 : Int32) : f_X12_isSort σ0 p0 = 0 ∨ f_X12_isSort σ0 p0 = 1 := by
  unfold f_X12_isSort
  repeat' split
  all_goals first | exact Or.inl rfl | exact Or.inr rfl | exact (bo_X12_in (Int32.toInt64 p0) (0 : Int64) (Int32.toInt64 ((σ0.1 2) - (1 : Int32))))
def f_X12_goes (σ : Zst) (p0 : Int32) (p1 : Int32) (p2 : Int32) (p3 : Int32) : Option (Zst × Int32) :=
  (if (if (f_X12_isSort (zI σ 0 (0 : Int32)) p0) = (0 : Int32) then (0 : Int32) else (if (f_X12_in (Int32.toInt64 p1) (0 : Int64) (100 : Int64)) = (0 : Int32) then (0 : Int32) else (if (f_X12_in (Int32.toInt64 p2) (0 : Int64) (100 : Int64)) = (0 : Int32) then (0 : Int32) else (if (f_X12_in (Int32.toInt64 p3) (0 : Int64) (100 : Int64)) = (0 : Int32) then (0 : Int32) else (1 : Int32))))) = (0 : Int32) then some ((zI σ 0 (0 : Int32)), (0 : Int32)) else (if ((p1 + p2) + p3) ≤ (100 : Int32) then gIx p0 8 (gIx p0 8 (gIx p0 8 (some ((zA (zA (zA (zI σ 0 (0 : Int32)) 3 (upd (σ.2.1 3) (Int32.toNatClampNeg p0) p1)) 4 (upd (σ.2.1 4) (Int32.toNatClampNeg p0) p2)) 5 (upd (σ.2.1 5) (Int32.toNatClampNeg p0) p3)), (1 : Int32))))) else some ((zI σ 0 (0 : Int32)), (0 : Int32))))
def f_X12_street (σ : Zst) (p0 : Int32) : Option (Zst × Int32) :=
  (if (f_X12_in (Int32.toInt64 p0) (1 : Int64) (100 : Int64)) = (0 : Int32) then some ((zI σ 0 (0 : Int32)), (-1 : Int32)) else (if (σ.1 3) = (8 : Int32) then some ((zI σ 0 (0 : Int32)), (-1 : Int32)) else gIx (σ.1 3) 8 (some ((zI (zA (zI σ 0 (0 : Int32)) 6 (upd (σ.2.1 6) (Int32.toNatClampNeg (σ.1 3)) p0)) 3 ((σ.1 3) + (1 : Int32))), (((σ.1 3) + (1 : Int32)) - (1 : Int32))))))
def f_X12_isWeek (p0 : Int32) : Int32 :=
  (f_X12_in (Int32.toInt64 p0) (0 : Int64) (11 : Int64))
theorem bo_X12_isWeek (p0 : Int32) : f_X12_isWeek p0 = 0 ∨ f_X12_isWeek p0 = 1 := by
  unfold f_X12_isWeek
  repeat' split
  all_goals first | exact Or.inl rfl | exact Or.inr rfl | exact (bo_X12_in (Int32.toInt64 p0) (0 : Int64) (11 : Int64))
def f_X12_lack (σ : Zst) (p0 : Int32) (p1 : Int32) (p2 : Int32) : Option (Zst × Int32) :=
  (if (f_X12_isSort (zI σ 0 (0 : Int32)) p0) = (0 : Int32) then some ((zI σ 0 (0 : Int32)), (0 : Int32)) else (if (f_X12_isWeek p1) = (0 : Int32) then some ((zI σ 0 (0 : Int32)), (0 : Int32)) else gIx (((12 : Int32) * p0) + p1) 96 (some ((zA (zI σ 0 (0 : Int32)) 7 (upd (σ.2.1 7) (Int32.toNatClampNeg (((12 : Int32) * p0) + p1)) (vp_nar .boolean p2))), (1 : Int32)))))
def f_X12_isKind (p0 : Int32) : Int32 :=
  (f_X12_in (Int32.toInt64 p0) (0 : Int64) (5 : Int64))
theorem bo_X12_isKind (p0 : Int32) : f_X12_isKind p0 = 0 ∨ f_X12_isKind p0 = 1 := by
  unfold f_X12_isKind
  repeat' split
  all_goals first | exact Or.inl rfl | exact Or.inr rfl | exact (bo_X12_in (Int32.toInt64 p0) (0 : Int64) (5 : Int64))
def f_X12_isCell (σ0 : Zst) (p0 : Int32) : Int32 :=
  (f_X12_in (Int32.toInt64 p0) (0 : Int64) (Int32.toInt64 (((12 : Int32) * (σ0.1 3)) - (1 : Int32))))
theorem bo_X12_isCell (σ0 : Zst) (p0 : Int32) : f_X12_isCell σ0 p0 = 0 ∨ f_X12_isCell σ0 p0 = 1 := by
  unfold f_X12_isCell
  repeat' split
  all_goals first | exact Or.inl rfl | exact Or.inr rfl | exact (bo_X12_in (Int32.toInt64 p0) (0 : Int64) (Int32.toInt64 (((12 : Int32) * (σ0.1 3)) - (1 : Int32))))
def f_X12_placeOf (p0 : Int32) (p1 : Int32) (p2 : Int32) : Int32 :=
  ((((p0 * (96 : Int32)) + p1) * (8 : Int32)) + p2)
def f_X12_at (σ0 : Zst) (p0 : Int32) (p1 : Int32) (p2 : Int32) : Option Int32 :=
  gIx (f_X12_placeOf p0 p1 p2) 4608 (some (((σ0.2.1 8) (Int32.toNatClampNeg (f_X12_placeOf p0 p1 p2))) - (1 : Int32)))
def f_X12_sets (σ : Zst) (p0 : Int32) (p1 : Int32) (p2 : Int32) (p3 : Int32) : Option Zst :=
  gIx (f_X12_placeOf p0 p1 p2) 4608 (some (zA σ 8 (upd (σ.2.1 8) (Int32.toNatClampNeg (f_X12_placeOf p0 p1 p2)) (p3 + (1 : Int32)))))
def f_X12_put (σ : Zst) (p0 : Int32) (p1 : Int32) (p2 : Int32) (p3 : Int32) : Option (Zst × Int32) :=
  (if (f_X12_isKind p0) = (0 : Int32) then some ((zI σ 0 (0 : Int32)), (-2 : Int32)) else (if (f_X12_isCell (zI σ 0 (0 : Int32)) p1) = (0 : Int32) then some ((zI σ 0 (0 : Int32)), (-2 : Int32)) else (if (f_X12_isSort (zI σ 0 (0 : Int32)) p2) = (0 : Int32) then some ((zI σ 0 (0 : Int32)), (-2 : Int32)) else (if (f_X12_in (Int32.toInt64 p3) (-1 : Int64) (999 : Int64)) = (0 : Int32) then some ((zI σ 0 (0 : Int32)), (-2 : Int32)) else (f_X12_at (zI σ 0 (0 : Int32)) p0 p1 p2).bind fun t1 => (f_X12_sets (zI σ 0 (0 : Int32)) p0 p1 p2 p3).bind fun t2 => some (t2, t1)))))
def f_X12_get (σ : Zst) (p0 : Int32) (p1 : Int32) (p2 : Int32) : Option (Zst × Int32) :=
  (if (f_X12_isKind p0) = (0 : Int32) then some ((zI σ 0 (0 : Int32)), (-2 : Int32)) else (if (f_X12_isCell (zI σ 0 (0 : Int32)) p1) = (0 : Int32) then some ((zI σ 0 (0 : Int32)), (-2 : Int32)) else (if (f_X12_isSort (zI σ 0 (0 : Int32)) p2) = (0 : Int32) then some ((zI σ 0 (0 : Int32)), (-2 : Int32)) else (f_X12_at (zI σ 0 (0 : Int32)) p0 p1 p2).bind fun t1 => some ((zI σ 0 (0 : Int32)), t1))))
def J_X12_sheet_75 (k52 : Zst → Int32 → Int32 → Option (Zst × Int32)) (σ : Zst) (v1 : Int32) (v2 : Int32) (v3 : Int32) (v5 : Int32) (v6 : Int32) (v7 : Int32) : Option (Zst × Int32) :=
  (f_X12_sets σ (0 : Int32) v7 v1 (if (0 : Int32) ≤ (if v2 = (3 : Int32) then (-1 : Int32) else (if v2 = (0 : Int32) then (Int8.toInt32 (Int32.toInt8 v6)) else (if v2 = (1 : Int32) then (Int16.toInt32 (Int32.toInt16 v6)) else v6))) then (jMin (999 : Int32) (if v2 = (3 : Int32) then (-1 : Int32) else (if v2 = (0 : Int32) then (Int8.toInt32 (Int32.toInt8 v6)) else (if v2 = (1 : Int32) then (Int16.toInt32 (Int32.toInt16 v6)) else v6)))) else (-1 : Int32))).bind fun t7 => k52 t7 (v6 + v5) (v7 + (1 : Int32))
def L_X12_sheet_52 (k147 : Zst → Option (Zst × Int32)) (v1 : Int32) (v2 : Int32) (v3 : Int32) (v5 : Int32) : Nat → Zst → Int32 → Int32 → Option (Zst × Int32)
  | 0, _, _, _ => none
  | n52 + 1, σ, v6, v7 => (if ((12 : Int32) * (σ.1 3)) ≤ v7 then k147 σ else (if v2 = (3 : Int32) then J_X12_sheet_75 (fun σ w6 w7 => L_X12_sheet_52 k147 v1 v2 v3 v5 n52 σ w6 w7) σ v1 v2 v3 v5 v6 v7 else (if v3 ≤ v7 then k147 σ else J_X12_sheet_75 (fun σ w6 w7 => L_X12_sheet_52 k147 v1 v2 v3 v5 n52 σ w6 w7) σ v1 v2 v3 v5 v6 v7)))
def J_X12_sheet_147 (σ : Zst) (v2 : Int32) (v3 : Int32) : Option (Zst × Int32) :=
  some (σ, (if v2 = (3 : Int32) then ((12 : Int32) * (σ.1 3)) else (jMin v3 ((12 : Int32) * (σ.1 3)))))
def f_X12_sheet (σ : Zst) (p0 : Int32) (p1 : Int32) (p2 : Int32) (p3 : Int32) (p4 : Int32) : Option (Zst × Int32) :=
  (if (f_X12_isSort (zI σ 0 (0 : Int32)) p0) = (0 : Int32) then some ((zI σ 0 (0 : Int32)), (-1 : Int32)) else (if (f_X12_in (Int32.toInt64 p1) (0 : Int64) (3 : Int64)) = (0 : Int32) then some ((zI σ 0 (0 : Int32)), (-1 : Int32)) else (if p2 ≤ (96 : Int32) then (if p1 = (3 : Int32) then L_X12_sheet_52 (fun σ10 => J_X12_sheet_147 σ10 p1 p2) p0 p1 p2 p4 zFu (zI σ 0 (0 : Int32)) p3 (0 : Int32) else (if (0 : Int32) ≤ p2 then L_X12_sheet_52 (fun σ11 => J_X12_sheet_147 σ11 p1 p2) p0 p1 p2 p4 zFu (zI σ 0 (0 : Int32)) p3 (0 : Int32) else some ((zI σ 0 (0 : Int32)), (-2 : Int32)))) else some ((zI σ 0 (0 : Int32)), (-1 : Int32)))))
def L_X12_sign_18 (k53 : Zst → Option (Zst × Int32)) (v1 : Int32) : Nat → Zst → Int32 → Option (Zst × Int32)
  | 0, _, _ => none
  | n18 + 1, σ, v2 => (if (4 : Int32) ≤ v2 then k53 σ else gIx ((σ.1 5) + v2) 60 (L_X12_sign_18 k53 v1 n18 (zA σ 12 (upd (σ.2.1 12) (Int32.toNatClampNeg ((σ.1 5) + v2)) ((jShr v1 ((24 : Int32) - ((8 : Int32) * v2))) &&& (255 : Int32)))) (v2 + (1 : Int32))))
def J_X12_sign_53 (σ : Zst) : Option (Zst × Int32) :=
  some ((zI σ 5 ((σ.1 5) + (4 : Int32))), ((σ.1 5) + (4 : Int32)))
def f_X12_sign (σ : Zst) (p0 : Int32) : Option (Zst × Int32) :=
  (if (σ.1 5) ≤ (56 : Int32) then L_X12_sign_18 (fun σ1 => J_X12_sign_53 σ1) p0 zFu (zI σ 0 (0 : Int32)) (0 : Int32) else some ((zI σ 0 (0 : Int32)), (-1 : Int32)))
def f_X12_end (σ : Zst) (p0 : Int32) : Option (Zst × Int32) :=
  (if (f_X12_in (Int32.toInt64 p0) (0 : Int64) (Int32.toInt64 (σ.1 5))) = (0 : Int32) then some ((zI σ 0 (0 : Int32)), (0 : Int32)) else some ((zI (zI σ 0 (0 : Int32)) 5 p0), (1 : Int32)))
def f_X12_begins (σ : Zst)  : Option (Zst × Int32) :=
  some ((zI (zI (zI (zI σ 5 (0 : Int32)) 6 (0 : Int32)) 8 (0 : Int32)) 7 (jMin (σ.1 5) (40 : Int32))), (σ.1 5))
def L_X12_among_2 (σ0 : Zst) (v1 : Nat) : Nat → Int32 → Option Int32
  | 0, _ => none
  | n2 + 1, v2 => gLe (v1 + 1) 14 ((if (zStrLen v1) ≤ v2 then some (-1 : Int32) else (if (σ0.1 7) ≤ (σ0.1 6) then some (-1 : Int32) else gLe (v1 + 1) 14 (gIx v2 (zLen.getD v1 0) (gIx (σ0.1 6) 60 ((if (zStrCh v1 v2) = ((σ0.2.1 12) (Int32.toNatClampNeg (σ0.1 6))) then some v2 else L_X12_among_2 σ0 v1 n2 (v2 + (1 : Int32)))))))))
def f_X12_among (σ0 : Zst) (p0 : Nat) : Option Int32 :=
  L_X12_among_2 σ0 p0 zFu (0 : Int32)
def f_X12_marks (σ : Zst) (p0 : Int32) : Option Zst :=
  gIx ((288 : Int32) + ((σ.2.1 10) (Int32.toNatClampNeg (6 : Int32)))) 336 (some (zA (zA σ 9 (upd (σ.2.1 9) (Int32.toNatClampNeg ((288 : Int32) + ((σ.2.1 10) (Int32.toNatClampNeg (6 : Int32))))) p0)) 10 (upd (σ.2.1 10) (Int32.toNatClampNeg (6 : Int32)) (((σ.2.1 10) (Int32.toNatClampNeg (6 : Int32))) + (1 : Int32)))))
def J_X12_ranked_123 (F : Nat → Zst → Int32 → Option (Zst × Int32)) (k63 : Zst → Int32 → Int32 → Option (Zst × Int32)) (σ : Zst) (v1 : Int32) (v2 : Nat) (v3 : Int32) : Option (Zst × Int32) :=
  k63 σ v3 (if v1 = (2 : Int32) then (0 : Int32) else (1 : Int32))
def L_X12_ranked_63 (F : Nat → Zst → Int32 → Option (Zst × Int32)) (v1 : Int32) (v2 : Nat) : Nat → Zst → Int32 → Int32 → Option (Zst × Int32)
  | 0, _, _, _ => none
  | n63 + 1, σ, v3, v4 => (if v3 = (0 : Int32) then gBo v3 (some (σ, v3)) else (if v4 = (0 : Int32) then gBo v3 (some (σ, v3)) else (f_X12_among σ v2).bind fun t3 => (if t3 < (0 : Int32) then gBo v3 (some (σ, v3)) else gIx (σ.1 6) 60 ((F 0 (zI σ 6 ((σ.1 6) + (1 : Int32))) (v1 + (1 : Int32))).bind fun t4 => (if t4.2 = (0 : Int32) then J_X12_ranked_123 F (fun σ w3 w4 => L_X12_ranked_63 F v1 v2 n63 σ w3 w4) t4.1 v1 v2 t4.2 else (f_X12_marks t4.1 ((2000 : Int32) + ((σ.2.1 12) (Int32.toNatClampNeg (σ.1 6))))).bind fun t5 => J_X12_ranked_123 F (fun σ w3 w4 => L_X12_ranked_63 F v1 v2 n63 σ w3 w4) t5 v1 v2 t4.2)))))
def J_X12_ranked_51 (F : Nat → Zst → Int32 → Option (Zst × Int32)) (σ : Zst) (v1 : Int32) (s0 : Nat) : Option (Zst × Int32) :=
  (F 0 σ (v1 + (1 : Int32))).bind fun t6 => L_X12_ranked_63 F v1 s0 zFu t6.1 t6.2 (1 : Int32)
def f_X12_ranked (F : Nat → Zst → Int32 → Option (Zst × Int32)) (σ : Zst) (p0 : Int32) : Option (Zst × Int32) :=
  (if p0 = (5 : Int32) then (F 1 σ (0 : Int32)).bind fun t7 => gBo t7.2 (some (t7.1, t7.2)) else (if p0 = (0 : Int32) then J_X12_ranked_51 F σ p0 7 else (if p0 = (1 : Int32) then J_X12_ranked_51 F σ p0 8 else (if p0 = (2 : Int32) then J_X12_ranked_51 F σ p0 9 else (if p0 = (3 : Int32) then J_X12_ranked_51 F σ p0 10 else J_X12_ranked_51 F σ p0 11)))))
def f_X12_ahead (F : Nat → Zst → Int32 → Option (Zst × Int32)) (σ : Zst)  : Option (Zst × Int32) :=
  (f_X12_among σ 4).bind fun t1 => (if (0 : Int32) ≤ t1 then (F 1 (zI σ 6 ((σ.1 6) + (1 : Int32))) (0 : Int32)).bind fun t2 => (if t2.2 = (0 : Int32) then gBo t2.2 (some (t2.1, t2.2)) else (f_X12_marks t2.1 ((2000 : Int32) + (if t1 = (0 : Int32) then (33 : Int32) else (126 : Int32)))).bind fun t5 => gBo t2.2 (some (t5, t2.2))) else (F 2 σ (0 : Int32)).bind fun t6 => gBo t6.2 (some (t6.1, t6.2)))
def f_X12_isDigit (σ0 : Zst)  : Option Int32 :=
  (if (σ0.1 7) ≤ (σ0.1 6) then some (0 : Int32) else gIx (σ0.1 6) 60 (some (if (f_X12_in (Int32.toInt64 ((σ0.2.1 12) (Int32.toNatClampNeg (σ0.1 6)))) (48 : Int64) (57 : Int64)) = (0 : Int32) then (0 : Int32) else (1 : Int32))))
def L_X12_thing_11 (F : Nat → Zst → Int32 → Option (Zst × Int32)) (k57 : Zst → Int32 → Option (Zst × Int32)) : Nat → Zst → Int32 → Int32 → Option (Zst × Int32)
  | 0, _, _, _ => none
  | n11 + 1, σ, v1, v2 => (if (3 : Int32) ≤ v2 then k57 σ v1 else (f_X12_isDigit σ).bind fun t1 => (if t1 = (0 : Int32) then k57 σ v1 else gIx (σ.1 6) 60 (L_X12_thing_11 F k57 n11 (zI σ 6 ((σ.1 6) + (1 : Int32))) ((((10 : Int32) * v1) + ((σ.2.1 12) (Int32.toNatClampNeg (σ.1 6)))) - (48 : Int32)) (v2 + (1 : Int32)))))
def J_X12_thing_57 (F : Nat → Zst → Int32 → Option (Zst × Int32)) (σ : Zst) (v1 : Int32) : Option (Zst × Int32) :=
  (f_X12_marks σ v1).bind fun t2 => some (t2, (1 : Int32))
def f_X12_thing (F : Nat → Zst → Int32 → Option (Zst × Int32)) (σ : Zst)  : Option (Zst × Int32) :=
  (f_X12_isDigit σ).bind fun t3 => (if t3 = (0 : Int32) then gSg (σ.2.2.2 0) (fun i4 => (f_X12_among σ i4).bind fun t5 => (if t5 < (0 : Int32) then (f_X12_among σ 5).bind fun t6 => (if t6 < (0 : Int32) then some (σ, (0 : Int32)) else (if (σ.1 8) = (5 : Int32) then some (σ, (0 : Int32)) else (F 0 (zI (zI σ 6 ((σ.1 6) + (1 : Int32))) 8 ((σ.1 8) + (1 : Int32))) (0 : Int32)).bind fun t7 => (if t7.2 = (0 : Int32) then some (t7.1, (0 : Int32)) else (f_X12_among t7.1 6).bind fun t8 => (if (0 : Int32) ≤ t8 then some ((zI (zI t7.1 6 ((t7.1.1 6) + (1 : Int32))) 8 ((t7.1.1 8) - (1 : Int32))), (1 : Int32)) else some (t7.1, (0 : Int32)))))) else (f_X12_marks σ ((1000 : Int32) + t5)).bind fun t9 => some ((zI t9 6 ((t9.1 6) + (1 : Int32))), (1 : Int32)))) else L_X12_thing_11 F (fun σ11 w10 => J_X12_thing_57 F σ11 w10) zFu σ (0 : Int32) (0 : Int32))
def f_X12rec : Nat → Nat → Zst → Int32 → Option (Zst × Int32)
  | 0, _, _, _ => none
  | d + 1, w, σ, x => if w = 0 then f_X12_ranked (f_X12rec d) σ x else (if w = 1 then f_X12_ahead (f_X12rec d) σ else (if w = 2 then f_X12_thing (f_X12rec d) σ else (none)))
def J_X12_fault_43 (σ0 : Zst) (v3 : Int32) : Int32 :=
  (if v3 = (0 : Int32) then ((-1 : Int32) - (σ0.1 6)) else (0 : Int32))
def f_X12_fault (σ0 : Zst) (p0 : Int32) (p1 : Int32) : Int32 :=
  (if p0 ≤ (40 : Int32) then J_X12_fault_43 σ0 (if p1 = (0 : Int32) then (0 : Int32) else (if (σ0.1 6) = (σ0.1 7) then (1 : Int32) else (0 : Int32))) else (if (if p1 = (0 : Int32) then (0 : Int32) else (if (σ0.1 6) = (σ0.1 7) then (1 : Int32) else (0 : Int32))) = (0 : Int32) then (if (σ0.1 6) < (40 : Int32) then J_X12_fault_43 σ0 (if p1 = (0 : Int32) then (0 : Int32) else (if (σ0.1 6) = (σ0.1 7) then (1 : Int32) else (0 : Int32))) else (-41 : Int32)) else (-41 : Int32)))
def L_X12_law_91 (v1 : Int32) : Nat → Zst → Int32 → Option (Zst × Int32)
  | 0, _, _ => none
  | n91 + 1, σ, v4 => (if (48 : Int32) ≤ v4 then some (σ, (0 : Int32)) else gIx ((288 : Int32) + v4) 336 (gIx (((48 : Int32) * v1) + v4) 336 (L_X12_law_91 v1 n91 (zA σ 9 (upd (σ.2.1 9) (Int32.toNatClampNeg (((48 : Int32) * v1) + v4)) ((σ.2.1 9) (Int32.toNatClampNeg ((288 : Int32) + v4))))) (v4 + (1 : Int32)))))
def J_X12_law_47 (σ : Zst) (v1 : Int32) (v2 : Int32) (s0 : Nat) : Option (Zst × Int32) :=
  (f_X12rec zDp 0 (zA (zN σ 0 (s0 + 1)) 10 (upd (σ.2.1 10) (Int32.toNatClampNeg (6 : Int32)) (0 : Int32))) (0 : Int32)).bind fun t1 => (if (0 : Int32) ≤ (f_X12_fault t1.1 v2 t1.2) then gIx v1 7 (L_X12_law_91 v1 zFu (zA t1.1 10 (upd (t1.1.2.1 10) (Int32.toNatClampNeg v1) ((t1.1.2.1 10) (Int32.toNatClampNeg (6 : Int32))))) (0 : Int32)) else some (t1.1, (f_X12_fault t1.1 v2 t1.2)))
def f_X12_law (σ : Zst) (p0 : Int32) : Option (Zst × Int32) :=
  (f_X12_begins (zI σ 0 (0 : Int32))).bind fun t2 => (if (f_X12_in (Int32.toInt64 p0) (0 : Int64) (5 : Int64)) = (0 : Int32) then some (t2.1, (-100 : Int32)) else (if p0 = (0 : Int32) then J_X12_law_47 t2.1 p0 t2.2 1 else (if p0 = (1 : Int32) then J_X12_law_47 t2.1 p0 t2.2 2 else J_X12_law_47 t2.1 p0 t2.2 3)))
def f_X12_isStreet (σ0 : Zst) (p0 : Int32) : Int32 :=
  (f_X12_in (Int32.toInt64 p0) (0 : Int64) (Int32.toInt64 ((σ0.1 3) - (1 : Int32))))
theorem bo_X12_isStreet (σ0 : Zst) (p0 : Int32) : f_X12_isStreet σ0 p0 = 0 ∨ f_X12_isStreet σ0 p0 = 1 := by
  unfold f_X12_isStreet
  repeat' split
  all_goals first | exact Or.inl rfl | exact Or.inr rfl | exact (bo_X12_in (Int32.toInt64 p0) (0 : Int64) (Int32.toInt64 ((σ0.1 3) - (1 : Int32))))
def f_X12_flag (p0 : Int32) : Int32 :=
  (if p0 = (0 : Int32) then (0 : Int32) else (1 : Int32))
def f_X12_acted (p0 : Int32) (p1 : Int32) (p2 : Int32) : Option Int32 :=
  (if p0 = (38 : Int32) then some (f_X12_flag (if p1 = (0 : Int32) then (0 : Int32) else (if p2 = (0 : Int32) then (0 : Int32) else (1 : Int32)))) else (if p0 = (42 : Int32) then some (p1 * p2) else (if p0 = (43 : Int32) then some (p1 + p2) else (if p0 = (45 : Int32) then some (p1 - p2) else (if p0 = (47 : Int32) then (if p2 = (0 : Int32) then some (0 : Int32) else gNz p2 (some (p1 / p2))) else (if p0 = (60 : Int32) then some (f_X12_flag (if p2 ≤ p1 then (0 : Int32) else (1 : Int32))) else (if p0 = (61 : Int32) then some (f_X12_flag (if p1 = p2 then (1 : Int32) else (0 : Int32))) else (if p0 = (62 : Int32) then some (f_X12_flag (if p1 ≤ p2 then (0 : Int32) else (1 : Int32))) else some (f_X12_flag (if p1 = (0 : Int32) then (if p2 = (0 : Int32) then (0 : Int32) else (1 : Int32)) else (1 : Int32)))))))))))
def f_X12_draws (σ : Zst) (p0 : Int32) : Option (Zst × Int32) :=
  gNz p0 (some ((zI σ 4 (((σ.1 4) * (1103515245 : Int32)) + (12345 : Int32))), (jRem (jUshr (((σ.1 4) * (1103515245 : Int32)) + (12345 : Int32)) (16 : Int32)) p0)))
def f_X12_valueOf (σ : Zst) (p0 : Int32) : Option (Zst × Int32) :=
  (if p0 = (0 : Int32) then gIx (σ.1 9) 8 (some (σ, ((σ.2.1 6) (Int32.toNatClampNeg (σ.1 9))))) else (if p0 = (1 : Int32) then some (σ, (σ.1 9)) else (if p0 = (2 : Int32) then some (σ, (σ.1 10)) else (if p0 = (3 : Int32) then some (σ, (σ.1 11)) else (if p0 = (4 : Int32) then gIx (σ.1 11) 8 (some (σ, ((σ.2.1 1) (Int32.toNatClampNeg (σ.1 11))))) else (if p0 = (5 : Int32) then gIx (σ.1 11) 8 (some (σ, ((σ.2.1 0) (Int32.toNatClampNeg (σ.1 11))))) else (if p0 = (6 : Int32) then gIx (((12 : Int32) * (σ.1 11)) + (σ.1 10)) 96 (some (σ, (f_X12_flag ((σ.2.1 7) (Int32.toNatClampNeg (((12 : Int32) * (σ.1 11)) + (σ.1 10))))))) else (if p0 = (7 : Int32) then (f_X12_draws σ (10 : Int32)).bind fun t9 => some (t9.1, t9.2) else (if p0 = (8 : Int32) then some (σ, (σ.1 12)) else some (σ, (σ.1 13)))))))))))
def L_X12_worked_4 (v1 : Int32) : Nat → Zst → Int32 → Int32 → Option (Zst × Int32)
  | 0, _, _, _ => none
  | n4 + 1, σ, v2, v3 => gIx v1 7 ((if ((σ.2.1 10) (Int32.toNatClampNeg v1)) ≤ v3 then some (σ, ((σ.2.1 11) (Int32.toNatClampNeg (0 : Int32)))) else gIx (((48 : Int32) * v1) + v3) 336 ((if (2000 : Int32) ≤ ((σ.2.1 9) (Int32.toNatClampNeg (((48 : Int32) * v1) + v3))) then (if ((σ.2.1 9) (Int32.toNatClampNeg (((48 : Int32) * v1) + v3))) = (2033 : Int32) then gIx (v2 - (1 : Int32)) 48 (gIx (v2 - (1 : Int32)) 48 (L_X12_worked_4 v1 n4 (zA σ 11 (upd (σ.2.1 11) (Int32.toNatClampNeg (v2 - (1 : Int32))) (f_X12_flag (if ((σ.2.1 11) (Int32.toNatClampNeg (v2 - (1 : Int32)))) = (0 : Int32) then (1 : Int32) else (0 : Int32))))) v2 (v3 + (1 : Int32)))) else (if ((σ.2.1 9) (Int32.toNatClampNeg (((48 : Int32) * v1) + v3))) = (2126 : Int32) then gIx (v2 - (1 : Int32)) 48 (gIx (v2 - (1 : Int32)) 48 (L_X12_worked_4 v1 n4 (zA σ 11 (upd (σ.2.1 11) (Int32.toNatClampNeg (v2 - (1 : Int32))) (-((σ.2.1 11) (Int32.toNatClampNeg (v2 - (1 : Int32))))))) v2 (v3 + (1 : Int32)))) else gIx ((v2 + (-1 : Int32)) - (1 : Int32)) 48 (gIx (v2 + (-1 : Int32)) 48 ((f_X12_acted (((σ.2.1 9) (Int32.toNatClampNeg (((48 : Int32) * v1) + v3))) - (2000 : Int32)) ((σ.2.1 11) (Int32.toNatClampNeg ((v2 + (-1 : Int32)) - (1 : Int32)))) ((σ.2.1 11) (Int32.toNatClampNeg (v2 + (-1 : Int32))))).bind fun t3 => gIx ((v2 + (-1 : Int32)) - (1 : Int32)) 48 (L_X12_worked_4 v1 n4 (zA σ 11 (upd (σ.2.1 11) (Int32.toNatClampNeg ((v2 + (-1 : Int32)) - (1 : Int32))) t3)) (v2 + (-1 : Int32)) (v3 + (1 : Int32))))))) else (if (1000 : Int32) ≤ ((σ.2.1 9) (Int32.toNatClampNeg (((48 : Int32) * v1) + v3))) then (f_X12_valueOf σ (((σ.2.1 9) (Int32.toNatClampNeg (((48 : Int32) * v1) + v3))) - (1000 : Int32))).bind fun t4 => gIx v2 48 (L_X12_worked_4 v1 n4 (zA t4.1 11 (upd (t4.1.2.1 11) (Int32.toNatClampNeg v2) t4.2)) (v2 + (1 : Int32)) (v3 + (1 : Int32))) else gIx v2 48 (L_X12_worked_4 v1 n4 (zA σ 11 (upd (σ.2.1 11) (Int32.toNatClampNeg v2) ((σ.2.1 9) (Int32.toNatClampNeg (((48 : Int32) * v1) + v3))))) (v2 + (1 : Int32)) (v3 + (1 : Int32))))))))
def f_X12_worked (σ : Zst) (p0 : Int32) : Option (Zst × Int32) :=
  L_X12_worked_4 p0 zFu σ (0 : Int32) (0 : Int32)
def J_X12_lawed_18 (σ : Zst) (v3 : Int32) (s0 : Int32) : Option (Zst × Int32) :=
  some (σ, (jMax (0 : Int32) (jMin v3 s0)))
def f_X12_lawed (σ : Zst) (p0 : Int32) (p1 : Int32) (p2 : Int32) : Option (Zst × Int32) :=
  gIx p0 7 ((if ((σ.2.1 10) (Int32.toNatClampNeg p0)) ≤ (0 : Int32) then J_X12_lawed_18 σ p2 p1 else (f_X12_worked σ p0).bind fun t1 => J_X12_lawed_18 t1.1 p2 t1.2))
def f_X12_bags (σ : Zst) (p0 : Int32) (p1 : Int32) (p2 : Int32) : Option Zst :=
  (f_X12_at σ (0 : Int32) p0 p1).bind fun t1 => (f_X12_sets σ (0 : Int32) p0 p1 (jMin (999 : Int32) ((jMax (0 : Int32) t1) + p2))).bind fun t2 => some t2
def L_X12_live_228 (k266 : Zst → Option (Zst × Int32)) (v3 : Int32) (v4 : Int32) (v5 : Int32) (v6 : Int32) : Nat → Zst → Int32 → Option (Zst × Int32)
  | 0, _, _ => none
  | n228 + 1, σ, v10 => (if (4 : Int32) ≤ v10 then k266 σ else (f_X12_lawed σ ((2 : Int32) + v10) (σ.1 13) (999 : Int32)).bind fun t1 => (f_X12_sets t1.1 ((2 : Int32) + v10) v3 v6 t1.2).bind fun t2 => L_X12_live_228 k266 v3 v4 v5 v6 n228 t2 (v10 + (1 : Int32)))
def J_X12_live_266 (k60 : Zst → Int32 → Int32 → Option (Zst × Int32)) (σ : Zst) (v3 : Int32) (v4 : Int32) (v5 : Int32) (v6 : Int32) : Option (Zst × Int32) :=
  k60 σ v5 (v6 + (1 : Int32))
def J_X12_live_206 (k60 : Zst → Int32 → Int32 → Option (Zst × Int32)) (σ : Zst) (v3 : Int32) (v4 : Int32) (v5 : Int32) (v6 : Int32) (v9 : Int32) : Option (Zst × Int32) :=
  (f_X12_sets σ (1 : Int32) v3 v6 (σ.1 12)).bind fun t3 => L_X12_live_228 (fun σ4 => J_X12_live_266 k60 σ4 v3 v4 (v5 + v9) v6) v3 v4 (v5 + v9) v6 zFu t3 (0 : Int32)
def L_X12_live_60 (v3 : Int32) (v4 : Int32) : Nat → Zst → Int32 → Int32 → Option (Zst × Int32)
  | 0, _, _, _ => none
  | n60 + 1, σ, v5, v6 => (if (σ.1 2) ≤ v6 then some (σ, v5) else (f_X12_lawed (zI σ 11 v6) (0 : Int32) (0 : Int32) (999 : Int32)).bind fun t5 => (f_X12_lawed (zI t5.1 12 t5.2) (1 : Int32) t5.2 t5.2).bind fun t6 => gIx v6 8 (gIx v6 8 (gIx v6 8 (gIx v6 8 ((f_X12_bags (zI t6.1 13 t6.2) v3 v6 (((((((t6.2 * ((t6.1.2.1 0) (Int32.toNatClampNeg v6))) / (100 : Int32)) + (t6.1.1 12)) - t6.2) - ((((((t6.2 * ((t6.1.2.1 0) (Int32.toNatClampNeg v6))) / (100 : Int32)) + (t6.1.1 12)) - t6.2) * ((t6.1.2.1 3) (Int32.toNatClampNeg v6))) / (100 : Int32))) - ((((((t6.2 * ((t6.1.2.1 0) (Int32.toNatClampNeg v6))) / (100 : Int32)) + (t6.1.1 12)) - t6.2) * ((t6.1.2.1 4) (Int32.toNatClampNeg v6))) / (100 : Int32))) - ((((((t6.2 * ((t6.1.2.1 0) (Int32.toNatClampNeg v6))) / (100 : Int32)) + (t6.1.1 12)) - t6.2) * ((t6.1.2.1 5) (Int32.toNatClampNeg v6))) / (100 : Int32)))).bind fun t7 => (if ((((((t6.2 * ((t6.1.2.1 0) (Int32.toNatClampNeg v6))) / (100 : Int32)) + (t6.1.1 12)) - t6.2) * ((t6.1.2.1 5) (Int32.toNatClampNeg v6))) / (100 : Int32)) ≤ (0 : Int32) then J_X12_live_206 (fun σ w5 w6 => L_X12_live_60 v3 v4 n60 σ w5 w6) t7 v3 v4 v5 v6 (((((((t6.2 * ((t6.1.2.1 0) (Int32.toNatClampNeg v6))) / (100 : Int32)) + (t6.1.1 12)) - t6.2) - ((((((t6.2 * ((t6.1.2.1 0) (Int32.toNatClampNeg v6))) / (100 : Int32)) + (t6.1.1 12)) - t6.2) * ((t6.1.2.1 3) (Int32.toNatClampNeg v6))) / (100 : Int32))) - ((((((t6.2 * ((t6.1.2.1 0) (Int32.toNatClampNeg v6))) / (100 : Int32)) + (t6.1.1 12)) - t6.2) * ((t6.1.2.1 4) (Int32.toNatClampNeg v6))) / (100 : Int32))) - ((((((t6.2 * ((t6.1.2.1 0) (Int32.toNatClampNeg v6))) / (100 : Int32)) + (t6.1.1 12)) - t6.2) * ((t6.1.2.1 5) (Int32.toNatClampNeg v6))) / (100 : Int32))) else (f_X12_bags t7 v4 v6 ((((((t6.2 * ((t6.1.2.1 0) (Int32.toNatClampNeg v6))) / (100 : Int32)) + (t6.1.1 12)) - t6.2) * ((t6.1.2.1 5) (Int32.toNatClampNeg v6))) / (100 : Int32))).bind fun t8 => J_X12_live_206 (fun σ w5 w6 => L_X12_live_60 v3 v4 n60 σ w5 w6) t8 v3 v4 v5 v6 (((((((t6.2 * ((t6.1.2.1 0) (Int32.toNatClampNeg v6))) / (100 : Int32)) + (t6.1.1 12)) - t6.2) - ((((((t6.2 * ((t6.1.2.1 0) (Int32.toNatClampNeg v6))) / (100 : Int32)) + (t6.1.1 12)) - t6.2) * ((t6.1.2.1 3) (Int32.toNatClampNeg v6))) / (100 : Int32))) - ((((((t6.2 * ((t6.1.2.1 0) (Int32.toNatClampNeg v6))) / (100 : Int32)) + (t6.1.1 12)) - t6.2) * ((t6.1.2.1 4) (Int32.toNatClampNeg v6))) / (100 : Int32))) - ((((((t6.2 * ((t6.1.2.1 0) (Int32.toNatClampNeg v6))) / (100 : Int32)) + (t6.1.1 12)) - t6.2) * ((t6.1.2.1 5) (Int32.toNatClampNeg v6))) / (100 : Int32)))))))))
def f_X12_live (σ : Zst) (p0 : Int32) (p1 : Int32) : Option (Zst × Int32) :=
  (if (f_X12_isStreet (zI σ 0 (0 : Int32)) p0) = (0 : Int32) then some ((zI σ 0 (0 : Int32)), (-1 : Int32)) else (if (f_X12_isWeek p1) = (0 : Int32) then some ((zI σ 0 (0 : Int32)), (-1 : Int32)) else gNz (σ.1 3) (L_X12_live_60 (((12 : Int32) * p0) + p1) (((12 : Int32) * (jRem (p0 + (1 : Int32)) (σ.1 3))) + p1) zFu (zI (zI (zI σ 0 (0 : Int32)) 9 p0) 10 p1) (0 : Int32) (0 : Int32))))
def f_X12_seed (σ : Zst) (p0 : Int32) : Option (Zst × Int32) :=
  some ((zI (zI σ 0 (0 : Int32)) 4 p0), (σ.1 4))
def f_X12_enters (σ : Zst) (p0 : Int64) : Option Zst :=
  gIx (σ.1 1) 24 (some (zI (zL σ 0 (vp_updL (σ.2.2.1 0) (Int32.toNatClampNeg (σ.1 1)) p0)) 1 ((σ.1 1) + (1 : Int32))))
def f_X12_has (p0 : Int32) (p1 : Int32) : Int32 :=
  (if ((jShr p0 p1) &&& (1 : Int32)) = (1 : Int32) then (1 : Int32) else (0 : Int32))
theorem bo_X12_has (p0 : Int32) (p1 : Int32) : f_X12_has p0 p1 = 0 ∨ f_X12_has p0 p1 = 1 := by
  unfold f_X12_has
  repeat' split
  all_goals first | exact Or.inl rfl | exact Or.inr rfl
def f_X12_isTold (σ0 : Zst) (p0 : Int32) (p1 : Int32) (p2 : Int32) : Option Int32 :=
  gIx (f_X12_placeOf p0 p1 p2) 4608 (some (if ((σ0.2.1 8) (Int32.toNatClampNeg (f_X12_placeOf p0 p1 p2))) ≤ (0 : Int32) then (0 : Int32) else (1 : Int32)))
def L_X12_sum_56 (k126 : Int32 → Int32 → Option (Zst × Int32)) (σ : Zst) (v1 : Int32) (v2 : Int32) (v3 : Int32) (v4 : Int32) : Nat → Int32 → Int32 → Int32 → Option (Zst × Int32)
  | 0, _, _, _ => none
  | n56 + 1, v5, v6, v7 => (if ((12 : Int32) * (σ.1 3)) ≤ v7 then k126 v5 v6 else (if (f_X12_has v3 (v7 / (12 : Int32))) = (0 : Int32) then L_X12_sum_56 k126 σ v1 v2 v3 v4 n56 v5 v6 (v7 + (1 : Int32)) else (if (f_X12_has v4 (jRem v7 (12 : Int32))) = (0 : Int32) then L_X12_sum_56 k126 σ v1 v2 v3 v4 n56 v5 v6 (v7 + (1 : Int32)) else (f_X12_isTold σ v1 v7 v2).bind fun t1 => (if t1 = (0 : Int32) then L_X12_sum_56 k126 σ v1 v2 v3 v4 n56 v5 v6 (v7 + (1 : Int32)) else (f_X12_at σ v1 v7 v2).bind fun t2 => L_X12_sum_56 k126 σ v1 v2 v3 v4 n56 (v5 + t2) (v6 + (1 : Int32)) (v7 + (1 : Int32))))))
def J_X12_sum_126 (σ : Zst) (v5 : Int32) (v6 : Int32) : Option (Zst × Int32) :=
  (f_X12_enters (zI σ 1 (0 : Int32)) (Int32.toInt64 v6)).bind fun t3 => some (t3, v5)
def f_X12_sum (σ : Zst) (p0 : Int32) (p1 : Int32) (p2 : Int32) (p3 : Int32) : Option (Zst × Int32) :=
  (if (f_X12_isKind p0) = (0 : Int32) then some ((zI σ 0 (0 : Int32)), (-1 : Int32)) else (if (f_X12_isSort (zI σ 0 (0 : Int32)) p1) = (0 : Int32) then some ((zI σ 0 (0 : Int32)), (-1 : Int32)) else (if (f_X12_in (Int32.toInt64 p2) (1 : Int64) (255 : Int64)) = (0 : Int32) then some ((zI σ 0 (0 : Int32)), (-1 : Int32)) else (if (f_X12_in (Int32.toInt64 p3) (1 : Int64) (4095 : Int64)) = (0 : Int32) then some ((zI σ 0 (0 : Int32)), (-1 : Int32)) else L_X12_sum_56 (fun w4 w5 => J_X12_sum_126 (zI σ 0 (0 : Int32)) w4 w5) (zI σ 0 (0 : Int32)) p0 p1 p2 p3 zFu (0 : Int32) (0 : Int32) (0 : Int32)))))
def L_X12_common_28  : Nat → Int64 → Int64 → Option Int64
  | 0, _, _ => none
  | n28 + 1, v4, v6 => (if v6 = (0 : Int64) then some v4 else gNzL v6 (L_X12_common_28  n28 v6 (jRemL v4 v6)))
def f_X12_common (p0 : Int64) (p1 : Int64) : Option Int64 :=
  L_X12_common_28  zFu (if (0 : Int64) ≤ p0 then p0 else (-p0)) (if (0 : Int64) ≤ p1 then p1 else (-p1))
def J_X12_entersFraction_20 (σ : Zst) (v1 : Int64) (v3 : Int64) (s0 : Int64) : Option Zst :=
  gNzL s0 ((f_X12_enters σ (v1 / s0)).bind fun t1 => gNzL s0 ((f_X12_enters t1 (v3 / s0)).bind fun t2 => some t2))
def f_X12_entersFraction (σ : Zst) (p0 : Int64) (p1 : Int64) : Option Zst :=
  (if (0 : Int64) ≤ p1 then (f_X12_common p0 p1).bind fun t3 => J_X12_entersFraction_20 σ p0 p1 t3 else (f_X12_common p0 p1).bind fun t4 => J_X12_entersFraction_20 σ p0 p1 (-t4))
def f_X12_goesAll (σ0 : Zst) (p0 : Int32) : Option Int32 :=
  gIx p0 8 (gIx p0 8 (gIx p0 8 (some ((((σ0.2.1 3) (Int32.toNatClampNeg p0)) + ((σ0.2.1 4) (Int32.toNatClampNeg p0))) + ((σ0.2.1 5) (Int32.toNatClampNeg p0))))))
def f_X12_bounds (σ : Zst) (p0 : Int32) (p1 : Int32) (p2 : Int32) : Option (Zst × Int32) :=
  (if (f_X12_isSort (zI σ 0 (0 : Int32)) p0) = (0 : Int32) then some ((zI σ 0 (0 : Int32)), (-1 : Int32)) else (if (f_X12_isCell (zI σ 0 (0 : Int32)) p1) = (0 : Int32) then some ((zI σ 0 (0 : Int32)), (-1 : Int32)) else (if (f_X12_in (Int32.toInt64 p2) (0 : Int64) (100 : Int64)) = (0 : Int32) then some ((zI σ 0 (0 : Int32)), (-1 : Int32)) else (f_X12_isTold (zI σ 0 (0 : Int32)) (0 : Int32) p1 p0).bind fun t1 => (if t1 = (0 : Int32) then some ((zI σ 0 (0 : Int32)), (-2 : Int32)) else (f_X12_at (zI σ 0 (0 : Int32)) (0 : Int32) p1 p0).bind fun t2 => gIx p0 8 ((f_X12_entersFraction (zI (zI σ 0 (0 : Int32)) 1 (0 : Int32)) ((Int32.toInt64 t2) * (Int32.toInt64 ((100 : Int32) - p2))) (Int32.toInt64 ((σ.2.1 0) (Int32.toNatClampNeg p0)))).bind fun t3 => (f_X12_goesAll t3 p0).bind fun t4 => (if t4 = (100 : Int32) then some (t3, (-3 : Int32)) else gIx p0 8 ((f_X12_goesAll t3 p0).bind fun t5 => (f_X12_entersFraction t3 ((Int32.toInt64 t2) * (10000 : Int64)) ((Int32.toInt64 ((t3.2.1 0) (Int32.toNatClampNeg p0))) * (Int32.toInt64 ((100 : Int32) - t5)))).bind fun t6 => some (t6, (0 : Int32)))))))))
def f_X12_isWay (p0 : Int32) : Int32 :=
  (f_X12_in (Int32.toInt64 p0) (0 : Int64) (3 : Int64))
theorem bo_X12_isWay (p0 : Int32) : f_X12_isWay p0 = 0 ∨ f_X12_isWay p0 = 1 := by
  unfold f_X12_isWay
  repeat' split
  all_goals first | exact Or.inl rfl | exact Or.inr rfl | exact (bo_X12_in (Int32.toInt64 p0) (0 : Int64) (3 : Int64))
def L_X12_line_46 (k121 : Int64 → Int64 → Int32 → Option (Zst × Int32)) (σ : Zst) (v1 : Int32) (v2 : Int32) (v3 : Int32) : Nat → Int64 → Int64 → Int32 → Int32 → Option (Zst × Int32)
  | 0, _, _, _, _ => none
  | n46 + 1, v4, v6, v8, v9 => (if ((12 : Int32) * (σ.1 3)) ≤ v9 then k121 v4 v6 v8 else (f_X12_isTold σ (0 : Int32) v9 v1).bind fun t1 => (if t1 = (0 : Int32) then L_X12_line_46 k121 σ v1 v2 v3 n46 v4 v6 v8 (v9 + (1 : Int32)) else (f_X12_isTold σ ((2 : Int32) + v2) v9 v1).bind fun t2 => (if t2 = (0 : Int32) then L_X12_line_46 k121 σ v1 v2 v3 n46 v4 v6 v8 (v9 + (1 : Int32)) else (f_X12_at σ (0 : Int32) v9 v1).bind fun t3 => (f_X12_at σ ((2 : Int32) + v2) v9 v1).bind fun t4 => L_X12_line_46 k121 σ v1 v2 v3 n46 (v4 + (Int32.toInt64 t3)) (v6 + (Int32.toInt64 t4)) (v8 + (1 : Int32)) (v9 + (1 : Int32)))))
def J_X12_line_121 (σ : Zst) (v1 : Int32) (v3 : Int32) (v4 : Int64) (v6 : Int64) (v8 : Int32) : Option (Zst × Int32) :=
  (if v8 = (0 : Int32) then some (σ, (-2 : Int32)) else gIx v1 8 ((f_X12_entersFraction (zI σ 1 (0 : Int32)) (v4 * (Int32.toInt64 ((100 : Int32) - v3))) (Int32.toInt64 ((σ.2.1 0) (Int32.toNatClampNeg v1)))).bind fun t5 => (f_X12_enters t5 v6).bind fun t6 => gIx v1 8 ((if (v4 * (Int32.toInt64 ((100 : Int32) - v3))) ≤ (v6 * (Int32.toInt64 ((t6.2.1 0) (Int32.toNatClampNeg v1)))) then (f_X12_goesAll t6 v1).bind fun t7 => (if ((100 : Int32) - t7) ≤ (0 : Int32) then some (t6, (0 : Int32)) else gIx v1 8 (some (t6, (if ((v6 * (Int32.toInt64 ((t6.2.1 0) (Int32.toNatClampNeg v1)))) * (Int32.toInt64 ((100 : Int32) - t7))) ≤ (v4 * (10000 : Int64)) then (0 : Int32) else (2 : Int32))))) else some (t6, (1 : Int32))))))
def f_X12_line (σ : Zst) (p0 : Int32) (p1 : Int32) (p2 : Int32) : Option (Zst × Int32) :=
  (if (f_X12_isSort (zI σ 0 (0 : Int32)) p0) = (0 : Int32) then some ((zI σ 0 (0 : Int32)), (-1 : Int32)) else (if (f_X12_isWay p1) = (0 : Int32) then some ((zI σ 0 (0 : Int32)), (-1 : Int32)) else (if (f_X12_in (Int32.toInt64 p2) (0 : Int64) (100 : Int64)) = (0 : Int32) then some ((zI σ 0 (0 : Int32)), (-1 : Int32)) else L_X12_line_46 (fun w10 w11 w12 => J_X12_line_121 (zI σ 0 (0 : Int32)) p0 p2 w10 w11 w12) (zI σ 0 (0 : Int32)) p0 p1 p2 zFu (0 : Int64) (0 : Int64) (0 : Int32) (0 : Int32))))
def L_X12_offs_32 (v1 : Int32) (v2 : Int32) : Nat → Zst → Int32 → Option Zst
  | 0, _, _ => none
  | n32 + 1, σ, v3 => (if ((12 : Int32) * (σ.1 3)) ≤ v3 then some σ else (f_X12_isTold σ (1 : Int32) v3 v1).bind fun t1 => (if t1 = (0 : Int32) then L_X12_offs_32 v1 v2 n32 σ (v3 + (1 : Int32)) else (f_X12_isTold σ ((2 : Int32) + v2) v3 v1).bind fun t2 => (if t2 = (0 : Int32) then L_X12_offs_32 v1 v2 n32 σ (v3 + (1 : Int32)) else (f_X12_at σ ((2 : Int32) + v2) v3 v1).bind fun t3 => (f_X12_at σ (1 : Int32) v3 v1).bind fun t4 => L_X12_offs_32 v1 v2 n32 (zI (zI (zI (zI (zI (zI σ 16 (if (σ.1 14) = (0 : Int32) then (t3 - t4) else (jMin (σ.1 16) (t3 - t4)))) 17 (if (σ.1 14) = (0 : Int32) then (t3 - t4) else (jMax (σ.1 17) (t3 - t4)))) 15 ((σ.1 15) + (t3 - t4))) 18 ((σ.1 18) + (f_X12_flag (if (t3 - t4) ≤ (0 : Int32) then (0 : Int32) else (1 : Int32))))) 19 ((σ.1 19) + (f_X12_flag (if (0 : Int32) ≤ (t3 - t4) then (0 : Int32) else (1 : Int32))))) 14 ((σ.1 14) + (1 : Int32))) (v3 + (1 : Int32)))))
def f_X12_offs (σ : Zst) (p0 : Int32) (p1 : Int32) : Option Zst :=
  L_X12_offs_32 p0 p1 zFu (zI (zI (zI (zI (zI (zI σ 14 (0 : Int32)) 15 (0 : Int32)) 16 (0 : Int32)) 17 (0 : Int32)) 18 (0 : Int32)) 19 (0 : Int32)) (0 : Int32)
def f_X12_off (σ : Zst) (p0 : Int32) (p1 : Int32) : Option (Zst × Int32) :=
  (if (f_X12_isSort (zI σ 0 (0 : Int32)) p0) = (0 : Int32) then some ((zI σ 0 (0 : Int32)), (-1 : Int32)) else (if (f_X12_isWay p1) = (0 : Int32) then some ((zI σ 0 (0 : Int32)), (-1 : Int32)) else (f_X12_offs (zI σ 0 (0 : Int32)) p0 p1).bind fun t1 => (if (t1.1 14) ≤ (0 : Int32) then some (t1, (t1.1 14)) else (f_X12_entersFraction (zI t1 1 (0 : Int32)) (Int32.toInt64 (t1.1 15)) (Int32.toInt64 (t1.1 14))).bind fun t2 => (f_X12_enters t2 (Int32.toInt64 (t2.1 16))).bind fun t3 => (f_X12_enters t3 (Int32.toInt64 (t3.1 17))).bind fun t4 => some (t4, (t4.1 14)))))
def J_X12_nearest_82 (k32 : Zst → Int32 → Int64 → Int64 → Int32 → Int32 → Int32 → Option (Zst × Int32)) (σ : Zst) (v1 : Int32) (v9 : Int32) (v10 : Int64) : Option (Zst × Int32) :=
  k32 σ v9 v10 (Int32.toInt64 (σ.1 14)) (σ.1 18) (σ.1 19) (v9 + (1 : Int32))
def L_X12_nearest_32 (k113 : Zst → Int32 → Int32 → Int32 → Option (Zst × Int32)) (v1 : Int32) : Nat → Zst → Int32 → Int64 → Int64 → Int32 → Int32 → Int32 → Option (Zst × Int32)
  | 0, _, _, _, _, _, _, _ => none
  | n32 + 1, σ, v2, v3, v5, v7, v8, v9 => (if (4 : Int32) ≤ v9 then k113 σ v2 v7 v8 else (f_X12_offs σ v1 v9).bind fun t1 => (if (t1.1 14) ≤ (0 : Int32) then L_X12_nearest_32 k113 v1 n32 t1 v2 v3 v5 v7 v8 (v9 + (1 : Int32)) else (if v2 < (0 : Int32) then J_X12_nearest_82 (fun σ w2 w3 w5 w7 w8 w9 => L_X12_nearest_32 k113 v1 n32 σ w2 w3 w5 w7 w8 w9) t1 v1 v9 (Int32.toInt64 (jAbs (t1.1 15))) else (if (v3 * (Int32.toInt64 (t1.1 14))) ≤ ((Int32.toInt64 (jAbs (t1.1 15))) * v5) then L_X12_nearest_32 k113 v1 n32 t1 v2 v3 v5 v7 v8 (v9 + (1 : Int32)) else J_X12_nearest_82 (fun σ w2 w3 w5 w7 w8 w9 => L_X12_nearest_32 k113 v1 n32 σ w2 w3 w5 w7 w8 w9) t1 v1 v9 (Int32.toInt64 (jAbs (t1.1 15)))))))
def J_X12_nearest_113 (σ : Zst) (v2 : Int32) (v7 : Int32) (v8 : Int32) : Option (Zst × Int32) :=
  (if v2 < (0 : Int32) then some (σ, v2) else (f_X12_enters (zI σ 1 (0 : Int32)) (Int32.toInt64 v7)).bind fun t2 => (f_X12_enters t2 (Int32.toInt64 v8)).bind fun t3 => some (t3, v2))
def f_X12_nearest (σ : Zst) (p0 : Int32) : Option (Zst × Int32) :=
  (if (f_X12_isSort (zI σ 0 (0 : Int32)) p0) = (0 : Int32) then some ((zI σ 0 (0 : Int32)), (-1 : Int32)) else L_X12_nearest_32 (fun σ7 w4 w5 w6 => J_X12_nearest_113 σ7 w4 w5 w6) p0 zFu (zI σ 0 (0 : Int32)) (-2 : Int32) (0 : Int64) (1 : Int64) (0 : Int32) (0 : Int32) (0 : Int32))
def J_X12_worst_103 (k36 : Zst → Int32 → Int64 → Int64 → Int32 → Option (Zst × Int32)) (σ : Zst) (v1 : Int32) (v2 : Int32) (v8 : Int32) : Option (Zst × Int32) :=
  k36 σ v8 (Int32.toInt64 (σ.1 15)) (Int32.toInt64 (σ.1 14)) (v8 + (1 : Int32))
def L_X12_worst_36 (k126 : Zst → Int32 → Int64 → Int64 → Option (Zst × Int32)) (v1 : Int32) (v2 : Int32) : Nat → Zst → Int32 → Int64 → Int64 → Int32 → Option (Zst × Int32)
  | 0, _, _, _, _, _ => none
  | n36 + 1, σ, v3, v4, v6, v8 => (if (σ.1 2) ≤ v8 then k126 σ v3 v4 v6 else (f_X12_offs σ v8 v1).bind fun t1 => (if (t1.1 14) ≤ (0 : Int32) then L_X12_worst_36 k126 v1 v2 n36 t1 v3 v4 v6 (v8 + (1 : Int32)) else (if v3 < (0 : Int32) then J_X12_worst_103 (fun σ w3 w4 w6 w8 => L_X12_worst_36 k126 v1 v2 n36 σ w3 w4 w6 w8) t1 v1 v2 v8 else (if v2 = (0 : Int32) then (if (((Int32.toInt64 (t1.1 15)) * v6) - (v4 * (Int32.toInt64 (t1.1 14)))) ≤ (0 : Int64) then L_X12_worst_36 k126 v1 v2 n36 t1 v3 v4 v6 (v8 + (1 : Int32)) else J_X12_worst_103 (fun σ w3 w4 w6 w8 => L_X12_worst_36 k126 v1 v2 n36 σ w3 w4 w6 w8) t1 v1 v2 v8) else (if (0 : Int64) ≤ (((Int32.toInt64 (t1.1 15)) * v6) - (v4 * (Int32.toInt64 (t1.1 14)))) then L_X12_worst_36 k126 v1 v2 n36 t1 v3 v4 v6 (v8 + (1 : Int32)) else J_X12_worst_103 (fun σ w3 w4 w6 w8 => L_X12_worst_36 k126 v1 v2 n36 σ w3 w4 w6 w8) t1 v1 v2 v8)))))
def J_X12_worst_126 (σ : Zst) (v3 : Int32) (v4 : Int64) (v6 : Int64) : Option (Zst × Int32) :=
  (if v3 < (0 : Int32) then some (σ, v3) else (f_X12_entersFraction (zI σ 1 (0 : Int32)) v4 v6).bind fun t2 => some (t2, v3))
def f_X12_worst (σ : Zst) (p0 : Int32) (p1 : Int32) : Option (Zst × Int32) :=
  (if (f_X12_isWay p0) = (0 : Int32) then some ((zI σ 0 (0 : Int32)), (-1 : Int32)) else (if (f_X12_in (Int32.toInt64 p1) (0 : Int64) (1 : Int64)) = (0 : Int32) then some ((zI σ 0 (0 : Int32)), (-1 : Int32)) else L_X12_worst_36 (fun σ6 w3 w4 w5 => J_X12_worst_126 σ6 w3 w4 w5) p0 p1 zFu (zI σ 0 (0 : Int32)) (-2 : Int32) (0 : Int64) (1 : Int64) (0 : Int32)))
def f_J13_signum_95d88 (p0 : Int64) : Int32 :=
  (Int64.toInt32 ((jShrL p0 (63 : Int32)) ||| (jUshrL (-p0) (63 : Int32))))
def f_J6_signum_0f7a4 (p0 : Int32) : Int32 :=
  ((jShr p0 (31 : Int32)) ||| (jUshr (-p0) (31 : Int32)))
def L_X12_right_36 (k185 : Zst → Int32 → Int32 → Int32 → Option (Zst × Int32)) (v1 : Int32) (v5 : Int32) : Nat → Zst → Int32 → Int32 → Int32 → Int32 → Option (Zst × Int32)
  | 0, _, _, _, _, _ => none
  | n36 + 1, σ, v2, v3, v4, v6 => (if v5 ≤ v6 then k185 σ v2 v3 v4 else (f_X12_offs σ v5 v1).bind fun t1 => (f_X12_offs t1 v6 v1).bind fun t2 => (if (Int32.toInt64 (t1.1 14)) = (0 : Int64) then L_X12_right_36 k185 v1 v5 n36 t2 v2 v3 v4 (v6 + (1 : Int32)) else (if (t2.1 14) = (0 : Int32) then L_X12_right_36 k185 v1 v5 n36 t2 v2 v3 v4 (v6 + (1 : Int32)) else gIx v5 8 (gIx v6 8 (L_X12_right_36 k185 v1 v5 n36 t2 (v2 + (f_X12_flag (if ((f_J13_signum_95d88 (((Int32.toInt64 (t1.1 15)) * (Int32.toInt64 (t2.1 14))) - ((Int32.toInt64 (t2.1 15)) * (Int32.toInt64 (t1.1 14))))) * (f_J6_signum_0f7a4 (((t2.2.1 1) (Int32.toNatClampNeg v5)) - ((t2.2.1 1) (Int32.toNatClampNeg v6))))) ≤ (0 : Int32) then (0 : Int32) else (1 : Int32)))) (v3 + (f_X12_flag (if (0 : Int32) ≤ ((f_J13_signum_95d88 (((Int32.toInt64 (t1.1 15)) * (Int32.toInt64 (t2.1 14))) - ((Int32.toInt64 (t2.1 15)) * (Int32.toInt64 (t1.1 14))))) * (f_J6_signum_0f7a4 (((t2.2.1 1) (Int32.toNatClampNeg v5)) - ((t2.2.1 1) (Int32.toNatClampNeg v6))))) then (0 : Int32) else (1 : Int32)))) (v4 + (f_X12_flag (if ((f_J13_signum_95d88 (((Int32.toInt64 (t1.1 15)) * (Int32.toInt64 (t2.1 14))) - ((Int32.toInt64 (t2.1 15)) * (Int32.toInt64 (t1.1 14))))) * (f_J6_signum_0f7a4 (((t2.2.1 1) (Int32.toNatClampNeg v5)) - ((t2.2.1 1) (Int32.toNatClampNeg v6))))) = (0 : Int32) then (1 : Int32) else (0 : Int32)))) (v6 + (1 : Int32)))))))
def J_X12_right_185 (k24 : Zst → Int32 → Int32 → Int32 → Int32 → Option (Zst × Int32)) (σ : Zst) (v1 : Int32) (v2 : Int32) (v3 : Int32) (v4 : Int32) (v5 : Int32) : Option (Zst × Int32) :=
  k24 σ v2 v3 v4 (v5 + (1 : Int32))
def L_X12_right_24 (k191 : Zst → Int32 → Int32 → Int32 → Option (Zst × Int32)) (v1 : Int32) : Nat → Zst → Int32 → Int32 → Int32 → Int32 → Option (Zst × Int32)
  | 0, _, _, _, _, _ => none
  | n24 + 1, σ, v2, v3, v4, v5 => (if (σ.1 2) ≤ v5 then k191 σ v2 v3 v4 else L_X12_right_36 (fun σ12 w9 w10 w11 => J_X12_right_185 (fun σ w2 w3 w4 w5 => L_X12_right_24 k191 v1 n24 σ w2 w3 w4 w5) σ12 v1 w9 w10 w11 v5) v1 v5 zFu σ v2 v3 v4 (0 : Int32))
def J_X12_right_191 (σ : Zst) (v2 : Int32) (v3 : Int32) (v4 : Int32) : Option (Zst × Int32) :=
  (f_X12_enters (zI σ 1 (0 : Int32)) (Int32.toInt64 v3)).bind fun t13 => (f_X12_enters t13 (Int32.toInt64 v4)).bind fun t14 => some (t14, v2)
def f_X12_right (σ : Zst) (p0 : Int32) : Option (Zst × Int32) :=
  (if (f_X12_isWay p0) = (0 : Int32) then some ((zI σ 0 (0 : Int32)), (-1 : Int32)) else L_X12_right_24 (fun σ18 w15 w16 w17 => J_X12_right_191 σ18 w15 w16 w17) p0 zFu (zI σ 0 (0 : Int32)) (0 : Int32) (0 : Int32) (0 : Int32) (0 : Int32))
def f_X12_areTold (σ0 : Zst) (p0 : Int32) (p1 : Int32) : Option Int32 :=
  (f_X12_isTold σ0 ((σ0.2.1 13) (Int32.toNatClampNeg (0 : Int32))) p0 p1).bind fun t1 => (if t1 = (0 : Int32) then some (0 : Int32) else (f_X12_isTold σ0 ((σ0.2.1 13) (Int32.toNatClampNeg (1 : Int32))) p0 p1).bind fun t2 => (if t2 = (0 : Int32) then some (0 : Int32) else (f_X12_isTold σ0 ((σ0.2.1 13) (Int32.toNatClampNeg (2 : Int32))) p0 p1).bind fun t3 => some (if t3 = (0 : Int32) then (0 : Int32) else (1 : Int32))))
def L_X12_threeMany_4 (σ0 : Zst) (v1 : Int32) : Nat → Int32 → Int32 → Option Int32
  | 0, _, _ => none
  | n4 + 1, v2, v3 => (if ((12 : Int32) * (σ0.1 3)) ≤ v3 then some v2 else (f_X12_areTold σ0 v3 v1).bind fun t1 => L_X12_threeMany_4 σ0 v1 n4 (v2 + (f_X12_flag t1)) (v3 + (1 : Int32)))
def f_X12_threeMany (σ0 : Zst) (p0 : Int32) : Option Int32 :=
  L_X12_threeMany_4 σ0 p0 zFu (0 : Int32) (0 : Int32)
def L_X12_together_15 (σ0 : Zst) (v1 : Int32) (v2 : Int32) (v3 : Int32) : Nat → Int64 → Int64 → Int64 → Int64 → Int32 → Option Int64
  | 0, _, _, _, _, _ => none
  | n15 + 1, v4, v6, v8, v10, v12 => (if ((12 : Int32) * (σ0.1 3)) ≤ v12 then some ((v4 * v10) - (v6 * v8)) else (f_X12_areTold σ0 v12 v1).bind fun t1 => (if t1 = (0 : Int32) then L_X12_together_15 σ0 v1 v2 v3 n15 v4 v6 v8 v10 (v12 + (1 : Int32)) else gIx v2 3 ((f_X12_at σ0 ((σ0.2.1 13) (Int32.toNatClampNeg v2)) v12 v1).bind fun t2 => gIx v3 3 ((f_X12_at σ0 ((σ0.2.1 13) (Int32.toNatClampNeg v3)) v12 v1).bind fun t3 => L_X12_together_15 σ0 v1 v2 v3 n15 (v4 + (1 : Int64)) (v6 + (Int32.toInt64 t2)) (v8 + (Int32.toInt64 t3)) (v10 + ((Int32.toInt64 t2) * (Int32.toInt64 t3))) (v12 + (1 : Int32))))))
def f_X12_together (σ0 : Zst) (p0 : Int32) (p1 : Int32) (p2 : Int32) : Option Int64 :=
  L_X12_together_15 σ0 p0 p1 p2 zFu (0 : Int64) (0 : Int64) (0 : Int64) (0 : Int64) (0 : Int32)
def L_X12_thousandths_92 (k139 : Int32 → Int64 → Option Int64) (v4 : Int32) (v7 : Int64) (v9 : Int64) (v11 : Int64) (v13 : Int32) : Nat → Int32 → Int64 → Int32 → Option Int64
  | 0, _, _, _ => none
  | n92 + 1, v14, v15, v17 => (if (10 : Int32) ≤ v17 then k139 v14 v15 else (if v15 < (v7 - v11) then L_X12_thousandths_92 k139 v4 v7 v9 v11 v13 n92 v14 (v15 + v11) (v17 + (1 : Int32)) else L_X12_thousandths_92 k139 v4 v7 v9 v11 v13 n92 (v14 + (1 : Int32)) (v15 - (v7 - v11)) (v17 + (1 : Int32))))
def J_X12_thousandths_139 (k77 : Int64 → Int64 → Int32 → Option Int64) (v4 : Int32) (v7 : Int64) (v9 : Int64) (v13 : Int32) (v14 : Int32) (v15 : Int64) : Option Int64 :=
  k77 (((10 : Int64) * v9) + (Int32.toInt64 v14)) v15 (v13 + (1 : Int32))
def L_X12_thousandths_77 (k161 : Int64 → Option Int64) (v4 : Int32) (v7 : Int64) : Nat → Int64 → Int64 → Int32 → Option Int64
  | 0, _, _, _ => none
  | n77 + 1, v9, v11, v13 => (if (3 : Int32) ≤ v13 then k161 v9 else L_X12_thousandths_92 (fun w1 w2 => J_X12_thousandths_139 (fun w9 w11 w13 => L_X12_thousandths_77 k161 v4 v7 n77 w9 w11 w13) v4 v7 v9 v13 w1 w2) v4 v7 v9 v11 v13 zFu (0 : Int32) (0 : Int64) (0 : Int32))
def J_X12_thousandths_161 (v4 : Int32) (v9 : Int64) : Option Int64 :=
  some (if v4 = (0 : Int32) then v9 else (-v9))
def f_X12_thousandths (p0 : Int64) (p1 : Int64) : Option Int64 :=
  gNzL (if (0 : Int64) ≤ p1 then p1 else (-p1)) (gNzL (if (0 : Int64) ≤ p1 then p1 else (-p1)) (L_X12_thousandths_77 (fun w15 => J_X12_thousandths_161 (if (if (0 : Int64) ≤ p0 then (0 : Int32) else (1 : Int32)) = (if (0 : Int64) ≤ p1 then (0 : Int32) else (1 : Int32)) then (0 : Int32) else (1 : Int32)) w15) (if (if (0 : Int64) ≤ p0 then (0 : Int32) else (1 : Int32)) = (if (0 : Int64) ≤ p1 then (0 : Int32) else (1 : Int32)) then (0 : Int32) else (1 : Int32)) (if (0 : Int64) ≤ p1 then p1 else (-p1)) zFu ((if (0 : Int64) ≤ p0 then p0 else (-p0)) / (if (0 : Int64) ≤ p1 then p1 else (-p1))) (jRemL (if (0 : Int64) ≤ p0 then p0 else (-p0)) (if (0 : Int64) ≤ p1 then p1 else (-p1))) (0 : Int32)))
def L_X12_three_48 (k99 : Option (Zst × Int32)) (σ : Zst) (v1 : Int32) (v3 : Int32) : Nat → Int32 → Option (Zst × Int32)
  | 0, _ => none
  | n48 + 1, v4 => (if (3 : Int32) ≤ v4 then k99 else (f_X12_together σ v1 (jRem (v4 + (1 : Int32)) (3 : Int32)) (jRem (v4 + (2 : Int32)) (3 : Int32))).bind fun t1 => (if t1 = (0 : Int64) then some (σ, (-2 : Int32)) else (f_X12_together σ v1 v4 v4).bind fun t2 => (if t2 = (0 : Int64) then some (σ, (-2 : Int32)) else L_X12_three_48 k99 σ v1 v3 n48 (v4 + (1 : Int32)))))
def L_X12_three_107 (v1 : Int32) (v3 : Int32) : Nat → Zst → Int32 → Option (Zst × Int32)
  | 0, _, _ => none
  | n107 + 1, σ, v4 => (if (3 : Int32) ≤ v4 then some (σ, v3) else (f_X12_together σ v1 v4 (jRem (v4 + (1 : Int32)) (3 : Int32))).bind fun t3 => (f_X12_together σ v1 v4 (jRem (v4 + (2 : Int32)) (3 : Int32))).bind fun t4 => (f_X12_together σ v1 (jRem (v4 + (1 : Int32)) (3 : Int32)) (jRem (v4 + (2 : Int32)) (3 : Int32))).bind fun t5 => (f_X12_together σ v1 v4 v4).bind fun t6 => (f_X12_thousandths (t3 * t4) (t5 * t6)).bind fun t7 => (f_X12_enters σ t7).bind fun t8 => L_X12_three_107 v1 v3 n107 t8 (v4 + (1 : Int32)))
def J_X12_three_99 (σ : Zst) (v1 : Int32) (v3 : Int32) : Option (Zst × Int32) :=
  L_X12_three_107 v1 v3 zFu (zI σ 1 (0 : Int32)) (0 : Int32)
def f_X12_three (σ : Zst) (p0 : Int32) (p1 : Int32) : Option (Zst × Int32) :=
  (if (f_X12_isSort (zI σ 0 (0 : Int32)) p0) = (0 : Int32) then some ((zI σ 0 (0 : Int32)), (-1 : Int32)) else (if (f_X12_isWay p1) = (0 : Int32) then some ((zI σ 0 (0 : Int32)), (-1 : Int32)) else (f_X12_threeMany (zA (zI σ 0 (0 : Int32)) 13 (upd (σ.2.1 13) (Int32.toNatClampNeg (2 : Int32)) ((2 : Int32) + p1))) p0).bind fun t9 => (if (2 : Int32) ≤ t9 then L_X12_three_48 (J_X12_three_99 (zA (zI σ 0 (0 : Int32)) 13 (upd (σ.2.1 13) (Int32.toNatClampNeg (2 : Int32)) ((2 : Int32) + p1))) p0 t9) (zA (zI σ 0 (0 : Int32)) 13 (upd (σ.2.1 13) (Int32.toNatClampNeg (2 : Int32)) ((2 : Int32) + p1))) p0 t9 zFu (0 : Int32) else some ((zA (zI σ 0 (0 : Int32)) 13 (upd (σ.2.1 13) (Int32.toNatClampNeg (2 : Int32)) ((2 : Int32) + p1))), (-2 : Int32)))))
def f_X12_slope (σ : Zst) (p0 : Int32) (p1 : Int32) : Option (Zst × Int32) :=
  (if (f_X12_isSort (zI σ 0 (0 : Int32)) p0) = (0 : Int32) then some ((zI σ 0 (0 : Int32)), (-1 : Int32)) else (if (f_X12_isWay p1) = (0 : Int32) then some ((zI σ 0 (0 : Int32)), (-1 : Int32)) else (f_X12_threeMany (zA (zI σ 0 (0 : Int32)) 13 (upd (σ.2.1 13) (Int32.toNatClampNeg (2 : Int32)) ((2 : Int32) + p1))) p0).bind fun t1 => (if t1 < (2 : Int32) then some ((zA (zI σ 0 (0 : Int32)) 13 (upd (σ.2.1 13) (Int32.toNatClampNeg (2 : Int32)) ((2 : Int32) + p1))), (-2 : Int32)) else (f_X12_together (zA (zI σ 0 (0 : Int32)) 13 (upd (σ.2.1 13) (Int32.toNatClampNeg (2 : Int32)) ((2 : Int32) + p1))) p0 (0 : Int32) (1 : Int32)).bind fun t2 => (if t2 = (0 : Int64) then some ((zA (zI σ 0 (0 : Int32)) 13 (upd (σ.2.1 13) (Int32.toNatClampNeg (2 : Int32)) ((2 : Int32) + p1))), (-2 : Int32)) else (f_X12_together (zI (zA (zI σ 0 (0 : Int32)) 13 (upd (σ.2.1 13) (Int32.toNatClampNeg (2 : Int32)) ((2 : Int32) + p1))) 1 (0 : Int32)) p0 (0 : Int32) (2 : Int32)).bind fun t3 => (f_X12_together (zI (zA (zI σ 0 (0 : Int32)) 13 (upd (σ.2.1 13) (Int32.toNatClampNeg (2 : Int32)) ((2 : Int32) + p1))) 1 (0 : Int32)) p0 (0 : Int32) (1 : Int32)).bind fun t4 => (f_X12_entersFraction (zI (zA (zI σ 0 (0 : Int32)) 13 (upd (σ.2.1 13) (Int32.toNatClampNeg (2 : Int32)) ((2 : Int32) + p1))) 1 (0 : Int32)) t3 t4).bind fun t5 => some (t5, (0 : Int32))))))
def f_X12_areNeighbours (σ0 : Zst) (p0 : Int32) (p1 : Int32) (p2 : Int32) : Option Int32 :=
  (f_X12_isTold σ0 (1 : Int32) p0 p1).bind fun t1 => (if t1 = (0 : Int32) then some (0 : Int32) else (f_X12_isTold σ0 ((2 : Int32) + p2) p0 p1).bind fun t2 => (if t2 = (0 : Int32) then some (0 : Int32) else (f_X12_isTold σ0 (5 : Int32) p0 p1).bind fun t3 => some (if t3 = (0 : Int32) then (0 : Int32) else (1 : Int32))))
def L_X12_others_38 (k199 : Int32 → Int32 → Int32 → Option (Zst × Int32)) (σ : Zst) (v1 : Int32) (v2 : Int32) : Nat → Int32 → Int32 → Int32 → Int32 → Option (Zst × Int32)
  | 0, _, _, _, _ => none
  | n38 + 1, v3, v4, v5, v6 => (if ((12 : Int32) * (σ.1 3)) ≤ v6 then k199 v3 v4 v5 else (f_X12_areNeighbours σ v6 v1 v2).bind fun t1 => (if t1 = (0 : Int32) then L_X12_others_38 k199 σ v1 v2 n38 v3 v4 v5 (v6 + (1 : Int32)) else (f_X12_at σ ((2 : Int32) + v2) v6 v1).bind fun t2 => (f_X12_at σ (5 : Int32) v6 v1).bind fun t3 => (f_X12_at σ (1 : Int32) v6 v1).bind fun t4 => L_X12_others_38 k199 σ v1 v2 n38 (v3 + (f_X12_flag (if (jAbs (t2 - t4)) ≤ (jAbs (t3 - t4)) then (0 : Int32) else (1 : Int32)))) (v4 + (f_X12_flag (if (jAbs (t3 - t4)) ≤ (jAbs (t2 - t4)) then (0 : Int32) else (1 : Int32)))) (v5 + (f_X12_flag (if (jAbs (t2 - t4)) ≤ (jAbs (((t2 + t3) / (2 : Int32)) - t4)) then (0 : Int32) else (if (jAbs (t3 - t4)) ≤ (jAbs (((t2 + t3) / (2 : Int32)) - t4)) then (0 : Int32) else (1 : Int32))))) (v6 + (1 : Int32))))
def J_X12_others_199 (σ : Zst) (v3 : Int32) (v4 : Int32) (v5 : Int32) : Option (Zst × Int32) :=
  (f_X12_enters (zI σ 1 (0 : Int32)) (Int32.toInt64 v4)).bind fun t12 => (f_X12_enters t12 (Int32.toInt64 v5)).bind fun t13 => some (t13, v3)
def f_X12_others (σ : Zst) (p0 : Int32) (p1 : Int32) : Option (Zst × Int32) :=
  (if (f_X12_isSort (zI σ 0 (0 : Int32)) p0) = (0 : Int32) then some ((zI σ 0 (0 : Int32)), (-1 : Int32)) else (if (f_X12_in (Int32.toInt64 p1) (0 : Int64) (2 : Int64)) = (0 : Int32) then some ((zI σ 0 (0 : Int32)), (-1 : Int32)) else L_X12_others_38 (fun w14 w15 w16 => J_X12_others_199 (zI σ 0 (0 : Int32)) w14 w15 w16) (zI σ 0 (0 : Int32)) p0 p1 zFu (0 : Int32) (0 : Int32) (0 : Int32) (0 : Int32)))
def L_X12_worth_52 (k137 : Int64 → Int32 → Option (Zst × Int32)) (σ : Zst) (v1 : Int32) (v2 : Int32) (v3 : Int32) (v4 : Int64) (v6 : Int32) : Nat → Int64 → Int32 → Int32 → Option (Zst × Int32)
  | 0, _, _, _ => none
  | n52 + 1, v7, v9, v10 => (if ((12 : Int32) * (σ.1 3)) ≤ v10 then k137 v7 v9 else (f_X12_areNeighbours σ v10 v1 v2).bind fun t1 => (if t1 = (0 : Int32) then L_X12_worth_52 k137 σ v1 v2 v3 v4 v6 n52 v7 v9 (v10 + (1 : Int32)) else (f_X12_at σ (5 : Int32) v10 v1).bind fun t2 => (f_X12_at σ ((2 : Int32) + v2) v10 v1).bind fun t3 => (f_X12_at σ (1 : Int32) v10 v1).bind fun t4 => L_X12_worth_52 k137 σ v1 v2 v3 v4 v6 n52 (v7 + ((Int32.toInt64 (((v6 * t2) + (((100 : Int32) - v6) * t3)) - ((100 : Int32) * t4))) * (Int32.toInt64 (((v6 * t2) + (((100 : Int32) - v6) * t3)) - ((100 : Int32) * t4))))) (v9 + (1 : Int32)) (v10 + (1 : Int32))))
def J_X12_worth_137 (k36 : Int32 → Int64 → Int32 → Option (Zst × Int32)) (σ : Zst) (v1 : Int32) (v2 : Int32) (v3 : Int32) (v4 : Int64) (v6 : Int32) (v7 : Int64) (v9 : Int32) : Option (Zst × Int32) :=
  (if v9 ≤ (0 : Int32) then k36 v3 v4 (v6 + (1 : Int32)) else (if v3 < (0 : Int32) then k36 v6 v7 (v6 + (1 : Int32)) else (if v4 ≤ v7 then k36 v3 v4 (v6 + (1 : Int32)) else k36 v6 v7 (v6 + (1 : Int32)))))
def L_X12_worth_36 (k167 : Int32 → Int64 → Option (Zst × Int32)) (σ : Zst) (v1 : Int32) (v2 : Int32) : Nat → Int32 → Int64 → Int32 → Option (Zst × Int32)
  | 0, _, _, _ => none
  | n36 + 1, v3, v4, v6 => (if (100 : Int32) < v6 then k167 v3 v4 else L_X12_worth_52 (fun w5 w6 => J_X12_worth_137 (fun w3 w4 w6 => L_X12_worth_36 k167 σ v1 v2 n36 w3 w4 w6) σ v1 v2 v3 v4 v6 w5 w6) σ v1 v2 v3 v4 v6 zFu (0 : Int64) (0 : Int32) (0 : Int32))
def J_X12_worth_167 (σ : Zst) (v3 : Int32) (v4 : Int64) : Option (Zst × Int32) :=
  (if v3 < (0 : Int32) then some (σ, v3) else (f_X12_enters (zI σ 1 (0 : Int32)) v4).bind fun t7 => some (t7, v3))
def f_X12_worth (σ : Zst) (p0 : Int32) (p1 : Int32) : Option (Zst × Int32) :=
  (if (f_X12_isSort (zI σ 0 (0 : Int32)) p0) = (0 : Int32) then some ((zI σ 0 (0 : Int32)), (-1 : Int32)) else (if (f_X12_in (Int32.toInt64 p1) (0 : Int64) (2 : Int64)) = (0 : Int32) then some ((zI σ 0 (0 : Int32)), (-1 : Int32)) else L_X12_worth_36 (fun w8 w9 => J_X12_worth_167 (zI σ 0 (0 : Int32)) w8 w9) (zI σ 0 (0 : Int32)) p0 p1 zFu (-2 : Int32) (0 : Int64) (0 : Int32)))
def L_X12_wastes_2 (k27 : Zst → Option Zst) (v1 : Int32) : Nat → Zst → Int32 → Option Zst
  | 0, _, _ => none
  | n2 + 1, σ, v2 => (if (2 : Int32) ≤ v2 then k27 σ else gIx v2 2 (gIx v2 2 (L_X12_wastes_2 k27 v1 n2 (zL (zL σ 1 (vp_updL (σ.2.2.1 1) (Int32.toNatClampNeg v2) (0 : Int64))) 2 (vp_updL (σ.2.2.1 2) (Int32.toNatClampNeg v2) (0 : Int64))) (v2 + (1 : Int32)))))
def L_X12_wastes_29 (v1 : Int32) : Nat → Zst → Int32 → Option Zst
  | 0, _, _ => none
  | n29 + 1, σ, v2 => (if ((12 : Int32) * (σ.1 3)) ≤ v2 then some σ else (f_X12_isTold σ (0 : Int32) v2 v1).bind fun t1 => (if t1 = (0 : Int32) then L_X12_wastes_29 v1 n29 σ (v2 + (1 : Int32)) else (f_X12_isTold σ (1 : Int32) v2 v1).bind fun t2 => (if t2 = (0 : Int32) then L_X12_wastes_29 v1 n29 σ (v2 + (1 : Int32)) else gIx (((12 : Int32) * v1) + (jRem v2 (12 : Int32))) 96 (gIx (f_X12_flag ((σ.2.1 7) (Int32.toNatClampNeg (((12 : Int32) * v1) + (jRem v2 (12 : Int32)))))) 2 ((f_X12_at σ (0 : Int32) v2 v1).bind fun t3 => (f_X12_at σ (1 : Int32) v2 v1).bind fun t4 => gIx v1 8 (gIx (f_X12_flag ((σ.2.1 7) (Int32.toNatClampNeg (((12 : Int32) * v1) + (jRem v2 (12 : Int32)))))) 2 (gIx (f_X12_flag ((σ.2.1 7) (Int32.toNatClampNeg (((12 : Int32) * v1) + (jRem v2 (12 : Int32)))))) 2 ((f_X12_at (zL σ 1 (vp_updL (σ.2.2.1 1) (Int32.toNatClampNeg (f_X12_flag ((σ.2.1 7) (Int32.toNatClampNeg (((12 : Int32) * v1) + (jRem v2 (12 : Int32))))))) (((σ.2.2.1 1) (Int32.toNatClampNeg (f_X12_flag ((σ.2.1 7) (Int32.toNatClampNeg (((12 : Int32) * v1) + (jRem v2 (12 : Int32)))))))) + (Int32.toInt64 (t3 - ((t4 * ((σ.2.1 0) (Int32.toNatClampNeg v1))) / (100 : Int32))))))) (1 : Int32) v2 v1).bind fun t5 => gIx (f_X12_flag ((σ.2.1 7) (Int32.toNatClampNeg (((12 : Int32) * v1) + (jRem v2 (12 : Int32)))))) 2 (L_X12_wastes_29 v1 n29 (zL (zL σ 1 (vp_updL (σ.2.2.1 1) (Int32.toNatClampNeg (f_X12_flag ((σ.2.1 7) (Int32.toNatClampNeg (((12 : Int32) * v1) + (jRem v2 (12 : Int32))))))) (((σ.2.2.1 1) (Int32.toNatClampNeg (f_X12_flag ((σ.2.1 7) (Int32.toNatClampNeg (((12 : Int32) * v1) + (jRem v2 (12 : Int32)))))))) + (Int32.toInt64 (t3 - ((t4 * ((σ.2.1 0) (Int32.toNatClampNeg v1))) / (100 : Int32))))))) 2 (vp_updL (σ.2.2.1 2) (Int32.toNatClampNeg (f_X12_flag ((σ.2.1 7) (Int32.toNatClampNeg (((12 : Int32) * v1) + (jRem v2 (12 : Int32))))))) (((σ.2.2.1 2) (Int32.toNatClampNeg (f_X12_flag ((σ.2.1 7) (Int32.toNatClampNeg (((12 : Int32) * v1) + (jRem v2 (12 : Int32)))))))) + (Int32.toInt64 t5)))) (v2 + (1 : Int32)))))))))))
def J_X12_wastes_27 (σ : Zst) (v1 : Int32) : Option Zst :=
  L_X12_wastes_29 v1 zFu σ (0 : Int32)
def f_X12_wastes (σ : Zst) (p0 : Int32) : Option Zst :=
  L_X12_wastes_2 (fun σ6 => J_X12_wastes_27 σ6 p0) p0 zFu σ (0 : Int32)
def f_X12_waste (σ : Zst) (p0 : Int32) : Option (Zst × Int32) :=
  (if (f_X12_isSort (zI σ 0 (0 : Int32)) p0) = (0 : Int32) then some ((zI σ 0 (0 : Int32)), (-1 : Int32)) else (f_X12_wastes (zI σ 0 (0 : Int32)) p0).bind fun t1 => (if ((t1.2.2.1 2) (Int32.toNatClampNeg (0 : Int32))) = (0 : Int64) then some (t1, (-2 : Int32)) else (if ((t1.2.2.1 2) (Int32.toNatClampNeg (1 : Int32))) = (0 : Int64) then some (t1, (-2 : Int32)) else (f_X12_entersFraction (zI t1 1 (0 : Int32)) ((t1.2.2.1 1) (Int32.toNatClampNeg (1 : Int32))) ((t1.2.2.1 2) (Int32.toNatClampNeg (1 : Int32)))).bind fun t2 => (f_X12_entersFraction t2 ((t2.2.2.1 1) (Int32.toNatClampNeg (0 : Int32))) ((t2.2.2.1 2) (Int32.toNatClampNeg (0 : Int32)))).bind fun t3 => some (t3, (if ((((t3.2.2.1 1) (Int32.toNatClampNeg (1 : Int32))) * ((t3.2.2.1 2) (Int32.toNatClampNeg (0 : Int32)))) - (((t3.2.2.1 1) (Int32.toNatClampNeg (0 : Int32))) * ((t3.2.2.1 2) (Int32.toNatClampNeg (1 : Int32))))) ≤ (0 : Int64) then (if (0 : Int64) ≤ ((((t3.2.2.1 1) (Int32.toNatClampNeg (1 : Int32))) * ((t3.2.2.1 2) (Int32.toNatClampNeg (0 : Int32)))) - (((t3.2.2.1 1) (Int32.toNatClampNeg (0 : Int32))) * ((t3.2.2.1 2) (Int32.toNatClampNeg (1 : Int32))))) then (0 : Int32) else (2 : Int32)) else (1 : Int32))))))
def J_X12_readsClaim_115 (σ : Zst) (v1 : Int32) (s0 : Int32) (s1 : Int32) : Option (Zst × Int32) :=
  gIx s1 12 (gIx v1 12 (gIx v1 12 (some ((zI (zA σ 20 (upd (σ.2.1 20) (Int32.toNatClampNeg s1) s0)) 6 ((σ.1 6) + (f_X12_flag (if ((upd (σ.2.1 20) (Int32.toNatClampNeg s1) s0) (Int32.toNatClampNeg v1)) < (0 : Int32) then (0 : Int32) else (1 : Int32))))), (if ((upd (σ.2.1 20) (Int32.toNatClampNeg s1) s0) (Int32.toNatClampNeg v1)) < (0 : Int32) then (0 : Int32) else (1 : Int32))))))
def J_X12_readsClaim_63 (σ : Zst) (v1 : Int32) (s0 : Int32) (s1 : Int32) : Option (Zst × Int32) :=
  gIx s1 12 (gIx v1 12 (gIx v1 12 ((if (0 : Int32) ≤ ((upd (σ.2.1 19) (Int32.toNatClampNeg s1) s0) (Int32.toNatClampNeg v1)) then (f_X12_among (zI (zA σ 19 (upd (σ.2.1 19) (Int32.toNatClampNeg s1) s0)) 6 ((σ.1 6) + (f_X12_flag (if ((upd (σ.2.1 19) (Int32.toNatClampNeg s1) s0) (Int32.toNatClampNeg v1)) < (0 : Int32) then (0 : Int32) else (1 : Int32))))) 12).bind fun t7 => J_X12_readsClaim_115 (zI (zA σ 19 (upd (σ.2.1 19) (Int32.toNatClampNeg s1) s0)) 6 ((σ.1 6) + (f_X12_flag (if ((upd (σ.2.1 19) (Int32.toNatClampNeg s1) s0) (Int32.toNatClampNeg v1)) < (0 : Int32) then (0 : Int32) else (1 : Int32))))) v1 t7 v1 else J_X12_readsClaim_115 (zI (zA σ 19 (upd (σ.2.1 19) (Int32.toNatClampNeg s1) s0)) 6 ((σ.1 6) + (f_X12_flag (if ((upd (σ.2.1 19) (Int32.toNatClampNeg s1) s0) (Int32.toNatClampNeg v1)) < (0 : Int32) then (0 : Int32) else (1 : Int32))))) v1 (-1 : Int32) v1))))
def f_X12_readsClaim (σ : Zst) (p0 : Int32) : Option (Zst × Int32) :=
  (f_X12_among σ 12).bind fun t8 => gIx p0 12 (gIx p0 12 (gIx p0 12 ((if (0 : Int32) ≤ ((upd (σ.2.1 18) (Int32.toNatClampNeg p0) t8) (Int32.toNatClampNeg p0)) then (f_X12_among (zI (zA σ 18 (upd (σ.2.1 18) (Int32.toNatClampNeg p0) t8)) 6 ((σ.1 6) + (f_X12_flag (if ((upd (σ.2.1 18) (Int32.toNatClampNeg p0) t8) (Int32.toNatClampNeg p0)) < (0 : Int32) then (0 : Int32) else (1 : Int32))))) 9).bind fun t11 => J_X12_readsClaim_63 (zI (zA σ 18 (upd (σ.2.1 18) (Int32.toNatClampNeg p0) t8)) 6 ((σ.1 6) + (f_X12_flag (if ((upd (σ.2.1 18) (Int32.toNatClampNeg p0) t8) (Int32.toNatClampNeg p0)) < (0 : Int32) then (0 : Int32) else (1 : Int32))))) p0 t11 p0 else J_X12_readsClaim_63 (zI (zA σ 18 (upd (σ.2.1 18) (Int32.toNatClampNeg p0) t8)) 6 ((σ.1 6) + (f_X12_flag (if ((upd (σ.2.1 18) (Int32.toNatClampNeg p0) t8) (Int32.toNatClampNeg p0)) < (0 : Int32) then (0 : Int32) else (1 : Int32))))) p0 (-1 : Int32) p0))))
def L_X12_story_37 (k93 : Zst → Int32 → Int32 → Option (Zst × Int32)) (v1 : Int32) : Nat → Zst → Int32 → Int32 → Int32 → Option (Zst × Int32)
  | 0, _, _, _, _ => none
  | n37 + 1, σ, v2, v3, v4 => (if v4 = (0 : Int32) then k93 σ v2 v3 else (f_X12_readsClaim σ v2).bind fun t1 => (if t1.2 = (0 : Int32) then L_X12_story_37 k93 v1 n37 (zI t1.1 6 ((t1.1.1 6) + (f_X12_flag (0 : Int32)))) (v2 + (f_X12_flag t1.2)) t1.2 (0 : Int32) else (f_X12_among t1.1 13).bind fun t2 => L_X12_story_37 k93 v1 n37 (zI t1.1 6 ((t1.1.1 6) + (f_X12_flag (if t2 < (0 : Int32) then (0 : Int32) else (1 : Int32))))) (v2 + (f_X12_flag t1.2)) t1.2 (if t2 < (0 : Int32) then (0 : Int32) else (1 : Int32))))
def L_X12_story_122 (k200 : Zst → Option (Zst × Int32)) (v2 : Int32) : Nat → Zst → Int32 → Option (Zst × Int32)
  | 0, _, _ => none
  | n122 + 1, σ, v6 => (if v2 ≤ v6 then k200 σ else gIx v6 12 (gIx (((12 : Int32) * (σ.1 20)) + v6) 72 (gIx v6 12 (gIx (((12 : Int32) * (σ.1 20)) + v6) 72 (gIx v6 12 (gIx (((12 : Int32) * (σ.1 20)) + v6) 72 (L_X12_story_122 k200 v2 n122 (zA (zA (zA σ 15 (upd (σ.2.1 15) (Int32.toNatClampNeg (((12 : Int32) * (σ.1 20)) + v6)) ((σ.2.1 18) (Int32.toNatClampNeg v6)))) 16 (upd (σ.2.1 16) (Int32.toNatClampNeg (((12 : Int32) * (σ.1 20)) + v6)) ((σ.2.1 19) (Int32.toNatClampNeg v6)))) 17 (upd (σ.2.1 17) (Int32.toNatClampNeg (((12 : Int32) * (σ.1 20)) + v6)) ((σ.2.1 20) (Int32.toNatClampNeg v6)))) (v6 + (1 : Int32)))))))))
def J_X12_story_200 (σ : Zst) : Option (Zst × Int32) :=
  some ((zI σ 20 ((σ.1 20) + (1 : Int32))), (((σ.1 20) + (1 : Int32)) - (1 : Int32)))
def J_X12_story_93 (σ : Zst) (v1 : Int32) (v2 : Int32) (v3 : Int32) : Option (Zst × Int32) :=
  (if (0 : Int32) ≤ (f_X12_fault σ v1 v3) then gIx (σ.1 20) 6 (L_X12_story_122 (fun σ5 => J_X12_story_200 σ5) v2 zFu (zA σ 14 (upd (σ.2.1 14) (Int32.toNatClampNeg (σ.1 20)) v2)) (0 : Int32)) else some (σ, (f_X12_fault σ v1 v3)))
def f_X12_story (σ : Zst)  : Option (Zst × Int32) :=
  (f_X12_begins (zI σ 0 (0 : Int32))).bind fun t6 => (if (t6.1.1 20) = (6 : Int32) then some (t6.1, (-100 : Int32)) else L_X12_story_37 (fun σ11 w9 w10 => J_X12_story_93 σ11 t6.2 w9 w10) t6.2 zFu t6.1 (0 : Int32) (1 : Int32) (if t6.2 ≤ (0 : Int32) then (0 : Int32) else (1 : Int32)))
def L_X12_means_35 (k86 : Zst → Option Zst) (v1 : Int32) (v2 : Int32) : Nat → Zst → Int32 → Option Zst
  | 0, _, _ => none
  | n35 + 1, σ, v3 => (if (2 : Int32) ≤ v3 then k86 σ else gIx ((1 : Int32) - v3) 2 (gIx ((5 : Int32) * v3) 10 ((if v2 = (0 : Int32) then gIx ((5 : Int32) * v3) 10 (L_X12_means_35 k86 v1 v2 n35 (zL (zL σ 3 (vp_updL (σ.2.2.1 3) (Int32.toNatClampNeg ((5 : Int32) * v3)) ((σ.2.2.1 1) (Int32.toNatClampNeg ((1 : Int32) - v3))))) 4 (vp_updL (σ.2.2.1 4) (Int32.toNatClampNeg ((5 : Int32) * v3)) (0 : Int64))) (v3 + (1 : Int32))) else gIx ((1 : Int32) - v3) 2 (gIx ((5 : Int32) * v3) 10 (L_X12_means_35 k86 v1 v2 n35 (zL (zL σ 3 (vp_updL (σ.2.2.1 3) (Int32.toNatClampNeg ((5 : Int32) * v3)) ((σ.2.2.1 1) (Int32.toNatClampNeg ((1 : Int32) - v3))))) 4 (vp_updL (σ.2.2.1 4) (Int32.toNatClampNeg ((5 : Int32) * v3)) ((σ.2.2.1 2) (Int32.toNatClampNeg ((1 : Int32) - v3))))) (v3 + (1 : Int32))))))))
def L_X12_means_126 (k162 : Zst → Option Zst) (v1 : Int32) (v3 : Int32) (v4 : Int32) : Nat → Zst → Int32 → Option Zst
  | 0, _, _ => none
  | n126 + 1, σ, v5 => (if (2 : Int32) ≤ v5 then k162 σ else gIx (((5 : Int32) * v5) + v3) 10 (gIx (((5 : Int32) * v5) + v3) 10 (L_X12_means_126 k162 v1 v3 v4 n126 (zL (zL σ 3 (vp_updL (σ.2.2.1 3) (Int32.toNatClampNeg (((5 : Int32) * v5) + v3)) (0 : Int64))) 4 (vp_updL (σ.2.2.1 4) (Int32.toNatClampNeg (((5 : Int32) * v5) + v3)) (0 : Int64))) (v5 + (1 : Int32)))))
def L_X12_means_165 (k262 : Zst → Option Zst) (v1 : Int32) (v3 : Int32) (v4 : Int32) : Nat → Zst → Int32 → Option Zst
  | 0, _, _ => none
  | n165 + 1, σ, v5 => (if ((12 : Int32) * (σ.1 3)) ≤ v5 then k262 σ else (f_X12_isTold σ v4 v5 v1).bind fun t1 => (if t1 = (0 : Int32) then L_X12_means_165 k262 v1 v3 v4 n165 σ (v5 + (1 : Int32)) else gIx (((12 : Int32) * v1) + (jRem v5 (12 : Int32))) 96 (gIx (((5 : Int32) * (f_X12_flag (if ((σ.2.1 7) (Int32.toNatClampNeg (((12 : Int32) * v1) + (jRem v5 (12 : Int32))))) = (0 : Int32) then (1 : Int32) else (0 : Int32)))) + v3) 10 ((f_X12_at σ v4 v5 v1).bind fun t4 => gIx (((5 : Int32) * (f_X12_flag (if ((σ.2.1 7) (Int32.toNatClampNeg (((12 : Int32) * v1) + (jRem v5 (12 : Int32))))) = (0 : Int32) then (1 : Int32) else (0 : Int32)))) + v3) 10 (gIx (((5 : Int32) * (f_X12_flag (if ((σ.2.1 7) (Int32.toNatClampNeg (((12 : Int32) * v1) + (jRem v5 (12 : Int32))))) = (0 : Int32) then (1 : Int32) else (0 : Int32)))) + v3) 10 (gIx (((5 : Int32) * (f_X12_flag (if ((σ.2.1 7) (Int32.toNatClampNeg (((12 : Int32) * v1) + (jRem v5 (12 : Int32))))) = (0 : Int32) then (1 : Int32) else (0 : Int32)))) + v3) 10 (L_X12_means_165 k262 v1 v3 v4 n165 (zL (zL σ 3 (vp_updL (σ.2.2.1 3) (Int32.toNatClampNeg (((5 : Int32) * (f_X12_flag (if ((σ.2.1 7) (Int32.toNatClampNeg (((12 : Int32) * v1) + (jRem v5 (12 : Int32))))) = (0 : Int32) then (1 : Int32) else (0 : Int32)))) + v3)) (((σ.2.2.1 3) (Int32.toNatClampNeg (((5 : Int32) * (f_X12_flag (if ((σ.2.1 7) (Int32.toNatClampNeg (((12 : Int32) * v1) + (jRem v5 (12 : Int32))))) = (0 : Int32) then (1 : Int32) else (0 : Int32)))) + v3))) + (Int32.toInt64 t4)))) 4 (vp_updL (σ.2.2.1 4) (Int32.toNatClampNeg (((5 : Int32) * (f_X12_flag (if ((σ.2.1 7) (Int32.toNatClampNeg (((12 : Int32) * v1) + (jRem v5 (12 : Int32))))) = (0 : Int32) then (1 : Int32) else (0 : Int32)))) + v3)) (((σ.2.2.1 4) (Int32.toNatClampNeg (((5 : Int32) * (f_X12_flag (if ((σ.2.1 7) (Int32.toNatClampNeg (((12 : Int32) * v1) + (jRem v5 (12 : Int32))))) = (0 : Int32) then (1 : Int32) else (0 : Int32)))) + v3))) + (1 : Int64)))) (v5 + (1 : Int32)))))))))
def J_X12_means_262 (k88 : Zst → Int32 → Option Zst) (σ : Zst) (v1 : Int32) (v3 : Int32) : Option Zst :=
  k88 σ (v3 + (1 : Int32))
def J_X12_means_162 (k88 : Zst → Int32 → Option Zst) (σ : Zst) (v1 : Int32) (v3 : Int32) (v4 : Int32) : Option Zst :=
  L_X12_means_165 (fun σ5 => J_X12_means_262 k88 σ5 v1 v3) v1 v3 v4 zFu σ (0 : Int32)
def L_X12_means_88 (v1 : Int32) : Nat → Zst → Int32 → Option Zst
  | 0, _, _ => none
  | n88 + 1, σ, v3 => (if (5 : Int32) ≤ v3 then some σ else L_X12_means_126 (fun σ10 => J_X12_means_162 (fun σ w3 => L_X12_means_88 v1 n88 σ w3) σ10 v1 v3 (if v3 = (1 : Int32) then (1 : Int32) else (if v3 = (2 : Int32) then (0 : Int32) else (if v3 = (3 : Int32) then (5 : Int32) else (2 : Int32))))) v1 v3 (if v3 = (1 : Int32) then (1 : Int32) else (if v3 = (2 : Int32) then (0 : Int32) else (if v3 = (3 : Int32) then (5 : Int32) else (2 : Int32)))) zFu σ (0 : Int32))
def J_X12_means_86 (σ : Zst) (v1 : Int32) : Option Zst :=
  L_X12_means_88 v1 zFu σ (1 : Int32)
def f_X12_means (σ : Zst) (p0 : Int32) : Option Zst :=
  (f_X12_wastes σ p0).bind fun t11 => L_X12_means_35 (fun σ15 => J_X12_means_86 σ15 p0) p0 (if ((t11.2.2.1 2) (Int32.toNatClampNeg (0 : Int32))) = (0 : Int64) then (0 : Int32) else (if ((t11.2.2.1 2) (Int32.toNatClampNeg (1 : Int32))) = (0 : Int64) then (0 : Int32) else (1 : Int32))) zFu t11 (0 : Int32)
def J_X12_fails_129 (k7 : Int32 → Int32 → Option Int32) (σ0 : Zst) (v1 : Int32) (v2 : Int32) (v3 : Int32) (v4 : Int32) (v5 : Int32) (s0 : Int32) : Option Int32 :=
  (if s0 = (0 : Int32) then k7 (v2 + (f_X12_flag (1 : Int32))) (v3 + (1 : Int32)) else gIx v4 10 ((if ((σ0.2.2.1 4) (Int32.toNatClampNeg v4)) = (0 : Int64) then k7 (v2 + (f_X12_flag (1 : Int32))) (v3 + (1 : Int32)) else gIx v5 10 (k7 (v2 + (f_X12_flag (if ((σ0.2.2.1 4) (Int32.toNatClampNeg v5)) = (0 : Int64) then (1 : Int32) else (0 : Int32)))) (v3 + (1 : Int32))))))
def L_X12_fails_7 (σ0 : Zst) (v1 : Int32) : Nat → Int32 → Int32 → Option Int32
  | 0, _, _ => none
  | n7 + 1, v2, v3 => gIx v1 6 ((if (((12 : Int32) * v1) + ((σ0.2.1 14) (Int32.toNatClampNeg v1))) ≤ v3 then some v2 else gIx v3 72 (gIx v3 72 (gIx ((σ0.2.1 15) (Int32.toNatClampNeg v3)) 10 (gIx ((σ0.2.1 17) (Int32.toNatClampNeg v3)) 10 (gIx ((σ0.2.1 17) (Int32.toNatClampNeg v3)) 10 (gIx ((σ0.2.1 15) (Int32.toNatClampNeg v3)) 10 (gIx v3 72 ((if ((σ0.2.1 16) (Int32.toNatClampNeg v3)) = (0 : Int32) then (if (0 : Int32) ≤ (f_J13_signum_95d88 ((((σ0.2.2.1 3) (Int32.toNatClampNeg ((σ0.2.1 15) (Int32.toNatClampNeg v3)))) * ((σ0.2.2.1 4) (Int32.toNatClampNeg ((σ0.2.1 17) (Int32.toNatClampNeg v3))))) - (((σ0.2.2.1 3) (Int32.toNatClampNeg ((σ0.2.1 17) (Int32.toNatClampNeg v3)))) * ((σ0.2.2.1 4) (Int32.toNatClampNeg ((σ0.2.1 15) (Int32.toNatClampNeg v3))))))) then J_X12_fails_129 (fun w2 w3 => L_X12_fails_7 σ0 v1 n7 w2 w3) σ0 v1 v2 v3 ((σ0.2.1 15) (Int32.toNatClampNeg v3)) ((σ0.2.1 17) (Int32.toNatClampNeg v3)) (0 : Int32) else J_X12_fails_129 (fun w2 w3 => L_X12_fails_7 σ0 v1 n7 w2 w3) σ0 v1 v2 v3 ((σ0.2.1 15) (Int32.toNatClampNeg v3)) ((σ0.2.1 17) (Int32.toNatClampNeg v3)) (1 : Int32)) else gIx v3 72 ((if ((σ0.2.1 16) (Int32.toNatClampNeg v3)) = (1 : Int32) then (if (f_J13_signum_95d88 ((((σ0.2.2.1 3) (Int32.toNatClampNeg ((σ0.2.1 15) (Int32.toNatClampNeg v3)))) * ((σ0.2.2.1 4) (Int32.toNatClampNeg ((σ0.2.1 17) (Int32.toNatClampNeg v3))))) - (((σ0.2.2.1 3) (Int32.toNatClampNeg ((σ0.2.1 17) (Int32.toNatClampNeg v3)))) * ((σ0.2.2.1 4) (Int32.toNatClampNeg ((σ0.2.1 15) (Int32.toNatClampNeg v3))))))) ≤ (0 : Int32) then J_X12_fails_129 (fun w2 w3 => L_X12_fails_7 σ0 v1 n7 w2 w3) σ0 v1 v2 v3 ((σ0.2.1 15) (Int32.toNatClampNeg v3)) ((σ0.2.1 17) (Int32.toNatClampNeg v3)) (0 : Int32) else J_X12_fails_129 (fun w2 w3 => L_X12_fails_7 σ0 v1 n7 w2 w3) σ0 v1 v2 v3 ((σ0.2.1 15) (Int32.toNatClampNeg v3)) ((σ0.2.1 17) (Int32.toNatClampNeg v3)) (1 : Int32)) else (if (f_J13_signum_95d88 ((((σ0.2.2.1 3) (Int32.toNatClampNeg ((σ0.2.1 15) (Int32.toNatClampNeg v3)))) * ((σ0.2.2.1 4) (Int32.toNatClampNeg ((σ0.2.1 17) (Int32.toNatClampNeg v3))))) - (((σ0.2.2.1 3) (Int32.toNatClampNeg ((σ0.2.1 17) (Int32.toNatClampNeg v3)))) * ((σ0.2.2.1 4) (Int32.toNatClampNeg ((σ0.2.1 15) (Int32.toNatClampNeg v3))))))) = (0 : Int32) then J_X12_fails_129 (fun w2 w3 => L_X12_fails_7 σ0 v1 n7 w2 w3) σ0 v1 v2 v3 ((σ0.2.1 15) (Int32.toNatClampNeg v3)) ((σ0.2.1 17) (Int32.toNatClampNeg v3)) (1 : Int32) else J_X12_fails_129 (fun w2 w3 => L_X12_fails_7 σ0 v1 n7 w2 w3) σ0 v1 v2 v3 ((σ0.2.1 15) (Int32.toNatClampNeg v3)) ((σ0.2.1 17) (Int32.toNatClampNeg v3)) (0 : Int32))))))))))))))
def f_X12_fails (σ0 : Zst) (p0 : Int32) : Option Int32 :=
  L_X12_fails_7 σ0 p0 zFu (0 : Int32) ((12 : Int32) * p0)
def L_X12_holding_9 (σ : Zst) : Nat → Int32 → Int32 → Option (Zst × Int32)
  | 0, _, _ => none
  | n9 + 1, v2, v3 => (if (σ.1 20) ≤ v3 then some (σ, v2) else (f_X12_fails σ v3).bind fun t1 => L_X12_holding_9 σ n9 (v2 ||| (if t1 = (0 : Int32) then (jShl (1 : Int32) v3) else (0 : Int32))) (v3 + (1 : Int32)))
def f_X12_holding (σ : Zst) (p0 : Int32) : Option (Zst × Int32) :=
  (f_X12_means σ p0).bind fun t4 => L_X12_holding_9 t4 zFu (0 : Int32) (0 : Int32)
def L_X12_holds_28 (v2 : Int32) : Nat → Zst → Int32 → Option (Zst × Int32)
  | 0, _, _ => none
  | n28 + 1, σ, v3 => (if (σ.1 20) ≤ v3 then some (σ, v2) else (f_X12_fails σ v3).bind fun t1 => (f_X12_enters σ (Int32.toInt64 t1)).bind fun t2 => L_X12_holds_28 v2 n28 t2 (v3 + (1 : Int32)))
def f_X12_holds (σ : Zst) (p0 : Int32) : Option (Zst × Int32) :=
  (if (f_X12_isSort (zI σ 0 (0 : Int32)) p0) = (0 : Int32) then some ((zI σ 0 (0 : Int32)), (-1 : Int32)) else (f_X12_holding (zI σ 0 (0 : Int32)) p0).bind fun t3 => L_X12_holds_28 t3.2 zFu (zI t3.1 1 (0 : Int32)) (0 : Int32))
def L_X12_parts_12 (k59 : Zst → Int32 → Int32 → Option (Zst × Int32)) : Nat → Zst → Int32 → Int32 → Int32 → Option (Zst × Int32)
  | 0, _, _, _, _ => none
  | n12 + 1, σ, v1, v2, v3 => (if (σ.1 2) ≤ v3 then k59 σ v1 v2 else (f_X12_holding σ v3).bind fun t1 => (if t1.2 = (0 : Int32) then L_X12_parts_12 k59 n12 t1.1 v1 v2 (v3 + (1 : Int32)) else (if v1 < (0 : Int32) then L_X12_parts_12 k59 n12 t1.1 v3 t1.2 (v3 + (1 : Int32)) else (if (f_J6_bitCount_0f7a4 v2) ≤ (f_J6_bitCount_0f7a4 t1.2) then L_X12_parts_12 k59 n12 t1.1 v1 v2 (v3 + (1 : Int32)) else L_X12_parts_12 k59 n12 t1.1 v3 t1.2 (v3 + (1 : Int32))))))
def J_X12_parts_59 (σ : Zst) (v1 : Int32) (v2 : Int32) : Option (Zst × Int32) :=
  (if v1 < (0 : Int32) then some (σ, v1) else (f_X12_enters (zI σ 1 (0 : Int32)) (Int32.toInt64 v2)).bind fun t2 => some (t2, v1))
def f_X12_parts (σ : Zst)  : Option (Zst × Int32) :=
  L_X12_parts_12 (fun σ5 w3 w4 => J_X12_parts_59 σ5 w3 w4) zFu (zI σ 0 (0 : Int32)) (-2 : Int32) (0 : Int32) (0 : Int32)
def f_X12_twice (σ : Zst) (p0 : Int32) (p1 : Int32) (p2 : Int32) : Option (Zst × Int32) :=
  (if (f_X12_isSort (zI σ 0 (0 : Int32)) p0) = (0 : Int32) then some ((zI σ 0 (0 : Int32)), (-1 : Int32)) else (if (f_X12_isSort (zI σ 0 (0 : Int32)) p1) = (0 : Int32) then some ((zI σ 0 (0 : Int32)), (-1 : Int32)) else (if (f_X12_in (Int32.toInt64 p2) (1 : Int64) (99 : Int64)) = (0 : Int32) then some ((zI σ 0 (0 : Int32)), (-1 : Int32)) else (if ((σ.1 21) + p2) ≤ (9999 : Int32) then gIx (((8 : Int32) * p0) + p1) 64 (gIx (((8 : Int32) * p0) + p1) 64 (some ((zI (zA (zI σ 0 (0 : Int32)) 21 (upd (σ.2.1 21) (Int32.toNatClampNeg (((8 : Int32) * p0) + p1)) (((σ.2.1 21) (Int32.toNatClampNeg (((8 : Int32) * p0) + p1))) + p2))) 21 ((σ.1 21) + p2)), ((σ.1 21) + p2)))) else some ((zI σ 0 (0 : Int32)), (-1 : Int32))))))
def L_X12_tookFor_5 (σ0 : Zst) (v1 : Int32) (v2 : Int32) : Nat → Int32 → Int32 → Option Int32
  | 0, _, _ => none
  | n5 + 1, v3, v4 => (if (8 : Int32) ≤ v4 then some v3 else (if v1 = (0 : Int32) then gIx (((8 : Int32) * v2) + v4) 64 (L_X12_tookFor_5 σ0 v1 v2 n5 (v3 + ((σ0.2.1 21) (Int32.toNatClampNeg (((8 : Int32) * v2) + v4)))) (v4 + (1 : Int32))) else gIx (((8 : Int32) * v4) + v2) 64 (L_X12_tookFor_5 σ0 v1 v2 n5 (v3 + ((σ0.2.1 21) (Int32.toNatClampNeg (((8 : Int32) * v4) + v2)))) (v4 + (1 : Int32)))))
def f_X12_tookFor (σ0 : Zst) (p0 : Int32) (p1 : Int32) : Option Int32 :=
  L_X12_tookFor_5 σ0 p0 p1 zFu (0 : Int32) (0 : Int32)
def L_X12_alike_19 (k69 : Int64 → Int64 → Option (Zst × Int32)) (σ : Zst) (v5 : Int64) : Nat → Int64 → Int64 → Int32 → Option (Zst × Int32)
  | 0, _, _, _ => none
  | n19 + 1, v1, v3, v7 => (if (8 : Int32) ≤ v7 then k69 v1 v3 else gIx (((8 : Int32) * v7) + v7) 64 ((f_X12_tookFor σ (0 : Int32) v7).bind fun t1 => (f_X12_tookFor σ (1 : Int32) v7).bind fun t2 => L_X12_alike_19 k69 σ v5 n19 (v1 + (Int32.toInt64 ((σ.2.1 21) (Int32.toNatClampNeg (((8 : Int32) * v7) + v7))))) (v3 + ((Int32.toInt64 t1) * (Int32.toInt64 t2))) (v7 + (1 : Int32))))
def J_X12_alike_69 (σ : Zst) (v1 : Int64) (v3 : Int64) (v5 : Int64) : Option (Zst × Int32) :=
  (if v5 = (0 : Int64) then some (σ, (-2 : Int32)) else (if (v5 * v5) = v3 then some (σ, (-2 : Int32)) else (f_X12_entersFraction (zI σ 1 (0 : Int32)) ((v5 * v1) - v3) ((v5 * v5) - v3)).bind fun t3 => some (t3, (Int64.toInt32 v1))))
def f_X12_alike (σ : Zst)  : Option (Zst × Int32) :=
  L_X12_alike_19 (fun w4 w5 => J_X12_alike_69 (zI σ 0 (0 : Int32)) w4 w5 (Int32.toInt64 (σ.1 21))) (zI σ 0 (0 : Int32)) (Int32.toInt64 (σ.1 21)) zFu (0 : Int64) (0 : Int64) (0 : Int32)
def L_X12_mixed_27 (k84 : Int32 → Int32 → Int32 → Option (Zst × Int32)) (σ : Zst) (v4 : Int32) : Nat → Int32 → Int32 → Int32 → Int32 → Option (Zst × Int32)
  | 0, _, _, _, _ => none
  | n27 + 1, v1, v2, v3, v5 => (if (8 : Int32) ≤ v5 then k84 v1 v2 v3 else gIx (((8 : Int32) * v4) + v5) 64 (gIx (((8 : Int32) * v5) + v4) 64 ((if (((σ.2.1 21) (Int32.toNatClampNeg (((8 : Int32) * v4) + v5))) + ((σ.2.1 21) (Int32.toNatClampNeg (((8 : Int32) * v5) + v4)))) ≤ v1 then L_X12_mixed_27 k84 σ v4 n27 v1 v2 v3 (v5 + (1 : Int32)) else L_X12_mixed_27 k84 σ v4 n27 (((σ.2.1 21) (Int32.toNatClampNeg (((8 : Int32) * v4) + v5))) + ((σ.2.1 21) (Int32.toNatClampNeg (((8 : Int32) * v5) + v4)))) v4 v5 (v5 + (1 : Int32))))))
def J_X12_mixed_84 (k14 : Int32 → Int32 → Int32 → Int32 → Option (Zst × Int32)) (σ : Zst) (v1 : Int32) (v2 : Int32) (v3 : Int32) (v4 : Int32) : Option (Zst × Int32) :=
  k14 v1 v2 v3 (v4 + (1 : Int32))
def L_X12_mixed_14 (k90 : Int32 → Int32 → Int32 → Option (Zst × Int32)) (σ : Zst) : Nat → Int32 → Int32 → Int32 → Int32 → Option (Zst × Int32)
  | 0, _, _, _, _ => none
  | n14 + 1, v1, v2, v3, v4 => (if (8 : Int32) ≤ v4 then k90 v1 v2 v3 else L_X12_mixed_27 (fun w1 w2 w3 => J_X12_mixed_84 (fun w1 w2 w3 w4 => L_X12_mixed_14 k90 σ n14 w1 w2 w3 w4) σ w1 w2 w3 v4) σ v4 zFu v1 v2 v3 (v4 + (1 : Int32)))
def J_X12_mixed_90 (σ : Zst) (v1 : Int32) (v2 : Int32) (v3 : Int32) : Option (Zst × Int32) :=
  (if v1 ≤ (0 : Int32) then some (σ, v1) else (f_X12_enters (zI σ 1 (0 : Int32)) (Int32.toInt64 v2)).bind fun t4 => (f_X12_enters t4 (Int32.toInt64 v3)).bind fun t5 => some (t5, v1))
def f_X12_mixed (σ : Zst)  : Option (Zst × Int32) :=
  L_X12_mixed_14 (fun w6 w7 w8 => J_X12_mixed_90 (zI σ 0 (0 : Int32)) w6 w7 w8) (zI σ 0 (0 : Int32)) zFu (0 : Int32) (0 : Int32) (0 : Int32) (0 : Int32)
def f_X12_leans (σ : Zst) (p0 : Int32) : Option (Zst × Int32) :=
  (if (f_X12_isSort (zI σ 0 (0 : Int32)) p0) = (0 : Int32) then some ((zI (zI σ 0 (0 : Int32)) 0 (1 : Int32)), (0 : Int32)) else (f_X12_tookFor (zI σ 0 (0 : Int32)) (0 : Int32) p0).bind fun t1 => (f_X12_tookFor (zI σ 0 (0 : Int32)) (1 : Int32) p0).bind fun t2 => some ((zI σ 0 (0 : Int32)), (t1 - t2)))
def L_X12_truly_58 (v1 : Int32) (v2 : Int32) (v3 : Int32) : Nat → Zst → Int32 → Int32 → Option (Zst × Int32)
  | 0, _, _, _ => none
  | n58 + 1, σ, v4, v5 => (if (σ.1 2) ≤ v5 then some (σ, v4) else (f_X12_at σ (0 : Int32) v2 v1).bind fun t1 => gIx (((8 : Int32) * v1) + v5) 64 (gNz v3 ((f_X12_enters σ (Int32.toInt64 ((t1 * ((σ.2.1 21) (Int32.toNatClampNeg (((8 : Int32) * v1) + v5)))) / v3))).bind fun t2 => L_X12_truly_58 v1 v2 v3 n58 t2 (v4 + ((t1 * ((σ.2.1 21) (Int32.toNatClampNeg (((8 : Int32) * v1) + v5)))) / v3)) (v5 + (1 : Int32)))))
def f_X12_truly (σ : Zst) (p0 : Int32) (p1 : Int32) : Option (Zst × Int32) :=
  (if (f_X12_isSort (zI σ 0 (0 : Int32)) p0) = (0 : Int32) then some ((zI σ 0 (0 : Int32)), (-1 : Int32)) else (if (f_X12_isCell (zI σ 0 (0 : Int32)) p1) = (0 : Int32) then some ((zI σ 0 (0 : Int32)), (-1 : Int32)) else (f_X12_tookFor (zI σ 0 (0 : Int32)) (0 : Int32) p0).bind fun t3 => (f_X12_isTold (zI σ 0 (0 : Int32)) (0 : Int32) p1 p0).bind fun t4 => (if t4 = (0 : Int32) then some ((zI σ 0 (0 : Int32)), (-2 : Int32)) else (if t3 = (0 : Int32) then some ((zI σ 0 (0 : Int32)), (-2 : Int32)) else L_X12_truly_58 p0 p1 t3 zFu (zI (zI σ 0 (0 : Int32)) 1 (0 : Int32)) (0 : Int32) (0 : Int32)))))
def L_X12_moved_36 (k186 : Int32 → Int32 → Int32 → Int32 → Option (Zst × Int32)) (σ : Zst) (v1 : Int32) (v2 : Int32) : Nat → Int32 → Int32 → Int32 → Int32 → Int32 → Option (Zst × Int32)
  | 0, _, _, _, _, _ => none
  | n36 + 1, v3, v4, v5, v6, v7 => (if (σ.1 3) ≤ v7 then k186 v3 v4 v5 v6 else (f_X12_isTold σ (0 : Int32) (((12 : Int32) * v7) + v2) v1).bind fun t1 => (if t1 = (0 : Int32) then L_X12_moved_36 k186 σ v1 v2 n36 v3 v4 v5 v6 (v7 + (1 : Int32)) else (f_X12_isTold σ (1 : Int32) (((12 : Int32) * v7) + v2) v1).bind fun t2 => (if t2 = (0 : Int32) then L_X12_moved_36 k186 σ v1 v2 n36 v3 v4 v5 v6 (v7 + (1 : Int32)) else (f_X12_at σ (0 : Int32) (((12 : Int32) * v7) + v2) v1).bind fun t3 => (f_X12_at σ (1 : Int32) (((12 : Int32) * v7) + v2) v1).bind fun t4 => (f_X12_at σ (1 : Int32) (((12 : Int32) * v7) + v2) v1).bind fun t5 => gIx v1 8 ((f_X12_at σ (0 : Int32) (((12 : Int32) * v7) + v2) v1).bind fun t6 => L_X12_moved_36 k186 σ v1 v2 n36 (v3 + (jMax (0 : Int32) (t3 - t4))) (v4 + (jMax (0 : Int32) (((t5 * ((σ.2.1 0) (Int32.toNatClampNeg v1))) / (100 : Int32)) - t6))) (v5 ||| (if (t3 - t4) ≤ (0 : Int32) then (0 : Int32) else (jShl (1 : Int32) v7))) (v6 ||| (if (((t5 * ((σ.2.1 0) (Int32.toNatClampNeg v1))) / (100 : Int32)) - t6) ≤ (0 : Int32) then (0 : Int32) else (jShl (1 : Int32) v7))) (v7 + (1 : Int32))))))
def J_X12_moved_186 (σ : Zst) (v3 : Int32) (v4 : Int32) (v5 : Int32) (v6 : Int32) : Option (Zst × Int32) :=
  (f_X12_enters (zI σ 1 (0 : Int32)) (Int32.toInt64 v4)).bind fun t11 => (f_X12_enters t11 (Int32.toInt64 v5)).bind fun t12 => (f_X12_enters t12 (Int32.toInt64 v6)).bind fun t13 => some (t13, v3)
def f_X12_moved (σ : Zst) (p0 : Int32) (p1 : Int32) : Option (Zst × Int32) :=
  (if (f_X12_isSort (zI σ 0 (0 : Int32)) p0) = (0 : Int32) then some ((zI σ 0 (0 : Int32)), (-1 : Int32)) else (if (f_X12_isWeek p1) = (0 : Int32) then some ((zI σ 0 (0 : Int32)), (-1 : Int32)) else L_X12_moved_36 (fun w14 w15 w16 w17 => J_X12_moved_186 (zI σ 0 (0 : Int32)) w14 w15 w16 w17) (zI σ 0 (0 : Int32)) p0 p1 zFu (0 : Int32) (0 : Int32) (0 : Int32) (0 : Int32) (0 : Int32)))
def L_X12_feasts_35 (k96 : Zst → Option (Zst × Int32)) (v1 : Int32) (v2 : Int32) (v3 : Int32) : Nat → Zst → Int32 → Option (Zst × Int32)
  | 0, _, _ => none
  | n35 + 1, σ, v4 => (if (σ.1 2) ≤ v4 then k96 σ else (f_X12_isTold σ (0 : Int32) (((12 : Int32) * v1) + v3) v4).bind fun t1 => (if t1 = (0 : Int32) then L_X12_feasts_35 k96 v1 v2 v3 n35 σ (v4 + (1 : Int32)) else gIx v3 12 ((f_X12_at σ (0 : Int32) (((12 : Int32) * v1) + v3) v4).bind fun t2 => gIx v3 12 (L_X12_feasts_35 k96 v1 v2 v3 n35 (zA σ 22 (upd (σ.2.1 22) (Int32.toNatClampNeg v3) ((jMax (0 : Int32) ((σ.2.1 22) (Int32.toNatClampNeg v3))) + t2))) (v4 + (1 : Int32))))))
def L_X12_feasts_108 (k153 : Zst → Int32 → Option (Zst × Int32)) (v1 : Int32) (v2 : Int32) (v3 : Int32) : Nat → Zst → Int32 → Option (Zst × Int32)
  | 0, _, _ => none
  | n108 + 1, σ, v4 => (if v4 ≤ (0 : Int32) then k153 σ v4 else gIx (v4 - (1 : Int32)) 12 (gIx v3 12 ((if ((σ.2.1 23) (Int32.toNatClampNeg (v4 - (1 : Int32)))) ≤ ((σ.2.1 22) (Int32.toNatClampNeg v3)) then k153 σ v4 else gIx (v4 - (1 : Int32)) 12 (gIx v4 12 (L_X12_feasts_108 k153 v1 v2 v3 n108 (zA σ 23 (upd (σ.2.1 23) (Int32.toNatClampNeg v4) ((σ.2.1 23) (Int32.toNatClampNeg (v4 - (1 : Int32)))))) (v4 + (-1 : Int32))))))))
def J_X12_feasts_153 (k19 : Zst → Int32 → Int32 → Option (Zst × Int32)) (σ : Zst) (v1 : Int32) (v2 : Int32) (v3 : Int32) (v4 : Int32) : Option (Zst × Int32) :=
  gIx v3 12 (gIx v4 12 (k19 (zA σ 23 (upd (σ.2.1 23) (Int32.toNatClampNeg v4) ((σ.2.1 22) (Int32.toNatClampNeg v3)))) (v2 + (1 : Int32)) (v3 + (1 : Int32))))
def J_X12_feasts_96 (k19 : Zst → Int32 → Int32 → Option (Zst × Int32)) (σ : Zst) (v1 : Int32) (v2 : Int32) (v3 : Int32) : Option (Zst × Int32) :=
  gIx v3 12 ((if ((σ.2.1 22) (Int32.toNatClampNeg v3)) < (0 : Int32) then k19 σ v2 (v3 + (1 : Int32)) else L_X12_feasts_108 (fun σ4 w3 => J_X12_feasts_153 k19 σ4 v1 v2 v3 w3) v1 v2 v3 zFu σ v2))
def L_X12_feasts_19 (k175 : Zst → Int32 → Option (Zst × Int32)) (v1 : Int32) : Nat → Zst → Int32 → Int32 → Option (Zst × Int32)
  | 0, _, _, _ => none
  | n19 + 1, σ, v2, v3 => (if (12 : Int32) ≤ v3 then k175 σ v2 else gIx v3 12 (L_X12_feasts_35 (fun σ5 => J_X12_feasts_96 (fun σ w2 w3 => L_X12_feasts_19 k175 v1 n19 σ w2 w3) σ5 v1 v2 v3) v1 v2 v3 zFu (zA σ 22 (upd (σ.2.1 22) (Int32.toNatClampNeg v3) (-1 : Int32))) (0 : Int32)))
def L_X12_feasts_180 (σ : Zst) (v2 : Int32) : Nat → Int32 → Int32 → Option (Zst × Int32)
  | 0, _, _ => none
  | n180 + 1, v3, v4 => (if (12 : Int32) ≤ v4 then some (σ, v3) else (if v2 ≤ (0 : Int32) then some (σ, v3) else gIx v4 12 (gIx ((v2 - (1 : Int32)) / (2 : Int32)) 12 (L_X12_feasts_180 σ v2 n180 (v3 ||| (if ((σ.2.1 22) (Int32.toNatClampNeg v4)) ≤ ((2 : Int32) * ((σ.2.1 23) (Int32.toNatClampNeg ((v2 - (1 : Int32)) / (2 : Int32))))) then (0 : Int32) else (jShl (1 : Int32) v4))) (v4 + (1 : Int32))))))
def J_X12_feasts_175 (σ : Zst) (v2 : Int32) : Option (Zst × Int32) :=
  L_X12_feasts_180 σ v2 zFu (0 : Int32) (0 : Int32)
def f_X12_feasts (σ : Zst) (p0 : Int32) : Option (Zst × Int32) :=
  (if (f_X12_isStreet (zI σ 0 (0 : Int32)) p0) = (0 : Int32) then some ((zI σ 0 (0 : Int32)), (-1 : Int32)) else L_X12_feasts_19 (fun σ9 w8 => J_X12_feasts_175 σ9 w8) p0 zFu (zI σ 0 (0 : Int32)) (0 : Int32) (0 : Int32))
def f_X12_isNeed (σ0 : Zst) (p0 : Int32) (p1 : Int32) (p2 : Int32) (p3 : Int32) : Int32 :=
  (if (f_X12_isKind p0) = (0 : Int32) then (0 : Int32) else (if (f_X12_isSort σ0 p1) = (0 : Int32) then (0 : Int32) else (if (f_X12_in (Int32.toInt64 p2) (0 : Int64) (999 : Int64)) = (0 : Int32) then (0 : Int32) else (if (f_X12_in (Int32.toInt64 p3) (1 : Int64) (100 : Int64)) = (0 : Int32) then (0 : Int32) else (1 : Int32)))))
theorem bo_X12_isNeed (σ0 : Zst) (p0 : Int32) (p1 : Int32) (p2 : Int32) (p3 : Int32) : f_X12_isNeed σ0 p0 p1 p2 p3 = 0 ∨ f_X12_isNeed σ0 p0 p1 p2 p3 = 1 := by
  unfold f_X12_isNeed
  repeat' split
  all_goals first | exact Or.inl rfl | exact Or.inr rfl | exact (bo_X12_in (Int32.toInt64 p2) (0 : Int64) (999 : Int64)) | exact (bo_X12_in (Int32.toInt64 p3) (1 : Int64) (100 : Int64)) | exact (bo_X12_isKind p0) | exact (bo_X12_isSort σ0 p1)
def L_X12_fewest_15 (k40 : Int64 → Option (Zst × Int32)) (σ : Zst) (v1 : Int32) (v2 : Int32) : Nat → Int64 → Int32 → Option (Zst × Int32)
  | 0, _, _ => none
  | n15 + 1, v3, v5 => (if (σ.1 22) ≤ v5 then k40 v3 else gIx v5 12 (L_X12_fewest_15 k40 σ v1 v2 n15 (v3 + ((σ.2.2.1 5) (Int32.toNatClampNeg v5))) (v5 + (1 : Int32))))
def L_X12_fewest_91 (k132 : Int64 → Option (Zst × Int32)) (σ : Zst) (v1 : Int32) (v2 : Int32) (v3 : Int64) (v5 : Int32) (v6 : Int32) (v7 : Int32) (v8 : Int32) : Nat → Int64 → Int32 → Option (Zst × Int32)
  | 0, _, _ => none
  | n91 + 1, v9, v11 => (if (σ.1 22) ≤ v11 then k132 v9 else (if (f_X12_has v8 v11) = (0 : Int32) then L_X12_fewest_91 k132 σ v1 v2 v3 v5 v6 v7 v8 n91 (v9 + (0 : Int64)) (v11 + (1 : Int32)) else gIx v11 12 (L_X12_fewest_91 k132 σ v1 v2 v3 v5 v6 v7 v8 n91 (v9 + ((σ.2.2.1 5) (Int32.toNatClampNeg v11))) (v11 + (1 : Int32)))))
def J_X12_fewest_132 (k61 : Int32 → Int32 → Int32 → Option (Zst × Int32)) (σ : Zst) (v1 : Int32) (v2 : Int32) (v3 : Int64) (v5 : Int32) (v6 : Int32) (v7 : Int32) (v8 : Int32) (v9 : Int64) : Option (Zst × Int32) :=
  k61 (v6 + (1 : Int32)) (v7 + (f_X12_flag (if ((((Int32.toInt64 v1) * (27720 : Int64)) * (Int32.toInt64 v5)) * (Int32.toInt64 (σ.1 22))) < (jAbsL ((v9 * (Int32.toInt64 (σ.1 22))) - (v3 * (Int32.toInt64 v5)))) then (0 : Int32) else (1 : Int32)))) (v8 + (1 : Int32))
def L_X12_fewest_61 (k191 : Int32 → Int32 → Option (Zst × Int32)) (σ : Zst) (v1 : Int32) (v2 : Int32) (v3 : Int64) (v5 : Int32) : Nat → Int32 → Int32 → Int32 → Option (Zst × Int32)
  | 0, _, _, _ => none
  | n61 + 1, v6, v7, v8 => (if (jShl (1 : Int32) (σ.1 22)) ≤ v8 then k191 v6 v7 else (if (f_J6_bitCount_0f7a4 v8) = v5 then L_X12_fewest_91 (fun w3 => J_X12_fewest_132 (fun w6 w7 w8 => L_X12_fewest_61 k191 σ v1 v2 v3 v5 n61 w6 w7 w8) σ v1 v2 v3 v5 v6 v7 v8 w3) σ v1 v2 v3 v5 v6 v7 v8 zFu (0 : Int64) (0 : Int32) else L_X12_fewest_61 k191 σ v1 v2 v3 v5 n61 v6 v7 (v8 + (1 : Int32))))
def J_X12_fewest_191 (k43 : Int32 → Option (Zst × Int32)) (k203 : Int32 → Int32 → Int32 → Option (Zst × Int32)) (σ : Zst) (v1 : Int32) (v2 : Int32) (v3 : Int64) (v5 : Int32) (v6 : Int32) (v7 : Int32) : Option (Zst × Int32) :=
  (if (v7 * (100 : Int32)) < (v2 * v6) then k43 (v5 + (1 : Int32)) else k203 v5 v6 v7)
def L_X12_fewest_43 (k203 : Int32 → Int32 → Int32 → Option (Zst × Int32)) (σ : Zst) (v1 : Int32) (v2 : Int32) (v3 : Int64) : Nat → Int32 → Option (Zst × Int32)
  | 0, _ => none
  | n43 + 1, v5 => (if (σ.1 22) < v5 then some (σ, (-2 : Int32)) else L_X12_fewest_61 (fun w4 w5 => J_X12_fewest_191 (fun w5 => L_X12_fewest_43 k203 σ v1 v2 v3 n43 w5) k203 σ v1 v2 v3 v5 w4 w5) σ v1 v2 v3 v5 zFu (0 : Int32) (0 : Int32) (0 : Int32))
def J_X12_fewest_203 (σ : Zst) (v5 : Int32) (v6 : Int32) (v7 : Int32) : Option (Zst × Int32) :=
  (f_X12_enters (zI σ 1 (0 : Int32)) (Int32.toInt64 v7)).bind fun t6 => (f_X12_enters t6 (Int32.toInt64 v6)).bind fun t7 => some (t7, v5)
def J_X12_fewest_40 (σ : Zst) (v1 : Int32) (v2 : Int32) (v3 : Int64) : Option (Zst × Int32) :=
  L_X12_fewest_43 (fun w8 w9 w10 => J_X12_fewest_203 σ w8 w9 w10) σ v1 v2 v3 zFu (1 : Int32)
def f_X12_fewest (σ : Zst) (p0 : Int32) (p1 : Int32) : Option (Zst × Int32) :=
  (if (σ.1 22) = (0 : Int32) then some (σ, (-2 : Int32)) else L_X12_fewest_15 (fun w11 => J_X12_fewest_40 σ p0 p1 w11) σ p0 p1 zFu (0 : Int64) (0 : Int32))
def L_X12_takesMean_9 (k60 : Int64 → Int32 → Option Zst) (σ : Zst) (v1 : Int32) (v2 : Int32) (v3 : Int32) (v4 : Int32) (v5 : Int32) : Nat → Int64 → Int32 → Int32 → Option Zst
  | 0, _, _, _ => none
  | n9 + 1, v6, v8, v9 => (if v5 ≤ v9 then k60 v6 v8 else (f_X12_isTold σ v1 (v3 + (v9 * v4)) v2).bind fun t1 => (if t1 = (0 : Int32) then L_X12_takesMean_9 k60 σ v1 v2 v3 v4 v5 n9 v6 v8 (v9 + (1 : Int32)) else (f_X12_at σ v1 (v3 + (v9 * v4)) v2).bind fun t2 => L_X12_takesMean_9 k60 σ v1 v2 v3 v4 v5 n9 (v6 + (Int32.toInt64 t2)) (v8 + (1 : Int32)) (v9 + (1 : Int32))))
def J_X12_takesMean_60 (σ : Zst) (v6 : Int64) (v8 : Int32) : Option Zst :=
  (if v8 ≤ (0 : Int32) then some σ else gNzL (Int32.toInt64 v8) (gIx (σ.1 22) 12 (some (zI (zL σ 5 (vp_updL (σ.2.2.1 5) (Int32.toNatClampNeg (σ.1 22)) (v6 * ((27720 : Int64) / (Int32.toInt64 v8))))) 22 ((σ.1 22) + (1 : Int32))))))
def f_X12_takesMean (σ : Zst) (p0 : Int32) (p1 : Int32) (p2 : Int32) (p3 : Int32) (p4 : Int32) : Option Zst :=
  L_X12_takesMean_9 (fun w3 w4 => J_X12_takesMean_60 σ w3 w4) σ p0 p1 p2 p3 p4 zFu (0 : Int64) (0 : Int32) (0 : Int32)
def L_X12_need_27 (k56 : Zst → Option (Zst × Int32)) (v1 : Int32) (v2 : Int32) (v3 : Int32) (v4 : Int32) : Nat → Zst → Int32 → Option (Zst × Int32)
  | 0, _, _ => none
  | n27 + 1, σ, v5 => (if (σ.1 3) ≤ v5 then k56 σ else (f_X12_takesMean σ v1 v2 ((12 : Int32) * v5) (1 : Int32) (12 : Int32)).bind fun t1 => L_X12_need_27 k56 v1 v2 v3 v4 n27 t1 (v5 + (1 : Int32)))
def J_X12_need_56 (σ : Zst) (v3 : Int32) (v4 : Int32) : Option (Zst × Int32) :=
  (f_X12_fewest σ v3 v4).bind fun t2 => some (t2.1, t2.2)
def f_X12_need (σ : Zst) (p0 : Int32) (p1 : Int32) (p2 : Int32) (p3 : Int32) : Option (Zst × Int32) :=
  (if (f_X12_isNeed (zI σ 0 (0 : Int32)) p0 p1 p2 p3) = (0 : Int32) then some ((zI σ 0 (0 : Int32)), (-1 : Int32)) else L_X12_need_27 (fun σ3 => J_X12_need_56 σ3 p2 p3) p0 p1 p2 p3 zFu (zI (zI σ 0 (0 : Int32)) 22 (0 : Int32)) (0 : Int32))
def L_X12_weeks_27 (k54 : Zst → Option (Zst × Int32)) (v1 : Int32) (v2 : Int32) (v3 : Int32) (v4 : Int32) : Nat → Zst → Int32 → Option (Zst × Int32)
  | 0, _, _ => none
  | n27 + 1, σ, v5 => (if (12 : Int32) ≤ v5 then k54 σ else (f_X12_takesMean σ v1 v2 v5 (12 : Int32) (σ.1 3)).bind fun t1 => L_X12_weeks_27 k54 v1 v2 v3 v4 n27 t1 (v5 + (1 : Int32)))
def J_X12_weeks_54 (σ : Zst) (v3 : Int32) (v4 : Int32) : Option (Zst × Int32) :=
  (f_X12_fewest σ v3 v4).bind fun t2 => some (t2.1, t2.2)
def f_X12_weeks (σ : Zst) (p0 : Int32) (p1 : Int32) (p2 : Int32) (p3 : Int32) : Option (Zst × Int32) :=
  (if (f_X12_isNeed (zI σ 0 (0 : Int32)) p0 p1 p2 p3) = (0 : Int32) then some ((zI σ 0 (0 : Int32)), (-1 : Int32)) else L_X12_weeks_27 (fun σ3 => J_X12_weeks_54 σ3 p2 p3) p0 p1 p2 p3 zFu (zI (zI σ 0 (0 : Int32)) 22 (0 : Int32)) (0 : Int32))
def f_X12_isYear (p0 : Int32) : Int32 :=
  (f_X12_in (Int32.toInt64 p0) (1900 : Int64) (2100 : Int64))
theorem bo_X12_isYear (p0 : Int32) : f_X12_isYear p0 = 0 ∨ f_X12_isYear p0 = 1 := by
  unfold f_X12_isYear
  repeat' split
  all_goals first | exact Or.inl rfl | exact Or.inr rfl | exact (bo_X12_in (Int32.toInt64 p0) (1900 : Int64) (2100 : Int64))
def f_X12_paper (σ : Zst) (p0 : Int32) (p1 : Int32) (p2 : Int32) : Option (Zst × Int32) :=
  (if (f_X12_in (Int32.toInt64 p0) (0 : Int64) (9 : Int64)) = (0 : Int32) then some ((zI σ 0 (0 : Int32)), (-1 : Int32)) else (if (f_X12_isYear p1) = (0 : Int32) then some ((zI σ 0 (0 : Int32)), (-1 : Int32)) else (if (f_X12_isYear p2) = (0 : Int32) then some ((zI σ 0 (0 : Int32)), (-1 : Int32)) else (if p2 < p1 then some ((zI σ 0 (0 : Int32)), (-1 : Int32)) else (if (σ.1 23) = (12 : Int32) then some ((zI σ 0 (0 : Int32)), (-1 : Int32)) else gIx (σ.1 23) 12 (gIx (σ.1 23) 12 (gIx (σ.1 23) 12 (some ((zI (zA (zA (zA (zI σ 0 (0 : Int32)) 24 (upd (σ.2.1 24) (Int32.toNatClampNeg (σ.1 23)) p0)) 25 (upd (σ.2.1 25) (Int32.toNatClampNeg (σ.1 23)) p1)) 26 (upd (σ.2.1 26) (Int32.toNatClampNeg (σ.1 23)) p2)) 23 ((σ.1 23) + (1 : Int32))), ((σ.1 23) + (1 : Int32)))))))))))
def L_X12_dates_2 (k32 : Zst → Option (Zst × Int32)) (v1 : Int32) : Nat → Zst → Int32 → Option (Zst × Int32)
  | 0, _, _ => none
  | n2 + 1, σ, v2 => (if (10 : Int32) ≤ v2 then k32 σ else gIx v2 10 (gIx v2 10 (L_X12_dates_2 k32 v1 n2 (zA (zA σ 27 (upd (σ.2.1 27) (Int32.toNatClampNeg v2) (1900 : Int32))) 28 (upd (σ.2.1 28) (Int32.toNatClampNeg v2) (2100 : Int32))) (v2 + (1 : Int32)))))
def L_X12_dates_34 (k105 : Zst → Option (Zst × Int32)) (v1 : Int32) : Nat → Zst → Int32 → Option (Zst × Int32)
  | 0, _, _ => none
  | n34 + 1, σ, v2 => (if (σ.1 23) ≤ v2 then k105 σ else (if (f_X12_has v1 v2) = (0 : Int32) then gIx v2 12 (gIx ((σ.2.1 24) (Int32.toNatClampNeg v2)) 10 (gIx v2 12 (gIx ((σ.2.1 24) (Int32.toNatClampNeg v2)) 10 (gIx ((σ.2.1 24) (Int32.toNatClampNeg v2)) 10 (gIx v2 12 (gIx ((σ.2.1 24) (Int32.toNatClampNeg v2)) 10 (L_X12_dates_34 k105 v1 n34 (zA (zA σ 27 (upd (σ.2.1 27) (Int32.toNatClampNeg ((σ.2.1 24) (Int32.toNatClampNeg v2))) (jMax ((σ.2.1 27) (Int32.toNatClampNeg ((σ.2.1 24) (Int32.toNatClampNeg v2)))) ((σ.2.1 25) (Int32.toNatClampNeg v2))))) 28 (upd (σ.2.1 28) (Int32.toNatClampNeg ((σ.2.1 24) (Int32.toNatClampNeg v2))) (jMin ((σ.2.1 28) (Int32.toNatClampNeg ((σ.2.1 24) (Int32.toNatClampNeg v2)))) ((σ.2.1 26) (Int32.toNatClampNeg v2))))) (v2 + (1 : Int32))))))))) else L_X12_dates_34 k105 v1 n34 σ (v2 + (1 : Int32))))
def L_X12_dates_107 (k142 : Zst → Option (Zst × Int32)) : Nat → Zst → Int32 → Option (Zst × Int32)
  | 0, _, _ => none
  | n107 + 1, σ, v2 => (if (10 : Int32) ≤ v2 then k142 σ else gIx v2 10 (gIx (v2 - (1 : Int32)) 10 (gIx v2 10 (L_X12_dates_107 k142 n107 (zA σ 28 (upd (σ.2.1 28) (Int32.toNatClampNeg v2) (jMin ((σ.2.1 28) (Int32.toNatClampNeg v2)) ((σ.2.1 28) (Int32.toNatClampNeg (v2 - (1 : Int32))))))) (v2 + (1 : Int32))))))
def J_X12_dates_190 (k147 : Zst → Int32 → Int32 → Option (Zst × Int32)) (σ : Zst) (v2 : Int32) (v3 : Int32) (s0 : Int32) (s1 : Int32) : Option (Zst × Int32) :=
  gIx s1 10 ((if v2 = (0 : Int32) then k147 (zA σ 27 (upd (σ.2.1 27) (Int32.toNatClampNeg s1) s0)) (0 : Int32) (v3 + (-1 : Int32)) else gIx v3 10 (gIx v3 10 (k147 (zA σ 27 (upd (σ.2.1 27) (Int32.toNatClampNeg s1) s0)) (if ((σ.2.1 28) (Int32.toNatClampNeg v3)) < ((upd (σ.2.1 27) (Int32.toNatClampNeg s1) s0) (Int32.toNatClampNeg v3)) then (0 : Int32) else (1 : Int32)) (v3 + (-1 : Int32))))))
def L_X12_dates_147  : Nat → Zst → Int32 → Int32 → Option (Zst × Int32)
  | 0, _, _, _ => none
  | n147 + 1, σ, v2, v3 => (if v3 < (0 : Int32) then gBo v2 (some (σ, v2)) else (if (10 : Int32) ≤ (v3 + (1 : Int32)) then gIx v3 10 (J_X12_dates_190 (fun σ w2 w3 => L_X12_dates_147  n147 σ w2 w3) σ v2 v3 ((σ.2.1 27) (Int32.toNatClampNeg v3)) v3) else gIx v3 10 (gIx (v3 + (1 : Int32)) 10 (J_X12_dates_190 (fun σ w2 w3 => L_X12_dates_147  n147 σ w2 w3) σ v2 v3 (jMax ((σ.2.1 27) (Int32.toNatClampNeg v3)) ((σ.2.1 27) (Int32.toNatClampNeg (v3 + (1 : Int32))))) v3))))
def J_X12_dates_142 (σ : Zst) : Option (Zst × Int32) :=
  L_X12_dates_147  zFu σ (1 : Int32) (9 : Int32)
def J_X12_dates_105 (σ : Zst) : Option (Zst × Int32) :=
  L_X12_dates_107 (fun σ3 => J_X12_dates_142 σ3) zFu σ (1 : Int32)
def J_X12_dates_32 (σ : Zst) (v1 : Int32) : Option (Zst × Int32) :=
  L_X12_dates_34 (fun σ4 => J_X12_dates_105 σ4) v1 zFu σ (0 : Int32)
def f_X12_dates (σ : Zst) (p0 : Int32) : Option (Zst × Int32) :=
  L_X12_dates_2 (fun σ5 => J_X12_dates_32 σ5 p0) p0 zFu σ (0 : Int32)
def f_X12_year (σ : Zst) (p0 : Int32) : Option (Zst × Int32) :=
  (if (f_X12_in (Int32.toInt64 p0) (0 : Int64) (9 : Int64)) = (0 : Int32) then some ((zI σ 0 (0 : Int32)), (-1 : Int32)) else (f_X12_dates (zI σ 0 (0 : Int32)) (0 : Int32)).bind fun t1 => (if t1.2 = (0 : Int32) then some (t1.1, (-2 : Int32)) else gIx p0 10 ((f_X12_enters (zI t1.1 1 (0 : Int32)) (Int32.toInt64 ((t1.1.2.1 27) (Int32.toNatClampNeg p0)))).bind fun t2 => gIx p0 10 ((f_X12_enters t2 (Int32.toInt64 ((t2.2.1 28) (Int32.toNatClampNeg p0)))).bind fun t3 => gIx p0 10 (gIx p0 10 (some (t3, ((((t3.2.1 28) (Int32.toNatClampNeg p0)) - ((t3.2.1 27) (Int32.toNatClampNeg p0))) + (1 : Int32)))))))))
def L_X12_stray_9 (k64 : Zst → Int32 → Option (Zst × Int32)) : Nat → Zst → Int32 → Int32 → Option (Zst × Int32)
  | 0, _, _, _ => none
  | n9 + 1, σ, v1, v2 => (if (jShl (1 : Int32) (σ.1 23)) ≤ v2 then k64 σ v1 else (if (if v1 < (0 : Int32) then (1 : Int32) else (if (f_J6_bitCount_0f7a4 v1) ≤ (f_J6_bitCount_0f7a4 v2) then (0 : Int32) else (1 : Int32))) = (0 : Int32) then L_X12_stray_9 k64 n9 σ v1 (v2 + (1 : Int32)) else (f_X12_dates σ v2).bind fun t4 => L_X12_stray_9 k64 n9 t4.1 (if t4.2 = (0 : Int32) then v1 else v2) (v2 + (1 : Int32))))
def J_X12_stray_64 (σ : Zst) (v1 : Int32) : Option (Zst × Int32) :=
  (f_X12_enters (zI σ 1 (0 : Int32)) (Int32.toInt64 v1)).bind fun t7 => some (t7, (f_J6_bitCount_0f7a4 v1))
def f_X12_stray (σ : Zst)  : Option (Zst × Int32) :=
  L_X12_stray_9 (fun σ9 w8 => J_X12_stray_64 σ9 w8) zFu (zI σ 0 (0 : Int32)) (-1 : Int32) (0 : Int32)
def L_X12_power_5 (v0 : Int64) (v2 : Int32) : Nat → Int64 → Int32 → Option Int64
  | 0, _, _ => none
  | n5 + 1, v3, v5 => (if v2 ≤ v5 then some v3 else L_X12_power_5 v0 v2 n5 (v3 * v0) (v5 + (1 : Int32)))
def f_X12_power (p0 : Int64) (p1 : Int32) : Option Int64 :=
  L_X12_power_5 p0 p1 zFu (1 : Int64) (0 : Int32)
def f_X12_once (σ0 : Zst) (p0 : Int32) (p1 : Int32) (p2 : Int32) : Option Int64 :=
  (f_X12_power (100 : Int64) (jMax (0 : Int32) (jMin (4 : Int32) (p2 / (10 : Int32))))).bind fun t1 => gIx p0 8 ((f_X12_power (Int32.toInt64 ((σ0.2.1 2) (Int32.toNatClampNeg p0))) (jMax (0 : Int32) (jMin (4 : Int32) (p2 / (10 : Int32))))).bind fun t2 => gNzL t2 (some (((Int32.toInt64 p1) * t1) / t2)))
def f_X12_was (σ : Zst) (p0 : Int32) (p1 : Int32) (p2 : Int32) (p3 : Int32) : Option (Zst × Int32) :=
  (if (f_X12_in (Int32.toInt64 p0) (0 : Int64) (9 : Int64)) = (0 : Int32) then some ((zI σ 0 (0 : Int32)), (-1 : Int32)) else (if (f_X12_isSort (zI σ 0 (0 : Int32)) p1) = (0 : Int32) then some ((zI σ 0 (0 : Int32)), (-1 : Int32)) else (if (f_X12_in (Int32.toInt64 p2) (0 : Int64) (9999 : Int64)) = (0 : Int32) then some ((zI σ 0 (0 : Int32)), (-1 : Int32)) else (if (f_X12_isYear p3) = (0 : Int32) then some ((zI σ 0 (0 : Int32)), (-1 : Int32)) else (f_X12_dates (zI σ 0 (0 : Int32)) (0 : Int32)).bind fun t1 => (if t1.2 = (0 : Int32) then some (t1.1, (-2 : Int32)) else gIx p0 10 ((f_X12_once (zI t1.1 1 (0 : Int32)) p1 p2 (p3 - ((t1.1.2.1 28) (Int32.toNatClampNeg p0)))).bind fun t2 => (f_X12_enters (zI t1.1 1 (0 : Int32)) t2).bind fun t3 => gIx p0 10 ((f_X12_once t3 p1 p2 (p3 - ((t3.2.1 27) (Int32.toNatClampNeg p0)))).bind fun t4 => (f_X12_enters t3 t4).bind fun t5 => some (t5, (0 : Int32)))))))))
def f_X12_told (σ : Zst) (p0 : Int32) (p1 : Int32) : Option (Zst × Int32) :=
  (if (f_X12_isStreet (zI σ 0 (0 : Int32)) p0) = (0 : Int32) then some ((zI σ 0 (0 : Int32)), (0 : Int32)) else (if (f_X12_in (Int32.toInt64 p1) (-1 : Int64) (11 : Int64)) = (0 : Int32) then some ((zI σ 0 (0 : Int32)), (0 : Int32)) else gIx p0 8 (some ((zA (zI σ 0 (0 : Int32)) 29 (upd (σ.2.1 29) (Int32.toNatClampNeg p0) (p1 + (1 : Int32)))), (1 : Int32)))))
def L_X12_does_37 (k65 : Zst → Option (Zst × Int32)) (v1 : Int32) (v2 : Int32) (v3 : Int32) : Nat → Zst → Int32 → Option (Zst × Int32)
  | 0, _, _ => none
  | n37 + 1, σ, v4 => (if (4 : Int32) ≤ v4 then k65 σ else gIx v4 4 (gIx v4 4 (L_X12_does_37 k65 v1 v2 v3 n37 (zL (zL σ 6 (vp_updL (σ.2.2.1 6) (Int32.toNatClampNeg v4) (0 : Int64))) 7 (vp_updL (σ.2.2.1 7) (Int32.toNatClampNeg v4) (0 : Int64))) (v4 + (1 : Int32)))))
def L_X12_does_68 (k182 : Zst → Option (Zst × Int32)) (v1 : Int32) (v2 : Int32) (v3 : Int32) : Nat → Zst → Int32 → Option (Zst × Int32)
  | 0, _, _ => none
  | n68 + 1, σ, v4 => (if ((12 : Int32) * (σ.1 3)) ≤ v4 then k182 σ else gIx (v4 / (12 : Int32)) 8 ((f_X12_isTold σ v1 v4 v2).bind fun t1 => (if t1 = (0 : Int32) then L_X12_does_68 k182 v1 v2 v3 n68 σ (v4 + (1 : Int32)) else (if (v3 + (1 : Int32)) < ((σ.2.1 29) (Int32.toNatClampNeg (v4 / (12 : Int32)))) then L_X12_does_68 k182 v1 v2 v3 n68 σ (v4 + (1 : Int32)) else gIx (((2 : Int32) * (f_X12_flag (if ((σ.2.1 29) (Int32.toNatClampNeg (v4 / (12 : Int32)))) = (0 : Int32) then (1 : Int32) else (0 : Int32)))) + (f_X12_flag (if v3 ≤ (jRem v4 (12 : Int32)) then (0 : Int32) else (1 : Int32)))) 4 ((f_X12_at σ v1 v4 v2).bind fun t6 => gIx (((2 : Int32) * (f_X12_flag (if ((σ.2.1 29) (Int32.toNatClampNeg (v4 / (12 : Int32)))) = (0 : Int32) then (1 : Int32) else (0 : Int32)))) + (f_X12_flag (if v3 ≤ (jRem v4 (12 : Int32)) then (0 : Int32) else (1 : Int32)))) 4 (gIx (((2 : Int32) * (f_X12_flag (if ((σ.2.1 29) (Int32.toNatClampNeg (v4 / (12 : Int32)))) = (0 : Int32) then (1 : Int32) else (0 : Int32)))) + (f_X12_flag (if v3 ≤ (jRem v4 (12 : Int32)) then (0 : Int32) else (1 : Int32)))) 4 (gIx (((2 : Int32) * (f_X12_flag (if ((σ.2.1 29) (Int32.toNatClampNeg (v4 / (12 : Int32)))) = (0 : Int32) then (1 : Int32) else (0 : Int32)))) + (f_X12_flag (if v3 ≤ (jRem v4 (12 : Int32)) then (0 : Int32) else (1 : Int32)))) 4 (L_X12_does_68 k182 v1 v2 v3 n68 (zL (zL σ 6 (vp_updL (σ.2.2.1 6) (Int32.toNatClampNeg (((2 : Int32) * (f_X12_flag (if ((σ.2.1 29) (Int32.toNatClampNeg (v4 / (12 : Int32)))) = (0 : Int32) then (1 : Int32) else (0 : Int32)))) + (f_X12_flag (if v3 ≤ (jRem v4 (12 : Int32)) then (0 : Int32) else (1 : Int32))))) (((σ.2.2.1 6) (Int32.toNatClampNeg (((2 : Int32) * (f_X12_flag (if ((σ.2.1 29) (Int32.toNatClampNeg (v4 / (12 : Int32)))) = (0 : Int32) then (1 : Int32) else (0 : Int32)))) + (f_X12_flag (if v3 ≤ (jRem v4 (12 : Int32)) then (0 : Int32) else (1 : Int32)))))) + (Int32.toInt64 t6)))) 7 (vp_updL (σ.2.2.1 7) (Int32.toNatClampNeg (((2 : Int32) * (f_X12_flag (if ((σ.2.1 29) (Int32.toNatClampNeg (v4 / (12 : Int32)))) = (0 : Int32) then (1 : Int32) else (0 : Int32)))) + (f_X12_flag (if v3 ≤ (jRem v4 (12 : Int32)) then (0 : Int32) else (1 : Int32))))) (((σ.2.2.1 7) (Int32.toNatClampNeg (((2 : Int32) * (f_X12_flag (if ((σ.2.1 29) (Int32.toNatClampNeg (v4 / (12 : Int32)))) = (0 : Int32) then (1 : Int32) else (0 : Int32)))) + (f_X12_flag (if v3 ≤ (jRem v4 (12 : Int32)) then (0 : Int32) else (1 : Int32)))))) + (1 : Int64)))) (v4 + (1 : Int32))))))))))
def L_X12_does_185 (k212 : Option (Zst × Int32)) (σ : Zst) : Nat → Int32 → Option (Zst × Int32)
  | 0, _ => none
  | n185 + 1, v4 => (if (4 : Int32) ≤ v4 then k212 else gIx v4 4 ((if ((σ.2.2.1 7) (Int32.toNatClampNeg v4)) = (0 : Int64) then some (σ, (-2 : Int32)) else L_X12_does_185 k212 σ n185 (v4 + (1 : Int32)))))
def J_X12_does_212 (σ : Zst) : Option (Zst × Int32) :=
  (f_X12_entersFraction (zI σ 1 (0 : Int32)) ((((((σ.2.2.1 6) (Int32.toNatClampNeg (0 : Int32))) * ((σ.2.2.1 7) (Int32.toNatClampNeg (1 : Int32)))) - (((σ.2.2.1 6) (Int32.toNatClampNeg (1 : Int32))) * ((σ.2.2.1 7) (Int32.toNatClampNeg (0 : Int32))))) * (((σ.2.2.1 7) (Int32.toNatClampNeg (2 : Int32))) * ((σ.2.2.1 7) (Int32.toNatClampNeg (3 : Int32))))) - (((((σ.2.2.1 6) (Int32.toNatClampNeg (2 : Int32))) * ((σ.2.2.1 7) (Int32.toNatClampNeg (3 : Int32)))) - (((σ.2.2.1 6) (Int32.toNatClampNeg (3 : Int32))) * ((σ.2.2.1 7) (Int32.toNatClampNeg (2 : Int32))))) * (((σ.2.2.1 7) (Int32.toNatClampNeg (0 : Int32))) * ((σ.2.2.1 7) (Int32.toNatClampNeg (1 : Int32)))))) ((((σ.2.2.1 7) (Int32.toNatClampNeg (0 : Int32))) * ((σ.2.2.1 7) (Int32.toNatClampNeg (1 : Int32)))) * (((σ.2.2.1 7) (Int32.toNatClampNeg (2 : Int32))) * ((σ.2.2.1 7) (Int32.toNatClampNeg (3 : Int32)))))).bind fun t7 => some (t7, (if ((((((σ.2.2.1 6) (Int32.toNatClampNeg (0 : Int32))) * ((σ.2.2.1 7) (Int32.toNatClampNeg (1 : Int32)))) - (((σ.2.2.1 6) (Int32.toNatClampNeg (1 : Int32))) * ((σ.2.2.1 7) (Int32.toNatClampNeg (0 : Int32))))) * (((σ.2.2.1 7) (Int32.toNatClampNeg (2 : Int32))) * ((σ.2.2.1 7) (Int32.toNatClampNeg (3 : Int32))))) - (((((σ.2.2.1 6) (Int32.toNatClampNeg (2 : Int32))) * ((σ.2.2.1 7) (Int32.toNatClampNeg (3 : Int32)))) - (((σ.2.2.1 6) (Int32.toNatClampNeg (3 : Int32))) * ((σ.2.2.1 7) (Int32.toNatClampNeg (2 : Int32))))) * (((σ.2.2.1 7) (Int32.toNatClampNeg (0 : Int32))) * ((σ.2.2.1 7) (Int32.toNatClampNeg (1 : Int32)))))) ≤ (0 : Int64) then (if (0 : Int64) ≤ ((((((σ.2.2.1 6) (Int32.toNatClampNeg (0 : Int32))) * ((σ.2.2.1 7) (Int32.toNatClampNeg (1 : Int32)))) - (((σ.2.2.1 6) (Int32.toNatClampNeg (1 : Int32))) * ((σ.2.2.1 7) (Int32.toNatClampNeg (0 : Int32))))) * (((σ.2.2.1 7) (Int32.toNatClampNeg (2 : Int32))) * ((σ.2.2.1 7) (Int32.toNatClampNeg (3 : Int32))))) - (((((σ.2.2.1 6) (Int32.toNatClampNeg (2 : Int32))) * ((σ.2.2.1 7) (Int32.toNatClampNeg (3 : Int32)))) - (((σ.2.2.1 6) (Int32.toNatClampNeg (3 : Int32))) * ((σ.2.2.1 7) (Int32.toNatClampNeg (2 : Int32))))) * (((σ.2.2.1 7) (Int32.toNatClampNeg (0 : Int32))) * ((σ.2.2.1 7) (Int32.toNatClampNeg (1 : Int32)))))) then (0 : Int32) else (2 : Int32)) else (1 : Int32)))
def J_X12_does_182 (σ : Zst) : Option (Zst × Int32) :=
  L_X12_does_185 (J_X12_does_212 σ) σ zFu (0 : Int32)
def J_X12_does_65 (σ : Zst) (v1 : Int32) (v2 : Int32) (v3 : Int32) : Option (Zst × Int32) :=
  L_X12_does_68 (fun σ11 => J_X12_does_182 σ11) v1 v2 v3 zFu σ (0 : Int32)
def f_X12_does (σ : Zst) (p0 : Int32) (p1 : Int32) (p2 : Int32) : Option (Zst × Int32) :=
  (if (f_X12_isKind p0) = (0 : Int32) then some ((zI σ 0 (0 : Int32)), (-1 : Int32)) else (if (f_X12_isSort (zI σ 0 (0 : Int32)) p1) = (0 : Int32) then some ((zI σ 0 (0 : Int32)), (-1 : Int32)) else (if (f_X12_in (Int32.toInt64 p2) (1 : Int64) (11 : Int64)) = (0 : Int32) then some ((zI σ 0 (0 : Int32)), (-1 : Int32)) else L_X12_does_37 (fun σ12 => J_X12_does_65 σ12 p0 p1 p2) p0 p1 p2 zFu (zI σ 0 (0 : Int32)) (0 : Int32))))
def L_X12_keep_28 (v1 : Int32) : Nat → Zst → Int32 → Option (Zst × Int32)
  | 0, _, _ => none
  | n28 + 1, σ, v2 => (if (4608 : Int32) ≤ v2 then gIx v1 3 (some ((zA σ 32 (upd (σ.2.1 32) (Int32.toNatClampNeg v1) (σ.1 4))), (1 : Int32))) else gIx v2 4608 (gIx ((v1 * (4608 : Int32)) + v2) 13824 (L_X12_keep_28 v1 n28 (zA σ 31 (upd (σ.2.1 31) (Int32.toNatClampNeg ((v1 * (4608 : Int32)) + v2)) ((σ.2.1 8) (Int32.toNatClampNeg v2)))) (v2 + (1 : Int32)))))
def f_X12_keep (σ : Zst) (p0 : Int32) : Option (Zst × Int32) :=
  (if (f_X12_in (Int32.toInt64 p0) (0 : Int64) (2 : Int64)) = (0 : Int32) then some ((zI σ 0 (0 : Int32)), (0 : Int32)) else gIx p0 3 (L_X12_keep_28 p0 zFu (zA (zI σ 0 (0 : Int32)) 30 (upd (σ.2.1 30) (Int32.toNatClampNeg p0) (vp_nar .boolean (1 : Int32)))) (0 : Int32)))
def L_X12_again_30 (v1 : Int32) : Nat → Zst → Int32 → Option (Zst × Int32)
  | 0, _, _ => none
  | n30 + 1, σ, v2 => (if (4608 : Int32) ≤ v2 then gIx v1 3 (some ((zI σ 4 ((σ.2.1 32) (Int32.toNatClampNeg v1))), (1 : Int32))) else gIx ((v1 * (4608 : Int32)) + v2) 13824 (gIx v2 4608 (L_X12_again_30 v1 n30 (zA σ 8 (upd (σ.2.1 8) (Int32.toNatClampNeg v2) ((σ.2.1 31) (Int32.toNatClampNeg ((v1 * (4608 : Int32)) + v2))))) (v2 + (1 : Int32)))))
def f_X12_again (σ : Zst) (p0 : Int32) : Option (Zst × Int32) :=
  (if (f_X12_in (Int32.toInt64 p0) (0 : Int64) (2 : Int64)) = (0 : Int32) then some ((zI σ 0 (0 : Int32)), (0 : Int32)) else gIx p0 3 ((if ((σ.2.1 30) (Int32.toNatClampNeg p0)) = (0 : Int32) then some ((zI σ 0 (0 : Int32)), (0 : Int32)) else L_X12_again_30 p0 zFu (zI σ 0 (0 : Int32)) (0 : Int32))))
def L_X12_numbersTold_4 (σ0 : Zst) : Nat → Int32 → Int32 → Option Int32
  | 0, _, _ => none
  | n4 + 1, v1, v2 => (if (4608 : Int32) ≤ v2 then some v1 else gIx v2 4608 (L_X12_numbersTold_4 σ0 n4 (v1 + (f_X12_flag (if ((σ0.2.1 8) (Int32.toNatClampNeg v2)) ≤ (0 : Int32) then (0 : Int32) else (1 : Int32)))) (v2 + (1 : Int32))))
def f_X12_numbersTold (σ0 : Zst)  : Option Int32 :=
  L_X12_numbersTold_4 σ0 zFu (0 : Int32) (0 : Int32)
def L_X12_lawBits_4 (σ0 : Zst) : Nat → Int32 → Int32 → Option Int32
  | 0, _, _ => none
  | n4 + 1, v1, v2 => (if (6 : Int32) ≤ v2 then some v1 else gIx v2 7 (L_X12_lawBits_4 σ0 n4 (v1 ||| (if ((σ0.2.1 10) (Int32.toNatClampNeg v2)) ≤ (0 : Int32) then (0 : Int32) else (jShl (1 : Int32) v2))) (v2 + (1 : Int32))))
def f_X12_lawBits (σ0 : Zst)  : Option Int32 :=
  L_X12_lawBits_4 σ0 zFu (0 : Int32) (0 : Int32)
def f_X12_count (σ : Zst) (p0 : Int32) : Option (Zst × Int32) :=
  (if p0 = (0 : Int32) then some ((zI σ 0 (0 : Int32)), (σ.1 2)) else (if p0 = (1 : Int32) then some ((zI σ 0 (0 : Int32)), (σ.1 3)) else (if p0 = (2 : Int32) then (f_X12_lawBits (zI σ 0 (0 : Int32))).bind fun t4 => some ((zI σ 0 (0 : Int32)), t4) else (if p0 = (3 : Int32) then some ((zI σ 0 (0 : Int32)), (σ.1 20)) else (if p0 = (4 : Int32) then some ((zI σ 0 (0 : Int32)), (σ.1 21)) else (if p0 = (5 : Int32) then some ((zI σ 0 (0 : Int32)), (σ.1 23)) else (if p0 = (6 : Int32) then (f_X12_numbersTold (zI σ 0 (0 : Int32))).bind fun t9 => some ((zI σ 0 (0 : Int32)), t9) else (if p0 = (7 : Int32) then some ((zI σ 0 (0 : Int32)), (σ.1 1)) else (if p0 = (8 : Int32) then some ((zI σ 0 (0 : Int32)), (σ.1 5)) else some ((zI σ 0 (0 : Int32)), (-1 : Int32)))))))))))
def f_X12_row (σ : Zst) (p0 : Int32) : Option (Zst × Int64) :=
  (if (f_X12_in (Int32.toInt64 p0) (0 : Int64) (Int32.toInt64 ((σ.1 1) - (1 : Int32)))) = (0 : Int32) then some ((zI (zI σ 0 (0 : Int32)) 0 (1 : Int32)), (0 : Int64)) else gIx p0 24 (some ((zI σ 0 (0 : Int32)), ((σ.2.2.1 0) (Int32.toNatClampNeg p0)))))
end
