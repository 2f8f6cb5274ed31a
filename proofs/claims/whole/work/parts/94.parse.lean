/-! a law's form, as the reference reads it -/
def gx (m0 : Zst) (p o : Nat) (C : Nat → Int32) (k : Nat) : Zst := zA (zA (zI (zI m0 6 (nI p)) 8 (nI o)) 9 C) 10 (upd (m0.2.1 10) 6 (nI k))
theorem gzIA (c : Zst) (k l : Nat) (x : Int32) (f : Nat → Int32) : zI (zA c k f) l x = zA (zI c l x) k f := rfl
theorem gzAC (c : Zst) {k l : Nat} (h : ¬ k = l) (f g : Nat → Int32) : zA (zA c k f) l g = zA (zA c l g) k f := by
  unfold zA
  simp only
  congr 2
  funext j
  by_cases e1 : j = l
  · rw [if_pos e1, if_neg (fun e => h (e.symm.trans e1)), if_pos e1]
  · rw [if_neg e1]
    by_cases e2 : j = k
    · rw [if_pos e2, if_pos e2]
    · rw [if_neg e2, if_neg e2, if_neg e1]
theorem gx_6 (m0 : Zst) (p o : Nat) (C : Nat → Int32) (k q : Nat) : zI (gx m0 p o C k) 6 (nI q) = gx m0 q o C k := by
  unfold gx
  rw [gzIA, gzIA, gzC _ (by decide), gzII]
theorem gx_8 (m0 : Zst) (p o : Nat) (C : Nat → Int32) (k q : Nat) : zI (gx m0 p o C k) 8 (nI q) = gx m0 p q C k := by
  unfold gx
  rw [gzIA, gzIA, gzII]
theorem gx_n (m0 : Zst) (p o : Nat) (C : Nat → Int32) (k : Nat) : zI (gx m0 p o C k) 6 ((gx m0 p o C k).1 6 + 1) = gx m0 (p + 1) o C k := by
  show zI (gx m0 p o C k) 6 (nI p + 1) = _
  rw [nI_1, gx_6]
theorem gx_mk {m0 : Zst} {p o : Nat} {C : Nat → Int32} {k : Nat} (hk : k < 48) (x : Int32) : f_X12_marks (gx m0 p o C k) x = some (gx m0 p o (upd C (288 + k) x) (k + 1)) := by
  have e10 : (gx m0 p o C k).2.1 10 = upd (m0.2.1 10) 6 (nI k) := rfl
  have e9 : (gx m0 p o C k).2.1 9 = C := rfl
  have c6 : Int32.toNatClampNeg 6 = 6 := rfl
  unfold f_X12_marks
  rw [e10, e9, c6, gU_eq rfl, show (288 : Int32) + nI k = nI (288 + k) by rw [show (288 : Int32) = nI 288 from rfl, nI_add], gGx (show 288 + k < 336 by omega) (by decide), nI_clamp (show 288 + k < 2 ^ 31 by omega), nI_1]
  have eu : upd (upd (m0.2.1 10) 6 (nI k)) 6 (nI (k + 1)) = upd (m0.2.1 10) 6 (nI (k + 1)) := by
    funext j
    by_cases e : j = 6
    · rw [gU_eq e, gU_eq e]
    · rw [gU_ne e, gU_ne e, gU_ne e]
  rw [eu]
  unfold gx
  rw [gzAC _ (show ¬ 10 = 9 by decide), gzAA, gzAA]
/-- the reference under way: the text till to, constant s of signs -/
def gEP (m0 : Zst) (to s : Nat) (v : Nat → Nat) : Prop := to ≤ 40 ∧ s < 3 ∧ (∀ j, v j < 256) ∧ m0.1 7 = nI to ∧ (∀ j, m0.2.1 12 j = nI (v j)) ∧ m0.2.2.2 0 = s + 2
def gOpB (r ch : Nat) : Bool := if r = 0 then ch == 124 else if r = 1 then ch == 38 else if r = 2 then (ch == 60 || ch == 62 || ch == 61) else if r = 3 then (ch == 43 || ch == 45) else (ch == 42 || ch == 47)
theorem yRk0 : ∀ r, r < 5 → ∀ ch, ch < 256 → decide (zStrIx (7 + r) (nI ch) < 0) = !gOpB r ch := by decide +kernel
theorem gOpB_i {r ch : Nat} (hr : r < 5) : gOpB r ch = true ↔ gOp r ch := by
  unfold gOpB gOp
  rcases (show r = 0 ∨ r = 1 ∨ r = 2 ∨ r = 3 ∨ r = 4 by omega) with rfl | rfl | rfl | rfl | rfl <;> simp [or_assoc]
theorem yRk {r ch : Nat} (hr : r < 5) (hc : ch < 256) : zStrIx (7 + r) (nI ch) < 0 ↔ ¬ gOp r ch := by
  have := yRk0 r hr ch hc
  rw [← gOpB_i hr]
  cases hb : gOpB r ch
  · rw [hb] at this
    exact ⟨fun _ e => Bool.noConfusion e, fun _ => of_decide_eq_true this⟩
  · rw [hb] at this
    exact ⟨fun e => absurd e (of_decide_eq_false this), fun e => absurd rfl e⟩
theorem yUn : ∀ ch, ch < 256 → zStrIx 4 (nI ch) = if ch = 33 then 0 else if ch = 45 then 1 else -1 := by decide +kernel
theorem yLp : ∀ ch, ch < 256 → zStrIx 5 (nI ch) = if ch = 40 then 0 else -1 := by decide +kernel
theorem yRp : ∀ ch, ch < 256 → zStrIx 6 (nI ch) = if ch = 41 then 0 else -1 := by decide +kernel
theorem ySg : ∀ s, s < 3 → ∀ ch, ch < 256 → zStrIx (s + 1) (nI ch) = if gIdx ch < 8 + s then nI (gIdx ch) else -1 := by decide +kernel
/-- the class has come to p and can't go on, nor end there -/
def gStuck (nS : Nat) (v : Nat → Nat) (to p : Nat) : Prop := ∃ s, yMs nS v p = some s ∧ (p < to → gMk nS s (v p) = none) ∧ ¬ (s.1 = false ∧ s.2.1 = 0)
/-- behind rank r: what can't come -/
def gPo (v : Nat → Nat) (to r p o : Nat) (Cc C0 : Int32) (d : Nat) : Prop :=
  d ≤ 3 ∧ (p < to → 48 ≤ v p → v p ≤ 57 → d = 0 ∨ d = 3) ∧ (∀ r', r ≤ r' → r' < 5 → ¬ r' = 2 → p < to → ¬ gOp r' (v p)) ∧ (r ≤ 2 → p < to → gOp 2 (v p) → bt Cc o = true) ∧ (∀ j, j < o → bt Cc j = bt C0 j) ∧ (3 ≤ r → bt Cc o = bt C0 o)
def gOK (m0 : Zst) (nS : Nat) (v : Nat → Nat) (to kind r o p : Nat) (Cm : Nat → Int32) (k : Nat) (C0 : Int32) (out : Option (Zst × Int32)) : Prop :=
  ∃ (p' : Nat) (C' : Nat → Int32) (K : List Int32) (d2 : Nat) (Cc : Int32), out = some (gx m0 p' o C' (k + K.length), 1) ∧ p < p' ∧ p' ≤ to ∧ K.length + p ≤ p' ∧ gFm v to nS kind o p p' K ∧ (∀ j, j < 288 + k → C' j = Cm j) ∧ (∀ j, j < K.length → C' (288 + k + j) = K.getD j 0) ∧ yMs nS v p' = some (false, o, d2, Cc) ∧ gPo v to r p' o Cc C0 d2
def gNO (m0 : Zst) (nS : Nat) (v : Nat → Nat) (to : Nat) (Cm : Nat → Int32) (out : Option (Zst × Int32)) : Prop :=
  ∃ (p' o' : Nat) (C' : Nat → Int32) (k' : Nat), out = some (gx m0 p' o' C' k', 0) ∧ p' ≤ to ∧ (∀ j, j < 288 → C' j = Cm j) ∧ gStuck nS v to p'
def gRes (m0 : Zst) (nS : Nat) (v : Nat → Nat) (to kind r o p : Nat) (Cm : Nat → Int32) (k : Nat) (C0 : Int32) (out : Option (Zst × Int32)) : Prop :=
  gOK m0 nS v to kind r o p Cm k C0 out ∨ gNO m0 nS v to Cm out
theorem gRes_bo {m0 : Zst} {nS : Nat} {v : Nat → Nat} {to kind r o p : Nat} {Cm : Nat → Int32} {k : Nat} {C0 : Int32} {out : Option (Zst × Int32)} (h : gRes m0 nS v to kind r o p Cm k C0 out) : gRes m0 nS v to kind r o p Cm k C0 (out.bind fun t => gBo t.2 (some (t.1, t.2))) := by
  rcases h with ⟨p', C', K, d2, Cc, rfl, h⟩ | ⟨p', o', C', k', rfl, h⟩
  · exact Or.inl ⟨p', C', K, d2, Cc, rfl, h⟩
  · exact Or.inr ⟨p', o', C', k', rfl, h⟩
section
variable {m0 : Zst} {to s : Nat} {v : Nat → Nat}
theorem gxA (h : gEP m0 to s v) {cst p : Nat} (hc : cst < 14) (hp : p ≤ to) (o : Nat) (C : Nat → Int32) (k : Nat) : f_X12_among (gx m0 p o C k) cst = some (if p < to then zStrIx cst (nI (v p)) else -1) := by
  have h1 := h.1
  rw [gAmong (m := gx m0 p o C k) (p := p) (e := to) hc rfl h.2.2.2.1 (by omega) hp]
  rw [show (gx m0 p o C k).2.1 12 p = nI (v p) from h.2.2.2.2.1 p]
theorem gxD (h : gEP m0 to s v) {p : Nat} (hp : p ≤ to) (o : Nat) (C : Nat → Int32) (k : Nat) : f_X12_isDigit (gx m0 p o C k) = some (if p < to ∧ (48 ≤ v p ∧ v p ≤ 57) then 1 else 0) := by
  have h1 := h.1
  unfold f_X12_isDigit
  rw [show (gx m0 p o C k).1 7 = nI to from h.2.2.2.1, show (gx m0 p o C k).1 6 = nI p from rfl]
  by_cases q : p < to
  · have e : (gx m0 p o C k).2.1 12 p = nI (v p) := h.2.2.2.2.1 p
    rw [if_neg (nI_ge q (by omega)), gGx (show p < 60 by omega) (by decide), nI_clamp (show p < 2 ^ 31 by omega), e, gq_in_48_57]
    have hv := h.2.2.1 p
    rcases gq_btw (nI (v p)) 48 57 with ⟨w, w1, w2⟩ | ⟨w, w1⟩
    · rw [nI_toInt (by omega)] at w1 w2
      have w1 : (48 : Int) ≤ v p := w1
      have w2 : (v p : Int) ≤ 57 := w2
      rw [w, if_neg (show ¬ (1 : Int32) = 0 by decide), if_pos (show p < to ∧ (48 ≤ v p ∧ v p ≤ 57) by omega)]
    · rw [nI_toInt (by omega)] at w1
      have w1 : ¬ ((48 : Int) ≤ v p ∧ (v p : Int) ≤ 57) := w1
      rw [w, if_pos rfl, if_neg (show ¬ (p < to ∧ (48 ≤ v p ∧ v p ≤ 57)) by omega)]
  · rw [if_pos (nI_le (by omega) (by omega)), if_neg (fun e => q e.1)]
theorem yMs_n {nS p : Nat} {s0 : gS4} (h : yMs nS v p = some s0) : yMs nS v (p + 1) = gMk nS s0 (v p) := by
  show (yMs nS v p).bind _ = _
  rw [h]; rfl
/-- what the reference's recursion gives, at depth d -/
def gPR (m0 : Zst) (to nS : Nat) (v : Nat → Nat) (d : Nat) : Prop :=
  (∀ x p o dd C k Cm, x ≤ 5 → p ≤ to → o ≤ 5 → k ≤ p → dd ≤ 3 → yMs nS v p = some (true, o, dd, C) → (x ≤ 2 → bt C o = false) → 9 * (5 - o) + (to - p) + 9 - x ≤ d → gRes m0 nS v to x x o p Cm k C (f_X12rec d 0 (gx m0 p o Cm k) (nI x))) ∧
  (∀ p o dd C k Cm, p ≤ to → o ≤ 5 → k ≤ p → dd ≤ 3 → yMs nS v p = some (true, o, dd, C) → 9 * (5 - o) + (to - p) + 3 ≤ d → gRes m0 nS v to 5 5 o p Cm k C (f_X12rec d 1 (gx m0 p o Cm k) 0)) ∧
  (∀ p o dd C k Cm, p ≤ to → o ≤ 5 → k ≤ p → dd ≤ 3 → yMs nS v p = some (true, o, dd, C) → (p < to → ¬ v p = 33 ∧ ¬ v p = 45) → 9 * (5 - o) + (to - p) + 2 ≤ d → gRes m0 nS v to 6 5 o p Cm k C (f_X12rec d 2 (gx m0 p o Cm k) 0))
/-- a mark more behind the list -/
theorem gPut {Cm C' : Nat → Int32} {k : Nat} {K : List Int32} {x : Int32} (h1 : ∀ j, j < 288 + k → C' j = Cm j) (h2 : ∀ j, j < K.length → C' (288 + k + j) = K.getD j 0) :
    (∀ j, j < 288 + k → upd C' (288 + (k + K.length)) x j = Cm j) ∧ ∀ j, j < (K ++ [x]).length → upd C' (288 + (k + K.length)) x (288 + k + j) = (K ++ [x]).getD j 0 := by
  refine ⟨fun j hj => by rw [gU_ne (by omega)]; exact h1 j hj, fun j hj => ?_⟩
  rw [List.length_append, List.length_singleton] at hj
  by_cases e : j = K.length
  · subst e
    rw [gU_eq (by omega)]
    exact (gGetR (K := K) (L := [x]) (j := 0)).symm
  · rw [gU_ne (by omega), h2 j (by omega), gGetL (by omega)]
/-- marks behind one another -/
theorem gCat {C1 C2 : Nat → Int32} {k : Nat} {K1 K2 : List Int32} (h1 : ∀ j, j < K1.length → C1 (288 + k + j) = K1.getD j 0) (h2 : ∀ j, j < 288 + (k + K1.length) → C2 j = C1 j) (h3 : ∀ j, j < K2.length → C2 (288 + (k + K1.length) + j) = K2.getD j 0) :
    ∀ j, j < (K1 ++ K2).length → C2 (288 + k + j) = (K1 ++ K2).getD j 0 := by
  intro j hj
  rw [List.length_append] at hj
  by_cases e : j < K1.length
  · rw [h2 _ (by omega), h1 j e, gGetL e]
  · obtain ⟨i, rfl⟩ : ∃ i, j = K1.length + i := ⟨j - K1.length, by omega⟩
    rw [gGetR, show 288 + k + (K1.length + i) = 288 + (k + K1.length) + i by omega]
    exact h3 i (by omega)
end
