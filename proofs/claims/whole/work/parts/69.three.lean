/-- the sums that were gathered -/
def gSt (n : Nat) (Sm : Nat → Nat) (Pm : Nat → Nat → Nat) (c : Zst) : Prop := c.1 18 = nI n ∧ (∀ a, a < 3 → c.2.2.1 1 a = lN (Sm a)) ∧ (∀ a b, a < 3 → b < 3 → c.2.2.1 2 (a * 3 + b) = lN (Pm a b))
theorem gDec3 {a b a' b' : Nat} (h1 : b < 3) (h2 : b' < 3) (h : a * 3 + b = a' * 3 + b') : a = a' ∧ b = b' := by omega
/-- one cell, one part: its products -/
theorem gRowG {c1 : Zst} {s i a : Nat} {p1 : Int32} {V : Nat → Nat} (ha : a < 3) (hV : ∀ k, k < 3 → V k ≤ 1000) (ho : ∀ c2 : Zst, c2.2.1 = c1.2.1 → ∀ k, k < 3 → f_X4_of c2 (f_X0_kindOf (nI k) p1) (nI i) (nI s) = some (nI (V k))) :
    ∃ c2, (∀ k : Zst → Option Zst, L_X0_gatherOne_52 k (nI s) p1 (nI i) (nI a) (lN (V a)) zFu c1 0 = k c2) ∧ c2.1 = c1.1 ∧ c2.2.1 = c1.2.1 ∧ c2.2.2.1 0 = c1.2.2.1 0 ∧ c2.2.2.1 1 = c1.2.2.1 1 ∧
      (∀ a' b, a' < 3 → b < 3 → c2.2.2.1 2 (a' * 3 + b) = if a' = a then c1.2.2.1 2 (a' * 3 + b) + lN (V a * V b) else c1.2.2.1 2 (a' * 3 + b)) := by
  obtain ⟨c2, g1, g2, g3, g4, g5, g6⟩ := gq_run1 (La := fun (k : Zst → Option Zst) n (x : Zst × Int32) => L_X0_gatherOne_52 k (nI s) p1 (nI i) (nI a) (lN (V a)) n x.1 x.2)
    (fun j x => x.2 = nI j ∧ x.1.1 = c1.1 ∧ x.1.2.1 = c1.2.1 ∧ x.1.2.2.1 0 = c1.2.2.1 0 ∧ x.1.2.2.1 1 = c1.2.2.1 1 ∧ (∀ a' b, a' < 3 → b < 3 → x.1.2.2.1 2 (a' * 3 + b) = if a' = a ∧ b < j then c1.2.2.1 2 (a' * 3 + b) + lN (V a * V b) else c1.2.2.1 2 (a' * 3 + b)))
    (fun c2 => c2.1 = c1.1 ∧ c2.2.1 = c1.2.1 ∧ c2.2.2.1 0 = c1.2.2.1 0 ∧ c2.2.2.1 1 = c1.2.2.1 1 ∧ (∀ a' b, a' < 3 → b < 3 → c2.2.2.1 2 (a' * 3 + b) = if a' = a then c1.2.2.1 2 (a' * 3 + b) + lN (V a * V b) else c1.2.2.1 2 (a' * 3 + b))) 0 3 (Nat.zero_le _) (by omega) (a := (c1, 0))
    (fun j x hj hx => by
      obtain ⟨c2, q⟩ := x
      obtain ⟨h0, h1, h2, h3, h4, h5⟩ := hx
      have h0 : q = nI j := h0
      subst h0
      have h2 : c2.2.1 = c1.2.1 := h2
      have e : nI a * (3 : Int32) + nI j = nI (a * 3 + j) := by rw [show (3 : Int32) = nI 3 from rfl, pk_mul, nI_add]
      refine ⟨(zL c2 2 (vp_updL (c2.2.2.1 2) (a * 3 + j) (c2.2.2.1 2 (a * 3 + j) + lN (V a * V j))), nI (j + 1)), fun k n => ?_, rfl, h1, h2, h3, h4, fun a' b ha' hb => ?_⟩
      · simp only [L_X0_gatherOne_52, if_neg (show ¬ (3 : Int32) ≤ nI j from nI_ge (b := 3) hj (by decide)), e, gGx (show a * 3 + j < 9 by omega) (by decide), ho c2 h2 j hj, Option.bind_some, nI_clamp (show a * 3 + j < 2 ^ 31 by omega), nI_l (show V j < 2 ^ 31 by have := hV j hj; omega), lN_mul, nI_1]
      · have h5' := h5 a' b ha' hb
        have h5' : c2.2.2.1 2 (a' * 3 + b) = if a' = a ∧ b < j then c1.2.2.1 2 (a' * 3 + b) + lN (V a * V b) else c1.2.2.1 2 (a' * 3 + b) := h5'
        show vp_updL (c2.2.2.1 2) (a * 3 + j) (c2.2.2.1 2 (a * 3 + j) + lN (V a * V j)) (a' * 3 + b) = _
        by_cases q : a' * 3 + b = a * 3 + j
        · obtain ⟨q1, q2⟩ := gDec3 hb hj q
          subst q1 q2
          rw [gLu rfl, h5', if_neg (by omega), if_pos (by omega)]
        · rw [gLn q, h5']
          by_cases q3 : a' = a ∧ b < j
          · rw [if_pos q3, if_pos (by omega)]
          · rw [if_neg q3, if_neg (fun z => ?_)]
            have : b = j := by omega
            exact q (by rw [z.1, this]))
    (fun x hx => by
      obtain ⟨c2, q⟩ := x
      obtain ⟨h0, h1, h2, h3, h4, h5⟩ := hx
      have h0 : q = nI 3 := h0
      subst h0
      refine ⟨c2, fun k n => ?_, h1, h2, h3, h4, fun a' b ha' hb => ?_⟩
      · simp only [L_X0_gatherOne_52, if_pos (show (3 : Int32) ≤ nI 3 by decide)]
      · have h5' := h5 a' b ha' hb
        have h5' : c2.2.2.1 2 (a' * 3 + b) = if a' = a ∧ b < 3 then c1.2.2.1 2 (a' * 3 + b) + lN (V a * V b) else c1.2.2.1 2 (a' * 3 + b) := h5'
        rw [h5']
        by_cases q : a' = a
        · rw [if_pos ⟨q, hb⟩, if_pos q]
        · rw [if_neg (fun z => q z.1), if_neg q])
    ⟨rfl, rfl, rfl, rfl, rfl, fun a' b ha' hb => by rw [if_neg (by omega)]⟩
  exact ⟨c2, g1, g2, g3, g4, g5, g6⟩
theorem gOneG {c1 : Zst} {s i : Nat} {p1 : Int32} {V : Nat → Nat} (hV : ∀ k, k < 3 → V k ≤ 1000) (ho : ∀ c2 : Zst, c2.2.1 = c1.2.1 → ∀ k, k < 3 → f_X4_of c2 (f_X0_kindOf (nI k) p1) (nI i) (nI s) = some (nI (V k))) :
    ∃ c2, f_X0_gatherOne c1 (nI s) p1 (nI i) = some c2 ∧ c2.1 = (zI c1 18 (c1.1 18 + 1)).1 ∧ c2.2.1 = c1.2.1 ∧ c2.2.2.1 0 = c1.2.2.1 0 ∧ (∀ a, a < 3 → c2.2.2.1 1 a = c1.2.2.1 1 a + lN (V a)) ∧
      (∀ a b, a < 3 → b < 3 → c2.2.2.1 2 (a * 3 + b) = c1.2.2.1 2 (a * 3 + b) + lN (V a * V b)) := by
  obtain ⟨c2, g1, g2, g3, g4, g5, g6⟩ := gq_loop (La := fun n (x : Zst × Int32) => L_X0_gatherOne_13 (nI s) p1 (nI i) n x.1 x.2)
    (fun j x => x.2 = nI j ∧ x.1.1 = (zI c1 18 (c1.1 18 + 1)).1 ∧ x.1.2.1 = c1.2.1 ∧ x.1.2.2.1 0 = c1.2.2.1 0 ∧ (∀ a, a < 3 → x.1.2.2.1 1 a = if a < j then c1.2.2.1 1 a + lN (V a) else c1.2.2.1 1 a) ∧ (∀ a b, a < 3 → b < 3 → x.1.2.2.1 2 (a * 3 + b) = if a < j then c1.2.2.1 2 (a * 3 + b) + lN (V a * V b) else c1.2.2.1 2 (a * 3 + b)))
    (fun c2 => c2.1 = (zI c1 18 (c1.1 18 + 1)).1 ∧ c2.2.1 = c1.2.1 ∧ c2.2.2.1 0 = c1.2.2.1 0 ∧ (∀ a, a < 3 → c2.2.2.1 1 a = c1.2.2.1 1 a + lN (V a)) ∧ (∀ a b, a < 3 → b < 3 → c2.2.2.1 2 (a * 3 + b) = c1.2.2.1 2 (a * 3 + b) + lN (V a * V b))) 3 (by omega) (a := (zI c1 18 (c1.1 18 + 1), 0))
    (fun j x hj hx => by
      obtain ⟨c2, q⟩ := x
      obtain ⟨h0, h1, h2, h3, h4, h5⟩ := hx
      have h0 : q = nI j := h0
      subst h0
      have h1 : c2.1 = (zI c1 18 (c1.1 18 + 1)).1 := h1
      have h2 : c2.2.1 = c1.2.1 := h2
      have h3 : c2.2.2.1 0 = c1.2.2.1 0 := h3
      have h4 : ∀ a, a < 3 → c2.2.2.1 1 a = if a < j then c1.2.2.1 1 a + lN (V a) else c1.2.2.1 1 a := h4
      have h5 : ∀ a b, a < 3 → b < 3 → c2.2.2.1 2 (a * 3 + b) = if a < j then c1.2.2.1 2 (a * 3 + b) + lN (V a * V b) else c1.2.2.1 2 (a * 3 + b) := h5
      obtain ⟨c3, r1, r2, r3, r4, r5, r6⟩ := gRowG (c1 := zL c2 1 (vp_updL (c2.2.2.1 1) j (c2.2.2.1 1 j + lN (V j)))) (s := s) (i := i) (a := j) (p1 := p1) (V := V) hj hV (fun c4 e => ho c4 (e.trans h2))
      refine ⟨(c3, nI (j + 1)), fun n => ?_, rfl, r2.trans h1, r3.trans h2, r4.trans h3, fun a ha => ?_, fun a b ha hb => ?_⟩
      · have e := r1 (fun σ3 => J_X0_gatherOne_98 (fun σ w4 => L_X0_gatherOne_13 (nI s) p1 (nI i) n σ w4) σ3 (nI s) p1 (nI i) (nI j))
        simp only [L_X0_gatherOne_13, if_neg (show ¬ (3 : Int32) ≤ nI j from nI_ge (b := 3) hj (by decide)), ho c2 h2 j hj, Option.bind_some, gGx hj (by decide), nI_clamp (show j < 2 ^ 31 by omega), nI_l (show V j < 2 ^ 31 by have := hV j hj; omega)]
        refine e.trans ?_
        simp only [J_X0_gatherOne_98, nI_1]
      · show c3.2.2.1 1 a = _
        rw [r5]
        show vp_updL (c2.2.2.1 1) j (c2.2.2.1 1 j + lN (V j)) a = _
        by_cases q : a = j
        · subst q
          rw [gLu rfl, h4 a ha, if_neg (by omega), if_pos (by omega)]
        · rw [gLn q, h4 a ha]
          by_cases q2 : a < j
          · rw [if_pos q2, if_pos (by omega)]
          · rw [if_neg q2, if_neg (by omega)]
      · have e6 := r6 a b ha hb
        have e5 := h5 a b ha hb
        have e6 : c3.2.2.1 2 (a * 3 + b) = if a = j then c2.2.2.1 2 (a * 3 + b) + lN (V j * V b) else c2.2.2.1 2 (a * 3 + b) := e6
        show c3.2.2.1 2 (a * 3 + b) = _
        rw [e6, e5]
        by_cases q : a = j
        · subst q
          rw [if_pos rfl, if_neg (by omega), if_pos (by omega)]
        · rw [if_neg q]
          by_cases q2 : a < j
          · rw [if_pos q2, if_pos (by omega)]
          · rw [if_neg q2, if_neg (by omega)])
    (fun x hx => by
      obtain ⟨c2, q⟩ := x
      obtain ⟨h0, h1, h2, h3, h4, h5⟩ := hx
      have h0 : q = nI 3 := h0
      subst h0
      refine ⟨c2, fun n => ?_, h1, h2, h3, fun a ha => (h4 a ha).trans (if_pos ha), fun a b ha hb => (h5 a b ha hb).trans (if_pos ha)⟩
      simp only [L_X0_gatherOne_13, if_pos (show (3 : Int32) ≤ nI 3 by decide)])
    ⟨rfl, rfl, rfl, rfl, fun a ha => (if_neg (Nat.not_lt_zero a)).symm, fun a b ha hb => (if_neg (Nat.not_lt_zero a)).symm⟩
  exact ⟨c2, g1, g2, g3, g4, g5, g6⟩
/-- how far products and sums can lie apart -/
theorem gCov {n a b p : Int} (hn : 0 ≤ n) (hn2 : n ≤ 96) (ha0 : 0 ≤ a) (ha : a ≤ 999 * n) (hb0 : 0 ≤ b) (hb : b ≤ 999 * n) (hp0 : 0 ≤ p) (hpa : p ≤ 999 * a) (hpb : p ≤ 999 * b) (hpp : 999 * a + 999 * b ≤ p + 998001 * n) :
    -2299394304 ≤ n * p - a * b ∧ n * p - a * b ≤ 2299394304 := by
  have hN : (999 * n) * (999 * n) ≤ 95904 * 95904 := Int.mul_le_mul (by omega) (by omega) (by omega) (by decide)
  have e0 : (999 * n) * (999 * n) = 998001 * (n * n) := by grind
  have na : 0 ≤ n * (999 * a - p) := Int.mul_nonneg hn (by omega)
  have nb : 0 ≤ n * (999 * b - p) := Int.mul_nonneg hn (by omega)
  have np : 0 ≤ n * p := Int.mul_nonneg hn hp0
  have nc : 0 ≤ n * (p + 998001 * n - 999 * a - 999 * b) := Int.mul_nonneg hn (by omega)
  have e1 : n * (999 * a - p) = 999 * (n * a) - n * p := by grind
  have e2 : n * (999 * b - p) = 999 * (n * b) - n * p := by grind
  have e3 : n * (p + 998001 * n - 999 * a - 999 * b) = n * p + 998001 * (n * n) - 999 * (n * a) - 999 * (n * b) := by grind
  constructor
  · -- below
    by_cases h : a + b ≤ 999 * n
    · have s1 : 0 ≤ (a - b) * (a - b) := by
        by_cases q : a ≤ b
        · have := Int.mul_nonneg (show (0 : Int) ≤ b - a by omega) (show (0 : Int) ≤ b - a by omega)
          have e : (b - a) * (b - a) = (a - b) * (a - b) := by grind
          omega
        · exact Int.mul_nonneg (by omega) (by omega)
      have e4 : (a - b) * (a - b) = a * a - 2 * (a * b) + b * b := by grind
      have s2 : (a + b) * (a + b) ≤ (999 * n) * (999 * n) := Int.mul_le_mul h h (by omega) (by omega)
      have e5 : (a + b) * (a + b) = a * a + 2 * (a * b) + b * b := by grind
      omega
    · have s1 : 0 ≤ (a - b) * (a - b) := by
        by_cases q : a ≤ b
        · have := Int.mul_nonneg (show (0 : Int) ≤ b - a by omega) (show (0 : Int) ≤ b - a by omega)
          have e : (b - a) * (b - a) = (a - b) * (a - b) := by grind
          omega
        · exact Int.mul_nonneg (by omega) (by omega)
      have e4 : (a - b) * (a - b) = a * a - 2 * (a * b) + b * b := by grind
      have s2 : (999 * n - a + (999 * n - b)) * (999 * n - a + (999 * n - b)) ≤ (999 * n) * (999 * n) := Int.mul_le_mul (by omega) (by omega) (by omega) (by omega)
      have e5 : (999 * n - a + (999 * n - b)) * (999 * n - a + (999 * n - b)) = 3992004 * (n * n) - 3996 * (n * a) - 3996 * (n * b) + a * a + 2 * (a * b) + b * b := by grind
      omega
  · -- above
    by_cases h : a ≤ b
    · have s1 : 0 ≤ a * (b - a) := Int.mul_nonneg ha0 (by omega)
      have e4 : a * (b - a) = a * b - a * a := by grind
      have s2 : 0 ≤ (999 * n - 2 * a) * (999 * n - 2 * a) := by
        by_cases q : 0 ≤ 999 * n - 2 * a
        · exact Int.mul_nonneg q q
        · have := Int.mul_nonneg (show (0 : Int) ≤ 2 * a - 999 * n by omega) (show (0 : Int) ≤ 2 * a - 999 * n by omega)
          have e : (2 * a - 999 * n) * (2 * a - 999 * n) = (999 * n - 2 * a) * (999 * n - 2 * a) := by grind
          omega
      have e5 : (999 * n - 2 * a) * (999 * n - 2 * a) = 998001 * (n * n) - 3996 * (n * a) + 4 * (a * a) := by grind
      omega
    · have s1 : 0 ≤ b * (a - b) := Int.mul_nonneg hb0 (by omega)
      have e4 : b * (a - b) = a * b - b * b := by grind
      have s2 : 0 ≤ (999 * n - 2 * b) * (999 * n - 2 * b) := by
        by_cases q : 0 ≤ 999 * n - 2 * b
        · exact Int.mul_nonneg q q
        · have := Int.mul_nonneg (show (0 : Int) ≤ 2 * b - 999 * n by omega) (show (0 : Int) ≤ 2 * b - 999 * n by omega)
          have e : (2 * b - 999 * n) * (2 * b - 999 * n) = (999 * n - 2 * b) * (999 * n - 2 * b) := by grind
          omega
      have e5 : (999 * n - 2 * b) * (999 * n - 2 * b) = 998001 * (n * n) - 3996 * (n * b) + 4 * (b * b) := by grind
      omega
