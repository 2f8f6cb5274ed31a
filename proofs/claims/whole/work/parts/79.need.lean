theorem gpc_pos : ∀ f k, 0 < k → k < 2 ^ f → 1 ≤ gpc f k
  | 0, k, h0, hk => by
    have : k < 1 := hk
    omega
  | f + 1, k, h0, hk => by
    rw [Nat.pow_succ] at hk
    unfold gpc
    by_cases e : k % 2 = 1
    · omega
    · have := gpc_pos f (k / 2) (by omega) (by omega)
      omega
theorem gGry_pos {t : Nat} (h : 0 < t) : 0 < gGry t := by
  rcases Nat.eq_zero_or_pos (gGry t) with q | q
  · exfalso
    unfold gGry at q
    have : t ^^^ (t >>> 1) ^^^ (t >>> 1) = t := by rw [Nat.xor_assoc, Nat.xor_self, Nat.xor_zero]
    rw [q, Nat.zero_xor] at this
    rw [Nat.shiftRight_eq_div_pow] at this
    omega
  · exact q
def gNear (v1 : Int32) (M : Nat → Nat) (N s : Nat) : Bool := !decide ((((Int32.toInt64 v1) * 27720) * Int32.toInt64 (nI N)) * Int32.toInt64 (nI (gpc 12 s)) < jAbsL ((lN (gSub M s N) * Int32.toInt64 (nI N)) - (lN (gN M N) * Int32.toInt64 (nI (gpc 12 s)))))
theorem gNear_c (v1 : Int32) (M : Nat → Nat) (N s : Nat) : (if (((Int32.toInt64 v1) * 27720) * Int32.toInt64 (nI N)) * Int32.toInt64 (nI (gpc 12 s)) < jAbsL ((lN (gSub M s N) * Int32.toInt64 (nI N)) - (lN (gN M N) * Int32.toInt64 (nI (gpc 12 s)))) then (0 : Int32) else 1) = nI (if gNear v1 M N s = true then 1 else 0) := by
  unfold gNear
  by_cases h : (((Int32.toInt64 v1) * 27720) * Int32.toInt64 (nI N)) * Int32.toInt64 (nI (gpc 12 s)) < jAbsL ((lN (gSub M s N) * Int32.toInt64 (nI N)) - (lN (gN M N) * Int32.toInt64 (nI (gpc 12 s))))
  · rw [if_pos h, decide_eq_true h]; rfl
  · rw [if_neg h, decide_eq_false h]; rfl
theorem gNear_m (v1 : Int32) (M : Nat → Nat) (N s : Nat) : f_X12_flag (if (((Int32.toInt64 v1) * 27720) * Int32.toInt64 (nI (gpc 12 s))) * Int32.toInt64 (nI N) < jAbsL ((lN (gSub M s N) * Int32.toInt64 (nI N)) - (lN (gN M N) * Int32.toInt64 (nI (gpc 12 s)))) then (0 : Int32) else 1) = nI (if gNear v1 M N s = true then 1 else 0) := by
  rw [← gNear_c, gflag0, Int64.mul_assoc (Int32.toInt64 v1 * 27720), Int64.mul_comm (Int32.toInt64 (nI (gpc 12 s))) (Int32.toInt64 (nI N)), ← Int64.mul_assoc]
def gWq (g : Nat → Nat) (k : Nat) : Nat → Nat := gN (fun i => if gpc 12 (g i) = k then 1 else 0)
def gVq (v1 : Int32) (M : Nat → Nat) (N : Nat) (g : Nat → Nat) (k : Nat) : Nat → Nat := gN (fun i => if gpc 12 (g i) = k ∧ gNear v1 M N (g i) = true then 1 else 0)
theorem gWq_s (g : Nat → Nat) (k t : Nat) : gWq g k (t + 1) = gWq g k t + (if gpc 12 (g t) = k then 1 else 0) := rfl
theorem gVq_s (v1 : Int32) (M : Nat → Nat) (N : Nat) (g : Nat → Nat) (k t : Nat) : gVq v1 M N g k (t + 1) = gVq v1 M N g k t + (if gpc 12 (g t) = k ∧ gNear v1 M N (g t) = true then 1 else 0) := rfl
theorem gFill42 (c : Zst) : ∃ c', f_J7_fill_53178_42 c 0 = some c' ∧ gaC c c' ∧ gNR c c' ∧ c'.2.2.1 5 = c.2.2.1 5 ∧ c'.1 22 = c.1 22 ∧ (∀ k, k < 13 → c'.2.1 25 k = 0) := by
  obtain ⟨r, h1, h2, h3, h4, h5, h6⟩ := gq_loop (La := fun n (a : Zst × Int32) => L_J7_fill_53178_42_5 0 13 n a.1 a.2)
    (fun i a => a.2 = nI i ∧ gaC c a.1 ∧ gNR c a.1 ∧ a.1.2.2.1 5 = c.2.2.1 5 ∧ a.1.1 22 = c.1 22 ∧ (∀ k, k < i → a.1.2.1 25 k = 0))
    (fun c' => gaC c c' ∧ gNR c c' ∧ c'.2.2.1 5 = c.2.2.1 5 ∧ c'.1 22 = c.1 22 ∧ (∀ k, k < 13 → c'.2.1 25 k = 0)) 13 (by decide) (a := (c, 0))
    (fun i a hi hI => by
      obtain ⟨c1, q⟩ := a
      obtain ⟨hq, b1, b2, b3, b4, b5⟩ := hI
      have hq : q = nI i := hq
      subst hq
      have b1 : gaC c c1 := b1
      refine ⟨(zA c1 25 (upd (c1.2.1 25) i 0), nI (i + 1)), fun n => ?_, rfl, gaC_A b1 rfl, b2, b3, b4, fun k hk => ?_⟩
      · simp only [L_J7_fill_53178_42_5, if_neg (show ¬ (13 : Int32) ≤ nI i from nI_ge (b := 13) hi (by decide)), gGx hi (by decide), nI_clamp (show i < 2 ^ 31 by omega), nI_1]
      · show upd (c1.2.1 25) i 0 k = 0
        by_cases e : k = i
        · exact gU_eq e
        · rw [gU_ne e]; exact b5 k (by omega))
    (fun a hI => by
      obtain ⟨c1, q⟩ := a
      obtain ⟨hq, b⟩ := hI
      have hq : q = nI 13 := hq
      subst hq
      exact ⟨c1, fun n => by simp only [L_J7_fill_53178_42_5, show ((13 : Int32) ≤ nI 13) = True by decide, ↓reduceIte], b⟩)
    ⟨rfl, gaC_rf, ⟨rfl, rfl⟩, rfl, rfl, fun k hk => absurd hk (Nat.not_lt_zero k)⟩
  exact ⟨r, h1, h2, h3, h4, h5, h6⟩
theorem gFill43 (c : Zst) : ∃ c', f_J7_fill_53178_43 c 0 = some c' ∧ gaC c c' ∧ gNR c c' ∧ c'.2.2.1 5 = c.2.2.1 5 ∧ c'.1 22 = c.1 22 ∧ c'.2.1 25 = c.2.1 25 ∧ (∀ k, k < 13 → c'.2.1 26 k = 0) := by
  obtain ⟨r, h1, h2, h3, h4, h5, h6⟩ := gq_loop (La := fun n (a : Zst × Int32) => L_J7_fill_53178_43_5 0 13 n a.1 a.2)
    (fun i a => a.2 = nI i ∧ gaC c a.1 ∧ gNR c a.1 ∧ a.1.2.2.1 5 = c.2.2.1 5 ∧ a.1.1 22 = c.1 22 ∧ a.1.2.1 25 = c.2.1 25 ∧ (∀ k, k < i → a.1.2.1 26 k = 0))
    (fun c' => gaC c c' ∧ gNR c c' ∧ c'.2.2.1 5 = c.2.2.1 5 ∧ c'.1 22 = c.1 22 ∧ c'.2.1 25 = c.2.1 25 ∧ (∀ k, k < 13 → c'.2.1 26 k = 0)) 13 (by decide) (a := (c, 0))
    (fun i a hi hI => by
      obtain ⟨c1, q⟩ := a
      obtain ⟨hq, b1, b2, b3, b4, b6, b5⟩ := hI
      have hq : q = nI i := hq
      subst hq
      have b1 : gaC c c1 := b1
      refine ⟨(zA c1 26 (upd (c1.2.1 26) i 0), nI (i + 1)), fun n => ?_, rfl, gaC_A b1 rfl, b2, b3, b4, b6, fun k hk => ?_⟩
      · simp only [L_J7_fill_53178_43_5, if_neg (show ¬ (13 : Int32) ≤ nI i from nI_ge (b := 13) hi (by decide)), gGx hi (by decide), nI_clamp (show i < 2 ^ 31 by omega), nI_1]
      · show upd (c1.2.1 26) i 0 k = 0
        by_cases e : k = i
        · exact gU_eq e
        · rw [gU_ne e]; exact b5 k (by omega))
    (fun a hI => by
      obtain ⟨c1, q⟩ := a
      obtain ⟨hq, b⟩ := hI
      have hq : q = nI 13 := hq
      subst hq
      exact ⟨c1, fun n => by simp only [L_J7_fill_53178_43_5, show ((13 : Int32) ≤ nI 13) = True by decide, ↓reduceIte], b⟩)
    ⟨rfl, gaC_rf, ⟨rfl, rfl⟩, rfl, rfl, rfl, fun k hk => absurd hk (Nat.not_lt_zero k)⟩
  exact ⟨r, h1, h2, h3, h4, h5, h6⟩
theorem gSubN (a b : Nat) : lN (a + b) + -lN b = lN a := by
  rw [← lN_add, Int64.add_assoc, Int64.add_right_neg, Int64.add_zero]
/-- the ways, as the class counts them -/
theorem gWaysC {c : Zst} {N : Nat} {M : Nat → Nat} (hN : N ≤ 12) (d1 : c.1 22 = nI N) (hM : ∀ i, i < N → c.2.2.1 5 i = lN (M i)) (v1 : Int32) :
    ∃ c', f_X6_countWays c v1 = some c' ∧ gaC c c' ∧ gNR c c' ∧ c'.1 22 = nI N ∧ ∀ k, 1 ≤ k → k ≤ 12 → c'.2.1 25 k = nI (gWq gGry k (2 ^ N)) ∧ c'.2.1 26 k = nI (gVq v1 M N gGry k (2 ^ N)) := by
  obtain ⟨c1, a1, a2, a3, a4, a5, a6⟩ := gFill42 c
  obtain ⟨c2, b1, b2, b3, b4, b5, b6, b7⟩ := gFill43 c1
  have hM2 : ∀ i, i < N → c2.2.2.1 5 i = lN (M i) := fun i hi => by rw [b4, a4]; exact hM i hi
  have d2 : c2.1 22 = nI N := by rw [b5, a5, d1]
  have hPP : 2 ^ N ≤ 4096 := Nat.pow_le_pow_right (n := 2) (by decide) hN
  have hPp : 1 ≤ 2 ^ N := Nat.one_le_two_pow
  obtain ⟨r, g1, g2⟩ := gq_run1 (La := fun (K : Int64 → Option Zst) n (a : Int64 × Int32) => L_X6_countWays_21 K c2 v1 n a.1 a.2)
    (fun i a => a = (lN (gN M i), nI i)) (fun r => r = lN (gN M N)) 0 N (Nat.zero_le N) (by omega) (a := (0, 0))
    (fun i a hi hI => by
      subst hI
      refine ⟨(lN (gN M (i + 1)), nI (i + 1)), fun K n => ?_, rfl⟩
      simp only [L_X6_countWays_21, d2, if_neg (nI_ge hi (show N < 2 ^ 31 by omega)), if_neg (show ¬ (12 : Int32) ≤ nI i from nI_ge (b := 12) (by omega) (by decide)), gGx (show i < 12 by omega) (by decide), nI_clamp (show i < 2 ^ 31 by omega), hM2 i hi, lN_add, nI_1]
      rfl)
    (fun a hI => by
      subst hI
      exact ⟨_, fun K n => by simp only [L_X6_countWays_21, d2, if_pos (show nI N ≤ nI N from Int32.le_refl _)], rfl⟩) rfl
  subst g2
  obtain ⟨c3, f1, f2, f3, f4, f5⟩ := gq_loop (La := fun n (a : Zst × Int32 × Int64 × Int32) => L_X6_countWays_62 v1 (lN (gN M N)) n a.1 a.2.1 a.2.2.1 a.2.2.2)
    (fun i a => ∃ c3 : Zst, a = (c3, nI (gGry i), lN (gSub M (gGry i) N), nI (i + 1)) ∧ gaC c c3 ∧ gNR c c3 ∧ c3.1 22 = nI N ∧ (∀ j, j < N → c3.2.2.1 5 j = lN (M j)) ∧ ∀ k, 1 ≤ k → k ≤ 12 → c3.2.1 25 k = nI (gWq gGry k (i + 1)) ∧ c3.2.1 26 k = nI (gVq v1 M N gGry k (i + 1)))
    (fun c' => gaC c c' ∧ gNR c c' ∧ c'.1 22 = nI N ∧ ∀ k, 1 ≤ k → k ≤ 12 → c'.2.1 25 k = nI (gWq gGry k (2 ^ N)) ∧ c'.2.1 26 k = nI (gVq v1 M N gGry k (2 ^ N))) (2 ^ N - 1) (by omega) (a := (c2, 0, 0, 1))
    (fun i a hi hI => by
      obtain ⟨c3, rfl, hac, hnr, hd, hm, hk⟩ := hI
      have hlt : i + 1 < 2 ^ N := by omega
      obtain ⟨z1, z2⟩ := gTz (k := i + 1) (by omega) (by omega)
      have z3 := gtz_lt 12 (i + 1) N hN (by omega) hlt
      rw [Nat.add_sub_cancel] at z2
      generalize gtz 12 (i + 1) = z at z1 z2 z3
      have y1 : nI (gGry i) ^^^ jShl 1 (nI z) = nI (gGry (i + 1)) := by rw [gShl1 (by omega), nx_xor, z2]
      have y2 := gGry_lt hlt
      have y3 := gPc (show gGry (i + 1) < 4096 by omega)
      have y4 := (gpc_lt 12 (gGry (i + 1)) N hN y2).1
      have y5 : 1 ≤ gpc 12 (gGry (i + 1)) := gpc_pos 12 _ (gGry_pos (by omega)) (by omega)
      have y6 := hk (gpc 12 (gGry (i + 1))) y5 (by omega)
      have fin : ∀ (n : Nat) (s0 : Int64), lN (gSub M (gGry i) N) + s0 = lN (gSub M (gGry (i + 1)) N) → J_X6_countWays_130 (fun σ w4 w5 w7 => L_X6_countWays_62 v1 (lN (gN M N)) n σ w4 w5 w7) c3 v1 (lN (gN M N)) (nI (gGry (i + 1))) (nI (i + 1)) s0 (lN (gSub M (gGry i) N)) =
          L_X6_countWays_62 v1 (lN (gN M N)) n (zA (zA c3 25 (upd (c3.2.1 25) (gpc 12 (gGry (i + 1))) (nI (gWq gGry (gpc 12 (gGry (i + 1))) (i + 1 + 1))))) 26 (upd (c3.2.1 26) (gpc 12 (gGry (i + 1))) (nI (gVq v1 M N gGry (gpc 12 (gGry (i + 1))) (i + 1 + 1))))) (nI (gGry (i + 1))) (lN (gSub M (gGry (i + 1)) N)) (nI (i + 1 + 1)) := fun n s0 hs0 => by
        unfold J_X6_countWays_130
        rw [y3, if_neg (show ¬ (12 : Int32) < nI (gpc 12 (gGry (i + 1))) by rw [Int32.not_lt]; exact nI_le (b := 12) (by omega) (by decide)), gGx (show gpc 12 (gGry (i + 1)) < 13 by omega) (by decide), gGx (show gpc 12 (gGry (i + 1)) < 13 by omega) (by decide), gGx (show gpc 12 (gGry (i + 1)) < 13 by omega) (by decide), gGx (show gpc 12 (gGry (i + 1)) < 13 by omega) (by decide), nI_clamp (show gpc 12 (gGry (i + 1)) < 2 ^ 31 by omega), hs0, hd, gNear_c, y6.1, y6.2, nI_1, nI_1, nI_add, gWq_s gGry _ (i + 1), gVq_s v1 M N gGry _ (i + 1), if_pos rfl]
        simp only [true_and]
      refine ⟨(zA (zA c3 25 (upd (c3.2.1 25) (gpc 12 (gGry (i + 1))) (nI (gWq gGry (gpc 12 (gGry (i + 1))) (i + 1 + 1))))) 26 (upd (c3.2.1 26) (gpc 12 (gGry (i + 1))) (nI (gVq v1 M N gGry (gpc 12 (gGry (i + 1))) (i + 1 + 1)))), nI (gGry (i + 1)), lN (gSub M (gGry (i + 1)) N), nI (i + 1 + 1)), fun n => ?_, _, rfl, gaC_A (gaC_A hac rfl) rfl, hnr, hd, hm, fun k k1 k2 => ?_⟩
      · have hn : ¬ nI (2 ^ N) ≤ nI (i + 1) := nI_ge hlt (by omega)
        have hz : nI z < (12 : Int32) := (nI_ltI (b := 12) (by omega) (by decide)).mpr (by omega)
        simp only [L_X6_countWays_62, hd, gShl1 (show N < 31 by omega), if_neg hn, z1, if_pos hz, y1, gHasBit (show z < 32 by omega), gGx (show z < 12 by omega) (by decide), nI_clamp (show z < 2 ^ 31 by omega), hm z z3]
        cases hb : (gGry (i + 1)).testBit z
        · simp only [Bool.false_eq_true, ↓reduceIte]
          refine fin n _ ?_
          have := gSub_y (M := M) (s := gGry i) N z3 (by rw [← z2]; exact hb)
          rw [← z2] at this
          rw [this, gSubN]
        · simp only [↓reduceIte, gq_10]
          refine fin n _ ?_
          have := gSub_x (M := M) (s := gGry i) N z3 (by rw [← z2]; exact hb)
          rw [← z2] at this
          rw [this, lN_add]
      · show upd (c3.2.1 25) (gpc 12 (gGry (i + 1))) (nI (gWq gGry (gpc 12 (gGry (i + 1))) (i + 1 + 1))) k = nI (gWq gGry k (i + 1 + 1)) ∧ upd (c3.2.1 26) (gpc 12 (gGry (i + 1))) (nI (gVq v1 M N gGry (gpc 12 (gGry (i + 1))) (i + 1 + 1))) k = nI (gVq v1 M N gGry k (i + 1 + 1))
        by_cases e : k = gpc 12 (gGry (i + 1))
        · rw [gU_eq e, gU_eq e, e]; exact ⟨rfl, rfl⟩
        · rw [gU_ne e, gU_ne e, gWq_s, gVq_s, if_neg (fun q => e q.symm), if_neg (fun q => e q.1.symm)]
          exact hk k k1 k2)
    (fun a hI => by
      obtain ⟨c3, rfl, hac, hnr, hd, hm, hk⟩ := hI
      rw [show 2 ^ N - 1 + 1 = 2 ^ N by omega] at hk ⊢
      exact ⟨c3, fun n => by simp only [L_X6_countWays_62, hd, gShl1 (show N < 31 by omega), if_pos (show nI (2 ^ N) ≤ nI (2 ^ N) from Int32.le_refl _)], hac, hnr, hd, hk⟩)
    ⟨c2, by rw [show gGry 0 = 0 from rfl, gSub_0]; rfl, gaC_tr a2 b2, ⟨b3.1.trans a3.1, b3.2.trans a3.2⟩, d2, hM2, fun k k1 k2 => by
      have e0 : gpc 12 (gGry 0) = 0 := rfl
      rw [gWq_s, gVq_s, e0, if_neg (by omega), if_neg (by omega), b6, a6 k (by omega), b7 k (by omega)]
      exact ⟨rfl, rfl⟩⟩
  refine ⟨c3, ?_, f2, f3, f4, f5⟩
  unfold f_X6_countWays
  rw [a1, Option.bind_some, b1, Option.bind_some, show L_X6_countWays_21 (fun w5 => J_X6_countWays_53 c2 v1 w5) c2 v1 zFu 0 0 = _ from g1 _]
  exact f1
/-- the ways of one size, as the reference counts them -/
theorem gWaysM {m : Zst} {N k : Nat} {M : Nat → Nat} (hN : N ≤ 12) (hk : k ≤ 12) (d1 : m.1 22 = nI N) (hM : ∀ i, i < N → m.2.2.1 5 i = lN (M i)) (v1 v2 : Int32) (K : Int32 → Int32 → Option (Zst × Int32)) :
    L_X12_fewest_61 K m v1 v2 (lN (gN M N)) (nI k) zFu 0 0 0 = K (nI (gWq (fun i => i) k (2 ^ N))) (nI (gVq v1 M N (fun i => i) k (2 ^ N))) := by
  have hPP : 2 ^ N ≤ 4096 := Nat.pow_le_pow_right (n := 2) (by decide) hN
  obtain ⟨r, g1, g2⟩ := gq_run1 (La := fun (K : Int32 × Int32 → Option (Zst × Int32)) n (a : Int32 × Int32 × Int32) => L_X12_fewest_61 (fun x y => K (x, y)) m v1 v2 (lN (gN M N)) (nI k) n a.1 a.2.1 a.2.2)
    (fun i a => a = (nI (gWq (fun i => i) k i), nI (gVq v1 M N (fun i => i) k i), nI i)) (fun r => r = (nI (gWq (fun i => i) k (2 ^ N)), nI (gVq v1 M N (fun i => i) k (2 ^ N)))) 0 (2 ^ N) (Nat.zero_le _) (by omega) (a := (0, 0, 0))
    (fun i a hi hI => by
      subst hI
      have hn : ¬ nI (2 ^ N) ≤ nI i := nI_ge hi (by omega)
      have y3 := gPc (show i < 4096 by omega)
      have y4 := (gpc_lt 12 i N hN hi).1
      refine ⟨(nI (gWq (fun i => i) k (i + 1)), nI (gVq v1 M N (fun i => i) k (i + 1)), nI (i + 1)), fun K n => ?_, rfl⟩
      simp only [L_X12_fewest_61, d1, gShl1 (show N < 31 by omega), if_neg hn, y3, show (nI (gpc 12 i) = nI k) = (gpc 12 i = k) from propext (nI_eq (by omega) (by omega))]
      by_cases e : gpc 12 i = k
      · rw [if_pos e]
        obtain ⟨r2, f1, f2⟩ := gq_run1 (La := fun (K : Int64 → Option (Zst × Int32)) n (a : Int64 × Int32) => L_X12_fewest_91 K m v1 v2 (lN (gN M N)) (nI k) (nI (gWq (fun i => i) k i)) (nI (gVq v1 M N (fun i => i) k i)) (nI i) n a.1 a.2)
          (fun j a => a = (lN (gSub M i j), nI j)) (fun r => r = lN (gSub M i N)) 0 N (Nat.zero_le _) (by omega) (a := (0, 0))
          (fun j a hj hI => by
            subst hI
            have hn2 : ¬ nI N ≤ nI j := nI_ge hj (by omega)
            refine ⟨(lN (gSub M i (j + 1)), nI (j + 1)), fun K n => ?_, rfl⟩
            simp only [L_X12_fewest_91, d1, if_neg hn2, gq_has, gHasBit (show j < 32 by omega), gSub_s]
            cases i.testBit j
            · simp only [Bool.false_eq_true, ↓reduceIte, nI_1, show (0 : Int64) = lN 0 from rfl, lN_add]
            · simp only [↓reduceIte, gq_10, gGx (show j < 12 by omega) (by decide), nI_clamp (show j < 2 ^ 31 by omega), hM j hj, lN_add, nI_1])
          (fun a hI => by
            subst hI
            exact ⟨_, fun K n => by simp only [L_X12_fewest_91, d1, if_pos (show nI N ≤ nI N from Int32.le_refl _)], rfl⟩) rfl
        subst f2
        rw [show L_X12_fewest_91 _ m v1 v2 (lN (gN M N)) (nI k) (nI (gWq (fun i => i) k i)) (nI (gVq v1 M N (fun i => i) k i)) (nI i) zFu 0 0 = _ from f1 _]
        unfold J_X12_fewest_132
        rw [d1, ← e, gNear_m, nI_1, nI_1, nI_add, gWq_s, gVq_s, if_pos rfl]
        simp only [true_and]
      · rw [if_neg e, gWq_s, gVq_s, if_neg e, if_neg (fun q => e q.1), nI_1]; rfl)
    (fun a hI => by
      subst hI
      exact ⟨_, fun K n => by simp only [L_X12_fewest_61, d1, gShl1 (show N < 31 by omega), if_pos (show nI (2 ^ N) ≤ nI (2 ^ N) from Int32.le_refl _)], rfl⟩) rfl
  subst g2
  exact g1 (fun p => K p.1 p.2)
theorem gWq_gry (k N : Nat) : gWq gGry k (2 ^ N) = gWq (fun i => i) k (2 ^ N) := gGry_sum N (fun s => if gpc 12 s = k then 1 else 0)
theorem gVq_gry (v1 : Int32) (M : Nat → Nat) (k N : Nat) : gVq v1 M N gGry k (2 ^ N) = gVq v1 M N (fun i => i) k (2 ^ N) := gGry_sum N (fun s => if gpc 12 s = k ∧ gNear v1 M N s = true then 1 else 0)
/-- the smallest size that does, both sides -/
theorem gFewest {S T n : Nat} {c m c1 m1 : Zst} (h : gCor S T c m) (hr : gRR n c m) (hc : gaC c c1) (hm : gaM m m1) (nc : gNR c c1) (nm : gNRm m m1) {N : Nat} {M : Nat → Nat} (hM : gMs2 N M c1 m1) (p2 p3 : Int32) :
    ∃ (c2 m2 : Zst) (x : Int32), ((f_X6_countWays c1 p2).bind fun t8 => L_X6_fewest_70 (fun w9 => J_X6_fewest_109 t8 w9) t8 p3 zFu (1 : Int32)) = some (c2, x) ∧ f_X12_fewest m1 p2 p3 = some (m2, x) ∧ gRel c2 m2 := by
  obtain ⟨hN, d1, d2, hM⟩ := hM
  obtain ⟨c3, a1, a2, a3, a4, a5⟩ := gWaysC hN d1 (fun i hi => (hM i hi).2.1) p2
  have hc3 := gaC_tr hc a2
  have nc3 : gNR c c3 := ⟨a3.1.trans nc.1, a3.2.trans nc.2⟩
  have hr3 : gRR n c3 m1 := gRR_nr hr nc3 nm
  have hPP : 2 ^ N ≤ 4096 := Nat.pow_le_pow_right (n := 2) (by decide) hN
  rw [a1, Option.bind_some]
  unfold f_X12_fewest
  by_cases e : N = 0
  · subst e
    refine ⟨c3, m1, -2, ?_, ?_, gRel_of h hc3 hm hr3⟩
    · obtain ⟨fu, hfu⟩ := gFu3
      rw [hfu]
      simp only [L_X6_fewest_70, a4, show (nI 0 < (1 : Int32)) = True by decide, ↓reduceIte]
    · rw [d2, if_pos (by decide)]
  · rw [d2, if_neg (nI_ne0 (by omega) (by omega))]
    obtain ⟨r, g1, g2⟩ := gq_run1 (La := fun (K : Int64 → Option (Zst × Int32)) n (a : Int64 × Int32) => L_X12_fewest_15 K m1 p2 p3 n a.1 a.2)
      (fun i a => a = (lN (gN M i), nI i)) (fun r => r = lN (gN M N)) 0 N (Nat.zero_le N) (by omega) (a := (0, 0))
      (fun i a hi hI => by
        subst hI
        refine ⟨(lN (gN M (i + 1)), nI (i + 1)), fun K n => ?_, rfl⟩
        simp only [L_X12_fewest_15, d2, if_neg (nI_ge hi (show N < 2 ^ 31 by omega)), gGx (show i < 12 by omega) (by decide), nI_clamp (show i < 2 ^ 31 by omega), (hM i hi).2.2, lN_add, nI_1]
        rfl)
      (fun a hI => by
        subst hI
        exact ⟨_, fun K n => by simp only [L_X12_fewest_15, d2, if_pos (show nI N ≤ nI N from Int32.le_refl _)], rfl⟩) rfl
    subst g2
    rw [show L_X12_fewest_15 (fun w11 => J_X12_fewest_40 m1 p2 p3 w11) m1 p2 p3 zFu 0 0 = _ from g1 _]
    unfold J_X12_fewest_40
    have key : ∀ d k n n', k + d = N + 1 → 1 ≤ k → d < n → d < n' → ∃ (c2 m2 : Zst) (x : Int32), L_X6_fewest_70 (fun w9 => J_X6_fewest_109 c3 w9) c3 p3 n (nI k) = some (c2, x) ∧ L_X12_fewest_43 (fun w8 w9 w10 => J_X12_fewest_203 m1 w8 w9 w10) m1 p2 p3 (lN (gN M N)) n' (nI k) = some (m2, x) ∧ gRel c2 m2 := by
      intro d
      induction d with
      | zero =>
        intro k n n' hk h1 hn hn'
        obtain ⟨n, rfl⟩ : ∃ k, n = k + 1 := ⟨n - 1, by omega⟩
        obtain ⟨n', rfl⟩ : ∃ k, n' = k + 1 := ⟨n' - 1, by omega⟩
        have hk : k = N + 1 := by omega
        subst hk
        have hlt : nI N < nI (N + 1) := (nI_ltI (by omega) (by omega)).mpr (by omega)
        exact ⟨c3, m1, -2, by simp only [L_X6_fewest_70, a4, if_pos hlt], by simp only [L_X12_fewest_43, d2, if_pos hlt], gRel_of h hc3 hm hr3⟩
      | succ d ih =>
        intro k n n' hk h1 hn hn'
        obtain ⟨n, rfl⟩ : ∃ k, n = k + 1 := ⟨n - 1, by omega⟩
        obtain ⟨n', rfl⟩ : ∃ k, n' = k + 1 := ⟨n' - 1, by omega⟩
        have e1 : ¬ nI N < nI k := by rw [nI_ltI (by omega) (by omega)]; omega
        have e2 : ¬ (12 : Int32) < nI k := by rw [Int32.not_lt]; exact nI_le (b := 12) (by omega) (by decide)
        obtain ⟨b1, b2⟩ := a5 k h1 (by omega)
        rw [gWq_gry] at b1
        rw [gVq_gry] at b2
        have hw := gWaysM hN (show k ≤ 12 by omega) d2 (fun i hi => (hM i hi).2.2) p2 p3
        by_cases q : nI (gVq p2 M N (fun i => i) k (2 ^ N)) * (100 : Int32) < p3 * nI (gWq (fun i => i) k (2 ^ N))
        · obtain ⟨c2, m2, x, r1, r2, r3⟩ := ih (k + 1) n n' (by omega) (by omega) (by omega) (by omega)
          refine ⟨c2, m2, x, ?_, ?_, r3⟩
          · simp only [L_X6_fewest_70, a4, if_neg e1, if_neg e2, gGx (show k < 13 by omega) (by decide), nI_clamp (show k < 2 ^ 31 by omega), b1, b2, if_pos q, nI_1]
            exact r1
          · simp only [L_X12_fewest_43, d2, if_neg e1, hw, J_X12_fewest_191, if_pos q, nI_1]
            exact r2
        · obtain ⟨w1, w2, w3, w4⟩ := gX_clear hr3
          obtain ⟨c4, m4, i1, i2, i3, i4, i5⟩ := gX_add w2 (by decide) (x := Int32.toInt64 (nI (gVq p2 M N (fun i => i) k (2 ^ N)))) (y := Int32.toInt64 (nI (gVq p2 M N (fun i => i) k (2 ^ N)))) rfl
          obtain ⟨c5, m5, j1, j2, j3, j4, j5⟩ := gX_add i3 (by decide) (x := Int32.toInt64 (nI (gWq (fun i => i) k (2 ^ N)))) (y := Int32.toInt64 (nI (gWq (fun i => i) k (2 ^ N)))) rfl
          have q1 := gOR_tr w3 i4
          have b2' : (zI c3 0 0).2.1 26 k = nI (gVq p2 M N (fun i => i) k (2 ^ N)) := b2
          have b1' : c4.2.1 25 k = nI (gWq (fun i => i) k (2 ^ N)) := by rw [q1.2.1]; exact b1
          refine ⟨c5, m5, nI k, ?_, ?_, gRel_of h (gaC_tr hc3 (gOR_a (gOR_tr q1 j4))) (gaM_tr hm (gORm_a (gORm_tr (gORm_tr w4 i5) j5))) j3⟩
          · simp only [L_X6_fewest_70, a4, if_neg e1, if_neg e2, gGx (show k < 13 by omega) (by decide), nI_clamp (show k < 2 ^ 31 by omega), b1, b2, if_neg q, J_X6_fewest_109, w1, Option.bind_some, b2', i1, b1', j1]
          · simp only [L_X12_fewest_43, d2, if_neg e1, hw, J_X12_fewest_191, if_neg q, J_X12_fewest_203, i2, j2, Option.bind_some]
    exact key N 1 zFu zFu (by omega) (by omega) (by rw [zFu_eq]; omega) (by rw [zFu_eq]; omega)
