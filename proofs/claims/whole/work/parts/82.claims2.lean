theorem gRdT {m : Zst} {p e : Nat} {v : Nat → Nat} (he : e ≤ 60) (hpe : p ≤ e) (h6 : m.1 6 = nI p) (h7 : m.1 7 = nI e) (hv : ∀ i, v i < 256) (ht : ∀ i, m.2.1 12 i = nI (v i)) (h1 : ¬ p % 4 = 1) (h3 : ¬ p % 4 = 3) :
    (f_X12_among m 12 = some (-1) ∧ (p < e → ¬ gOk v p)) ∨ (p < e ∧ gOk v p ∧ f_X12_among m 12 = some (nI (gPi5 (gTi (v p)))) ∧ gTi (v p) < 10) := by
  rw [gAmong (by decide) h6 h7 he hpe, ht]
  unfold gOk
  rw [if_neg h1, if_neg h3]
  by_cases h : p < e
  · rw [if_pos h]
    rcases gTh (v p) (hv p) with ⟨a, b⟩ | ⟨a, b, d⟩
    · left; rw [b]; exact ⟨rfl, fun _ q => q a⟩
    · right
      refine ⟨h, fun q => ?_, by rw [d], a⟩
      rw [b] at q
      have : nI (gTi (v p)) < 0 := by rw [q]; decide
      exact nI_pos (by omega) this
  · left; rw [if_neg h]; exact ⟨rfl, fun q => absurd q h⟩
theorem gRdS {m : Zst} {p e : Nat} {v : Nat → Nat} (he : e ≤ 60) (hpe : p ≤ e) (h6 : m.1 6 = nI p) (h7 : m.1 7 = nI e) (hv : ∀ i, v i < 256) (ht : ∀ i, m.2.1 12 i = nI (v i)) (h1 : p % 4 = 1) :
    (f_X12_among m 9 = some (-1) ∧ (p < e → ¬ gOk v p)) ∨ (p < e ∧ gOk v p ∧ f_X12_among m 9 = some (nI (gSgI (v p)))) := by
  rw [gAmong (by decide) h6 h7 he hpe, ht]
  unfold gOk gSgI
  rw [if_pos h1]
  by_cases h : p < e
  · rw [if_pos h]
    rcases gSig (v p) (hv p) with ⟨a, b, d, f⟩ | ⟨a, b⟩ | ⟨a, b⟩ | ⟨a, b⟩
    · left; rw [f]; exact ⟨rfl, fun _ q => by omega⟩
    · right; rw [b]; exact ⟨h, Or.inl a, by rw [if_pos a]⟩
    · right; rw [b]; exact ⟨h, Or.inr (Or.inl a), by rw [if_neg (by omega), if_pos a]⟩
    · right; rw [b]; exact ⟨h, Or.inr (Or.inr a), by rw [if_neg (by omega), if_neg (by omega)]⟩
  · left; rw [if_neg h]; exact ⟨rfl, fun q => absurd q h⟩
theorem gRdE {m : Zst} {p e : Nat} {v : Nat → Nat} (he : e ≤ 60) (hpe : p ≤ e) (h6 : m.1 6 = nI p) (h7 : m.1 7 = nI e) (hv : ∀ i, v i < 256) (ht : ∀ i, m.2.1 12 i = nI (v i)) (h3 : p % 4 = 3) :
    (f_X12_among m 13 = some (-1) ∧ (p < e → ¬ gOk v p)) ∨ (p < e ∧ gOk v p ∧ f_X12_among m 13 = some 0) := by
  rw [gAmong (by decide) h6 h7 he hpe, ht]
  unfold gOk
  rw [if_neg (show ¬ p % 4 = 1 by omega), if_pos h3]
  by_cases h : p < e
  · rw [if_pos h, gSem (v p) (hv p)]
    by_cases q : v p = 59
    · right; rw [if_pos q]; exact ⟨h, q, rfl⟩
    · left; rw [if_neg q]; exact ⟨rfl, fun _ => q⟩
  · left; rw [if_neg h]; exact ⟨rfl, fun q => absurd q h⟩
theorem gClaim {m : Zst} {p q e : Nat} {v : Nat → Nat} (hq : q < 12) (hp : p = 4 * q) (he : e ≤ 40) (hpe : p ≤ e) (h6 : m.1 6 = nI p) (h7 : m.1 7 = nI e) (hv : ∀ i, v i < 256) (ht : ∀ i, m.2.1 12 i = nI (v i)) :
    ∃ (m2 : Zst) (W : Nat) (b : Bool), f_X12_readsClaim m (nI q) = some (m2, if b = true then 1 else 0) ∧ gaM m m2 ∧ gNRm m m2 ∧ m2.1 6 = nI W ∧ m2.1 7 = nI e ∧ p ≤ W ∧ W ≤ p + 3 ∧ W ≤ e ∧ (∀ r, p ≤ r → r < W → gOk v r) ∧ (b = true → W = p + 3) ∧ (b = false → W < p + 3 ∧ (W < e → ¬ gOk v W)) ∧
      (∀ j, ¬ j = q → m2.2.1 18 j = m.2.1 18 j ∧ m2.2.1 19 j = m.2.1 19 j ∧ m2.2.1 20 j = m.2.1 20 j) ∧
      (b = true → m2.2.1 18 q = nI (gPi5 (gTi (v p))) ∧ m2.2.1 19 q = nI (gSgI (v (p + 1))) ∧ m2.2.1 20 q = nI (gPi5 (gTi (v (p + 2))))) := by
  have eU : ∀ (f : Nat → Int32) (x : Int32), upd f q x q = x := fun f x => gU_eq rfl
  have f0 : f_X12_flag 0 = 0 := rfl
  have f1 : f_X12_flag 1 = 1 := rfl
  have m1 : ((0 : Int32) ≤ (-1 : Int32)) = False := by decide
  have m2 : ((-1 : Int32) < (0 : Int32)) = True := by decide
  have nn : ∀ a, a < 100 → ((0 : Int32) ≤ nI a) = True := fun a ha => eq_true (nI_le (a := 0) (Nat.zero_le a) (by omega))
  have nl : ∀ a, a < 100 → (nI a < (0 : Int32)) = False := fun a ha => eq_false (nI_pos (by omega))
  have un : ∀ (f : Nat → Int32) (x : Int32) (j : Nat), ¬ j = q → upd f q x j = f j := fun f x j hj => gU_ne hj
  have g5 : ∀ a, a < 10 → gPi5 a < 100 := fun a ha => by unfold gPi5; omega
  have gs : ∀ a, gSgI a < 100 := fun a => by unfold gSgI; split; decide; split <;> decide
  unfold f_X12_readsClaim J_X12_readsClaim_63 J_X12_readsClaim_115
  simp only [gGx hq (by decide), nI_clamp (show q < 2 ^ 31 by omega), eU]
  rcases gRdT (p := p) (by omega) hpe h6 h7 hv ht (by omega) (by omega) with ⟨a1, a2⟩ | ⟨a1, a2, a3, a4⟩
  · rw [a1]
    simp only [Option.bind_some, m1, m2, ↓reduceIte, f0, Int32.add_zero, gzII]
    refine ⟨_, p, false, rfl, ?_, ⟨rfl, rfl⟩, h6, h7, Nat.le_refl p, by omega, hpe, fun r h1 h2 => absurd h2 (by omega), fun h => Bool.noConfusion h, fun _ => ⟨by omega, a2⟩, fun j hj => ⟨un _ _ j hj, un _ _ j hj, un _ _ j hj⟩, fun h => Bool.noConfusion h⟩
    exact gaM_I (gaM_A (gaM_I (gaM_A (gaM_I (gaM_A gaM_rf rfl (by decide)) rfl) rfl (by decide)) rfl) rfl (by decide)) rfl
  rw [a3]
  simp only [Option.bind_some, nn _ (g5 _ a4), nl _ (g5 _ a4), ↓reduceIte, f1, h6, nI_1]
  generalize hA : zI (zA m 18 (upd (m.2.1 18) q (nI (gPi5 (gTi (v p)))))) 6 (nI (p + 1)) = mA
  have hA6 : mA.1 6 = nI (p + 1) := by rw [← hA]; rfl
  have hA7 : mA.1 7 = nI e := by rw [← hA]; exact h7
  have hAt : ∀ i, mA.2.1 12 i = nI (v i) := by rw [← hA]; exact ht
  rcases gRdS (p := p + 1) (by omega) (by omega) hA6 hA7 hv hAt (by omega) with ⟨b1, b2⟩ | ⟨b1, b2, b3⟩
  · rw [b1]
    simp only [Option.bind_some, m1, m2, ↓reduceIte, f0, Int32.add_zero]
    subst hA
    refine ⟨_, p + 1, false, rfl, ?_, ⟨rfl, rfl⟩, rfl, h7, by omega, by omega, by omega, fun r h1 h2 => by rw [show r = p by omega]; exact a2, fun h => Bool.noConfusion h, fun _ => ⟨by omega, b2⟩, fun j hj => ⟨un _ _ j hj, un _ _ j hj, un _ _ j hj⟩, fun h => Bool.noConfusion h⟩
    exact gaM_I (gaM_A (gaM_I (gaM_A (gaM_I (gaM_A gaM_rf rfl (by decide)) rfl) rfl (by decide)) rfl) rfl (by decide)) rfl
  rw [b3]
  simp only [Option.bind_some, nn _ (gs _), nl _ (gs _), ↓reduceIte, f1, hA6, nI_1]
  generalize hB : zI (zA mA 19 (upd (mA.2.1 19) q (nI (gSgI (v (p + 1)))))) 6 (nI (p + 1 + 1)) = mB
  have hB6 : mB.1 6 = nI (p + 2) := by rw [← hB]; rfl
  have hB7 : mB.1 7 = nI e := by rw [← hB]; exact hA7
  have hBt : ∀ i, mB.2.1 12 i = nI (v i) := by rw [← hB]; exact hAt
  rcases gRdT (p := p + 2) (by omega) (by omega) hB6 hB7 hv hBt (by omega) (by omega) with ⟨d1, d2⟩ | ⟨d1, d2, d3, d4⟩
  · rw [d1]
    simp only [Option.bind_some, m1, m2, ↓reduceIte, f0, Int32.add_zero]
    subst hB hA
    refine ⟨_, p + 2, false, rfl, ?_, ⟨rfl, rfl⟩, rfl, h7, by omega, by omega, by omega, fun r h1 h2 => ?_, fun h => Bool.noConfusion h, fun _ => ⟨by omega, d2⟩, fun j hj => ⟨un _ _ j hj, un _ _ j hj, un _ _ j hj⟩, fun h => Bool.noConfusion h⟩
    · exact gaM_I (gaM_A (gaM_I (gaM_A (gaM_I (gaM_A gaM_rf rfl (by decide)) rfl) rfl (by decide)) rfl) rfl (by decide)) rfl
    · by_cases z : r = p
      · rw [z]; exact a2
      · rw [show r = p + 1 by omega]; exact b2
  rw [d3]
  simp only [Option.bind_some, nl _ (g5 _ d4), ↓reduceIte, f1, hB6, nI_1]
  subst hB hA
  refine ⟨_, p + 3, true, rfl, ?_, ⟨rfl, rfl⟩, rfl, h7, by omega, by omega, by omega, fun r h1 h2 => ?_, fun _ => rfl, fun h => Bool.noConfusion h, fun j hj => ⟨un _ _ j hj, un _ _ j hj, un _ _ j hj⟩, fun _ => ⟨eU _ _, eU _ _, eU _ _⟩⟩
  · exact gaM_I (gaM_A (gaM_I (gaM_A (gaM_I (gaM_A gaM_rf rfl (by decide)) rfl) rfl (by decide)) rfl) rfl (by decide)) rfl
  · by_cases z : r = p
    · rw [z]; exact a2
    · by_cases y : r = p + 1
      · rw [y]; exact b2
      · rw [show r = p + 2 by omega]; exact d2
/-- what a claim of a story is, read by the reference -/
def gCl (v : Nat → Nat) (m : Zst) (k : Nat) : Prop := m.2.1 18 k = nI (gPi5 (gTi (v (4 * k)))) ∧ m.2.1 19 k = nI (gSgI (v (4 * k + 1))) ∧ m.2.1 20 k = nI (gPi5 (gTi (v (4 * k + 2))))
/-- a story, as the reference reads it -/
theorem gReads {m0 : Zst} {e : Nat} {v : Nat → Nat} (he : e ≤ 40) (hv : ∀ i, v i < 256) (K : Zst → Int32 → Int32 → Option (Zst × Int32)) (z : Int32) :
    ∀ d q n m, q + d = 11 → d < n → 4 * q ≤ e → gaM m0 m → gNRm m0 m → m.1 6 = nI (4 * q) → m.1 7 = nI e → (∀ i, m.2.1 12 i = nI (v i)) → (∀ r, r < 4 * q → gOk v r) → (∀ k, k < q → gCl v m k) →
      ∃ (m2 : Zst) (W cl : Nat) (b : Bool), (∀ x : Int32, L_X12_story_37 K z n m (nI q) x 1 = K m2 (nI cl) (if b = true then 1 else 0)) ∧ gaM m0 m2 ∧ gNRm m0 m2 ∧ m2.1 6 = nI W ∧ m2.1 7 = nI e ∧ W ≤ e ∧ (∀ r, r < W → gOk v r) ∧ (W < e → ¬ gOk v W) ∧ (b = true → W + 1 = 4 * cl ∧ ∀ k, k < cl → gCl v m2 k) ∧ (b = false → ¬ W % 4 = 3) := by
  intro d
  induction d with
  | zero => intro q n m hq hn h4; omega
  | succ d ih =>
    intro q n m hq hn h4 am an h6 h7 ht hok hcl
    obtain ⟨n, rfl⟩ : ∃ k, n = k + 1 := ⟨n - 1, by omega⟩
    obtain ⟨m1, W, b, g1, g2, g3, g4, g5, g6, g7, g8, g9, g10, g11, g12, g13⟩ := gClaim (q := q) (by omega) rfl he h4 h6 h7 hv ht
    have am1 := gaM_tr am g2
    have an1 : gNRm m0 m1 := ⟨g3.1.trans an.1, g3.2.trans an.2⟩
    have ht1 : ∀ i, m1.2.1 12 i = nI (v i) := fun i => by rw [g2.2 12 rfl]; exact ht i
    have hok1 : ∀ r, r < W → gOk v r := fun r hr => by
      by_cases s : r < 4 * q
      · exact hok r s
      · exact g9 r (by omega) hr
    cases b
    · obtain ⟨k1, k2⟩ := g11 rfl
      obtain ⟨n, rfl⟩ : ∃ k, n = k + 1 := ⟨n - 1, by omega⟩
      refine ⟨zI m1 6 (nI W), W, q, false, fun x => ?_, gaM_I am1 rfl, an1, rfl, g5, g8, hok1, k2, fun h => Bool.noConfusion h, fun _ => by omega⟩
      simp only [L_X12_story_37, gq_10, ↓reduceIte, g1, Option.bind_some, Bool.false_eq_true, show f_X12_flag 0 = 0 from rfl, Int32.add_zero, g4]
    · have hW := g10 rfl
      subst hW
      have hcl1 : ∀ k, k < q + 1 → gCl v m1 k := fun k hk => by
        by_cases s : k = q
        · subst s; exact g13 rfl
        · obtain ⟨y1, y2, y3⟩ := g12 k s
          unfold gCl
          rw [y1, y2, y3]; exact hcl k (by omega)
      rcases gRdE (p := 4 * q + 3) (by omega) g8 g4 g5 hv ht1 (by omega) with ⟨b1, b2⟩ | ⟨b1, b2, b3⟩
      · obtain ⟨n, rfl⟩ : ∃ k, n = k + 1 := ⟨n - 1, by omega⟩
        refine ⟨zI m1 6 (nI (4 * q + 3)), 4 * q + 3, q + 1, true, fun x => ?_, gaM_I am1 rfl, an1, rfl, g5, g8, hok1, b2, fun _ => ⟨by omega, hcl1⟩, fun h => Bool.noConfusion h⟩
        simp only [L_X12_story_37, gq_10, ↓reduceIte, g1, Option.bind_some, b1, show ((-1 : Int32) < 0) = True by decide, show f_X12_flag 0 = 0 from rfl, show f_X12_flag 1 = 1 from rfl, Int32.add_zero, g4, nI_1]
      · obtain ⟨m2, W2, cl, b', r1, r2, r3, r4, r5, r6, r7, r8, r9, r10⟩ := ih (q + 1) n (zI m1 6 (nI (4 * q + 3 + 1))) (by omega) (by omega) (by omega) (gaM_I am1 rfl) an1 rfl g5 ht1 (fun r hr => by
          by_cases s : r < 4 * q + 3
          · exact hok1 r s
          · rw [show r = 4 * q + 3 by omega]; exact b2) hcl1
        refine ⟨m2, W2, cl, b', fun x => ?_, r2, r3, r4, r5, r6, r7, r8, r9, r10⟩
        simp only [L_X12_story_37, gq_10, ↓reduceIte, g1, Option.bind_some, b3, show ((0 : Int32) < 0) = False by decide, show f_X12_flag 1 = 1 from rfl, g4, nI_1]
        exact r1 1
