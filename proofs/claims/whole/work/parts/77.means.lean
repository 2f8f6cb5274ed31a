/-- one mean, both sides -/
theorem gMean {S T : Nat} {c m : Zst} (h : gCor S T c m) {k s L : Nat} (hk : k < 6) (hs : s < S) (hL : L ≤ 12) (cell : Nat → Nat) (hcell : ∀ i, i < L → cell i < 12 * T) {v3 v4 v6 w3 w4 : Int32}
    (h1 : ∀ i, i < L → (if v3 = (0 : Int32) then (((12 : Int32) * v6) + nI i) else (((12 : Int32) * nI i) + v6)) = nI (cell i)) (h2 : ∀ i, i < L → w3 + (nI i * w4) = nI (cell i)) :
    ∃ A C : Nat, C ≤ 12 ∧ A ≤ 1000 * C ∧ (∀ K : Int64 → Int32 → Option Zst, L_X6_gatherMeans_67 K c (nI k) (nI s) v3 v4 (nI L) v6 zFu 0 0 0 = K (lN A) (nI C)) ∧ (∀ K : Int64 → Int32 → Option Zst, L_X12_takesMean_9 K m (nI k) (nI s) w3 w4 (nI L) zFu 0 0 0 = K (lN A) (nI C)) := by
  have hS := h.1.1.1
  have hT := h.1.1.2.1
  obtain ⟨ra, rb, g1, g2, A, C, g3, g4, rfl, rfl⟩ := gq_run (La := fun (K : Int64 × Int32 → Option Zst) n (a : Int64 × Int32 × Int32) => L_X6_gatherMeans_67 (fun x y => K (x, y)) c (nI k) (nI s) v3 v4 (nI L) v6 n a.1 a.2.1 a.2.2)
    (Lb := fun (K : Int64 × Int32 → Option Zst) n (a : Int64 × Int32 × Int32) => L_X12_takesMean_9 (fun x y => K (x, y)) m (nI k) (nI s) w3 w4 (nI L) n a.1 a.2.1 a.2.2)
    (fun i a b => ∃ A C : Nat, C ≤ i ∧ A ≤ 1000 * C ∧ a = (lN A, nI C, nI i) ∧ b = (lN A, nI C, nI i))
    (fun ra rb => ∃ A C : Nat, C ≤ L ∧ A ≤ 1000 * C ∧ ra = (lN A, nI C) ∧ rb = (lN A, nI C)) 0 L (Nat.zero_le L) (by omega) (a := (0, 0, 0)) (b := (0, 0, 0))
    (fun i a b hi hI => by
      obtain ⟨A, C, g3, g4, rfl, rfl⟩ := hI
      have hc := hcell i hi
      have t1 := gL_has h.2.1 (x := nI k) k (cell i) s rfl (y := nI (cell i)) rfl (z := nI s) rfl hk (by omega) (by omega)
      have t2 := gL_told h.2.1 (x := nI k) k (cell i) s rfl (y := nI (cell i)) rfl (z := nI s) rfl hk (by omega) (by omega)
      have t3 := gL_of h.2.1 (x := nI k) k (cell i) s rfl (y := nI (cell i)) rfl (z := nI s) rfl hk (by omega) (by omega)
      have t4 := gL_at (m := m) (x := nI k) k (cell i) s rfl (y := nI (cell i)) rfl (z := nI s) rfl hk (by omega) (by omega)
      obtain ⟨v, v1, v2, -⟩ := gL_val h.2.1 (k := k) (j := cell i) (s := s) hk (by omega) (by omega)
      rw [v2] at t1 t2 t3 t4
      have hn : ¬ nI L ≤ nI i := nI_ge hi (by omega)
      by_cases e : v = 0
      · subst e
        refine ⟨(lN A, nI C, nI (i + 1)), (lN A, nI C, nI (i + 1)), fun K n => ?_, fun K n => ?_, A, C, by omega, g4, rfl, rfl⟩
        · simp only [L_X6_gatherMeans_67, if_neg hn, h1 i hi, t1, Option.bind_some, show gtf (nI 0) = 0 from rfl, ↓reduceIte, nI_1]
        · simp only [L_X12_takesMean_9, if_neg hn, h2 i hi, t2, Option.bind_some, show gtf (nI 0) = 0 from rfl, ↓reduceIte, nI_1]
      · have e1 : gtf (nI v) = 1 := by unfold gtf; rw [if_neg (nI_ne0 (by omega) (by omega))]
        have e2 : nI v - 1 = nI (v - 1) := by rw [show (1 : Int32) = nI 1 from rfl, pk_sub (show 1 ≤ v by omega)]
        refine ⟨(lN (A + (v - 1)), nI (C + 1), nI (i + 1)), (lN (A + (v - 1)), nI (C + 1), nI (i + 1)), fun K n => ?_, fun K n => ?_, A + (v - 1), C + 1, by omega, by omega, rfl, rfl⟩
        · simp only [L_X6_gatherMeans_67, if_neg hn, h1 i hi, t1, t3, Option.bind_some, e1, e2, gq_10, ↓reduceIte, nI_1, nI_l (show v - 1 < 2 ^ 31 by omega), lN_add]
        · simp only [L_X12_takesMean_9, if_neg hn, h2 i hi, t2, t4, Option.bind_some, e1, e2, gq_10, ↓reduceIte, nI_1, nI_l (show v - 1 < 2 ^ 31 by omega), lN_add])
    (fun a b hI => by
      obtain ⟨A, C, g3, g4, rfl, rfl⟩ := hI
      have hn : nI L ≤ nI L := Int32.le_refl _
      exact ⟨(lN A, nI C), (lN A, nI C), fun K n => by simp only [L_X6_gatherMeans_67, if_pos hn], fun K n => by simp only [L_X12_takesMean_9, if_pos hn], A, C, g3, g4, rfl, rfl⟩)
    ⟨0, 0, Nat.le_refl 0, Nat.le_refl 0, rfl, rfl⟩
  exact ⟨A, C, by omega, g4, fun K => g1 (fun p => K p.1 p.2), fun K => g2 (fun p => K p.1 p.2)⟩
/-- the means of both sides -/
def gMs2 (N : Nat) (M : Nat → Nat) (c m : Zst) : Prop := N ≤ 12 ∧ c.1 22 = nI N ∧ m.1 22 = nI N ∧ ∀ i, i < N → M i ≤ 27720000 ∧ c.2.2.1 5 i = lN (M i) ∧ m.2.2.1 5 i = lN (M i)
theorem gDiv27720 : ∀ C, C < 13 → 0 < C → C ∣ 27720 := by decide
theorem gMeanStep {S T : Nat} {c m c1 m1 : Zst} (h : gCor S T c m) (hc : gaC c c1) (hm : gaM m m1) (nc : gNR c c1) (nm : gNRm m m1) {N i k s L : Nat} {M : Nat → Nat} (hM : gMs2 N M c1 m1) (hN : N ≤ i) (hi : i < 12)
    (hk : k < 6) (hs : s < S) (hL : L ≤ 12) (cell : Nat → Nat) (hcell : ∀ i, i < L → cell i < 12 * T) {v3 v4 w3 w4 : Int32}
    (h1 : ∀ j, j < L → (if v3 = (0 : Int32) then (((12 : Int32) * nI i) + nI j) else (((12 : Int32) * nI j) + nI i)) = nI (cell j)) (h2 : ∀ j, j < L → w3 + (nI j * w4) = nI (cell j)) :
    ∃ (c2 m2 : Zst) (N' : Nat) (M' : Nat → Nat), (∀ K : Zst → Int32 → Option Zst, L_X6_gatherMeans_67 (fun w5 w6 => J_X6_gatherMeans_139 K c1 (nI k) (nI s) v3 v4 (nI L) (nI i) w5 w6) c1 (nI k) (nI s) v3 v4 (nI L) (nI i) zFu 0 0 0 = K c2 (nI (i + 1))) ∧ f_X12_takesMean m1 (nI k) (nI s) w3 w4 (nI L) = some m2 ∧ gaC c c2 ∧ gaM m m2 ∧ gNR c c2 ∧ gNRm m m2 ∧ gMs2 N' M' c2 m2 ∧ N' ≤ i + 1 := by
  obtain ⟨A, C, g1, g2, g3, g4⟩ := gMean (gCor_ag h hc hm) (v6 := nI i) (v4 := v4) hk hs hL cell hcell h1 h2
  obtain ⟨m0, m2, m3, m4⟩ := hM
  by_cases e : C = 0
  · subst e
    refine ⟨c1, m1, N, M, fun K => ?_, ?_, hc, hm, nc, nm, ⟨m0, m2, m3, m4⟩, by omega⟩
    · rw [g3]
      unfold J_X6_gatherMeans_139
      rw [if_pos (by decide), nI_1]
    · unfold f_X12_takesMean
      rw [g4]
      unfold J_X12_takesMean_60
      rw [if_pos (by decide)]
  · have hdv := gDiv27720 C (by omega) (by omega)
    have hq : A * 27720 / C = A * (27720 / C) := Nat.mul_div_assoc A hdv
    have hle : A * 27720 / C ≤ 27720000 := by
      apply Nat.div_le_of_le_mul
      calc A * 27720 ≤ 1000 * C * 27720 := Nat.mul_le_mul_right _ g2
        _ = C * 27720000 := by rw [Nat.mul_comm 1000 C, Nat.mul_assoc]
    have hA2 : A * 27720 < 2 ^ 63 := by
      have : A * 27720 ≤ 12000 * 27720 := Nat.mul_le_mul_right _ (by omega)
      exact Nat.lt_of_le_of_lt this (by decide)
    have nl : ¬ lN C = 0 := by rw [show (0 : Int64) = lN 0 from rfl, lN_eq (by omega) (by omega)]; exact e
    have hn : ¬ nI C ≤ 0 := nI_nle (by omega) (by omega)
    refine ⟨zI (zL c1 5 (vp_updL (c1.2.2.1 5) N (lN (A * 27720 / C)))) 22 (nI (N + 1)), zI (zL m1 5 (vp_updL (m1.2.2.1 5) N (lN (A * 27720 / C)))) 22 (nI (N + 1)), N + 1, fun j => if j = N then A * 27720 / C else M j, fun K => ?_, ?_, gaC_I (gaC_L hc) rfl, gaM_I (gaM_L hm) rfl, nc, nm, ⟨by omega, rfl, rfl, fun j hj => ?_⟩, by omega⟩
    · rw [g3]
      unfold J_X6_gatherMeans_139
      rw [if_neg hn, m2, if_neg (show ¬ (12 : Int32) ≤ nI N from nI_ge (b := 12) (by omega) (by decide)), nI_l (show C < 2 ^ 31 by omega), gNzL_ok nl, gGx (show N < 12 by omega) (by decide), nI_clamp (show N < 2 ^ 31 by omega), show (27720 : Int64) = lN 27720 from rfl, lN_mul, pk_lDiv hA2 (by omega) (by omega), nI_1, nI_1]
    · unfold f_X12_takesMean
      rw [g4]
      unfold J_X12_takesMean_60
      rw [if_neg hn, m3, nI_l (show C < 2 ^ 31 by omega), gNzL_ok nl, gGx (show N < 12 by omega) (by decide), nI_clamp (show N < 2 ^ 31 by omega), show (27720 : Int64) = lN 27720 from rfl, pk_lDiv (by decide) (by omega) (by omega), lN_mul, ← hq, nI_1]
    · show (if j = N then A * 27720 / C else M j) ≤ 27720000 ∧ vp_updL (c1.2.2.1 5) N (lN (A * 27720 / C)) j = lN (if j = N then A * 27720 / C else M j) ∧ vp_updL (m1.2.2.1 5) N (lN (A * 27720 / C)) j = lN (if j = N then A * 27720 / C else M j)
      by_cases q : j = N
      · rw [if_pos q, gLu q, gLu q]; exact ⟨hle, rfl, rfl⟩
      · rw [if_neg q, gLn q, gLn q]; exact m4 j (by omega)
