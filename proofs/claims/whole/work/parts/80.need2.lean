theorem gGather {S T n : Nat} {c m : Zst} (h : gCor S T c m) (hr : gRR n c m) {k s : Nat} (hk : k < 6) (hs : s < S) (p2 p3 : Int32) :
    (∃ c1, f_X6_gatherMeans c (nI k) (nI s) 0 = some c1 ∧ ∃ (c2 m2 : Zst) (x : Int32), ((f_X6_countWays c1 p2).bind fun t8 => L_X6_fewest_70 (fun w9 => J_X6_fewest_109 t8 w9) t8 p3 zFu (1 : Int32)) = some (c2, x) ∧ L_X12_need_27 (fun σ3 => J_X12_need_56 σ3 p2 p3) (nI k) (nI s) p2 p3 zFu (zI m 22 0) 0 = some (m2, x) ∧ gRel c2 m2) ∧
    (∃ c1, f_X6_gatherMeans c (nI k) (nI s) 1 = some c1 ∧ ∃ (c2 m2 : Zst) (x : Int32), ((f_X6_countWays c1 p2).bind fun t8 => L_X6_fewest_70 (fun w9 => J_X6_fewest_109 t8 w9) t8 p3 zFu (1 : Int32)) = some (c2, x) ∧ L_X12_weeks_27 (fun σ3 => J_X12_weeks_54 σ3 p2 p3) (nI k) (nI s) p2 p3 zFu (zI m 22 0) 0 = some (m2, x) ∧ gRel c2 m2) := by
  have hT := h.1.1.2.1
  have t1 : c.1 11 = nI T := h.1.1.2.2.2.2.1
  have t2 : m.1 3 = nI T := h.1.1.2.2.2.2.2
  have ts : f_X10_streetCount (zI c 22 0) = nI T := t1
  constructor
  · obtain ⟨c1, rb, h1, h2, c2, m2, x, h3, h4, h5⟩ := gq_lock (La := fun n (a : Zst × Int32) => L_X6_gatherMeans_44 (nI k) (nI s) 0 (nI T) 12 n a.1 a.2)
      (Lb := fun n (a : Zst × Int32) => L_X12_need_27 (fun σ3 => J_X12_need_56 σ3 p2 p3) (nI k) (nI s) p2 p3 n a.1 a.2)
      (fun i a b => ∃ (c1 m1 : Zst) (N : Nat) (M : Nat → Nat), a = (c1, nI i) ∧ b = (m1, nI i) ∧ gaC c c1 ∧ gaM m m1 ∧ gNR c c1 ∧ gNRm m m1 ∧ gMs2 N M c1 m1 ∧ N ≤ i)
      (fun c1 rb => ∃ (c2 m2 : Zst) (x : Int32), ((f_X6_countWays c1 p2).bind fun t8 => L_X6_fewest_70 (fun w9 => J_X6_fewest_109 t8 w9) t8 p3 zFu (1 : Int32)) = some (c2, x) ∧ rb = (m2, x) ∧ gRel c2 m2) T (by omega) (a := (zI c 22 0, 0)) (b := (zI m 22 0, 0))
      (fun i a b hi hI => by
        obtain ⟨c1, m1, N, M, rfl, rfl, hc, hm, nc, nm, hM, hN⟩ := hI
        obtain ⟨c2, m2, N', M', f1, f2, f3, f4, f5, f6, f7, f8⟩ := gMeanStep h hc hm nc nm hM hN (by omega) hk hs (L := 12) (by decide) (fun j => 12 * i + j) (fun j hj => by omega) (v3 := 0) (v4 := nI T) (w3 := (12 : Int32) * nI i) (w4 := 1)
          (fun j hj => by rw [if_pos rfl, show (12 : Int32) = nI 12 from rfl, pk_mul, nI_add]) (fun j hj => by rw [Int32.mul_one, show (12 : Int32) = nI 12 from rfl, pk_mul, nI_add])
        have e1 : ¬ nI T ≤ nI i := nI_ge hi (by omega)
        have e2 : ¬ (12 : Int32) ≤ nI i := nI_ge (b := 12) (by omega) (by decide)
        have e3 : ¬ m1.1 3 ≤ nI i := by rw [hm.1.1 3 rfl, t2]; exact e1
        refine ⟨(c2, nI (i + 1)), (m2, nI (i + 1)), fun n => ?_, fun n => ?_, c2, m2, N', M', rfl, rfl, f3, f4, f5, f6, f7, f8⟩
        · simp only [L_X6_gatherMeans_44, if_neg e1, if_neg e2]
          exact f1 (fun σ w6 => L_X6_gatherMeans_44 (nI k) (nI s) 0 (nI T) 12 n σ w6)
        · simp only [L_X12_need_27, if_neg e3, nI_1]
          rw [show f_X12_takesMean m1 (nI k) (nI s) ((12 : Int32) * nI i) 1 12 = _ from f2, Option.bind_some])
      (fun a b hI => by
        obtain ⟨c1, m1, N, M, rfl, rfl, hc, hm, nc, nm, hM, hN⟩ := hI
        obtain ⟨c2, m2, x, g1, g2, g3⟩ := gFewest h hr hc hm nc nm hM p2 p3
        have e1 : nI T ≤ nI T := Int32.le_refl _
        have e3 : m1.1 3 ≤ nI T := by rw [hm.1.1 3 rfl, t2]; exact e1
        exact ⟨c1, (m2, x), fun n => by simp only [L_X6_gatherMeans_44, if_pos e1], fun n => by simp only [L_X12_need_27, if_pos e3, J_X12_need_56, g2, Option.bind_some], c2, m2, x, g1, rfl, g3⟩)
      ⟨zI c 22 0, zI m 22 0, 0, fun _ => 0, rfl, rfl, gaC_I gaC_rf rfl, gaM_I gaM_rf rfl, ⟨rfl, rfl⟩, ⟨rfl, rfl⟩, ⟨by decide, rfl, rfl, fun i hi => absurd hi (Nat.not_lt_zero i)⟩, Nat.le_refl 0⟩
    refine ⟨c1, ?_, c2, m2, x, h3, ?_, h5⟩
    · unfold f_X6_gatherMeans
      rw [if_pos rfl, if_pos rfl, ts]
      exact h1
    · rw [← h4]; exact h2
  · obtain ⟨c1, rb, h1, h2, c2, m2, x, h3, h4, h5⟩ := gq_lock (La := fun n (a : Zst × Int32) => L_X6_gatherMeans_44 (nI k) (nI s) 1 12 (nI T) n a.1 a.2)
      (Lb := fun n (a : Zst × Int32) => L_X12_weeks_27 (fun σ3 => J_X12_weeks_54 σ3 p2 p3) (nI k) (nI s) p2 p3 n a.1 a.2)
      (fun i a b => ∃ (c1 m1 : Zst) (N : Nat) (M : Nat → Nat), a = (c1, nI i) ∧ b = (m1, nI i) ∧ gaC c c1 ∧ gaM m m1 ∧ gNR c c1 ∧ gNRm m m1 ∧ gMs2 N M c1 m1 ∧ N ≤ i)
      (fun c1 rb => ∃ (c2 m2 : Zst) (x : Int32), ((f_X6_countWays c1 p2).bind fun t8 => L_X6_fewest_70 (fun w9 => J_X6_fewest_109 t8 w9) t8 p3 zFu (1 : Int32)) = some (c2, x) ∧ rb = (m2, x) ∧ gRel c2 m2) 12 (by omega) (a := (zI c 22 0, 0)) (b := (zI m 22 0, 0))
      (fun i a b hi hI => by
        obtain ⟨c1, m1, N, M, rfl, rfl, hc, hm, nc, nm, hM, hN⟩ := hI
        obtain ⟨c2, m2, N', M', f1, f2, f3, f4, f5, f6, f7, f8⟩ := gMeanStep h hc hm nc nm hM hN hi hk hs (L := T) (by omega) (fun j => 12 * j + i) (fun j hj => by omega) (v3 := 1) (v4 := 12) (w3 := nI i) (w4 := 12)
          (fun j hj => by rw [if_neg (by decide), show (12 : Int32) = nI 12 from rfl, pk_mul, nI_add]) (fun j hj => by rw [show (12 : Int32) = nI 12 from rfl, pk_mul, nI_add, Nat.mul_comm j 12, Nat.add_comm])
        have e2 : ¬ (12 : Int32) ≤ nI i := nI_ge (b := 12) (by omega) (by decide)
        have e3 : m1.1 3 = nI T := by rw [hm.1.1 3 rfl, t2]
        refine ⟨(c2, nI (i + 1)), (m2, nI (i + 1)), fun n => ?_, fun n => ?_, c2, m2, N', M', rfl, rfl, f3, f4, f5, f6, f7, f8⟩
        · simp only [L_X6_gatherMeans_44, if_neg e2]
          exact f1 (fun σ w6 => L_X6_gatherMeans_44 (nI k) (nI s) 1 12 (nI T) n σ w6)
        · simp only [L_X12_weeks_27, if_neg e2, e3, f2, Option.bind_some, nI_1])
      (fun a b hI => by
        obtain ⟨c1, m1, N, M, rfl, rfl, hc, hm, nc, nm, hM, hN⟩ := hI
        obtain ⟨c2, m2, x, g1, g2, g3⟩ := gFewest h hr hc hm nc nm hM p2 p3
        have e1 : (12 : Int32) ≤ nI 12 := Int32.le_refl _
        exact ⟨c1, (m2, x), fun n => by simp only [L_X6_gatherMeans_44, if_pos e1], fun n => by simp only [L_X12_weeks_27, if_pos e1, J_X12_weeks_54, g2, Option.bind_some], c2, m2, x, g1, rfl, g3⟩)
      ⟨zI c 22 0, zI m 22 0, 0, fun _ => 0, rfl, rfl, gaC_I gaC_rf rfl, gaM_I gaM_rf rfl, ⟨rfl, rfl⟩, ⟨rfl, rfl⟩, ⟨by decide, rfl, rfl, fun i hi => absurd hi (Nat.not_lt_zero i)⟩, Nat.le_refl 0⟩
    refine ⟨c1, ?_, c2, m2, x, h3, ?_, h5⟩
    · unfold f_X6_gatherMeans
      rw [if_neg (by decide), if_neg (by decide), ts]
      exact h1
    · rw [← h4]; exact h2
theorem gNeedOk {p0 p1 p2 p3 : Int32} {S T n : Nat} {c m : Zst} (h : gCor S T c m) (hr : gRR n c m) : (f_X12_isNeed (zI m 0 0) p0 p1 p2 p3 = 0 ∧ ∀ p4, f_X6_fewest c p0 p1 p2 p3 p4 = some (c, -1)) ∨
    (f_X12_isNeed (zI m 0 0) p0 p1 p2 p3 = 1 ∧ ∃ k s, k < 6 ∧ s < S ∧ p0 = nI k ∧ p1 = nI s ∧ ∀ p4, f_X6_fewest c p0 p1 p2 p3 p4 = (f_X6_gatherMeans c p0 p1 p4).bind fun t7 => (f_X6_countWays t7 p2).bind fun t8 => L_X6_fewest_70 (fun w9 => J_X6_fewest_109 t8 w9) t8 p3 zFu (1 : Int32)) := by
  have h' : gCor S T c (zI m 0 0) := gCor_ag h gaC_rf gaM_0
  unfold f_X6_fewest f_X12_isNeed
  simp only [gL_kind, gL_sort h'.1, gq_in_0_999, gq_in_1_100]
  rcases gS_kind p0 with ⟨e0, k, k1, k2⟩ | e0
  case inr => left; simp only [e0, ↓reduceIte, true_and]; exact fun _ => trivial
  rcases gS_sort h.1 p1 with ⟨e1, s, x1, x2⟩ | e1
  case inr => left; simp only [e0, e1, gq_10, ↓reduceIte, true_and]; exact fun _ => trivial
  rcases gS_btw (p := p2) (a := 0) (b := 999) 0 999 rfl rfl (by decide) (by decide) with ⟨e2, -⟩ | e2
  case inr => left; simp only [e0, e1, e2, gq_10, ↓reduceIte, true_and]; exact fun _ => trivial
  rcases gS_btw (p := p3) (a := 1) (b := 100) 1 100 rfl rfl (by decide) (by decide) with ⟨e3, -⟩ | e3
  case inr => left; simp only [e0, e1, e2, e3, gq_10, ↓reduceIte, true_and]; exact fun _ => trivial
  right
  simp only [e0, e1, e2, e3, gq_10, ↓reduceIte, true_and]
  exact ⟨k, s, k1, x1, k2, x2, fun _ => trivial⟩
theorem pp_need : lp_need gRel := by
  intro c m hR p0 p1 p2 p3
  obtain ⟨S, T, n, h, hr⟩ := hR
  have no : gRel c (zI m 0 0) := gNo h hr
  unfold f_X11_need f_X12_need
  rcases gNeedOk (p0 := p0) (p1 := p1) (p2 := p2) (p3 := p3) h hr with ⟨e1, e2⟩ | ⟨e1, k, s, k1, s1, rfl, rfl, e2⟩
  · rw [e1, e2, if_pos rfl]
    exact ⟨_, _, rfl, rfl, rfl, no⟩
  · obtain ⟨⟨c1, g1, c2, m2, x, g2, g3, g4⟩, -⟩ := gGather (gCor_ag h gaC_rf gaM_0) (show gRR n c (zI m 0 0) from hr) k1 s1 p2 p3
    rw [e1, e2, if_neg (by decide), g1, Option.bind_some, g2, g3]
    exact ⟨(c2, x), (m2, x), rfl, rfl, rfl, g4⟩
theorem pp_weeks : lp_weeks gRel := by
  intro c m hR p0 p1 p2 p3
  obtain ⟨S, T, n, h, hr⟩ := hR
  have no : gRel c (zI m 0 0) := gNo h hr
  unfold f_X11_weeks f_X12_weeks
  rcases gNeedOk (p0 := p0) (p1 := p1) (p2 := p2) (p3 := p3) h hr with ⟨e1, e2⟩ | ⟨e1, k, s, k1, s1, rfl, rfl, e2⟩
  · rw [e1, e2, if_pos rfl]
    exact ⟨_, _, rfl, rfl, rfl, no⟩
  · obtain ⟨-, ⟨c1, g1, c2, m2, x, g2, g3, g4⟩⟩ := gGather (gCor_ag h gaC_rf gaM_0) (show gRR n c (zI m 0 0) from hr) k1 s1 p2 p3
    rw [e1, e2, if_neg (by decide), g1, Option.bind_some, g2, g3]
    exact ⟨(c2, x), (m2, x), rfl, rfl, rfl, g4⟩
