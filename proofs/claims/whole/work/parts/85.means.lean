theorem gBnd_0 : gBnd 0 0 0 := ⟨by decide, by decide, 0, Nat.le_refl 0, rfl⟩
/-- one kind's means in lack and in plenty, both sides -/
theorem gMn {S T : Nat} {c m : Zst} (h : gCor S T c m) {s kd k : Nat} (hs : s < S) (hkd : kd < 6) (hk1 : 1 ≤ k) (hk : k < 5) :
    ∃ c' m', f_X8_measureMeans c (nI s) (nI kd) (nI (2 * k)) = some c' ∧ (∀ K : Zst → Int32 → Option Zst, L_X12_means_126 (fun σ10 => J_X12_means_162 K σ10 (nI s) (nI k) (nI kd)) (nI s) (nI k) (nI kd) zFu m 0 = K m' (nI (k + 1))) ∧ gaC c c' ∧ gaM m m' ∧ gNR c c' ∧ gNRm m m' ∧ gKL (2 * k) c c' ∧
      (∀ j, ¬ j = k → ¬ j = 5 + k → m'.2.2.1 3 j = m.2.2.1 3 j ∧ m'.2.2.1 4 j = m.2.2.1 4 j) ∧ c'.2.2.1 3 (2 * k) = m'.2.2.1 3 k ∧ c'.2.2.1 4 (2 * k) = m'.2.2.1 4 k ∧ c'.2.2.1 3 (2 * k + 1) = m'.2.2.1 3 (5 + k) ∧ c'.2.2.1 4 (2 * k + 1) = m'.2.2.1 4 (5 + k) ∧ gBnd 96 (c'.2.2.1 3 (2 * k)) (c'.2.2.1 4 (2 * k)) ∧ gBnd 96 (c'.2.2.1 3 (2 * k + 1)) (c'.2.2.1 4 (2 * k + 1)) := by
  have hT := h.1.1.2.1
  have hS := h.1.1.1
  obtain ⟨cA, q1, q2, q3, q4, q5, q6, q7, q8⟩ := gClear (c := c) (t := 2 * k) (by omega)
  have mA : ∃ mA, (∀ K : Zst → Option Zst, L_X12_means_126 K (nI s) (nI k) (nI kd) zFu m 0 = K mA) ∧ gaM m mA ∧ gNRm m mA ∧ (∀ j, ¬ j = k → ¬ j = 5 + k → mA.2.2.1 3 j = m.2.2.1 3 j ∧ mA.2.2.1 4 j = m.2.2.1 4 j) ∧ mA.2.2.1 3 k = 0 ∧ mA.2.2.1 4 k = 0 ∧ mA.2.2.1 3 (5 + k) = 0 ∧ mA.2.2.1 4 (5 + k) = 0 := by
    obtain ⟨fu, hfu⟩ := gFu3
    have i0 : (5 : Int32) * 0 + nI k = nI k := by rw [show (5 : Int32) * 0 = 0 by decide, Int32.zero_add]
    have i1 : (5 : Int32) * 1 + nI k = nI (5 + k) := by rw [show (5 : Int32) * 1 = nI 5 by decide, nI_add]
    refine ⟨zL (zL (zL (zL m 3 (vp_updL (m.2.2.1 3) k 0)) 4 (vp_updL (m.2.2.1 4) k 0)) 3 (vp_updL (vp_updL (m.2.2.1 3) k 0) (5 + k) 0)) 4 (vp_updL (vp_updL (m.2.2.1 4) k 0) (5 + k) 0), fun K => ?_, gaM_rf, ⟨rfl, rfl⟩, fun j h1 h2 => ⟨?_, ?_⟩, ?_, ?_, ?_, ?_⟩
    · rw [hfu]
      simp only [L_X12_means_126, show ((2 : Int32) ≤ 0) = False by decide, show (0 : Int32) + 1 = 1 by decide, show ((2 : Int32) ≤ 1) = False by decide, show (1 : Int32) + 1 = 2 by decide, show ((2 : Int32) ≤ 2) = True by decide, ↓reduceIte, i0, i1, gGx (show k < 10 by omega) (by decide), gGx (show 5 + k < 10 by omega) (by decide), nI_clamp (show k < 2 ^ 31 by omega), nI_clamp (show 5 + k < 2 ^ 31 by omega)]
      rfl
    · show vp_updL (vp_updL (m.2.2.1 3) k 0) (5 + k) 0 j = _
      rw [gLn h2, gLn h1]
    · show vp_updL (vp_updL (m.2.2.1 4) k 0) (5 + k) 0 j = _
      rw [gLn h2, gLn h1]
    · show vp_updL (vp_updL (m.2.2.1 3) k 0) (5 + k) 0 k = 0
      rw [gLn (by omega), gLu rfl]
    · show vp_updL (vp_updL (m.2.2.1 4) k 0) (5 + k) 0 k = 0
      rw [gLn (by omega), gLu rfl]
    · exact gLu rfl
    · exact gLu rfl
  obtain ⟨mA, r1, r2, r3, r4, r5, r6, r7, r8⟩ := mA
  obtain ⟨hcell, hcell'⟩ := gL_cells h.1
  -- the model's loop first, by closures; the class' by value
  obtain ⟨c', m', g1, g2, P⟩ : ∃ c' m', L_X8_measureMeans_8 (nI s) (nI kd) (nI (2 * k)) zFu cA 0 = some c' ∧ (∀ K : Zst → Option Zst, L_X12_means_165 K (nI s) (nI k) (nI kd) zFu mA 0 = K m') ∧ gaC c c' ∧ gaM m m' ∧ gNR c c' ∧ gNRm m m' ∧ gKL (2 * k) c c' ∧
      (∀ j, ¬ j = k → ¬ j = 5 + k → m'.2.2.1 3 j = m.2.2.1 3 j ∧ m'.2.2.1 4 j = m.2.2.1 4 j) ∧ c'.2.2.1 3 (2 * k) = m'.2.2.1 3 k ∧ c'.2.2.1 4 (2 * k) = m'.2.2.1 4 k ∧ c'.2.2.1 3 (2 * k + 1) = m'.2.2.1 3 (5 + k) ∧ c'.2.2.1 4 (2 * k + 1) = m'.2.2.1 4 (5 + k) ∧ gBnd (12 * T) (c'.2.2.1 3 (2 * k)) (c'.2.2.1 4 (2 * k)) ∧ gBnd (12 * T) (c'.2.2.1 3 (2 * k + 1)) (c'.2.2.1 4 (2 * k + 1)) := by
    obtain ⟨ra, rb, a1, a2, a3⟩ := gq_run (La := fun (K : Zst → Option Zst) n (a : Zst × Int32) => (L_X8_measureMeans_8 (nI s) (nI kd) (nI (2 * k)) n a.1 a.2).bind K)
      (Lb := fun (K : Zst → Option Zst) n (a : Zst × Int32) => L_X12_means_165 K (nI s) (nI k) (nI kd) n a.1 a.2)
      (fun i a b => ∃ c1 m1, a = (c1, nI i) ∧ b = (m1, nI i) ∧ gaC c c1 ∧ gaM m m1 ∧ gNR c c1 ∧ gNRm m m1 ∧ gKL (2 * k) c c1 ∧ (∀ j, ¬ j = k → ¬ j = 5 + k → m1.2.2.1 3 j = m.2.2.1 3 j ∧ m1.2.2.1 4 j = m.2.2.1 4 j) ∧ c1.2.2.1 3 (2 * k) = m1.2.2.1 3 k ∧ c1.2.2.1 4 (2 * k) = m1.2.2.1 4 k ∧ c1.2.2.1 3 (2 * k + 1) = m1.2.2.1 3 (5 + k) ∧ c1.2.2.1 4 (2 * k + 1) = m1.2.2.1 4 (5 + k) ∧ gBnd i (c1.2.2.1 3 (2 * k)) (c1.2.2.1 4 (2 * k)) ∧ gBnd i (c1.2.2.1 3 (2 * k + 1)) (c1.2.2.1 4 (2 * k + 1)))
      (fun c1 m1 => gaC c c1 ∧ gaM m m1 ∧ gNR c c1 ∧ gNRm m m1 ∧ gKL (2 * k) c c1 ∧ (∀ j, ¬ j = k → ¬ j = 5 + k → m1.2.2.1 3 j = m.2.2.1 3 j ∧ m1.2.2.1 4 j = m.2.2.1 4 j) ∧ c1.2.2.1 3 (2 * k) = m1.2.2.1 3 k ∧ c1.2.2.1 4 (2 * k) = m1.2.2.1 4 k ∧ c1.2.2.1 3 (2 * k + 1) = m1.2.2.1 3 (5 + k) ∧ c1.2.2.1 4 (2 * k + 1) = m1.2.2.1 4 (5 + k) ∧ gBnd (12 * T) (c1.2.2.1 3 (2 * k)) (c1.2.2.1 4 (2 * k)) ∧ gBnd (12 * T) (c1.2.2.1 3 (2 * k + 1)) (c1.2.2.1 4 (2 * k + 1))) 0 (12 * T) (Nat.zero_le _) (by omega) (a := (cA, 0)) (b := (mA, 0))
      (fun i a b hi hI => by
        obtain ⟨c1, m1, rfl, rfl, ac, am, nc, nm, kl, ml, d1, d2, d3, d4, b1, b2⟩ := hI
        have hg := gCor_ag h ac am
        obtain ⟨hc, hc'⟩ := gL_cells hg.1
        have t1 := gL_has hg.2.1 (x := nI kd) kd i s rfl (y := nI i) rfl (z := nI s) rfl hkd (by omega) (by omega)
        have t2 := gL_told hg.2.1 (x := nI kd) kd i s rfl (y := nI i) rfl (z := nI s) rfl hkd (by omega) (by omega)
        have t3 := gL_of hg.2.1 (x := nI kd) kd i s rfl (y := nI i) rfl (z := nI s) rfl hkd (by omega) (by omega)
        have t4 := gL_at (m := m1) (x := nI kd) kd i s rfl (y := nI i) rfl (z := nI s) rfl hkd (by omega) (by omega)
        obtain ⟨v, v1, v2, -⟩ := gL_val hg.2.1 (k := kd) (j := i) (s := s) hkd (by omega) (by omega)
        rw [v2] at t1 t2 t3 t4
        have hn : ¬ nI (12 * T) ≤ nI i := nI_ge hi (by omega)
        by_cases e : v = 0
        · subst e
          refine ⟨(c1, nI (i + 1)), (m1, nI (i + 1)), fun K n => ?_, fun K n => ?_, c1, m1, rfl, rfl, ac, am, nc, nm, kl, ml, d1, d2, d3, d4, gBnd_up b1 (Nat.le_succ i), gBnd_up b2 (Nat.le_succ i)⟩
          · simp only [L_X8_measureMeans_8, hc, if_neg hn, t1, Option.bind_some, show gtf (nI 0) = 0 from rfl, ↓reduceIte, nI_1]
          · simp only [L_X12_means_165, hc', if_neg hn, t2, Option.bind_some, show gtf (nI 0) = 0 from rfl, ↓reduceIte, nI_1]
        · have e1 : gtf (nI v) = 1 := by unfold gtf; rw [if_neg (nI_ne0 (by omega) (by omega))]
          have e2 : nI v - 1 = nI (v - 1) := by rw [show (1 : Int32) = nI 1 from rfl, pk_sub (show 1 ≤ v by omega)]
          have eR : jRem (nI i) 12 = nI (i % 12) := gRem12 i (by omega)
          have eX : (12 : Int32) * nI s + nI (i % 12) = nI (12 * s + i % 12) := by rw [show (12 : Int32) = nI 12 from rfl, pk_mul, nI_add]
          have w1 : Int32.toInt64 1 = (1 : Int64) := by decide
          have x0 : (nI (v - 1)).toInt = ((v - 1 : Nat) : Int) := nI_toInt (by omega)
          obtain ⟨b, l1, l2⟩ := gL_lack hg.1 hs (show i % 12 < 12 by omega)
          cases b
          · -- plenty
            have i1 : (5 : Int32) * f_X12_flag 1 + nI k = nI (5 + k) := by rw [show (5 : Int32) * f_X12_flag 1 = nI 5 by decide, nI_add]
            refine ⟨(zL (zL c1 3 (vp_updL (c1.2.2.1 3) (2 * k + 1) (c1.2.2.1 3 (2 * k + 1) + Int32.toInt64 (nI (v - 1))))) 4 (vp_updL (c1.2.2.1 4) (2 * k + 1) (c1.2.2.1 4 (2 * k + 1) + Int32.toInt64 1)), nI (i + 1)), (zL (zL m1 3 (vp_updL (m1.2.2.1 3) (5 + k) (m1.2.2.1 3 (5 + k) + Int32.toInt64 (nI (v - 1))))) 4 (vp_updL (m1.2.2.1 4) (5 + k) (m1.2.2.1 4 (5 + k) + 1)), nI (i + 1)), fun K n => ?_, fun K n => ?_, _, _, rfl, rfl, gaC_L (gaC_L ac), gaM_L (gaM_L am), nc, nm, fun j h1 h2 => ?_, fun j h1 h2 => ?_, ?_, ?_, ?_, ?_, ?_, ?_⟩
            · simp only [L_X8_measureMeans_8, hc, if_neg hn, t1, Option.bind_some, e1, gq_10, ↓reduceIte, nI_1, eR, l1, Bool.false_eq_true, t3, e2, gAddTo (show 2 * k + 1 < 10 by omega)]
            · simp only [L_X12_means_165, hc', if_neg hn, t2, Option.bind_some, e1, gq_10, ↓reduceIte, nI_1, eR, eX, gGx (show 12 * s + i % 12 < 96 by omega) (by decide), nI_clamp (show 12 * s + i % 12 < 2 ^ 31 by omega), l2, Bool.false_eq_true, t4, e2, i1, gGx (show 5 + k < 10 by omega) (by decide), nI_clamp (show 5 + k < 2 ^ 31 by omega)]
            · show vp_updL (c1.2.2.1 3) _ _ j = _ ∧ vp_updL (c1.2.2.1 4) _ _ j = _
              rw [gLn h2, gLn h2]; exact kl j h1 h2
            · show vp_updL (m1.2.2.1 3) _ _ j = _ ∧ vp_updL (m1.2.2.1 4) _ _ j = _
              rw [gLn h2, gLn h2]; exact ml j h1 h2
            · show vp_updL (c1.2.2.1 3) _ _ (2 * k) = vp_updL (m1.2.2.1 3) _ _ k
              rw [gLn (by omega), gLn (by omega)]; exact d1
            · show vp_updL (c1.2.2.1 4) _ _ (2 * k) = vp_updL (m1.2.2.1 4) _ _ k
              rw [gLn (by omega), gLn (by omega)]; exact d2
            · show vp_updL (c1.2.2.1 3) _ _ (2 * k + 1) = vp_updL (m1.2.2.1 3) _ _ (5 + k)
              rw [gLu rfl, gLu rfl, d3]
            · show vp_updL (c1.2.2.1 4) _ _ (2 * k + 1) = vp_updL (m1.2.2.1 4) _ _ (5 + k)
              rw [gLu rfl, gLu rfl, d4, w1]
            · show gBnd (i + 1) (vp_updL (c1.2.2.1 3) _ _ (2 * k)) (vp_updL (c1.2.2.1 4) _ _ (2 * k))
              rw [gLn (by omega), gLn (by omega)]; exact gBnd_up b1 (Nat.le_succ i)
            · show gBnd (i + 1) (vp_updL (c1.2.2.1 3) _ _ (2 * k + 1)) (vp_updL (c1.2.2.1 4) _ _ (2 * k + 1))
              rw [gLu rfl, gLu rfl]
              exact gBnd_add (q := 1) (by omega) b2 (by omega) (by omega) rfl (by decide)
          · -- lack
            have i1 : (5 : Int32) * f_X12_flag 0 + nI k = nI k := by rw [show (5 : Int32) * f_X12_flag 0 = 0 by decide, Int32.zero_add]
            refine ⟨(zL (zL c1 3 (vp_updL (c1.2.2.1 3) (2 * k) (c1.2.2.1 3 (2 * k) + Int32.toInt64 (nI (v - 1))))) 4 (vp_updL (c1.2.2.1 4) (2 * k) (c1.2.2.1 4 (2 * k) + Int32.toInt64 1)), nI (i + 1)), (zL (zL m1 3 (vp_updL (m1.2.2.1 3) k (m1.2.2.1 3 k + Int32.toInt64 (nI (v - 1))))) 4 (vp_updL (m1.2.2.1 4) k (m1.2.2.1 4 k + 1)), nI (i + 1)), fun K n => ?_, fun K n => ?_, _, _, rfl, rfl, gaC_L (gaC_L ac), gaM_L (gaM_L am), nc, nm, fun j h1 h2 => ?_, fun j h1 h2 => ?_, ?_, ?_, ?_, ?_, ?_, ?_⟩
            · simp only [L_X8_measureMeans_8, hc, if_neg hn, t1, Option.bind_some, e1, gq_10, ↓reduceIte, nI_1, eR, l1, t3, e2, gAddTo (show 2 * k < 10 by omega)]
            · simp only [L_X12_means_165, hc', if_neg hn, t2, Option.bind_some, e1, gq_10, ↓reduceIte, nI_1, eR, eX, gGx (show 12 * s + i % 12 < 96 by omega) (by decide), nI_clamp (show 12 * s + i % 12 < 2 ^ 31 by omega), l2, t4, e2, i1, gGx (show k < 10 by omega) (by decide), nI_clamp (show k < 2 ^ 31 by omega)]
            · show vp_updL (c1.2.2.1 3) _ _ j = _ ∧ vp_updL (c1.2.2.1 4) _ _ j = _
              rw [gLn h1, gLn h1]; exact kl j h1 h2
            · show vp_updL (m1.2.2.1 3) _ _ j = _ ∧ vp_updL (m1.2.2.1 4) _ _ j = _
              rw [gLn h1, gLn h1]; exact ml j h1 h2
            · show vp_updL (c1.2.2.1 3) _ _ (2 * k) = vp_updL (m1.2.2.1 3) _ _ k
              rw [gLu rfl, gLu rfl, d1]
            · show vp_updL (c1.2.2.1 4) _ _ (2 * k) = vp_updL (m1.2.2.1 4) _ _ k
              rw [gLu rfl, gLu rfl, d2, w1]
            · show vp_updL (c1.2.2.1 3) _ _ (2 * k + 1) = vp_updL (m1.2.2.1 3) _ _ (5 + k)
              rw [gLn (by omega), gLn (by omega)]; exact d3
            · show vp_updL (c1.2.2.1 4) _ _ (2 * k + 1) = vp_updL (m1.2.2.1 4) _ _ (5 + k)
              rw [gLn (by omega), gLn (by omega)]; exact d4
            · show gBnd (i + 1) (vp_updL (c1.2.2.1 3) _ _ (2 * k)) (vp_updL (c1.2.2.1 4) _ _ (2 * k))
              rw [gLu rfl, gLu rfl]
              exact gBnd_add (q := 1) (by omega) b1 (by omega) (by omega) rfl (by decide)
            · show gBnd (i + 1) (vp_updL (c1.2.2.1 3) _ _ (2 * k + 1)) (vp_updL (c1.2.2.1 4) _ _ (2 * k + 1))
              rw [gLn (by omega), gLn (by omega)]; exact gBnd_up b2 (Nat.le_succ i))
      (fun a b hI => by
        obtain ⟨c1, m1, rfl, rfl, ac, am, rest⟩ := hI
        have hg := gCor_ag h ac am
        obtain ⟨hc, hc'⟩ := gL_cells hg.1
        have hn : nI (12 * T) ≤ nI (12 * T) := Int32.le_refl _
        exact ⟨c1, m1, fun K n => by simp only [L_X8_measureMeans_8, hc, if_pos hn, Option.bind_some], fun K n => by simp only [L_X12_means_165, hc', if_pos hn], ac, am, rest⟩)
      ⟨cA, mA, rfl, rfl, q2, r2, q3, r3, q4, r4, by rw [q5, r5], by rw [q7, r6], by rw [q6, r7], by rw [q8, r8], by rw [q5, q7]; exact gBnd_0, by rw [q6, q8]; exact gBnd_0⟩
    refine ⟨ra, rb, ?_, a2, a3⟩
    have h9 := a1 some
    obtain ⟨t, y1, y2⟩ := Option.bind_eq_some_iff.mp h9
    exact y1.trans y2
  obtain ⟨p1, p2, p3, p4, p5, p6, p7, p8, p9, p10, p11, p12⟩ := P
  refine ⟨c', m', ?_, fun K => ?_, p1, p2, p3, p4, p5, p6, p7, p8, p9, p10, gBnd_up p11 (by omega), gBnd_up p12 (by omega)⟩
  · unfold f_X8_measureMeans
    rw [q1, Option.bind_some]
    exact g1
  · rw [r1]
    unfold J_X12_means_162
    rw [g2]
    unfold J_X12_means_262
    rw [nI_1]
