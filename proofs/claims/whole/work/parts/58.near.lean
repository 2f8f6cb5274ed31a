theorem gl_toInt (x : Int32) : (Int32.toInt64 x).toInt = x.toInt := Int32.toInt_toInt64 x
theorem pp_off : lp_off gRel := by
  intro c m hR p0 p1
  obtain ⟨S, T, n, h, hr⟩ := hR
  have no : gRel c (zI m 0 0) := gNo h hr
  have h' : gCor S T c (zI m 0 0) := gCor_ag h gaC_rf gaM_0
  have hr' : gRR n c (zI m 0 0) := hr
  unfold f_X11_off f_X0_offBy f_X12_off
  simp only [gL_way, gL_sort h'.1]
  generalize zI m 0 0 = m0 at *
  rcases gS_sort h.1 p0 with ⟨e0, s, x1, x2⟩ | e0
  case inr => simp only [e0, ↓reduceIte, Option.bind_some]; exact ⟨_, _, rfl, rfl, rfl, no⟩
  rcases gS_way p1 with ⟨e1, y, y1, y2⟩ | e1
  case inr => simp only [e0, e1, gq_10, ↓reduceIte, Option.bind_some]; exact ⟨_, _, rfl, rfl, rfl, no⟩
  obtain ⟨c1, m1, k, f1, f2, aC, aM, nC, nM, k1, k2, k3, k4, ⟨k5, k6⟩, k7, k8, k9, k10⟩ := gMeasure h' x2 x1 y2 y1
  have hr1 := gRR_nr hr' nC nM
  simp only [e0, e1, gq_10, ↓reduceIte, f1, f2, Option.bind_some, k2, k3]
  by_cases hk : k = 0
  · subst hk
    simp only [show (nI 0 ≤ (0 : Int32)) = True by decide, ↓reduceIte, Option.bind_some]
    exact ⟨(c1, nI 0), (m1, nI 0), rfl, rfl, rfl, gRel_of h' aC aM hr1⟩
  · obtain ⟨w1, w2, w3, w4⟩ := gX_clear hr1
    have g1 : (zI c1 0 0).1 13 = c1.1 13 := rfl
    have g2 : (zI c1 0 0).1 12 = nI k := k2
    obtain ⟨c2, m2, i1, i2, i3, i4, i5⟩ := gX_frac w2 (by decide) (x := Int32.toInt64 (c1.1 13)) (x' := Int32.toInt64 (m1.1 15)) (y := Int32.toInt64 (nI k)) (y' := Int32.toInt64 (nI k)) (by rw [k4]) rfl (by rw [gl_toInt]; omega) (by rw [gl_toInt]; omega) (by rw [gl_toInt, nI_toInt (by omega)]; omega) (by rw [gl_toInt, nI_toInt (by omega)]; omega) (by rw [gl_toInt, nI_toInt (by omega)]; omega)
    have q1 := gOR_tr w3 i4
    have q2 := gORm_tr w4 i5
    obtain ⟨c3, m3, j1, j2, j3, j4, j5⟩ := gX_add i3 (by decide) (x := Int32.toInt64 (c2.1 14)) (y := Int32.toInt64 (m2.1 16)) (by rw [q1.1 14 (by decide), q2.1 16 (by decide), k7])
    have q1 := gOR_tr q1 j4
    have q2 := gORm_tr q2 j5
    obtain ⟨c4, m4, l1, l2, l3, l4, l5⟩ := gX_add j3 (by decide) (x := Int32.toInt64 (c3.1 15)) (y := Int32.toInt64 (m3.1 17)) (by rw [q1.1 15 (by decide), q2.1 17 (by decide), k8])
    have q1 := gOR_tr q1 l4
    have q2 := gORm_tr q2 l5
    have g3 : c4.1 12 = nI k := by rw [q1.1 12 (by decide), k2]
    have g4 : m4.1 14 = nI k := by rw [q2.1 14 (by decide), k3]
    simp only [if_neg (nI_nle (show 0 < k by omega) (by omega)), w1, Option.bind_some, g1, g2, i1, i2, j1, j2, l1, l2, g3, g4]
    exact ⟨(c4, nI k), (m4, nI k), rfl, rfl, rfl, gRel_of h' (gaC_tr aC (gOR_a q1)) (gaM_tr aM (gORm_a q2)) l3⟩
/-! comparing fractions -/
theorem gCmp (x y : Int64) : f_J13_compare_74951 x y = (if x.toInt < y.toInt then -1 else if x.toInt = y.toInt then 0 else 1) := by
  unfold f_J13_compare_74951
  by_cases h : y ≤ x
  · have h1 := Int64.le_iff_toInt_le.mp h
    rw [if_pos h, if_neg (show ¬ x.toInt < y.toInt by omega)]
    by_cases h2 : x = y
    · rw [if_pos h2, if_pos (congrArg Int64.toInt h2)]
    · rw [if_neg h2, if_neg (fun q => h2 (Int64.toInt_inj.mp q))]
  · have h1 : ¬ y.toInt ≤ x.toInt := fun q => h (Int64.le_iff_toInt_le.mpr q)
    rw [if_neg h, if_pos (by omega)]
theorem gMulB {x y : Int64} {A B : Int} (hx1 : -A ≤ x.toInt) (hx2 : x.toInt ≤ A) (hy1 : -B ≤ y.toInt) (hy2 : y.toInt ≤ B) (hAB : A * B < 9223372036854775808) (hA : 0 ≤ A) (hB : 0 ≤ B) : (x * y).toInt = x.toInt * y.toInt ∧ -(A * B) ≤ x.toInt * y.toInt ∧ x.toInt * y.toInt ≤ A * B := by
  have h1 : x.toInt * y.toInt ≤ A * B := by
    have a1 : 0 ≤ (A - x.toInt) * (B + y.toInt) := Int.mul_nonneg (by omega) (by omega)
    have a2 : 0 ≤ (A + x.toInt) * (B - y.toInt) := Int.mul_nonneg (by omega) (by omega)
    rw [Int.sub_mul, Int.mul_add, Int.mul_add] at a1
    rw [Int.add_mul, Int.mul_sub, Int.mul_sub] at a2
    omega
  have h2 : -(A * B) ≤ x.toInt * y.toInt := by
    have a1 : 0 ≤ (A - x.toInt) * (B - y.toInt) := Int.mul_nonneg (by omega) (by omega)
    have a2 : 0 ≤ (A + x.toInt) * (B + y.toInt) := Int.mul_nonneg (by omega) (by omega)
    rw [Int.sub_mul, Int.mul_sub, Int.mul_sub] at a1
    rw [Int.add_mul, Int.mul_add, Int.mul_add] at a2
    omega
  refine ⟨?_, h2, h1⟩
  rw [Int64.toInt_mul, gbm64 (by omega) (by omega)]
theorem gAbsI {x : Int32} (h1 : -1000000 ≤ x.toInt) (h2 : x.toInt ≤ 1000000) : 0 ≤ (jAbs x).toInt ∧ (jAbs x).toInt ≤ 1000000 ∧ (jAbs x).toInt = (x.toInt.natAbs : Int) := by
  have e0 : (0 : Int32).toInt = 0 := rfl
  unfold jAbs
  by_cases h : (0 : Int32) ≤ x
  · rw [if_pos h]
    rw [Int32.le_iff_toInt_le, e0] at h
    omega
  · rw [if_neg h, Int32.toInt_sub, e0]
    rw [Int32.le_iff_toInt_le, e0] at h
    rw [gbm32 (by omega) (by omega)]
    omega
theorem pp_nearest : lp_nearest gRel := by
  intro c m hR p0
  obtain ⟨S, T, n, h, hr⟩ := hR
  have no : gRel c (zI m 0 0) := gNo h hr
  have h' : gCor S T c (zI m 0 0) := gCor_ag h gaC_rf gaM_0
  have hr' : gRR n c (zI m 0 0) := hr
  unfold f_X11_nearest f_X0_nearestWay f_X12_nearest
  simp only [gL_sort h'.1]
  generalize zI m 0 0 = m0 at *
  rcases gS_sort h.1 p0 with ⟨e0, s, x1, x2⟩ | e0
  case inr => simp only [e0, ↓reduceIte, Option.bind_some]; exact ⟨_, _, rfl, rfl, rfl, no⟩
  simp only [e0, gq_10, ↓reduceIte]
  obtain ⟨ra, rb, h1, h2, h3⟩ := gq_lock (La := fun n (a : Zst × Int32 × Int64 × Int64 × Int32) => L_X0_nearestWay_24 (fun σ7 w6 => J_X0_nearestWay_93 σ7 p0 w6) p0 n a.1 a.2.1 a.2.2.1 a.2.2.2.1 a.2.2.2.2)
    (Lb := fun n (a : Zst × Int32 × Int64 × Int64 × Int32 × Int32 × Int32) => L_X12_nearest_32 (fun σ7 w4 w5 w6 => J_X12_nearest_113 σ7 w4 w5 w6) p0 n a.1 a.2.1 a.2.2.1 a.2.2.2.1 a.2.2.2.2.1 a.2.2.2.2.2.1 a.2.2.2.2.2.2)
    (fun i a b => ∃ (c1 m1 : Zst) (v : Int32) (x y : Int64) (mo le : Int32), a = (c1, v, x, y, nI i) ∧ b = (m1, v, x, y, mo, le, nI i) ∧ gaC c c1 ∧ gaM m0 m1 ∧ gNR c c1 ∧ gNRm m0 m1 ∧ 0 ≤ x.toInt ∧ x.toInt ≤ 1000000 ∧ 0 ≤ y.toInt ∧ y.toInt ≤ 1000000 ∧
      (v = -2 ∨ ∃ (w : Nat) (m2 m3 : Zst), w < 4 ∧ v = nI w ∧ gaM m0 m2 ∧ f_X12_offs m2 p0 v = some m3 ∧ mo = m3.1 18 ∧ le = m3.1 19))
    (fun ra rb => ra.2 = rb.2 ∧ gRel ra.1 rb.1) 4 (by decide) (a := (c, -2, 0, 1, 0)) (b := (m0, -2, 0, 1, 0, 0, 0))
    (fun i a b hi hI => by
      obtain ⟨c1, m1, v, x, y, mo, le, rfl, rfl, aC, aM, nC, nM, b1, b2, b3, b4, hv⟩ := hI
      have hn : ¬ (4 : Int32) ≤ nI i := nI_ge (b := 4) hi (by decide)
      obtain ⟨c2, m2, k, f1, f2, aC2, aM2, nC2, nM2, k1, k2, k3, k4, ⟨k5, k6⟩, k7, k8, k9, k10⟩ := gMeasure (gCor_ag h' aC aM) x2 x1 rfl hi
      have aC' := gaC_tr aC aC2
      have aM' := gaM_tr aM aM2
      have nC' := gNR_tr nC nC2
      have nM' := gNRm_tr nM nM2
      have keep : v = -2 ∨ ∃ (w : Nat) (m2 m3 : Zst), w < 4 ∧ v = nI w ∧ gaM m0 m2 ∧ f_X12_offs m2 p0 v = some m3 ∧ mo = m3.1 18 ∧ le = m3.1 19 := hv
      by_cases hk : k = 0
      · refine ⟨(c2, v, x, y, nI (i + 1)), (m2, v, x, y, mo, le, nI (i + 1)), fun n => ?_, fun n => ?_, c2, m2, v, x, y, mo, le, rfl, rfl, aC', aM', nC', nM', b1, b2, b3, b4, keep⟩
        · subst hk; simp only [L_X0_nearestWay_24, if_neg hn, f1, Option.bind_some, k2, show (nI 0 ≤ (0 : Int32)) = True by decide, ↓reduceIte, nI_1]
        · subst hk; simp only [L_X12_nearest_32, if_neg hn, f2, Option.bind_some, k3, show (nI 0 ≤ (0 : Int32)) = True by decide, ↓reduceIte, nI_1]
      have hk2 : ¬ nI k ≤ 0 := nI_nle (by omega) (by omega)
      obtain ⟨j1, j2, -⟩ := gAbsI (x := c2.1 13) (by omega) (by omega)
      have new : (nI i = -2 ∨ ∃ (w : Nat) (m4 m3 : Zst), w < 4 ∧ nI i = nI w ∧ gaM m0 m4 ∧ f_X12_offs m4 p0 (nI i) = some m3 ∧ m2.1 18 = m3.1 18 ∧ m2.1 19 = m3.1 19) := Or.inr ⟨i, m1, m2, hi, rfl, aM, f2, rfl, rfl⟩
      have goA : ∀ n, (v < 0 ∨ (Int32.toInt64 (jAbs (c2.1 13)) * y).toInt < (x * Int32.toInt64 (nI k)).toInt) → L_X0_nearestWay_24 (fun σ7 w6 => J_X0_nearestWay_93 σ7 p0 w6) p0 (n + 1) c1 v x y (nI i) = L_X0_nearestWay_24 (fun σ7 w6 => J_X0_nearestWay_93 σ7 p0 w6) p0 n c2 (nI i) (Int32.toInt64 (jAbs (c2.1 13))) (Int32.toInt64 (nI k)) (nI (i + 1)) := by
        intro n hq
        simp only [L_X0_nearestWay_24, if_neg hn, f1, Option.bind_some, k2, if_neg hk2, nI_1]
        by_cases hv0 : v < 0
        · rw [if_pos hv0]
        · rw [if_neg hv0, if_neg]
          unfold f_X11_compareFractions
          rw [gCmp, if_pos (hq.resolve_left hv0)]
          decide
      have goB : ∀ n, (v < 0 ∨ (Int32.toInt64 (jAbs (c2.1 13)) * y).toInt < (x * Int32.toInt64 (nI k)).toInt) → L_X12_nearest_32 (fun σ7 w4 w5 w6 => J_X12_nearest_113 σ7 w4 w5 w6) p0 (n + 1) m1 v x y mo le (nI i) = L_X12_nearest_32 (fun σ7 w4 w5 w6 => J_X12_nearest_113 σ7 w4 w5 w6) p0 n m2 (nI i) (Int32.toInt64 (jAbs (c2.1 13))) (Int32.toInt64 (nI k)) (m2.1 18) (m2.1 19) (nI (i + 1)) := by
        intro n hq
        simp only [L_X12_nearest_32, if_neg hn, f2, Option.bind_some, k3, if_neg hk2, nI_1, J_X12_nearest_82, ← k4]
        by_cases hv0 : v < 0
        · rw [if_pos hv0]
        · rw [if_neg hv0, if_neg]
          rw [Int64.le_iff_toInt_le]
          have := hq.resolve_left hv0
          omega
      by_cases hq : v < 0 ∨ (Int32.toInt64 (jAbs (c2.1 13)) * y).toInt < (x * Int32.toInt64 (nI k)).toInt
      · exact ⟨(c2, nI i, Int32.toInt64 (jAbs (c2.1 13)), Int32.toInt64 (nI k), nI (i + 1)), (m2, nI i, Int32.toInt64 (jAbs (c2.1 13)), Int32.toInt64 (nI k), m2.1 18, m2.1 19, nI (i + 1)), fun n => goA n hq, fun n => goB n hq, c2, m2, nI i, _, _, _, _, rfl, rfl, aC', aM', nC', nM', by rw [gl_toInt]; exact j1, by rw [gl_toInt]; exact j2, by rw [gl_toInt, nI_toInt (by omega)]; omega, by rw [gl_toInt, nI_toInt (by omega)]; omega, new⟩
      · have hv0 : ¬ v < 0 := fun q => hq (Or.inl q)
        have hq2 : ¬ (Int32.toInt64 (jAbs (c2.1 13)) * y).toInt < (x * Int32.toInt64 (nI k)).toInt := fun q => hq (Or.inr q)
        refine ⟨(c2, v, x, y, nI (i + 1)), (m2, v, x, y, mo, le, nI (i + 1)), fun n => ?_, fun n => ?_, c2, m2, v, x, y, mo, le, rfl, rfl, aC', aM', nC', nM', b1, b2, b3, b4, keep⟩
        · simp only [L_X0_nearestWay_24, if_neg hn, f1, Option.bind_some, k2, if_neg hk2, nI_1, if_neg hv0]
          rw [if_pos]
          unfold f_X11_compareFractions
          rw [gCmp, if_neg hq2]
          split <;> decide
        · simp only [L_X12_nearest_32, if_neg hn, f2, Option.bind_some, k3, if_neg hk2, nI_1, if_neg hv0, ← k4]
          rw [if_pos]
          rw [Int64.le_iff_toInt_le]
          omega)
    (fun a b hI => by
      obtain ⟨c1, m1, v, x, y, mo, le, rfl, rfl, aC, aM, nC, nM, b1, b2, b3, b4, hv⟩ := hI
      have hn : (4 : Int32) ≤ nI 4 := by decide
      have hr1 := gRR_nr hr' nC nM
      rcases hv with rfl | ⟨w, m2, m3, w1, rfl, aM2, g1, rfl, rfl⟩
      · refine ⟨(c1, -2), (m1, -2), fun n => ?_, fun n => ?_, rfl, gRel_of h' aC aM hr1⟩
        · simp only [L_X0_nearestWay_24, if_pos hn, J_X0_nearestWay_93, show ((-2 : Int32) < 0) = True by decide, ↓reduceIte]
        · simp only [L_X12_nearest_32, if_pos hn, J_X12_nearest_113, show ((-2 : Int32) < 0) = True by decide, ↓reduceIte]
      · obtain ⟨c2, m4, k, f1, f2, aC2, aM2', nC2, nM2, k1, k2, k3, k4, ⟨k5, k6⟩, k7, k8, k9, k10⟩ := gMeasure (gCor_ag h' aC aM2) x2 x1 rfl w1
        have e := Option.some.inj (g1.symm.trans f2)
        subst e
        have hr2 : gRR n c2 m1 := gRR_nr hr1 nC2 ⟨rfl, rfl⟩
        obtain ⟨w1', w2, w3, w4⟩ := gX_clear hr2
        obtain ⟨c3, m5, j1, j2, j3, j4, j5⟩ := gX_add w2 (by decide) (x := Int32.toInt64 ((zI c2 0 0).1 16)) (y := Int32.toInt64 (m3.1 18)) (congrArg Int32.toInt64 k9)
        have q1 := gOR_tr w3 j4
        obtain ⟨c4, m6, l1, l2, l3, l4, l5⟩ := gX_add j3 (by decide) (x := Int32.toInt64 (c3.1 17)) (y := Int32.toInt64 (m3.1 19)) (by rw [q1.1 17 (by decide), k10])
        have hw : ¬ nI w < 0 := nI_pos (by omega)
        refine ⟨(c4, nI w), (m6, nI w), fun n => ?_, fun n => ?_, rfl, gRel_of h' (gaC_tr aC (gaC_tr aC2 (gOR_a (gOR_tr q1 l4)))) (gaM_tr aM (gORm_a (gORm_tr (gORm_tr w4 j5) l5))) l3⟩
        · simp only [L_X0_nearestWay_24, if_pos hn, J_X0_nearestWay_93, if_neg hw, f1, w1', j1, l1, Option.bind_some]
        · simp only [L_X12_nearest_32, if_pos hn, J_X12_nearest_113, if_neg hw, j2, l2, Option.bind_some])
    ⟨c, m0, -2, 0, 1, 0, 0, rfl, rfl, gaC_rf, gaM_rf, ⟨rfl, rfl⟩, ⟨rfl, rfl⟩, by decide, by decide, by decide, by decide, Or.inl rfl⟩
  have h1 : L_X0_nearestWay_24 (fun σ7 w6 => J_X0_nearestWay_93 σ7 p0 w6) p0 zFu c (-2) 0 1 0 = some ra := h1
  have h2 : L_X12_nearest_32 (fun σ7 w4 w5 w6 => J_X12_nearest_113 σ7 w4 w5 w6) p0 zFu m0 (-2) 0 1 0 0 0 = some rb := h2
  rw [h1, h2]
  exact ⟨ra, rb, rfl, rfl, h3⟩
