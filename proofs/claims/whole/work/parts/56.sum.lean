theorem gq_has (x y : Int32) : f_X12_has x y = f_X11_hasBit x y := rfl
theorem gtf_c (v : Int32) : gtf v = 0 ∨ gtf v = 1 := by
  unfold gtf
  by_cases h : v = 0
  · exact Or.inl (if_pos h)
  · exact Or.inr (if_neg h)
theorem gtf_0 {v : Nat} (hv : v ≤ 1000) (h : gtf (nI v) = 1) : 0 < v := by
  rcases Nat.eq_zero_or_pos v with rfl | h2
  · exact absurd h (by decide)
  · exact h2
theorem gl_1 {v : Nat} (h : 0 < v) (h2 : v ≤ 1000) : Int32.toInt64 (nI v - 1) = lN (v - 1) := by
  rw [show (1 : Int32) = nI 1 from rfl, pk_sub h, nI_l (by omega)]
theorem gq_m2 : ((-2 : Int32) = 0) = False := by decide
theorem pp_sum : lp_sum gRel := by
  intro c m hR p0 p1 p2 p3
  obtain ⟨S, T, n, h, hr⟩ := hR
  have no : gRel c (zI m 0 0) := gNo h hr
  have h' : gCor S T c (zI m 0 0) := gCor_ag h gaC_rf gaM_0
  have hr' : gRR n c (zI m 0 0) := hr
  have hm0 : gaM m (zI m 0 0) := gaM_0
  have hT := h.1.1.2.1
  have hS := h.1.1.1
  unfold f_X11_sum f_X0_total f_X12_sum
  simp only [gL_kind, gL_sort h'.1, gq_in_1_255, gq_in_1_4095]
  generalize zI m 0 0 = m0 at *
  rcases gS_kind p0 with ⟨e0, k, x1, x2⟩ | e0
  case inr => simp only [e0, ↓reduceIte, Option.bind_some]; exact ⟨_, _, rfl, rfl, rfl, no⟩
  rcases gS_sort h.1 p1 with ⟨e1, s, y1, y2⟩ | e1
  case inr => simp only [e0, e1, gq_10, ↓reduceIte, Option.bind_some]; exact ⟨_, _, rfl, rfl, rfl, no⟩
  rcases gS_btw (p := p2) (a := 1) (b := 255) 1 255 rfl rfl (by decide) (by decide) with ⟨e2, z, -⟩ | e2
  case inr => simp only [e0, e1, e2, gq_10, ↓reduceIte, Option.bind_some]; exact ⟨_, _, rfl, rfl, rfl, no⟩
  rcases gS_btw (p := p3) (a := 1) (b := 4095) 1 4095 rfl rfl (by decide) (by decide) with ⟨e3, w, -⟩ | e3
  case inr => simp only [e0, e1, e2, e3, gq_10, ↓reduceIte, Option.bind_some]; exact ⟨_, _, rfl, rfl, rfl, no⟩
  simp only [e0, e1, e2, e3, gq_10, ↓reduceIte]
  obtain ⟨hc, hc'⟩ := gL_cells h'.1
  obtain ⟨ra, rb, h1, h2, h3⟩ := gq_lock (La := fun n (a : Int32 × Int32 × Int32) => L_X0_total_64 (fun w11 w12 => J_X0_total_152 c w11 w12) c p0 p1 p2 p3 n a.1 a.2.1 a.2.2)
    (Lb := fun n (a : Int32 × Int32 × Int32) => L_X12_sum_56 (fun w4 w5 => J_X12_sum_126 m0 w4 w5) m0 p0 p1 p2 p3 n a.1 a.2.1 a.2.2) (fun i a b => b = a ∧ a.2.2 = nI i)
    (fun ra rb => ra.2 = rb.2 ∧ gRel ra.1 rb.1) (12 * T) (by omega) (a := (0, 0, 0)) (b := (0, 0, 0))
    (fun i a b hi hI => by
      obtain ⟨rfl, h2⟩ := hI
      obtain ⟨u, v, q⟩ := b
      have h2 : q = nI i := h2
      subst h2
      have t1 := gL_has h'.2.1 k i s x2 rfl y2 x1 (by omega) (by omega)
      have t2 := gL_told h'.2.1 k i s x2 rfl y2 x1 (by omega) (by omega)
      have t3 := gL_of h'.2.1 k i s x2 rfl y2 x1 (by omega) (by omega)
      have t4 := gL_at (m := m0) k i s x2 rfl y2 x1 (by omega) (by omega)
      have hn : ¬ nI (12 * T) ≤ nI i := nI_ge hi (by omega)
      by_cases b1 : f_X11_hasBit p2 (nI i / 12) = 0
      · refine ⟨(u, v, nI (i + 1)), _, fun n => ?_, fun n => ?_, rfl, rfl⟩
        · simp only [L_X0_total_64, hc, if_neg hn, b1, ↓reduceIte, nI_1]
        · simp only [L_X12_sum_56, hc', if_neg hn, gq_has, b1, ↓reduceIte, nI_1]
      by_cases b2 : f_X11_hasBit p3 (jRem (nI i) 12) = 0
      · refine ⟨(u, v, nI (i + 1)), _, fun n => ?_, fun n => ?_, rfl, rfl⟩
        · simp only [L_X0_total_64, hc, if_neg hn, b1, b2, ↓reduceIte, nI_1]
        · simp only [L_X12_sum_56, hc', if_neg hn, gq_has, b1, b2, ↓reduceIte, nI_1]
      rcases gtf_c (m0.2.1 8 (gP k i s)) with b3 | b3
      · refine ⟨(u, v, nI (i + 1)), _, fun n => ?_, fun n => ?_, rfl, rfl⟩
        · simp only [L_X0_total_64, hc, if_neg hn, b1, b2, gq_10, ↓reduceIte, nI_1, t1, b3, Option.bind_some]
        · simp only [L_X12_sum_56, hc', if_neg hn, gq_has, b1, b2, ↓reduceIte, nI_1, t2, b3, Option.bind_some]
      · refine ⟨(u + (m0.2.1 8 (gP k i s) - 1), v + 1, nI (i + 1)), _, fun n => ?_, fun n => ?_, rfl, rfl⟩
        · simp only [L_X0_total_64, hc, if_neg hn, b1, b2, gq_10, ↓reduceIte, nI_1, t1, t3, b3, Option.bind_some]
        · simp only [L_X12_sum_56, hc', if_neg hn, gq_has, b1, b2, gq_10, ↓reduceIte, nI_1, t2, t4, b3, Option.bind_some])
    (fun a b hI => by
      obtain ⟨rfl, h2⟩ := hI
      obtain ⟨u, v, q⟩ := b
      have h2 : q = nI (12 * T) := h2
      subst h2
      obtain ⟨w1, w2, w3, w4⟩ := gW_clear hr'
      obtain ⟨c1, m1, f1, f2, f3, f4, f5⟩ := gW_add w2 (by decide) (x := Int32.toInt64 v) rfl
      refine ⟨(c1, u), (m1, u), fun n => ?_, fun n => ?_, rfl, gRel_of h' (gaC_tr w3 f4) (gaM_tr w4 f5) f3⟩
      · simp only [L_X0_total_64, hc, if_pos (nI_le (Nat.le_refl _) (show 12 * T < 2 ^ 31 by omega)), J_X0_total_152, w1, f1, Option.bind_some]
      · simp only [L_X12_sum_56, hc', if_pos (nI_le (Nat.le_refl _) (show 12 * T < 2 ^ 31 by omega)), J_X12_sum_126, f2, Option.bind_some])
    ⟨rfl, rfl⟩
  have h1 : L_X0_total_64 (fun w11 w12 => J_X0_total_152 c w11 w12) c p0 p1 p2 p3 zFu 0 0 0 = some ra := h1
  have h2 : L_X12_sum_56 (fun w4 w5 => J_X12_sum_126 m0 w4 w5) m0 p0 p1 p2 p3 zFu 0 0 0 = some rb := h2
  rw [h1, h2]
  exact ⟨ra, rb, rfl, rfl, h3⟩
theorem gPm {x y : Nat} (hx : x ≤ 1000000000) (hy : y ≤ 1000000000) : (lN x * lN y).toInt = (x : Int) * y ∧ -4611686018427387904 ≤ (lN x * lN y).toInt ∧ (lN x * lN y).toInt ≤ 4611686018427387904 := by
  have h : x * y ≤ 1000000000 * 1000000000 := Nat.mul_le_mul hx hy
  rw [lN_mul, pk_lT (by omega)]
  exact ⟨by rw [Int.natCast_mul], by omega, by omega⟩
theorem gWaste (p : Int32) : (f_X11_between p 0 100 = 1 ∧ ∃ w, w ≤ 100 ∧ p = nI w ∧ Int32.toInt64 ((100 : Int32) - p) = lN (100 - w)) ∨ f_X11_between p 0 100 = 0 := by
  rcases gS_btw (p := p) (a := 0) (b := 100) 0 100 rfl rfl (by decide) (by decide) with ⟨e, w, -, h, rfl⟩ | e
  · left
    refine ⟨e, w, h, rfl, ?_⟩
    rw [show (100 : Int32) = nI 100 from rfl, pk_sub h, nI_l (by omega)]
  · exact Or.inr e
theorem pp_bounds : lp_bounds gRel := by
  intro c m hR p0 p1 p2
  obtain ⟨S, T, n, h, hr⟩ := hR
  have no : gRel c (zI m 0 0) := gNo h hr
  have h' : gCor S T c (zI m 0 0) := gCor_ag h gaC_rf gaM_0
  have hr' : gRR n c (zI m 0 0) := hr
  have hA0 : m.2.1 0 = (zI m 0 0).2.1 0 := rfl
  have hT := h.1.1.2.1
  have hS := h.1.1.1
  unfold f_X11_bounds f_X0_eatenInCell f_X12_bounds
  simp only [gL_cell h'.1, gL_sort h'.1, gq_in_0_100, hA0]
  generalize zI m 0 0 = m0 at *
  rcases gS_sort h.1 p0 with ⟨e0, s, x1, x2⟩ | e0
  case inr => simp only [e0, ↓reduceIte, Option.bind_some]; exact ⟨_, _, rfl, rfl, rfl, no⟩
  rcases gS_cell h.1 p1 with ⟨e1, j, y1, y2⟩ | e1
  case inr => simp only [e0, e1, gq_10, ↓reduceIte, Option.bind_some]; exact ⟨_, _, rfl, rfl, rfl, no⟩
  rcases gWaste p2 with ⟨e2, w, z1, z2, z3⟩ | e2
  case inr => simp only [e0, e1, e2, gq_10, ↓reduceIte, Option.bind_some]; exact ⟨_, _, rfl, rfl, rfl, no⟩
  subst x2 y2
  simp only [e0, e1, e2, gq_10, ↓reduceIte, gL_has h'.2.1 (x := 0) 0 j s rfl (y := nI j) rfl (z := nI s) rfl (by decide) (by omega) (by omega), gL_told h'.2.1 (x := 0) 0 j s rfl (y := nI j) rfl (z := nI s) rfl (by decide) (by omega) (by omega), gL_of h'.2.1 (x := 0) 0 j s rfl (y := nI j) rfl (z := nI s) rfl (by decide) (by omega) (by omega), gL_at (m := m0) (x := 0) 0 j s rfl (y := nI j) rfl (z := nI s) rfl (by decide) (by omega) (by omega), Option.bind_some]
  obtain ⟨v, v1, v2, -⟩ := gL_val h'.2.1 (k := 0) (j := j) (s := s) (by decide) (by omega) (by omega)
  rcases gtf_c (m0.2.1 8 (gP 0 j s)) with b3 | b3
  · simp only [b3, ↓reduceIte, Option.bind_some]; exact ⟨_, _, rfl, rfl, rfl, no⟩
  simp only [b3, gq_10, ↓reduceIte]
  rw [v2] at b3 ⊢
  have v3 := gtf_0 v1 b3
  obtain ⟨x, l1, l2, l3, l4⟩ := gL_leaves h'.1 (p := nI s) rfl x1
  obtain ⟨g, g1, g2, -⟩ := gL_stays h'.1 (p := nI s) rfl x1
  obtain ⟨w1, w2, w3, w4⟩ := gW_clear hr'
  simp only [l3, g2, w1, Option.bind_some, gl_1 v3 v1, z3, nI_l (show x < 2 ^ 31 by omega), gGx (show s < 8 by omega) (by decide), nI_clamp (show s < 2 ^ 31 by omega), l4]
  have q1 := gPm (x := v - 1) (y := 100 - w) (by omega) (by omega)
  obtain ⟨c1, m1, f1, f2, f3, f4, f5⟩ := gW_frac w2 (by decide) (x := lN (v - 1) * lN (100 - w)) (y := lN x) rfl rfl q1.2.1 q1.2.2 (by rw [pk_lT (by omega)]; omega) (by rw [pk_lT (by omega)]; omega) (by rw [pk_lT (by omega)]; omega)
  have hm1 : m1.2.1 0 s = nI x := by rw [(gaM_tr w4 f5).2 0 rfl]; exact l4
  obtain ⟨g', g1', g2', g3'⟩ := gL_stays (gRA_ag h'.1 (gaC_tr w3 f4) (gaM_tr w4 f5)) (p := nI s) rfl x1
  have hg : g' = g := by
    have e : f_X10_staysOf c1 (nI s) = f_X10_staysOf c (nI s) := by
      have a := gaC_tr w3 f4
      unfold f_X10_staysOf f_X10_hasSort
      rw [a.1 10 rfl, a.2 13 rfl, a.2 14 rfl, a.2 15 rfl]
    rw [g2', g2] at e
    have e := (nI_eq (show 100 - g' < 2 ^ 31 by omega) (show 100 - g < 2 ^ 31 by omega)).mp (Option.some.inj e)
    omega
  subst hg
  simp only [f1, f2, Option.bind_some, g3']
  have k1 : (nI (100 - g') = (0 : Int32)) = (g' = 100) := propext ⟨fun q => by have := (nI_eq (b := 0) (show 100 - g' < 2 ^ 31 by omega) (by decide)).mp q; omega, fun q => by subst q; rfl⟩
  have k2 : (nI g' = (100 : Int32)) = (g' = 100) := propext (nI_eq (b := 100) (by omega) (by decide))
  simp only [k1, k2]
  by_cases hg : g' = 100
  · simp only [if_pos hg, Option.bind_some]
    exact ⟨(c1, -3), (m1, -3), rfl, rfl, rfl, gRel_of h' (gaC_tr w3 f4) (gaM_tr w4 f5) f3⟩
  · have t1 : lN (v - 1) * 100 * 100 = lN ((v - 1) * 100 * 100) := by rw [show (100 : Int64) = lN 100 from rfl, lN_mul, lN_mul]
    have t2 : lN (v - 1) * 10000 = lN ((v - 1) * 100 * 100) := by rw [show (10000 : Int64) = lN 10000 from rfl, lN_mul, Nat.mul_assoc]
    have t3 : Int32.toInt64 ((100 : Int32) - nI g') = lN (100 - g') := by rw [show (100 : Int32) = nI 100 from rfl, pk_sub g1', nI_l (by omega)]
    have hp := gPm (x := x) (y := 100 - g') (by omega) (by omega)
    have hxy : x * 1 ≤ x * (100 - g') := Nat.mul_le_mul_left x (by omega)
    have hxz : x * (100 - g') ≤ 100 * 100 := Nat.mul_le_mul l2 (by omega)
    obtain ⟨c2, m2, i1, i2, i3, i4, i5⟩ := gW_frac f3 (by decide) (x := lN ((v - 1) * 100 * 100)) (y := lN x * lN (100 - g')) rfl rfl (by rw [pk_lT (by omega)]; omega) (by rw [pk_lT (by omega)]; omega) (by rw [lN_mul, pk_lT (by omega)]; omega) (by rw [lN_mul, pk_lT (by omega)]; omega) (by rw [lN_mul, pk_lT (by omega)]; omega)
    simp only [if_neg hg, t1, t2, t3, nI_l (show 100 - g' < 2 ^ 31 by omega), hm1, nI_l (show x < 2 ^ 31 by omega), i1, i2, Option.bind_some]
    exact ⟨(c2, 0), (m2, 0), rfl, rfl, rfl, gRel_of h' (gaC_tr (gaC_tr w3 f4) i4) (gaM_tr (gaM_tr w4 f5) i5) i3⟩
