theorem gMinLe (a b h : Int32) : (if jMin a b ≤ h then (0 : Int32) else 1) = (if a ≤ h then (0 : Int32) else (if b ≤ h then (0 : Int32) else 1)) := by
  rw [gMin]
  by_cases q : a ≤ b
  · rw [if_pos q]
    by_cases h1 : a ≤ h
    · rw [if_pos h1, if_pos h1]
    · rw [if_neg h1, if_neg h1, if_neg]
      rw [Int32.le_iff_toInt_le] at *
      omega
  · rw [if_neg q]
    by_cases h1 : b ≤ h
    · rw [if_pos h1]
      by_cases h2 : a ≤ h
      · rw [if_pos h2]
      · rw [if_neg h2]
    · rw [if_neg h1, if_neg]
      rw [Int32.le_iff_toInt_le] at *
      omega
theorem gflag2 (p q : Prop) [Decidable p] [Decidable q] : f_X12_flag (if p then (0 : Int32) else (if q then (0 : Int32) else 1)) = (if p then (0 : Int32) else (if q then (0 : Int32) else 1)) := by
  by_cases h : p
  · rw [if_pos h]; rfl
  · rw [if_neg h]; exact gflag0 q
/-- shop, a way and the neighbours -/
theorem gL_nb {S T : Nat} {c m : Zst} (h : gCor S T c m) {p1 : Int32} {s y i : Nat} (hs : s < S) (y2 : p1 = nI y) (y1 : y < 4) (hi : i < 12 * T) :
    (f_X0_hasNeighbours c (nI s) p1 (nI i) = some 0 ∧ f_X12_areNeighbours m (nI i) (nI s) p1 = some 0) ∨
    (f_X0_hasNeighbours c (nI s) p1 (nI i) = some 1 ∧ f_X12_areNeighbours m (nI i) (nI s) p1 = some 1 ∧ ∃ u v w : Nat, 0 < u ∧ u ≤ 1000 ∧ 0 < v ∧ v ≤ 1000 ∧ 0 < w ∧ w ≤ 1000 ∧ m.2.1 8 (gP 1 i s) = nI u ∧ m.2.1 8 (gP (2 + y) i s) = nI v ∧ m.2.1 8 (gP 5 i s) = nI w) := by
  have hT := h.1.1.2.1
  have hS := h.1.1.1
  have hw2 : (2 : Int32) + p1 = nI (2 + y) := by rw [y2, show (2 : Int32) = nI 2 from rfl, nI_add]
  unfold f_X0_hasNeighbours f_X12_areNeighbours
  rw [gL_has h.2.1 (x := 1) 1 i s rfl rfl rfl (by decide) (by omega) (by omega), gL_told h.2.1 (x := 1) 1 i s rfl rfl rfl (by decide) (by omega) (by omega)]
  rw [gL_has h.2.1 (2 + y) i s hw2 rfl rfl (by omega) (by omega) (by omega), gL_told h.2.1 (2 + y) i s hw2 rfl rfl (by omega) (by omega) (by omega)]
  rw [gL_has h.2.1 (x := 5) 5 i s rfl rfl rfl (by decide) (by omega) (by omega), gL_told h.2.1 (x := 5) 5 i s rfl rfl rfl (by decide) (by omega) (by omega)]
  obtain ⟨u, u1, u2, -⟩ := gL_val h.2.1 (k := 1) (j := i) (s := s) (by decide) (by omega) (by omega)
  obtain ⟨v, v1, v2, -⟩ := gL_val h.2.1 (k := 2 + y) (j := i) (s := s) (by omega) (by omega) (by omega)
  obtain ⟨w, w1, w2, -⟩ := gL_val h.2.1 (k := 5) (j := i) (s := s) (by decide) (by omega) (by omega)
  rw [u2, v2, w2]
  rcases gtf_c (nI u) with b1 | b1
  · left; simp only [b1, ↓reduceIte, Option.bind_some, and_self]
  rcases gtf_c (nI v) with b2 | b2
  · left; simp only [b1, b2, gq_10, ↓reduceIte, Option.bind_some, and_self]
  rcases gtf_c (nI w) with b3 | b3
  · left; simp only [b1, b2, b3, gq_10, ↓reduceIte, Option.bind_some, and_self]
  · right
    simp only [b1, b2, b3, gq_10, ↓reduceIte, Option.bind_some]
    exact ⟨trivial, trivial, u, v, w, gtf_0 u1 b1, u1, gtf_0 v1 b2, v1, gtf_0 w1 b3, w1, rfl, rfl, rfl⟩
theorem pp_others : lp_others gRel := by
  intro c m hR p0 p1
  obtain ⟨S, T, n, h, hr⟩ := hR
  have no : gRel c (zI m 0 0) := gNo h hr
  have h' : gCor S T c (zI m 0 0) := gCor_ag h gaC_rf gaM_0
  have hr' : gRR n c (zI m 0 0) := hr
  have hT := h.1.1.2.1
  have hS := h.1.1.1
  unfold f_X11_others f_X0_nearerNeighbours f_X12_others
  simp only [gL_sort h'.1, gq_in_0_2]
  generalize zI m 0 0 = m0 at *
  rcases gS_sort h.1 p0 with ⟨e0, s, x1, x2⟩ | e0
  case inr => simp only [e0, ↓reduceIte, Option.bind_some]; exact ⟨_, _, rfl, rfl, rfl, no⟩
  rcases gS_btw (p := p1) (a := 0) (b := 2) 0 2 rfl rfl (by decide) (by decide) with ⟨e1, y, -, y1, y2⟩ | e1
  case inr => simp only [e0, e1, gq_10, ↓reduceIte, Option.bind_some]; exact ⟨_, _, rfl, rfl, rfl, no⟩
  simp only [e0, e1, gq_10, ↓reduceIte]
  subst x2
  have hw2 : (2 : Int32) + p1 = nI (2 + y) := by rw [y2, show (2 : Int32) = nI 2 from rfl, nI_add]
  obtain ⟨hc, hc'⟩ := gL_cells h'.1
  obtain ⟨ra, rb, h1, h2, h3⟩ := gq_lock (La := fun n (a : Int32 × Int32 × Int32 × Int32) => L_X0_nearerNeighbours_33 (fun w19 w20 w21 => J_X0_nearerNeighbours_188 c w19 w20 w21) c (nI s) p1 n a.1 a.2.1 a.2.2.1 a.2.2.2)
    (Lb := fun n (a : Int32 × Int32 × Int32 × Int32) => L_X12_others_38 (fun w14 w15 w16 => J_X12_others_199 m0 w14 w15 w16) m0 (nI s) p1 n a.1 a.2.1 a.2.2.1 a.2.2.2)
    (fun i a b => b = a ∧ a.2.2.2 = nI i)
    (fun ra rb => ra.2 = rb.2 ∧ gRel ra.1 rb.1) (12 * T) (by omega) (a := (0, 0, 0, 0)) (b := (0, 0, 0, 0))
    (fun i a b hi hI => by
      obtain ⟨rfl, h2⟩ := hI
      obtain ⟨k1, k2, k3, q⟩ := b
      have h2 : q = nI i := h2
      subst h2
      have hn : ¬ nI (12 * T) ≤ nI i := nI_ge hi (by omega)
      have t3 := gL_of h'.2.1 (x := 1) 1 i s rfl rfl rfl (by decide) (by omega) (by omega)
      have t4 := gL_at (m := m0) (x := 1) 1 i s rfl rfl rfl (by decide) (by omega) (by omega)
      have u3 := gL_of h'.2.1 (2 + y) i s hw2 rfl rfl (by omega) (by omega) (by omega)
      have u4 := gL_at (m := m0) (2 + y) i s hw2 rfl rfl (by omega) (by omega) (by omega)
      have w3 := gL_of h'.2.1 (x := 5) 5 i s rfl rfl rfl (by decide) (by omega) (by omega)
      have w4 := gL_at (m := m0) (x := 5) 5 i s rfl rfl rfl (by decide) (by omega) (by omega)
      rcases gL_nb h' x1 y2 (by omega) hi with ⟨g1, g2⟩ | ⟨g1, g2, -⟩
      · refine ⟨(k1, k2, k3, nI (i + 1)), _, fun n => ?_, fun n => ?_, rfl, rfl⟩
        · simp only [L_X0_nearerNeighbours_33, hc, if_neg hn, g1, Option.bind_some, ↓reduceIte, nI_1]
        · simp only [L_X12_others_38, hc', if_neg hn, g2, Option.bind_some, ↓reduceIte, nI_1]
      · generalize m0.2.1 8 (gP 1 i s) - 1 = sold at t3 t4
        generalize m0.2.1 8 (gP (2 + y) i s) - 1 = own at u3 u4
        generalize m0.2.1 8 (gP 5 i s) - 1 = nb at w3 w4
        refine ⟨(k1 + (if jAbs (own - sold) ≤ jAbs (nb - sold) then (0 : Int32) else 1), k2 + (if jAbs (nb - sold) ≤ jAbs (own - sold) then (0 : Int32) else 1), k3 + (if jAbs (own - sold) ≤ jAbs ((own + nb) / 2 - sold) then (0 : Int32) else (if jAbs (nb - sold) ≤ jAbs ((own + nb) / 2 - sold) then (0 : Int32) else 1)), nI (i + 1)), _, fun n => ?_, fun n => ?_, rfl, rfl⟩
        · simp only [L_X0_nearerNeighbours_33, hc, if_neg hn, g1, Option.bind_some, gq_10, ↓reduceIte, t3, u3, w3, nI_1, gMinLe]
        · simp only [L_X12_others_38, hc', if_neg hn, g2, Option.bind_some, gq_10, ↓reduceIte, t4, u4, w4, nI_1, gflag2, gflag0])
    (fun a b hI => by
      obtain ⟨rfl, h2⟩ := hI
      obtain ⟨k1, k2, k3, q⟩ := b
      have h2 : q = nI (12 * T) := h2
      subst h2
      have hn : nI (12 * T) ≤ nI (12 * T) := nI_le (Nat.le_refl _) (by omega)
      obtain ⟨w1', w2', w3', w4'⟩ := gX_clear hr'
      obtain ⟨c3, m3, j1, j2, j3, j4, j5⟩ := gX_add w2' (by decide) (x := Int32.toInt64 k2) rfl
      obtain ⟨c4, m4, l1, l2, l3, l4, l5⟩ := gX_add j3 (by decide) (x := Int32.toInt64 k3) rfl
      refine ⟨(c4, k1), (m4, k1), fun n => ?_, fun n => ?_, rfl, gRel_of h' (gOR_a (gOR_tr w3' (gOR_tr j4 l4))) (gORm_a (gORm_tr w4' (gORm_tr j5 l5))) l3⟩
      · simp only [L_X0_nearerNeighbours_33, hc, if_pos hn, J_X0_nearerNeighbours_188, w1', j1, l1, Option.bind_some]
      · simp only [L_X12_others_38, hc', if_pos hn, J_X12_others_199, j2, l2, Option.bind_some])
    ⟨rfl, rfl⟩
  have h1 : L_X0_nearerNeighbours_33 (fun w19 w20 w21 => J_X0_nearerNeighbours_188 c w19 w20 w21) c (nI s) p1 zFu 0 0 0 0 = some ra := h1
  have h2 : L_X12_others_38 (fun w14 w15 w16 => J_X12_others_199 m0 w14 w15 w16) m0 (nI s) p1 zFu 0 0 0 0 = some rb := h2
  rw [h1, h2]
  exact ⟨ra, rb, rfl, rfl, h3⟩
theorem gDle {a b : Nat} (ha : a < 2 ^ 29) (hb : b < 2 ^ 29) : (nI a - nI b ≤ 0) = (nI a ≤ nI b) := by
  rw [eq_iff_iff, Int32.le_iff_toInt_le, pk_sub_toInt (by omega) (by omega), nI_leI (by omega) (by omega)]
  show ((a : Int) - b ≤ 0) ↔ _
  omega
theorem gMx0 {a b : Nat} (ha : a < 2 ^ 29) (hb : b < 2 ^ 29) : jMax 0 (nI a - nI b) = (if nI a ≤ nI b then (0 : Int32) else nI a - nI b) := by
  rw [gMax]
  simp only [gDle ha hb]
theorem pp_moved : lp_moved gRel := by
  intro c m hR p0 p1
  obtain ⟨S, T, n, h, hr⟩ := hR
  have no : gRel c (zI m 0 0) := gNo h hr
  have h' : gCor S T c (zI m 0 0) := gCor_ag h gaC_rf gaM_0
  have hr' : gRR n c (zI m 0 0) := hr
  have hT := h.1.1.2.1
  have hS := h.1.1.1
  unfold f_X11_moved f_X6_cameAndWent f_X12_moved
  simp only [gL_sort h'.1, gL_week]
  generalize zI m 0 0 = m0 at *
  rcases gS_sort h.1 p0 with ⟨e0, s, x1, x2⟩ | e0
  case inr => simp only [e0, ↓reduceIte, Option.bind_some]; exact ⟨_, _, rfl, rfl, rfl, no⟩
  rcases gS_week p1 with ⟨e1, y, y1, y2⟩ | e1
  case inr => simp only [e0, e1, gq_10, ↓reduceIte, Option.bind_some]; exact ⟨_, _, rfl, rfl, rfl, no⟩
  simp only [e0, e1, gq_10, ↓reduceIte]
  subst x2 y2
  have hs1 : f_X10_streetCount c = nI T := h'.1.1.2.2.2.2.1
  have hs2 : m0.1 3 = nI T := h'.1.1.2.2.2.2.2
  obtain ⟨l, l1, l2, l3, l4⟩ := gL_leaves h'.1 (p := nI s) rfl x1
  obtain ⟨ra, rb, h1, h2, h3⟩ := gq_lock (La := fun n (a : Int32 × Int32 × Int32 × Int32 × Int32) => L_X6_cameAndWent_34 (fun w18 w19 w20 w21 => J_X6_cameAndWent_211 c w18 w19 w20 w21) c (nI s) (nI y) n a.1 a.2.1 a.2.2.1 a.2.2.2.1 a.2.2.2.2)
    (Lb := fun n (a : Int32 × Int32 × Int32 × Int32 × Int32) => L_X12_moved_36 (fun w14 w15 w16 w17 => J_X12_moved_186 m0 w14 w15 w16 w17) m0 (nI s) (nI y) n a.1 a.2.1 a.2.2.1 a.2.2.2.1 a.2.2.2.2)
    (fun i a b => b = a ∧ a.2.2.2.2 = nI i)
    (fun ra rb => ra.2 = rb.2 ∧ gRel ra.1 rb.1) T (by omega) (a := (0, 0, 0, 0, 0)) (b := (0, 0, 0, 0, 0))
    (fun i a b hi hI => by
      obtain ⟨rfl, h2⟩ := hI
      obtain ⟨k1, k2, k3, k4, q⟩ := b
      have h2 : q = nI i := h2
      subst h2
      have hn : ¬ nI T ≤ nI i := nI_ge hi (by omega)
      have hce : (12 : Int32) * nI i + nI y = nI (12 * i + y) := by rw [show (12 : Int32) = nI 12 from rfl, pk_mul, nI_add]
      have t1 := gL_has h'.2.1 (x := 0) 0 (12 * i + y) s rfl rfl rfl (by decide) (by omega) (by omega)
      have t2 := gL_told h'.2.1 (x := 0) 0 (12 * i + y) s rfl rfl rfl (by decide) (by omega) (by omega)
      have t3 := gL_of h'.2.1 (x := 0) 0 (12 * i + y) s rfl rfl rfl (by decide) (by omega) (by omega)
      have t4 := gL_at (m := m0) (x := 0) 0 (12 * i + y) s rfl rfl rfl (by decide) (by omega) (by omega)
      have u1 := gL_has h'.2.1 (x := 1) 1 (12 * i + y) s rfl rfl rfl (by decide) (by omega) (by omega)
      have u2 := gL_told h'.2.1 (x := 1) 1 (12 * i + y) s rfl rfl rfl (by decide) (by omega) (by omega)
      have u3 := gL_of h'.2.1 (x := 1) 1 (12 * i + y) s rfl rfl rfl (by decide) (by omega) (by omega)
      have u4 := gL_at (m := m0) (x := 1) 1 (12 * i + y) s rfl rfl rfl (by decide) (by omega) (by omega)
      obtain ⟨v, v1, v2, -⟩ := gL_val h'.2.1 (k := 0) (j := 12 * i + y) (s := s) (by decide) (by omega) (by omega)
      obtain ⟨q, q1, q2, -⟩ := gL_val h'.2.1 (k := 1) (j := 12 * i + y) (s := s) (by decide) (by omega) (by omega)
      rw [v2] at t1 t2 t3 t4
      rw [q2] at u1 u2 u3 u4
      rcases gtf_c (nI v) with b3 | b3
      · refine ⟨(k1, k2, k3, k4, nI (i + 1)), _, fun n => ?_, fun n => ?_, rfl, rfl⟩
        · simp only [L_X6_cameAndWent_34, hs1, if_neg hn, hce, t1, b3, Option.bind_some, ↓reduceIte, nI_1]
        · simp only [L_X12_moved_36, hs2, if_neg hn, hce, t2, b3, Option.bind_some, ↓reduceIte, nI_1]
      rcases gtf_c (nI q) with b4 | b4
      · refine ⟨(k1, k2, k3, k4, nI (i + 1)), _, fun n => ?_, fun n => ?_, rfl, rfl⟩
        · simp only [L_X6_cameAndWent_34, hs1, if_neg hn, hce, t1, u1, b3, b4, gq_10, Option.bind_some, ↓reduceIte, nI_1]
        · simp only [L_X12_moved_36, hs2, if_neg hn, hce, t2, u2, b3, b4, gq_10, Option.bind_some, ↓reduceIte, nI_1]
      · have v3 := gtf_0 v1 b3
        have q3 := gtf_0 q1 b4
        have ev : nI v - 1 = nI (v - 1) := by rw [show (1 : Int32) = nI 1 from rfl, pk_sub v3]
        have eq' : nI q - 1 = nI (q - 1) := by rw [show (1 : Int32) = nI 1 from rfl, pk_sub q3]
        have hm9 : (q - 1) * l ≤ 1000 * 100 := gMulLe (by omega) l2
        have el : nI (q - 1) * nI l / 100 = nI ((q - 1) * l / 100) := by rw [pk_mul, show (100 : Int32) = nI 100 from rfl, pk_div (by omega) (by decide) (by decide)]
        have hd9 : (q - 1) * l / 100 ≤ 1000 := by omega
        refine ⟨(k1 + (if nI (v - 1) ≤ nI (q - 1) then (0 : Int32) else nI (v - 1) - nI (q - 1)), k2 + (if nI ((q - 1) * l / 100) ≤ nI (v - 1) then (0 : Int32) else nI ((q - 1) * l / 100) - nI (v - 1)), k3 ||| (if nI (v - 1) ≤ nI (q - 1) then (0 : Int32) else jShl 1 (nI i)), k4 ||| (if nI ((q - 1) * l / 100) ≤ nI (v - 1) then (0 : Int32) else jShl 1 (nI i)), nI (i + 1)), _, fun n => ?_, fun n => ?_, rfl, rfl⟩
        · simp only [L_X6_cameAndWent_34, hs1, if_neg hn, hce, t1, u1, t3, u3, b3, b4, gq_10, Option.bind_some, ↓reduceIte, nI_1, l3, ev, eq', el]
        · simp only [L_X12_moved_36, hs2, if_neg hn, hce, t2, u2, t4, u4, b3, b4, gq_10, Option.bind_some, ↓reduceIte, nI_1, gGx (show s < 8 by omega) (by decide), nI_clamp (show s < 2 ^ 31 by omega), l4, ev, eq', el, gMx0 (show v - 1 < 2 ^ 29 by omega) (show q - 1 < 2 ^ 29 by omega), gMx0 (show (q - 1) * l / 100 < 2 ^ 29 by omega) (show v - 1 < 2 ^ 29 by omega), gDle (show v - 1 < 2 ^ 29 by omega) (show q - 1 < 2 ^ 29 by omega), gDle (show (q - 1) * l / 100 < 2 ^ 29 by omega) (show v - 1 < 2 ^ 29 by omega)])
    (fun a b hI => by
      obtain ⟨rfl, h2⟩ := hI
      obtain ⟨k1, k2, k3, k4, q⟩ := b
      have h2 : q = nI T := h2
      subst h2
      have hn : nI T ≤ nI T := nI_le (Nat.le_refl _) (by omega)
      obtain ⟨w1', w2', w3', w4'⟩ := gX_clear hr'
      obtain ⟨c3, m3, j1, j2, j3, j4, j5⟩ := gX_add w2' (by decide) (x := Int32.toInt64 k2) rfl
      obtain ⟨c4, m4, i1, i2, i3, i4, i5⟩ := gX_add j3 (by decide) (x := Int32.toInt64 k3) rfl
      obtain ⟨c5, m5, o1, o2, o3, o4, o5⟩ := gX_add i3 (by decide) (x := Int32.toInt64 k4) rfl
      refine ⟨(c5, k1), (m5, k1), fun n => ?_, fun n => ?_, rfl, gRel_of h' (gOR_a (gOR_tr w3' (gOR_tr j4 (gOR_tr i4 o4)))) (gORm_a (gORm_tr w4' (gORm_tr j5 (gORm_tr i5 o5)))) o3⟩
      · simp only [L_X6_cameAndWent_34, hs1, if_pos hn, J_X6_cameAndWent_211, w1', j1, i1, o1, Option.bind_some]
      · simp only [L_X12_moved_36, hs2, if_pos hn, J_X12_moved_186, j2, i2, o2, Option.bind_some])
    ⟨rfl, rfl⟩
  have h1 : L_X6_cameAndWent_34 (fun w18 w19 w20 w21 => J_X6_cameAndWent_211 c w18 w19 w20 w21) c (nI s) (nI y) zFu 0 0 0 0 0 = some ra := h1
  have h2 : L_X12_moved_36 (fun w14 w15 w16 w17 => J_X12_moved_186 m0 w14 w15 w16 w17) m0 (nI s) (nI y) zFu 0 0 0 0 0 = some rb := h2
  rw [h1, h2]
  exact ⟨ra, rb, rfl, rfl, h3⟩
theorem gL_set {S T : Nat} {c m : Zst} (h : gCor S T c m) {x y z w : Int32} (k j s : Nat) (hx : x = nI k) (hy : y = nI j) (hz : z = nI s) (hk : k < 6) (hj : j < 96) (hs : s < 8) {v : Nat} (hv : v ≤ 1000) (hw : w = nI v - 1) :
    f_X4_change c x y z w = some (zA c 1 (upd (c.2.1 1) (gP k j s) (nI v - 1))) ∧ f_X12_sets m x y z w = some (zA m 8 (upd (m.2.1 8) (gP k j s) (nI v))) ∧
    gCor S T (zA c 1 (upd (c.2.1 1) (gP k j s) (nI v - 1))) (zA m 8 (upd (m.2.1 8) (gP k j s) (nI v))) := by
  have hp := gP_lt hk hj hs
  obtain ⟨q1, q2⟩ := gL_pl k j s hx hy hz hk hj hs
  subst hw
  refine ⟨?_, ?_, h.1, ⟨⟨h.2.1.1.1, fun p hp2 => ?_⟩, h.2.1.2⟩, h.2.2.1, h.2.2.2.1, h.2.2.2.2.1, h.2.2.2.2.2.1, h.2.2.2.2.2.2⟩
  · unfold f_X4_change
    rw [q1, if_neg (nI_pos (show gP k j s < 2 ^ 31 by omega)), if_neg (show ¬ (4608 : Int32) ≤ nI (gP k j s) from nI_ge (b := 4608) hp (by decide)), gGx hp (by decide), nI_clamp (show gP k j s < 2 ^ 31 by omega)]
  · unfold f_X12_sets
    rw [q2, gGx hp (by decide), nI_clamp (show gP k j s < 2 ^ 31 by omega), Int32.sub_add_cancel]
  · show ∃ w : Nat, w ≤ 1000 ∧ upd (c.2.1 1) (gP k j s) (nI v - 1) p = nI w - 1 ∧ upd (m.2.1 8) (gP k j s) (nI v) (0 + p) = nI w
    by_cases e : p = gP k j s
    · exact ⟨v, hv, gU_eq e, gU_eq (by omega)⟩
    · rw [gU_ne e, gU_ne (by omega)]
      exact h.2.1.1.2 p hp2
/-- an entry of a sheet, put to -1 .. 999 -/
theorem gEntry (e : Int32) : ∃ v : Nat, v ≤ 1000 ∧ f_X11_within e (-1) 999 = nI v - 1 ∧ (if (0 : Int32) ≤ e then jMin 999 e else -1) = nI v - 1 := by
  have n1 : (-1 : Int32).toInt = -1 := rfl
  have n0 : (0 : Int32).toInt = 0 := rfl
  have n9 : (999 : Int32).toInt = 999 := rfl
  have m1 : ∀ v : Nat, v ≤ 1000 → ∀ x : Int32, x.toInt = (v : Int) - 1 → x = nI v - 1 := fun v hv x hx => Int32.toInt_inj.mp (by rw [hx, gq_m1 (by omega)])
  unfold f_X11_within
  rw [gMin]
  by_cases h1 : (-1 : Int32) ≤ e
  · have h1' := Int32.le_iff_toInt_le.mp h1
    by_cases h2 : e ≤ 999
    · have h2' := Int32.le_iff_toInt_le.mp h2
      refine ⟨(e.toInt + 1).toNat, by omega, ?_, ?_⟩
      · rw [if_pos h1, if_pos h2]
        exact m1 _ (by omega) _ (by omega)
      · by_cases h3 : (0 : Int32) ≤ e
        · rw [if_pos h3]
          by_cases h4 : (999 : Int32) ≤ e
          · have h4' := Int32.le_iff_toInt_le.mp h4
            rw [if_pos h4]
            exact m1 _ (by omega) _ (by omega)
          · rw [if_neg h4]
            exact m1 _ (by omega) _ (by omega)
        · have h3' : ¬ (0 : Int32).toInt ≤ e.toInt := fun q => h3 (Int32.le_iff_toInt_le.mpr q)
          rw [if_neg h3]
          exact m1 _ (by omega) _ (by omega)
    · have h2' : ¬ e.toInt ≤ (999 : Int32).toInt := fun q => h2 (Int32.le_iff_toInt_le.mpr q)
      have h3 : (0 : Int32) ≤ e := Int32.le_iff_toInt_le.mpr (by omega)
      have h4 : (999 : Int32) ≤ e := Int32.le_iff_toInt_le.mpr (by omega)
      refine ⟨1000, Nat.le_refl _, ?_, ?_⟩
      · rw [if_pos h1, if_neg h2]; decide
      · rw [if_pos h3, if_pos h4]; decide
  · have h1' : ¬ (-1 : Int32).toInt ≤ e.toInt := fun q => h1 (Int32.le_iff_toInt_le.mpr q)
    have h3 : ¬ (0 : Int32) ≤ e := fun q => by have := Int32.le_iff_toInt_le.mp q; omega
    refine ⟨0, by decide, ?_, ?_⟩
    · rw [if_neg h1]; decide
    · rw [if_neg h3]; decide
