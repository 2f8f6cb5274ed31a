theorem pp_count : lp_count gRel := by
  intro c m hR p0
  obtain ⟨S, T, n, h, hr⟩ := hR
  have no : gRel c (zI m 0 0) := gNo h hr
  have h' : gCor S T c (zI m 0 0) := gCor_ag h gaC_rf gaM_0
  obtain ⟨Q, hQ, q1, q2, -⟩ := id h.2.2.2.2.2.2.1
  obtain ⟨P, -, -, k1, k2, -⟩ := id h.2.2.2.1
  obtain ⟨P', -, d1, d2, -⟩ := id h.2.2.2.2.1
  obtain ⟨N, -, x1, x2, -⟩ := id h.2.2.1
  have s1 := h.1.1.2.2.1
  have s2 := h.1.1.2.2.2.1
  have t1 := h.1.1.2.2.2.2.1
  have t2 := h.1.1.2.2.2.2.2
  have r1 := hr.2.1
  have r2 := hr.2.2.1
  have hlaw : ∃ x : Int32, f_X2_bits c = some x ∧ f_X12_lawBits (zI m 0 0) = some x := by
    have hl : gLawN (c.2.1 8) ((zI m 0 0).2.1 10) := h.2.2.2.2.2.1.1
    obtain ⟨ra, rb, h1, h2, h3⟩ := gq_lock (La := fun n (a : Int32 × Int32) => L_X2_bits_4 c n a.1 a.2) (Lb := fun n (a : Int32 × Int32) => L_X12_lawBits_4 (zI m 0 0) n a.1 a.2)
      (fun i a b => ∃ x : Int32, a = (x, nI i) ∧ b = (x, nI i)) (fun ra rb => ra = rb) 6 (by decide) (a := (0, 0)) (b := (0, 0))
      (fun i a b hi hI => by
        obtain ⟨x, rfl, rfl⟩ := hI
        obtain ⟨u, k, u1, u2, u3, u4, u5⟩ := hl i hi
        have e1 : ¬ (6 : Int32) ≤ nI i := nI_ge (b := 6) hi (by decide)
        have hist : f_X1_isText_L (nI i) = 1 := by
          unfold f_X1_isText_L
          rw [if_neg (nI_pos (by omega)), if_neg e1]
        have hsz : f_X1_sizeOf_L c (nI i) = some (nI u) := by
          unfold f_X1_sizeOf_L
          rw [hist, if_neg (by decide), gGx hi (by decide), nI_clamp (by omega), u3]
        by_cases z : u = 0
        · have zk := u5.mp z
          subst z zk
          refine ⟨(x, nI (i + 1)), (x, nI (i + 1)), fun n => ?_, fun n => ?_, x, rfl, rfl⟩
          · simp only [L_X2_bits_4, if_neg e1, hsz, Option.bind_some, show (nI 0 ≤ (0 : Int32)) = True by decide, ↓reduceIte, nI_1]
          · simp only [L_X12_lawBits_4, if_neg e1, gGx (show i < 7 by omega) (by decide), nI_clamp (show i < 2 ^ 31 by omega), u4, show (nI 0 ≤ (0 : Int32)) = True by decide, ↓reduceIte, nI_1, Int32.or_zero]
        · have zk : ¬ k = 0 := fun q => z (u5.mpr q)
          refine ⟨(x ||| jShl 1 (nI i), nI (i + 1)), (x ||| jShl 1 (nI i), nI (i + 1)), fun n => ?_, fun n => ?_, _, rfl, rfl⟩
          · simp only [L_X2_bits_4, if_neg e1, hsz, Option.bind_some, if_neg (nI_nle (show 0 < u by omega) (show u < 2 ^ 31 by omega)), nI_1]
          · simp only [L_X12_lawBits_4, if_neg e1, gGx (show i < 7 by omega) (by decide), nI_clamp (show i < 2 ^ 31 by omega), u4, if_neg (nI_nle (show 0 < k by omega) (show k < 2 ^ 31 by omega)), nI_1])
      (fun a b hI => by
        obtain ⟨x, rfl, rfl⟩ := hI
        exact ⟨x, x, fun n => by simp only [L_X2_bits_4, show ((6 : Int32) ≤ nI 6) = True by decide, ↓reduceIte], fun n => by simp only [L_X12_lawBits_4, show ((6 : Int32) ≤ nI 6) = True by decide, ↓reduceIte], rfl⟩)
      ⟨0, rfl, rfl⟩
    subst h3
    exact ⟨ra, h1, h2⟩
  have hnum : ∃ x : Int32, f_X4_size c = some x ∧ f_X12_numbersTold (zI m 0 0) = some x := by
    obtain ⟨ra, rb, h1, h2, h3⟩ := gq_lock (La := fun n (a : Int32 × Int32) => L_X4_size_4 c n a.1 a.2) (Lb := fun n (a : Int32 × Int32) => L_X12_numbersTold_4 (zI m 0 0) n a.1 a.2)
      (fun i a b => ∃ x : Int32, a = (x, nI i) ∧ b = (x, nI i)) (fun ra rb => ra = rb) 4608 (by decide) (a := (0, 0)) (b := (0, 0))
      (fun i a b hi hI => by
        obtain ⟨x, rfl, rfl⟩ := hI
        obtain ⟨v, v1, v2, v3⟩ := h.2.1.1.2 i hi
        rw [Nat.zero_add] at v3
        have v3 : (zI m 0 0).2.1 8 i = nI v := v3
        have e1 : ¬ (4608 : Int32) ≤ nI i := nI_ge (b := 4608) hi (by decide)
        by_cases z : v = 0
        · subst z
          refine ⟨(x, nI (i + 1)), (x, nI (i + 1)), fun n => ?_, fun n => ?_, x, rfl, rfl⟩
          · simp only [L_X4_size_4, if_neg e1, gGx hi (by decide), nI_clamp (show i < 2 ^ 31 by omega), v2, show (nI 0 - 1 < (0 : Int32)) = True by decide, ↓reduceIte, nI_1]
          · simp only [L_X12_numbersTold_4, if_neg e1, gGx hi (by decide), nI_clamp (show i < 2 ^ 31 by omega), v3, show (nI 0 ≤ (0 : Int32)) = True by decide, ↓reduceIte, nI_1, show f_X12_flag 0 = 0 from rfl, Int32.add_zero]
        · have hm : nI v - 1 = nI (v - 1) := by rw [show (1 : Int32) = nI 1 from rfl, pk_sub (show 1 ≤ v by omega)]
          refine ⟨(x + 1, nI (i + 1)), (x + 1, nI (i + 1)), fun n => ?_, fun n => ?_, _, rfl, rfl⟩
          · simp only [L_X4_size_4, if_neg e1, gGx hi (by decide), nI_clamp (show i < 2 ^ 31 by omega), v2, hm, if_neg (nI_pos (show v - 1 < 2 ^ 31 by omega)), nI_1]
          · simp only [L_X12_numbersTold_4, if_neg e1, gGx hi (by decide), nI_clamp (show i < 2 ^ 31 by omega), v3, if_neg (nI_nle (show 0 < v by omega) (show v < 2 ^ 31 by omega)), nI_1, show f_X12_flag 1 = 1 from rfl])
      (fun a b hI => by
        obtain ⟨x, rfl, rfl⟩ := hI
        exact ⟨x, x, fun n => by simp only [L_X4_size_4, show ((4608 : Int32) ≤ nI 4608) = True by decide, ↓reduceIte], fun n => by simp only [L_X12_numbersTold_4, show ((4608 : Int32) ≤ nI 4608) = True by decide, ↓reduceIte], rfl⟩)
      ⟨0, rfl, rfl⟩
    subst h3
    exact ⟨ra, h1, h2⟩
  obtain ⟨xl, l1, l2⟩ := hlaw
  obtain ⟨xn, n1, n2⟩ := hnum
  unfold f_X11_count f_X12_count
  rw [l1, l2, n1, n2]
  by_cases g0 : p0 = 0
  · rw [if_pos g0, if_pos g0]
    exact ⟨_, _, rfl, rfl, s1.trans s2.symm, no⟩
  rw [if_neg g0, if_neg g0]
  by_cases g1 : p0 = 1
  · rw [if_pos g1, if_pos g1]
    exact ⟨_, _, rfl, rfl, t1.trans t2.symm, no⟩
  rw [if_neg g1, if_neg g1]
  by_cases g2 : p0 = 2
  · rw [if_pos g2, if_pos g2]
    exact ⟨xl, (zI m 0 0, xl), rfl, rfl, rfl, no⟩
  rw [if_neg g2, if_neg g2]
  by_cases g3 : p0 = 3
  · rw [if_pos g3, if_pos g3]
    exact ⟨_, _, rfl, rfl, q1.trans q2.symm, no⟩
  rw [if_neg g3, if_neg g3]
  by_cases g4 : p0 = 4
  · rw [if_pos g4, if_pos g4]
    exact ⟨_, _, rfl, rfl, k1.trans k2.symm, no⟩
  rw [if_neg g4, if_neg g4]
  by_cases g5 : p0 = 5
  · rw [if_pos g5, if_pos g5]
    exact ⟨_, _, rfl, rfl, d1.trans d2.symm, no⟩
  rw [if_neg g5, if_neg g5]
  by_cases g6 : p0 = 6
  · rw [if_pos g6, if_pos g6]
    exact ⟨xn, (zI m 0 0, xn), rfl, rfl, rfl, no⟩
  rw [if_neg g6, if_neg g6]
  by_cases g7 : p0 = 7
  · rw [if_pos g7, if_pos g7]
    exact ⟨_, _, rfl, rfl, r1.trans r2.symm, no⟩
  rw [if_neg g7, if_neg g7]
  by_cases g8 : p0 = 8
  · rw [if_pos g8, if_pos g8]
    exact ⟨_, _, rfl, rfl, x1.trans x2.symm, no⟩
  rw [if_neg g8, if_neg g8]
  exact ⟨_, _, rfl, rfl, rfl, no⟩
