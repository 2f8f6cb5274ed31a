/-- the judgement of a sort, both sides -/
theorem gJudge {S T : Nat} {c m : Zst} (h : gCor S T c m) {s Q : Nat} (hs : s < S) (hQ6 : Q ≤ 6) (q1 : c.1 19 = nI Q) (q2 : m.1 20 = nI Q) : ∃ (c' m' : Zst) (x : Int32), f_X8_judge c (nI s) = some (c', x) ∧ f_X12_holding m (nI s) = some (m', x) ∧ gaC c c' ∧ gaM m m' ∧ gNR c c' ∧ gNRm m m' ∧ ∀ st, st < Q → f_X12_fails m' (nI st) = some (c'.2.1 21 st) := by
  obtain ⟨c', m', g1, g2, g3, g4, g5, g6, g7⟩ := gMeasures h hs
  have p1 : c'.1 19 = nI Q := by rw [g3.1 19 rfl, q1]
  have p2 : m'.1 20 = nI Q := by rw [g4.1.1 20 rfl, q2]
  have hg := gCor_ag h g3 g4
  obtain ⟨ra, rb, h1, h2, c2, x, rfl, rfl, h3, h4, h5⟩ := gq_lock (La := fun n (a : Zst × Int32 × Int32) => L_X8_judge_39 n a.1 a.2.1 a.2.2)
    (Lb := fun n (a : Int32 × Int32) => L_X12_holding_9 m' n a.1 a.2)
    (fun i a b => ∃ (f : Nat → Int32) (x : Int32), a = (zA c' 21 f, x, nI i) ∧ b = (x, nI i) ∧ ∀ st, st < i → f_X12_fails m' (nI st) = some (f st))
    (fun ra rb => ∃ (c2 : Zst) (x : Int32), ra = (c2, x) ∧ rb = (m', x) ∧ gaC c' c2 ∧ gNR c' c2 ∧ ∀ st, st < Q → f_X12_fails m' (nI st) = some (c2.2.1 21 st)) Q (by omega) (a := (c', 0, 0)) (b := (0, 0))
    (fun i a b hi hI => by
      obtain ⟨f, x, rfl, rfl, hf⟩ := hI
      have e1 : ¬ nI Q ≤ nI i := nI_ge hi (by omega)
      have e2 : ¬ (6 : Int32) ≤ nI i := nI_ge (b := 6) (by omega) (by decide)
      obtain ⟨y, y1, y2⟩ := gFails (c := zA c' 21 f) (m := m') (gCor_ag hg (gaC_A gaC_rf rfl) gaM_rf) g7 p2 hQ6 hi
      have hU : upd f i y i = y := gU_eq rfl
      have p1' : (zA c' 21 f).1 19 = nI Q := p1
      have hf' : ∀ st, st < i + 1 → f_X12_fails m' (nI st) = some (upd f i y st) := fun st hst => by
        by_cases e : st = i
        · rw [gU_eq e, e]; exact y2
        · rw [gU_ne e]; exact hf st (by omega)
      have hz : (zA (zA c' 21 f) 21 (upd ((zA c' 21 f).2.1 21) i y)) = zA c' 21 (upd f i y) := gzAA _ _ _ _
      have hU2 : upd ((zA c' 21 f).2.1 21) i y i = y := gU_eq rfl
      by_cases e : y = 0
      · refine ⟨(zA c' 21 (upd f i y), x ||| jShl 1 (nI i), nI (i + 1)), (x ||| jShl 1 (nI i), nI (i + 1)), fun n => ?_, fun n => ?_, _, _, rfl, rfl, hf'⟩
        · simp only [L_X8_judge_39, p1', if_neg e1, if_neg e2, y1, Option.bind_some, gGx (show i < 6 by omega) (by decide), nI_clamp (show i < 2 ^ 31 by omega), hU2, hz, if_pos e, nI_1]
        · simp only [L_X12_holding_9, p2, if_neg e1, y2, Option.bind_some, if_pos e, nI_1]
      · refine ⟨(zA c' 21 (upd f i y), x, nI (i + 1)), (x, nI (i + 1)), fun n => ?_, fun n => ?_, _, _, rfl, rfl, hf'⟩
        · simp only [L_X8_judge_39, p1', if_neg e1, if_neg e2, y1, Option.bind_some, gGx (show i < 6 by omega) (by decide), nI_clamp (show i < 2 ^ 31 by omega), hU2, hz, if_neg e, nI_1]
        · simp only [L_X12_holding_9, p2, if_neg e1, y2, Option.bind_some, if_neg e, nI_1, Int32.or_zero])
    (fun a b hI => by
      obtain ⟨f, x, rfl, rfl, hf⟩ := hI
      have e1 : nI Q ≤ nI Q := Int32.le_refl _
      have p1' : (zA c' 21 f).1 19 = nI Q := p1
      exact ⟨(zA c' 21 f, x), (m', x), fun n => by simp only [L_X8_judge_39, p1', if_pos e1], fun n => by simp only [L_X12_holding_9, p2, if_pos e1], _, x, rfl, rfl, gaC_A gaC_rf rfl, ⟨rfl, rfl⟩, hf⟩)
    ⟨c'.2.1 21, 0, by
      have e0 : zA c' 21 (c'.2.1 21) = c' := by
        unfold zA
        obtain ⟨c1, c2, c3⟩ := c'
        simp only
        congr 2
        funext j
        by_cases h : j = 21
        · rw [if_pos h, h]
        · rw [if_neg h]
      rw [e0]; rfl, rfl, fun st hst => absurd hst (Nat.not_lt_zero st)⟩
  refine ⟨c2, m', x, ?_, ?_, gaC_tr g3 h3, g4, ⟨h4.1.trans g5.1, h4.2.trans g5.2⟩, g6, h5⟩
  · unfold f_X8_judge
    rw [g1]
    exact h1
  · unfold f_X12_holding
    rw [g2, Option.bind_some]
    exact h2
theorem gFailsFr {m m2 : Zst} (h : gORm m m2) (p : Int32) : f_X12_fails m2 p = f_X12_fails m p := by
  have e1 := h.2.1
  have e3 := h.2.2 3 (by decide)
  have e4 := h.2.2 4 (by decide)
  have key : ∀ n x y, L_X12_fails_7 m2 p n x y = L_X12_fails_7 m p n x y := by
    intro n
    induction n with
    | zero => intro x y; rfl
    | succ n ih => intro x y; simp only [L_X12_fails_7, J_X12_fails_129, e1, e3, e4, ih]
  exact key _ _ _
theorem pp_holds : lp_holds gRel := by
  intro c m hR p0
  obtain ⟨S, T, n, h, hr⟩ := hR
  have no : gRel c (zI m 0 0) := gNo h hr
  have h' : gCor S T c (zI m 0 0) := gCor_ag h gaC_rf gaM_0
  have hr' : gRR n c (zI m 0 0) := hr
  unfold f_X11_holds f_X8_standing f_X12_holds
  simp only [gL_sort h'.1]
  generalize zI m 0 0 = m0 at *
  rcases gS_sort h.1 p0 with ⟨e0, s, x1, x2⟩ | e0
  case inr => simp only [e0, ↓reduceIte, Option.bind_some]; exact ⟨_, _, rfl, rfl, rfl, no⟩
  subst x2
  obtain ⟨⟨Q, hQ, q1, q2, -⟩, -⟩ := id h'.2.2.2.2.2.2
  obtain ⟨c1, m1, x, g1, g2, g3, g4, g5, g6, g7⟩ := gJudge h' x1 hQ q1 q2
  simp only [e0, gq_10, ↓reduceIte, g1, g2, Option.bind_some]
  obtain ⟨w1, w2, w3, w4⟩ := gX_clear (gRR_nr hr' g5 g6)
  rw [w1, Option.bind_some]
  obtain ⟨ra, rb, h1, h2, h3, h4⟩ := gq_lock (La := fun n (a : Zst × Int32) => L_X8_standing_29 x n a.1 a.2)
    (Lb := fun n (a : Zst × Int32) => L_X12_holds_28 x n a.1 a.2)
    (fun i a b => ∃ (c2 m2 : Zst), a = (c2, nI i) ∧ b = (m2, nI i) ∧ gOR c1 c2 ∧ gORm m1 m2 ∧ gRR i c2 m2)
    (fun ra rb => ra.2 = rb.2 ∧ gRel ra.1 rb.1) Q (by omega) (a := (zI c1 0 0, 0)) (b := (zI m1 1 0, 0))
    (fun i a b hi hI => by
      obtain ⟨c2, m2, rfl, rfl, oc, om, rr⟩ := hI
      have e1 : ¬ nI Q ≤ nI i := nI_ge hi (by omega)
      have e2 : ¬ (6 : Int32) ≤ nI i := nI_ge (b := 6) (by omega) (by decide)
      have p1 : c2.1 19 = nI Q := by rw [oc.1 19 (by decide), g3.1 19 rfl, q1]
      have p2 : m2.1 20 = nI Q := by rw [om.1 20 (by decide), g4.1.1 20 rfl, q2]
      have p3 : c2.2.1 21 i = c1.2.1 21 i := by rw [oc.2.1]
      obtain ⟨c3, m3, j1, j2, j3, j4, j5⟩ := gX_add rr (by omega) (x := Int32.toInt64 (c1.2.1 21 i)) (y := Int32.toInt64 (c1.2.1 21 i)) rfl
      have p4 : f_X12_fails m2 (nI i) = some (c1.2.1 21 i) := by rw [gFailsFr om, g7 i hi]
      refine ⟨(c3, nI (i + 1)), (m3, nI (i + 1)), fun n => ?_, fun n => ?_, c3, m3, rfl, rfl, gOR_tr oc j4, gORm_tr om j5, j3⟩
      · simp only [L_X8_standing_29, p1, if_neg e1, if_neg e2, gGx (show i < 6 by omega) (by decide), nI_clamp (show i < 2 ^ 31 by omega), p3, j1, Option.bind_some, nI_1]
      · simp only [L_X12_holds_28, p2, if_neg e1, p4, j2, Option.bind_some, nI_1])
    (fun a b hI => by
      obtain ⟨c2, m2, rfl, rfl, oc, om, rr⟩ := hI
      have e1 : nI Q ≤ nI Q := Int32.le_refl _
      have p1 : c2.1 19 = nI Q := by rw [oc.1 19 (by decide), g3.1 19 rfl, q1]
      have p2 : m2.1 20 = nI Q := by rw [om.1 20 (by decide), g4.1.1 20 rfl, q2]
      exact ⟨(c2, x), (m2, x), fun n => by simp only [L_X8_standing_29, p1, if_pos e1], fun n => by simp only [L_X12_holds_28, p2, if_pos e1], rfl, gRel_of h' (gaC_tr g3 (gOR_a oc)) (gaM_tr g4 (gORm_a om)) rr⟩)
    ⟨zI c1 0 0, zI m1 1 0, rfl, rfl, w3, w4, w2⟩
  obtain ⟨ca, va⟩ := ra
  obtain ⟨cb, vb⟩ := rb
  have h3 : va = vb := h3
  subst h3
  rw [show L_X8_standing_29 x zFu (zI c1 0 0) 0 = some (ca, va) from h1]
  exact ⟨(ca, va), (cb, va), rfl, h2, rfl, h4⟩
theorem pp_parts : lp_parts gRel := by
  intro c m hR
  obtain ⟨S, T, n, h, hr⟩ := hR
  have h' : gCor S T c (zI m 0 0) := gCor_ag h gaC_rf gaM_0
  have hr' : gRR n c (zI m 0 0) := hr
  unfold f_X11_parts f_X8_partingSort f_X12_parts
  generalize zI m 0 0 = m0 at *
  have hS := h'.1.1.1
  have s1 : c.1 10 = nI S := h'.1.1.2.2.1
  have s2 : m0.1 2 = nI S := h'.1.1.2.2.2.1
  obtain ⟨⟨Q, hQ, q1, q2, -⟩, -⟩ := id h'.2.2.2.2.2.2
  obtain ⟨ra, rb, h1, h2, h3, h4⟩ := gq_lock (La := fun n (a : Zst × Int32 × Int32 × Int32) => L_X8_partingSort_7 (fun σ6 w4 w5 => J_X8_partingSort_57 σ6 w4 w5) n a.1 a.2.1 a.2.2.1 a.2.2.2)
    (Lb := fun n (a : Zst × Int32 × Int32 × Int32) => L_X12_parts_12 (fun σ5 w3 w4 => J_X12_parts_59 σ5 w3 w4) n a.1 a.2.1 a.2.2.1 a.2.2.2)
    (fun i a b => ∃ (c2 m2 : Zst) (x y : Int32), a = (c2, x, y, nI i) ∧ b = (m2, x, y, nI i) ∧ gaC c c2 ∧ gaM m0 m2 ∧ gNR c c2 ∧ gNRm m0 m2)
    (fun ra rb => ra.2 = rb.2 ∧ gRel ra.1 rb.1) S (by omega) (a := (c, -2, 0, 0)) (b := (m0, -2, 0, 0))
    (fun i a b hi hI => by
      obtain ⟨c2, m2, x, y, rfl, rfl, ac, am, nc, nm⟩ := hI
      have p1 : f_X10_sortCount c2 = nI S := by unfold f_X10_sortCount; rw [ac.1 10 rfl, s1]
      have p2 : m2.1 2 = nI S := by rw [am.1.1 2 rfl, s2]
      have e1 : ¬ nI S ≤ nI i := nI_ge hi (by omega)
      obtain ⟨c3, m3, z, g1, g2, g3, g4, g5, g6, g7⟩ := gJudge (gCor_ag h' ac am) hi hQ (by rw [ac.1 19 rfl, q1]) (by rw [am.1.1 20 rfl, q2])
      have ac3 := gaC_tr ac g3
      have am3 := gaM_tr am g4
      have nc3 : gNR c c3 := ⟨g5.1.trans nc.1, g5.2.trans nc.2⟩
      have nm3 : gNRm m0 m3 := ⟨g6.1.trans nm.1, g6.2.trans nm.2⟩
      by_cases z0 : z = 0
      · refine ⟨(c3, x, y, nI (i + 1)), (m3, x, y, nI (i + 1)), fun n => ?_, fun n => ?_, _, _, _, _, rfl, rfl, ac3, am3, nc3, nm3⟩
        · simp only [L_X8_partingSort_7, p1, if_neg e1, g1, Option.bind_some, if_pos z0, nI_1]
        · simp only [L_X12_parts_12, p2, if_neg e1, g2, Option.bind_some, if_pos z0, nI_1]
      · by_cases x0 : x < 0
        · refine ⟨(c3, nI i, z, nI (i + 1)), (m3, nI i, z, nI (i + 1)), fun n => ?_, fun n => ?_, _, _, _, _, rfl, rfl, ac3, am3, nc3, nm3⟩
          · simp only [L_X8_partingSort_7, p1, if_neg e1, g1, Option.bind_some, if_neg z0, if_pos x0, nI_1]
          · simp only [L_X12_parts_12, p2, if_neg e1, g2, Option.bind_some, if_neg z0, if_pos x0, nI_1]
        · by_cases w : f_J6_bitCount_0f7a4 y ≤ f_J6_bitCount_0f7a4 z
          · refine ⟨(c3, x, y, nI (i + 1)), (m3, x, y, nI (i + 1)), fun n => ?_, fun n => ?_, _, _, _, _, rfl, rfl, ac3, am3, nc3, nm3⟩
            · simp only [L_X8_partingSort_7, p1, if_neg e1, g1, Option.bind_some, if_neg z0, if_neg x0, if_pos w, nI_1]
            · simp only [L_X12_parts_12, p2, if_neg e1, g2, Option.bind_some, if_neg z0, if_neg x0, if_pos w, nI_1]
          · refine ⟨(c3, nI i, z, nI (i + 1)), (m3, nI i, z, nI (i + 1)), fun n => ?_, fun n => ?_, _, _, _, _, rfl, rfl, ac3, am3, nc3, nm3⟩
            · simp only [L_X8_partingSort_7, p1, if_neg e1, g1, Option.bind_some, if_neg z0, if_neg x0, if_neg w, nI_1]
            · simp only [L_X12_parts_12, p2, if_neg e1, g2, Option.bind_some, if_neg z0, if_neg x0, if_neg w, nI_1])
    (fun a b hI => by
      obtain ⟨c2, m2, x, y, rfl, rfl, ac, am, nc, nm⟩ := hI
      have p1 : f_X10_sortCount c2 = nI S := by unfold f_X10_sortCount; rw [ac.1 10 rfl, s1]
      have p2 : m2.1 2 = nI S := by rw [am.1.1 2 rfl, s2]
      have e1 : nI S ≤ nI S := Int32.le_refl _
      have hr2 := gRR_nr hr' nc nm
      by_cases x0 : x < 0
      · exact ⟨(c2, x), (m2, x), fun n => by simp only [L_X8_partingSort_7, p1, if_pos e1, J_X8_partingSort_57, if_pos x0], fun n => by simp only [L_X12_parts_12, p2, if_pos e1, J_X12_parts_59, if_pos x0], rfl, gRel_of h' ac am hr2⟩
      · obtain ⟨w1, w2, w3, w4⟩ := gX_clear hr2
        obtain ⟨c3, m3, j1, j2, j3, j4, j5⟩ := gX_add w2 (by decide) (x := Int32.toInt64 y) (y := Int32.toInt64 y) rfl
        exact ⟨(c3, x), (m3, x), fun n => by simp only [L_X8_partingSort_7, p1, if_pos e1, J_X8_partingSort_57, if_neg x0, w1, j1, Option.bind_some], fun n => by simp only [L_X12_parts_12, p2, if_pos e1, J_X12_parts_59, if_neg x0, j2, Option.bind_some], rfl, gRel_of h' (gaC_tr ac (gOR_a (gOR_tr w3 j4))) (gaM_tr am (gORm_a (gORm_tr w4 j5))) j3⟩)
    ⟨c, m0, -2, 0, rfl, rfl, gaC_rf, gaM_rf, ⟨rfl, rfl⟩, ⟨rfl, rfl⟩⟩
  obtain ⟨ca, va⟩ := ra
  obtain ⟨cb, vb⟩ := rb
  have h3 : va = vb := h3
  subst h3
  rw [show L_X8_partingSort_7 (fun σ6 w4 w5 => J_X8_partingSort_57 σ6 w4 w5) zFu c (-2) 0 0 = some (ca, va) from h1]
  exact ⟨(ca, va), (cb, va), rfl, h2, rfl, h4⟩
