def gpi (k : Nat) : Nat := if k = 0 then 1 else if k = 1 then 0 else if k = 2 then 3 else 2
theorem gpi_lt : ∀ k, gpi k < 4 := by
  intro k; unfold gpi
  split <;> try omega
  split <;> try omega
  split <;> omega
theorem gpi_inj : ∀ k, k < 4 → ∀ g, g < 4 → ¬ k = g → ¬ gpi k = gpi g := by decide
theorem gFill44 (c : Zst) : ∃ c', f_J7_fill_d0a16_44 c 0 = some c' ∧ gaC c c' ∧ gNR c c' ∧ (∀ k, k < 4 → c'.2.2.1 6 k = 0) := by
  obtain ⟨fu, hfu⟩ := gFu5
  refine ⟨zL (zL (zL (zL c 6 (vp_updL (c.2.2.1 6) 0 0)) 6 (vp_updL (vp_updL (c.2.2.1 6) 0 0) 1 0)) 6 (vp_updL (vp_updL (vp_updL (c.2.2.1 6) 0 0) 1 0) 2 0)) 6 (vp_updL (vp_updL (vp_updL (vp_updL (c.2.2.1 6) 0 0) 1 0) 2 0) 3 0), ?_, gaC_rf, ⟨rfl, rfl⟩, ?_⟩
  · unfold f_J7_fill_d0a16_44
    rw [hfu]
    simp only [L_J7_fill_d0a16_44_6, show ((4 : Int32) ≤ 0) = False by decide, show (0 : Int32) + 1 = 1 by decide, show ((4 : Int32) ≤ 1) = False by decide, show (1 : Int32) + 1 = 2 by decide, show ((4 : Int32) ≤ 2) = False by decide, show (2 : Int32) + 1 = 3 by decide, show ((4 : Int32) ≤ 3) = False by decide, show (3 : Int32) + 1 = 4 by decide, show ((4 : Int32) ≤ 4) = True by decide, ↓reduceIte]
    rfl
  · intro k hk
    have h : k = 0 ∨ k = 1 ∨ k = 2 ∨ k = 3 := by omega
    rcases h with rfl | rfl | rfl | rfl <;> rfl
theorem gFill45 (c : Zst) : ∃ c', f_J7_fill_d0a16_45 c 0 = some c' ∧ gaC c c' ∧ gNR c c' ∧ (∀ k, k < 4 → c'.2.2.1 7 k = 0) ∧ c'.2.2.1 6 = c.2.2.1 6 := by
  obtain ⟨fu, hfu⟩ := gFu5
  refine ⟨zL (zL (zL (zL c 7 (vp_updL (c.2.2.1 7) 0 0)) 7 (vp_updL (vp_updL (c.2.2.1 7) 0 0) 1 0)) 7 (vp_updL (vp_updL (vp_updL (c.2.2.1 7) 0 0) 1 0) 2 0)) 7 (vp_updL (vp_updL (vp_updL (vp_updL (c.2.2.1 7) 0 0) 1 0) 2 0) 3 0), ?_, gaC_rf, ⟨rfl, rfl⟩, ?_, rfl⟩
  · unfold f_J7_fill_d0a16_45
    rw [hfu]
    simp only [L_J7_fill_d0a16_45_6, show ((4 : Int32) ≤ 0) = False by decide, show (0 : Int32) + 1 = 1 by decide, show ((4 : Int32) ≤ 1) = False by decide, show (1 : Int32) + 1 = 2 by decide, show ((4 : Int32) ≤ 2) = False by decide, show (2 : Int32) + 1 = 3 by decide, show ((4 : Int32) ≤ 3) = False by decide, show (3 : Int32) + 1 = 4 by decide, show ((4 : Int32) ≤ 4) = True by decide, ↓reduceIte]
    rfl
  · intro k hk
    have h : k = 0 ∨ k = 1 ∨ k = 2 ∨ k = 3 := by omega
    rcases h with rfl | rfl | rfl | rfl <;> rfl
theorem gFillM (m : Zst) (p0 p1 p2 : Int32) : ∃ m', (∀ k : Zst → Option (Zst × Int32), L_X12_does_37 k p0 p1 p2 zFu m 0 = k m') ∧ gaM m m' ∧ gNRm m m' ∧ (∀ k, k < 4 → m'.2.2.1 6 k = 0 ∧ m'.2.2.1 7 k = 0) := by
  obtain ⟨fu, hfu⟩ := gFu5
  refine ⟨zL (zL (zL (zL (zL (zL (zL (zL m 6 (vp_updL (m.2.2.1 6) 0 0)) 7 (vp_updL (m.2.2.1 7) 0 0)) 6 (vp_updL (vp_updL (m.2.2.1 6) 0 0) 1 0)) 7 (vp_updL (vp_updL (m.2.2.1 7) 0 0) 1 0)) 6 (vp_updL (vp_updL (vp_updL (m.2.2.1 6) 0 0) 1 0) 2 0)) 7 (vp_updL (vp_updL (vp_updL (m.2.2.1 7) 0 0) 1 0) 2 0)) 6 (vp_updL (vp_updL (vp_updL (vp_updL (m.2.2.1 6) 0 0) 1 0) 2 0) 3 0)) 7 (vp_updL (vp_updL (vp_updL (vp_updL (m.2.2.1 7) 0 0) 1 0) 2 0) 3 0), fun k => ?_, gaM_rf, ⟨rfl, rfl⟩, ?_⟩
  · rw [hfu]
    simp only [L_X12_does_37, show ((4 : Int32) ≤ 0) = False by decide, show (0 : Int32) + 1 = 1 by decide, show ((4 : Int32) ≤ 1) = False by decide, show (1 : Int32) + 1 = 2 by decide, show ((4 : Int32) ≤ 2) = False by decide, show (2 : Int32) + 1 = 3 by decide, show ((4 : Int32) ≤ 3) = False by decide, show (3 : Int32) + 1 = 4 by decide, show ((4 : Int32) ≤ 4) = True by decide, ↓reduceIte]
    rfl
  · intro k hk
    have h : k = 0 ∨ k = 1 ∨ k = 2 ∨ k = 3 := by omega
    rcases h with rfl | rfl | rfl | rfl <;> exact ⟨rfl, rfl⟩
/-- the four groups, both sides -/
def gGr (i : Nat) (X Y : Nat → Nat) (c m : Zst) : Prop := ∀ k, k < 4 → X k ≤ 1000 * i ∧ Y k ≤ i ∧ c.2.2.1 6 k = lN (X k) ∧ c.2.2.1 7 k = lN (Y k) ∧ m.2.2.1 6 (gpi k) = lN (X k) ∧ m.2.2.1 7 (gpi k) = lN (Y k)
theorem gGr_up {i : Nat} {X Y : Nat → Nat} {c m : Zst} (h : gGr i X Y c m) : gGr (i + 1) X Y c m := fun k hk => by
  obtain ⟨h1, h2, h3⟩ := h k hk
  exact ⟨by omega, by omega, h3⟩
theorem gGr_add {i g x : Nat} {X Y : Nat → Nat} {c m : Zst} (h : gGr i X Y c m) (hg : g < 4) (hx : x ≤ 1000) :
    gGr (i + 1) (fun k => if k = g then X k + x else X k) (fun k => if k = g then Y k + 1 else Y k)
      (zL (zL c 6 (vp_updL (c.2.2.1 6) g (c.2.2.1 6 g + lN x))) 7 (vp_updL (c.2.2.1 7) g (c.2.2.1 7 g + 1)))
      (zL (zL m 6 (vp_updL (m.2.2.1 6) (gpi g) (m.2.2.1 6 (gpi g) + lN x))) 7 (vp_updL (m.2.2.1 7) (gpi g) (m.2.2.1 7 (gpi g) + 1))) := by
  intro k hk
  obtain ⟨h1, h2, h3, h4, h5, h6⟩ := h k hk
  show (if k = g then X k + x else X k) ≤ _ ∧ (if k = g then Y k + 1 else Y k) ≤ _ ∧ vp_updL (c.2.2.1 6) g _ k = lN (if k = g then X k + x else X k) ∧ vp_updL (c.2.2.1 7) g _ k = lN (if k = g then Y k + 1 else Y k) ∧ vp_updL (m.2.2.1 6) (gpi g) _ (gpi k) = lN (if k = g then X k + x else X k) ∧ vp_updL (m.2.2.1 7) (gpi g) _ (gpi k) = lN (if k = g then Y k + 1 else Y k)
  by_cases e : k = g
  · subst e
    rw [if_pos rfl, if_pos rfl, gLu rfl, gLu rfl, gLu rfl, gLu rfl, h3, h4, h5, h6, lN_add, lN_1]
    exact ⟨by omega, by omega, rfl, rfl, rfl, rfl⟩
  · have e2 := gpi_inj k hk g hg e
    rw [if_neg e, if_neg e, gLn e, gLn e, gLn e2, gLn e2, h3, h4, h5, h6]
    exact ⟨by omega, by omega, rfl, rfl, rfl, rfl⟩
theorem pp_does : lp_does gRel := by
  intro c m hR p0 p1 p2
  obtain ⟨S, T, n, h, hr⟩ := hR
  have no : gRel c (zI m 0 0) := gNo h hr
  have h' : gCor S T c (zI m 0 0) := gCor_ag h gaC_rf gaM_0
  have hr' : gRR n c (zI m 0 0) := hr
  have hT := h.1.1.2.1
  have hS := h.1.1.1
  unfold f_X11_does f_X6_effect f_X12_does
  simp only [gL_kind, gL_sort h'.1, gq_in_1_11]
  generalize zI m 0 0 = m0 at *
  rcases gS_kind p0 with ⟨e0, kd, x1, x2⟩ | e0
  case inr => simp only [e0, ↓reduceIte, Option.bind_some]; exact ⟨_, _, rfl, rfl, rfl, no⟩
  rcases gS_sort h.1 p1 with ⟨e1, s, y1, y2⟩ | e1
  case inr => simp only [e0, e1, gq_10, ↓reduceIte, Option.bind_some]; exact ⟨_, _, rfl, rfl, rfl, no⟩
  rcases gS_btw (p := p2) (a := 1) (b := 11) 1 11 rfl rfl (by decide) (by decide) with ⟨e2, w, w0, w1, w2⟩ | e2
  case inr => simp only [e0, e1, e2, gq_10, ↓reduceIte, Option.bind_some]; exact ⟨_, _, rfl, rfl, rfl, no⟩
  subst x2 y2 w2
  obtain ⟨cA, a1, a2, a3, a4⟩ := gFill44 c
  obtain ⟨cB, b1, b2, b3, b4, b5⟩ := gFill45 cA
  obtain ⟨mA, m1, m2, m3, m4⟩ := gFillM m0 (nI kd) (nI s) (nI w)
  obtain ⟨rc, rm, h1, h2, aC, aM, nC, nM, X, Y, hG⟩ := gq_run (La := fun (k : Zst → Option Zst) n (a : Zst × Int32) => (L_X6_gatherGroups_19 (nI kd) (nI s) (nI w) n a.1 a.2).bind k)
    (Lb := fun (k : Zst → Option (Zst × Int32)) n (a : Zst × Int32) => L_X12_does_68 k (nI kd) (nI s) (nI w) n a.1 a.2)
    (fun i a b => ∃ c1 m1 X Y, a = (c1, nI i) ∧ b = (m1, nI i) ∧ gaC c c1 ∧ gaM m0 m1 ∧ gNR c c1 ∧ gNRm m0 m1 ∧ gGr i X Y c1 m1)
    (fun c1 m1 => gaC c c1 ∧ gaM m0 m1 ∧ gNR c c1 ∧ gNRm m0 m1 ∧ ∃ X Y, gGr (12 * T) X Y c1 m1) 0 (12 * T) (Nat.zero_le _) (by omega) (a := (cB, 0)) (b := (mA, 0))
    (fun i a b hi hI => by
      obtain ⟨c1, m1, X, Y, rfl, rfl, hac, ham, hnc, hnm, hG⟩ := hI
      have hcur := gCor_ag h' hac ham
      obtain ⟨hc, hc'⟩ := gL_cells hcur.1
      have hn : ¬ nI (12 * T) ≤ nI i := nI_ge hi (by omega)
      have ht : i / 12 < T := by omega
      obtain ⟨v, v1, v2, v3⟩ := hcur.1.2.2.2.2.1 (i / 12) ht
      have hto : f_X10_toldFromOf c1 (nI (i / 12)) = some (nI v - 1) := by
        unfold f_X10_toldFromOf f_X10_hasStreet
        rw [hcur.1.1.2.2.2.2.1, if_neg (nI_pos (by omega)), if_neg (nI_ge ht (by omega)), if_neg (by decide), gGx (show i / 12 < 8 by omega) (by decide), nI_clamp (by omega), v2]
      have c1e : (nI w < nI v - 1) = (w + 1 < v) := by
        rw [eq_iff_iff, Int32.lt_iff_toInt_lt, gq_m1 (by omega), nI_toInt (by omega)]; omega
      have c2e : (nI (w + 1) < nI v) = (w + 1 < v) := propext (nI_ltI (by omega) (by omega))
      have c3e : (nI v - 1 = -1) = (v = 0) := by
        rw [eq_iff_iff, ← Int32.toInt_inj, gq_m1 (by omega)]
        show (v : Int) - 1 = -1 ↔ _
        omega
      have c4e : (nI v = 0) = (v = 0) := by
        rw [eq_iff_iff, show (0 : Int32) = nI 0 from rfl, nI_eq (by omega) (by decide)]
      have c5e : (nI w ≤ nI (i % 12)) = (w ≤ i % 12) := propext (nI_leI (by omega) (by omega))
      have t1 := gL_has hcur.2.1 kd i s rfl rfl rfl x1 (by omega) (by omega)
      have t2 := gL_told hcur.2.1 kd i s rfl rfl rfl x1 (by omega) (by omega)
      have t3 := gL_of hcur.2.1 kd i s rfl rfl rfl x1 (by omega) (by omega)
      have t4 := gL_at (m := m1) kd i s rfl rfl rfl x1 (by omega) (by omega)
      obtain ⟨q, q1, q2, -⟩ := gL_val hcur.2.1 (k := kd) (j := i) (s := s) x1 (by omega) (by omega)
      rw [q2] at t1 t2 t3 t4
      by_cases hlt : w + 1 < v
      · refine ⟨(c1, nI (i + 1)), (m1, nI (i + 1)), fun k n => ?_, fun k n => ?_, c1, m1, X, Y, rfl, rfl, hac, ham, hnc, hnm, gGr_up hG⟩
        · simp only [L_X6_gatherGroups_19, hc, if_neg hn, gDiv12 i (show i < 2 ^ 31 by omega), hto, Option.bind_some, c1e, if_pos hlt, nI_1]
        · simp only [L_X12_does_68, hc', if_neg hn, gDiv12 i (show i < 2 ^ 31 by omega), gGx (show i / 12 < 8 by omega) (by decide), nI_clamp (show i / 12 < 2 ^ 31 by omega), v3, t2, Option.bind_some, c2e, if_pos hlt, nI_1]
          split <;> rfl
      rcases gtf_c (nI q) with b4' | b4'
      · refine ⟨(c1, nI (i + 1)), (m1, nI (i + 1)), fun k n => ?_, fun k n => ?_, c1, m1, X, Y, rfl, rfl, hac, ham, hnc, hnm, gGr_up hG⟩
        · simp only [L_X6_gatherGroups_19, hc, if_neg hn, gDiv12 i (show i < 2 ^ 31 by omega), hto, Option.bind_some, c1e, if_neg hlt, t1, b4', ↓reduceIte, nI_1]
        · simp only [L_X12_does_68, hc', if_neg hn, gDiv12 i (show i < 2 ^ 31 by omega), gGx (show i / 12 < 8 by omega) (by decide), t2, b4', Option.bind_some, ↓reduceIte, nI_1]
      · have q3 := gtf_0 q1 b4'
        -- the group
        have hg : ∃ g, g < 4 ∧ (if v = 0 then (if (if w ≤ i % 12 then (0 : Int32) else 1) = 0 then (3 : Int32) else 2) else (if (if w ≤ i % 12 then (0 : Int32) else 1) = 0 then (1 : Int32) else 0)) = nI g ∧ (2 : Int32) * f_X12_flag (if v = 0 then (1 : Int32) else 0) + f_X12_flag (if w ≤ i % 12 then (0 : Int32) else 1) = nI (gpi g) := by
          by_cases z1 : v = 0
          · by_cases z2 : w ≤ i % 12
            · exact ⟨3, by decide, by rw [if_pos z1, if_pos z2]; decide, by rw [if_pos z1, if_pos z2]; decide⟩
            · exact ⟨2, by decide, by rw [if_pos z1, if_neg z2]; decide, by rw [if_pos z1, if_neg z2]; decide⟩
          · by_cases z2 : w ≤ i % 12
            · exact ⟨1, by decide, by rw [if_neg z1, if_pos z2]; decide, by rw [if_neg z1, if_pos z2]; decide⟩
            · exact ⟨0, by decide, by rw [if_neg z1, if_neg z2]; decide, by rw [if_neg z1, if_neg z2]; decide⟩
        obtain ⟨g, g1, g2, g3⟩ := hg
        have g4 := gpi_lt g
        have ef := gl_1 q3 q1
        refine ⟨(zL (zL c1 6 (vp_updL (c1.2.2.1 6) g (c1.2.2.1 6 g + lN (q - 1)))) 7 (vp_updL (c1.2.2.1 7) g (c1.2.2.1 7 g + 1)), nI (i + 1)), (zL (zL m1 6 (vp_updL (m1.2.2.1 6) (gpi g) (m1.2.2.1 6 (gpi g) + lN (q - 1)))) 7 (vp_updL (m1.2.2.1 7) (gpi g) (m1.2.2.1 7 (gpi g) + 1)), nI (i + 1)), fun k n => ?_, fun k n => ?_, _, _, _, _, rfl, rfl, hac, ham, hnc, hnm, gGr_add hG g1 (show q - 1 ≤ 1000 by omega)⟩
        · simp only [L_X6_gatherGroups_19, hc, if_neg hn, gDiv12 i (show i < 2 ^ 31 by omega), hto, Option.bind_some, c1e, if_neg hlt, t1, t3, b4', gq_10, ↓reduceIte, nI_1, gRem12 i (show i < 2 ^ 31 by omega), c3e, c5e, g2, gGx g1 (by decide), nI_clamp (show g < 2 ^ 31 by omega), ef]
        · simp only [L_X12_does_68, hc', if_neg hn, gDiv12 i (show i < 2 ^ 31 by omega), gGx (show i / 12 < 8 by omega) (by decide), nI_clamp (show i / 12 < 2 ^ 31 by omega), v3, t2, t4, b4', gq_10, ↓reduceIte, Option.bind_some, c2e, if_neg hlt, nI_1, gRem12 i (show i < 2 ^ 31 by omega), c4e, c5e, g3, gGx g4 (by decide), nI_clamp (show gpi g < 2 ^ 31 by omega), ef])
    (fun a b hI => by
      obtain ⟨c1, m1, X, Y, rfl, rfl, hac, ham, hnc, hnm, hG⟩ := hI
      have hcur := gCor_ag h' hac ham
      obtain ⟨hc, hc'⟩ := gL_cells hcur.1
      have hn : nI (12 * T) ≤ nI (12 * T) := nI_le (Nat.le_refl _) (by omega)
      refine ⟨c1, m1, fun k n => ?_, fun k n => ?_, hac, ham, hnc, hnm, X, Y, hG⟩
      · simp only [L_X6_gatherGroups_19, hc, if_pos hn, Option.bind_some]
      · simp only [L_X12_does_68, hc', if_pos hn])
    ⟨cB, mA, fun _ => 0, fun _ => 0, rfl, rfl, gaC_tr a2 b2, m2, gNR_tr a3 b3, m3, fun k hk => ⟨Nat.zero_le _, Nat.zero_le _, by rw [b5, a4 k hk]; rfl, by rw [b4 k hk]; rfl, by rw [(m4 _ (gpi_lt k)).1]; rfl, by rw [(m4 _ (gpi_lt k)).2]; rfl⟩⟩
  have hr1 := gRR_nr hr' nC nM
  have h1' : f_X6_gatherGroups c (nI kd) (nI s) (nI w) = some rc := by
    unfold f_X6_gatherGroups
    rw [a1, Option.bind_some, b1, Option.bind_some]
    have := h1 some
    have this : (L_X6_gatherGroups_19 (nI kd) (nI s) (nI w) zFu cB 0).bind some = some rc := this
    revert this
    generalize L_X6_gatherGroups_19 (nI kd) (nI s) (nI w) zFu cB 0 = o
    cases o <;> exact id
  have h2' := h2 (fun σ11 => J_X12_does_182 σ11)
  simp only [e0, e1, e2, gq_10, ↓reduceIte, h1', m1, Option.bind_some]
  unfold J_X12_does_65
  have h2' : L_X12_does_68 (fun σ11 => J_X12_does_182 σ11) (nI kd) (nI s) (nI w) zFu mA 0 = J_X12_does_182 rm := h2'
  rw [h2']
  obtain ⟨x0, y0, u0, v0, r0, s0⟩ := hG 0 (by decide)
  obtain ⟨x1', y1', u1, v1, r1, s1⟩ := hG 1 (by decide)
  obtain ⟨x2, y2, u2, v2, r2, s2⟩ := hG 2 (by decide)
  obtain ⟨x3, y3, u3, v3, r3, s3⟩ := hG 3 (by decide)
  have r0 : rm.2.2.1 6 1 = lN (X 0) := r0
  have s0 : rm.2.2.1 7 1 = lN (Y 0) := s0
  have r1 : rm.2.2.1 6 0 = lN (X 1) := r1
  have s1 : rm.2.2.1 7 0 = lN (Y 1) := s1
  have r2 : rm.2.2.1 6 3 = lN (X 2) := r2
  have s2 : rm.2.2.1 7 3 = lN (Y 2) := s2
  have r3 : rm.2.2.1 6 2 = lN (X 3) := r3
  have s3 : rm.2.2.1 7 2 = lN (Y 3) := s3
  generalize X 0 = X0 at *
  generalize X 1 = X1 at *
  generalize X 2 = X2 at *
  generalize X 3 = X3 at *
  generalize Y 0 = Y0 at *
  generalize Y 1 = Y1 at *
  generalize Y 2 = Y2 at *
  generalize Y 3 = Y3 at *
  have hz : ∀ y : Nat, y ≤ 12 * T → (lN y = 0) = (y = 0) := fun y hy => by
    rw [eq_iff_iff, show (0 : Int64) = lN 0 from rfl, pk_lEQ (by omega) (by decide)]
  have hm182 : J_X12_does_182 rm = (if Y1 = 0 then some (rm, -2) else if Y0 = 0 then some (rm, -2) else if Y3 = 0 then some (rm, -2) else if Y2 = 0 then some (rm, -2) else J_X12_does_212 rm) := by
    obtain ⟨fu, hfu⟩ := gFu5
    unfold J_X12_does_182
    rw [hfu]
    simp only [L_X12_does_185, show ((4 : Int32) ≤ 0) = False by decide, show (0 : Int32) + 1 = 1 by decide, show ((4 : Int32) ≤ 1) = False by decide, show (1 : Int32) + 1 = 2 by decide, show ((4 : Int32) ≤ 2) = False by decide, show (2 : Int32) + 1 = 3 by decide, show ((4 : Int32) ≤ 3) = False by decide, show (3 : Int32) + 1 = 4 by decide, show ((4 : Int32) ≤ 4) = True by decide, ↓reduceIte]
    show (if rm.2.2.1 7 0 = 0 then some (rm, -2) else (if rm.2.2.1 7 1 = 0 then some (rm, -2) else (if rm.2.2.1 7 2 = 0 then some (rm, -2) else (if rm.2.2.1 7 3 = 0 then some (rm, -2) else J_X12_does_212 rm)))) = _
    rw [s0, s1, s2, s3]
    simp only [hz Y0 y0, hz Y1 y1', hz Y2 y2, hz Y3 y3]
  have k0 : Int32.toNatClampNeg 0 = 0 := rfl
  have k1 : Int32.toNatClampNeg 1 = 1 := rfl
  have k2 : Int32.toNatClampNeg 2 = 2 := rfl
  have k3 : Int32.toNatClampNeg 3 = 3 := rfl
  rw [hm182]
  have hzz : ∀ y y' : Nat, y ≤ 12 * T → y' ≤ 12 * T → (lN y * lN y' = 0) = (y = 0 ∨ y' = 0) := fun y y' hy hy' => by
    have hb : y * y' ≤ 96 * 96 := gMulLe (by omega) (by omega)
    rw [eq_iff_iff, lN_mul, show (0 : Int64) = lN 0 from rfl, pk_lEQ (by omega) (by decide), Nat.mul_eq_zero]
  simp only [k0, k1, k2, k3, u0, u1, u2, u3, v0, v1, v2, v3, hzz Y0 Y1 y0 y1', hzz Y2 Y3 y2 y3]
  have no2 : gRel ((rc, (-2 : Int32)) : Zst × Int32).1 ((rm, (-2 : Int32)) : Zst × Int32).1 := gRel_of h' aC aM hr1
  by_cases z0 : Y0 = 0
  · refine ⟨(rc, -2), (rm, -2), by rw [if_pos (Or.inl z0)]; rfl, ?_, rfl, no2⟩
    by_cases z1 : Y1 = 0
    · rw [if_pos z1]
    · rw [if_neg z1, if_pos z0]
  by_cases z1 : Y1 = 0
  · exact ⟨(rc, -2), (rm, -2), by rw [if_pos (Or.inr z1)]; rfl, by rw [if_pos z1], rfl, no2⟩
  have z01 : ¬ (Y0 = 0 ∨ Y1 = 0) := fun q => q.elim z0 z1
  by_cases z2 : Y2 = 0
  · refine ⟨(rc, -2), (rm, -2), by rw [if_neg z01, if_pos (Or.inl z2)]; rfl, ?_, rfl, no2⟩
    by_cases z3 : Y3 = 0
    · rw [if_neg z1, if_neg z0, if_pos z3]
    · rw [if_neg z1, if_neg z0, if_neg z3, if_pos z2]
  by_cases z3 : Y3 = 0
  · exact ⟨(rc, -2), (rm, -2), by rw [if_neg z01, if_pos (Or.inr z3)]; rfl, by rw [if_neg z1, if_neg z0, if_pos z3], rfl, no2⟩
  have z23 : ¬ (Y2 = 0 ∨ Y3 = 0) := fun q => q.elim z2 z3
  rw [if_neg z01, if_neg z23, if_neg z1, if_neg z0, if_neg z3, if_neg z2]
  obtain ⟨w1', w2', w3', w4'⟩ := gX_clear hr1
  have bY : Y0 ≤ 96 ∧ Y1 ≤ 96 ∧ Y2 ≤ 96 ∧ Y3 ≤ 96 := by omega
  have bX : X0 ≤ 96000 ∧ X1 ≤ 96000 ∧ X2 ≤ 96000 ∧ X3 ≤ 96000 := by omega
  have A1 : ∀ a b c d : Nat, a ≤ 96000 → b ≤ 96 → c ≤ 96000 → d ≤ 96 → -9216000 ≤ (lN a * lN b - lN c * lN d).toInt ∧ (lN a * lN b - lN c * lN d).toInt ≤ 9216000 := by
    intro a b c d ha hb hc hd
    have h1 : a * b ≤ 96000 * 96 := gMulLe ha hb
    have h2 : c * d ≤ 96000 * 96 := gMulLe hc hd
    rw [lN_mul, lN_mul, Int64.toInt_sub, pk_lT (by omega), pk_lT (by omega), gbm64 (by omega) (by omega)]
    omega
  have A2 : ∀ (x : Int64) (a b : Nat), -9216000 ≤ x.toInt → x.toInt ≤ 9216000 → a ≤ 96 → b ≤ 96 → -84934656000 ≤ (x * (lN a * lN b)).toInt ∧ (x * (lN a * lN b)).toInt ≤ 84934656000 := by
    intro x a b h1 h2 ha hb
    rw [← Int64.mul_assoc]
    have g1 := gMulB (x := x) (y := lN a) (A := 9216000) (B := 96) h1 h2 (by rw [pk_lT (by omega)]; omega) (by rw [pk_lT (by omega)]; omega) (by decide) (by decide) (by decide)
    have g2 := gMulB (x := x * lN a) (y := lN b) (A := 884736000) (B := 96) (by omega) (by omega) (by rw [pk_lT (by omega)]; omega) (by rw [pk_lT (by omega)]; omega) (by decide) (by decide) (by decide)
    omega
  obtain ⟨U, hU⟩ : ∃ U : Int64, U = (lN X1 * lN Y0 - lN X0 * lN Y1) * (lN Y2 * lN Y3) - (lN X3 * lN Y2 - lN X2 * lN Y3) * (lN Y0 * lN Y1) := ⟨_, rfl⟩
  have p1 := A1 X1 Y0 X0 Y1 (by omega) (by omega) (by omega) (by omega)
  have p2 := A1 X3 Y2 X2 Y3 (by omega) (by omega) (by omega) (by omega)
  have p3 := A2 _ Y2 Y3 p1.1 p1.2 (by omega) (by omega)
  have p4 := A2 _ Y0 Y1 p2.1 p2.2 (by omega) (by omega)
  have hUb : -169869312000 ≤ U.toInt ∧ U.toInt ≤ 169869312000 := by
    rw [hU, Int64.toInt_sub, gbm64 (by omega) (by omega)]; omega
  have hUm : (lN X1 * lN Y0 - lN X0 * lN Y1) * (lN Y3 * lN Y2) - (lN X3 * lN Y2 - lN X2 * lN Y3) * (lN Y1 * lN Y0) = U := by
    rw [hU, Int64.mul_comm (lN Y3), Int64.mul_comm (lN Y1) (lN Y0)]
  have hY1 : Y0 * Y1 ≤ 96 * 96 := gMulLe (by omega) (by omega)
  have hY2 : Y0 * Y1 * Y2 ≤ 96 * 96 * 96 := gMulLe hY1 (by omega)
  have hY3 : Y0 * Y1 * Y2 * Y3 ≤ 96 * 96 * 96 * 96 := gMulLe hY2 (by omega)
  have hYp : 0 < Y0 * Y1 * Y2 * Y3 := Nat.mul_pos (Nat.mul_pos (Nat.mul_pos (by omega) (by omega)) (by omega)) (by omega)
  have hL : lN Y0 * lN Y1 * (lN Y2 * lN Y3) = lN (Y0 * Y1 * Y2 * Y3) := by rw [lN_mul, lN_mul, lN_mul, ← Nat.mul_assoc]
  have hLm : lN Y1 * lN Y0 * (lN Y3 * lN Y2) = lN (Y0 * Y1 * Y2 * Y3) := by
    rw [lN_mul, lN_mul, lN_mul, Nat.mul_comm Y1 Y0, Nat.mul_comm Y3 Y2, ← Nat.mul_assoc]
  generalize Y0 * Y1 * Y2 * Y3 = L at *
  obtain ⟨c3, m3', j1, j2, j3, j4, j5⟩ := gX_frac w2' (by decide) (x := U) (x' := U) (y := lN L) (y' := lN L) rfl rfl (by omega) (by omega) (by rw [pk_lT (by omega)]; omega) (by rw [pk_lT (by omega)]; omega) (by rw [pk_lT (by omega)]; omega)
  have g7 : ∀ k, (zI rc 0 0).2.2.1 7 k = rc.2.2.1 7 k := fun _ => rfl
  unfold J_X12_does_212
  simp only [k0, k1, k2, k3, r0, r1, r2, r3, s0, s1, s2, s3, hUm, hLm, ← hU, w1', Option.bind_some, g7, v0, v1, v2, v3, hL, j1, j2]
  exact ⟨(c3, _), (m3', _), rfl, rfl, rfl, gRel_of h' (gaC_tr aC (gOR_a (gOR_tr w3' j4))) (gaM_tr aM (gORm_a (gORm_tr w4' j5))) j3⟩
