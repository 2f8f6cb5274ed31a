theorem gCmpI (x y : Int32) : f_J6_compare_7cf53 x y = gsg (x.toInt - y.toInt) := by
  unfold f_J6_compare_7cf53 gsg
  by_cases h : y ≤ x
  · have h1 := Int32.le_iff_toInt_le.mp h
    rw [if_pos h, if_neg (show ¬ x.toInt - y.toInt < 0 by omega)]
    by_cases h2 : x = y
    · rw [if_pos h2, if_pos (show x.toInt - y.toInt = 0 by rw [h2]; omega)]
    · rw [if_neg h2, if_neg (fun q => h2 (Int32.toInt_inj.mp (by omega)))]
  · have h1 : ¬ y.toInt ≤ x.toInt := fun q => h (Int32.le_iff_toInt_le.mpr q)
    rw [if_neg h, if_pos (show x.toInt - y.toInt < 0 by omega)]
theorem gR5 {r : Nat} (h : r ≤ 10) : (nI r - 5).toInt = (r : Int) - 5 := by
  rw [show (5 : Int32) = nI 5 from rfl, pk_sub_toInt (by omega) (by decide)]
  rfl
theorem gFl (p : Int32) (h : p = -1 ∨ p = 0 ∨ p = 1) :
    ((if (if p ≤ 0 then (if 0 ≤ p then (0 : Int32) else -1) else 1) = 1 then (1 : Int32) else 0) = (if p ≤ 0 then (0 : Int32) else 1)) ∧
    ((if (if p ≤ 0 then (if 0 ≤ p then (0 : Int32) else -1) else 1) = -1 then (1 : Int32) else 0) = (if 0 ≤ p then (0 : Int32) else 1)) ∧
    ((if (if p ≤ 0 then (if 0 ≤ p then (0 : Int32) else -1) else 1) = 0 then (1 : Int32) else 0) = (if p = 0 then (1 : Int32) else 0)) := by
  rcases h with rfl | rfl | rfl <;> decide
theorem gPr (x y : Int) : gsg x * gsg y = -1 ∨ gsg x * gsg y = 0 ∨ gsg x * gsg y = 1 := by
  rcases gsg_c x with h | h | h <;> rcases gsg_c y with g | g | g <;> rw [h, g] <;> decide
theorem gflag1 (p : Prop) [Decidable p] : f_X12_flag (if p then (1 : Int32) else 0) = (if p then (1 : Int32) else 0) := by
  by_cases h : p
  · rw [if_pos h]; rfl
  · rw [if_neg h]; rfl
theorem gflag0 (p : Prop) [Decidable p] : f_X12_flag (if p then (0 : Int32) else 1) = (if p then (0 : Int32) else 1) := by
  by_cases h : p
  · rw [if_pos h]; rfl
  · rw [if_neg h]; rfl
theorem gL_right {S T : Nat} {c m : Zst} (h : gRA S T c m) {s : Nat} (hs : s < S) : f_X10_rightOf c (nI s) = some (c.2.1 11 s) := by
  have h9 := h.1.1
  unfold f_X10_rightOf f_X10_hasSort
  rw [h.1.2.2.1, if_neg (nI_pos (by omega)), if_neg (nI_ge hs (by omega)), if_neg (by decide), gGx (show s < 8 by omega) (by decide), nI_clamp (by omega)]
theorem pp_right : lp_right gRel := by
  intro c m hR p0
  obtain ⟨S, T, n, h, hr⟩ := hR
  have no : gRel c (zI m 0 0) := gNo h hr
  have h' : gCor S T c (zI m 0 0) := gCor_ag h gaC_rf gaM_0
  have hr' : gRR n c (zI m 0 0) := hr
  have hS := h.1.1.1
  unfold f_X11_right f_X0_pairsByRight f_X12_right
  simp only [gL_way]
  generalize zI m 0 0 = m0 at *
  rcases gS_way p0 with ⟨e0, y, y1, y2⟩ | e0
  case inr => simp only [e0, ↓reduceIte, Option.bind_some]; exact ⟨_, _, rfl, rfl, rfl, no⟩
  simp only [e0, gq_10, ↓reduceIte]
  -- what is measured of each sort
  have hM : ∃ (kF sF : Nat → Int32) , ∀ s, s < S → (∃ k : Nat, k ≤ 96 ∧ kF s = nI k) ∧ (-96000 ≤ (sF s).toInt ∧ (sF s).toInt ≤ 96000) ∧
      (∀ c1, gaC c c1 → ∃ c2, f_X0_measure c1 (nI s) p0 = some c2 ∧ gaC c c2 ∧ gNR c1 c2 ∧ c2.1 12 = kF s ∧ c2.1 13 = sF s) ∧
      (∀ m1, gaM m0 m1 → ∃ m2, f_X12_offs m1 (nI s) p0 = some m2 ∧ gaM m0 m2 ∧ gNRm m1 m2 ∧ m2.1 14 = kF s ∧ m2.1 15 = sF s) := by
    refine ⟨fun s => ((f_X12_offs m0 (nI s) p0).getD m0).1 14, fun s => ((f_X12_offs m0 (nI s) p0).getD m0).1 15, fun s hs => ?_⟩
    obtain ⟨c1, m1, k, f1, f2, aC, aM, nC, nM, k1, k2, k3, k4, ⟨k5, k6⟩, -⟩ := gMeasure h' (p0 := nI s) rfl hs y2 y1
    have E14 : ((f_X12_offs m0 (nI s) p0).getD m0).1 14 = m1.1 14 := by rw [f2]; rfl
    have E15 : ((f_X12_offs m0 (nI s) p0).getD m0).1 15 = m1.1 15 := by rw [f2]; rfl
    refine ⟨⟨k, k1, E14.trans k3⟩, ?_, fun c2 hc2 => ?_, fun m2 hm2 => ?_⟩
    · show -96000 ≤ (((f_X12_offs m0 (nI s) p0).getD m0).1 15).toInt ∧ (((f_X12_offs m0 (nI s) p0).getD m0).1 15).toInt ≤ 96000
      rw [E15]
      show -96000 ≤ (m1.1 15).toInt ∧ (m1.1 15).toInt ≤ 96000
      rw [← k4]; omega
    · obtain ⟨c3, m3, k', g1, g2, aC', aM', nC', nM', l1, l2, l3, l4, -⟩ := gMeasure (gCor_ag h' hc2 gaM_rf) (p0 := nI s) rfl hs y2 y1
      have e := Option.some.inj (f2.symm.trans g2)
      subst e
      refine ⟨c3, g1, gaC_tr hc2 aC', nC', ?_, ?_⟩
      · exact (l2.trans l3.symm).trans E14.symm
      · exact l4.trans E15.symm
    · obtain ⟨c3, m3, k', g1, g2, aC', aM', nC', nM', l1, l2, l3, l4, -⟩ := gMeasure (gCor_ag h' gaC_rf hm2) (p0 := nI s) rfl hs y2 y1
      have e := Option.some.inj (f1.symm.trans g1)
      subst e
      refine ⟨m3, g2, gaM_tr hm2 aM', nM', ?_, ?_⟩
      · exact ((l3.trans (l2.symm.trans k2)).trans k3.symm).trans E14.symm
      · exact (l4.symm.trans k4).trans E15.symm
  obtain ⟨kF, sF, hM⟩ := hM
  have hRt : ∃ rF : Nat → Int32, ∀ s, s < S → c.2.1 11 s = rF s ∧ m0.2.1 1 s = rF s ∧ ∃ r : Nat, r ≤ 10 ∧ rF s = nI r - 5 := by
    refine ⟨c.2.1 11, fun s hs => ?_⟩
    obtain ⟨x, r, z, q1, q2, q3, q4, q5, q6, q7, q8⟩ := h'.1.2.2.1 s hs
    exact ⟨rfl, by rw [h'.1.2.1.2.1], r, q3, q7⟩
  obtain ⟨rF, hRt⟩ := hRt
  -- the value of a pair
  have hval : ∃ P : Nat → Nat → Int32, (∀ a b, P a b = gsg ((sF a).toInt * (kF b).toInt - (sF b).toInt * (kF a).toInt) * gsg ((rF a).toInt - (rF b).toInt)) := ⟨_, fun _ _ => rfl⟩
  obtain ⟨P, hP⟩ := hval
  have hP1 : ∀ a b, P a b = -1 ∨ P a b = 0 ∨ P a b = 1 := fun a b => by rw [hP]; exact gPr _ _
  have hmul : ∀ a b, a < S → b < S → (Int32.toInt64 (sF a) * Int32.toInt64 (kF b)).toInt = (sF a).toInt * (kF b).toInt ∧ -96000000 ≤ (sF a).toInt * (kF b).toInt ∧ (sF a).toInt * (kF b).toInt ≤ 96000000 := by
    intro a b ha hb
    obtain ⟨-, ⟨q1, q2⟩, -⟩ := hM a ha
    obtain ⟨⟨k, q3, q4⟩, -⟩ := hM b hb
    have := gMulB (x := Int32.toInt64 (sF a)) (y := Int32.toInt64 (kF b)) (A := 96000) (B := 1000) (by rw [gl_toInt]; exact q1) (by rw [gl_toInt]; exact q2) (by rw [gl_toInt, q4, nI_toInt (by omega)]; omega) (by rw [gl_toInt, q4, nI_toInt (by omega)]; omega) (by decide) (by decide) (by decide)
    rw [gl_toInt, gl_toInt] at this
    exact this
  let F1 : Nat → Nat → Int32 := fun q o => if kF q = 0 then 0 else if kF o = 0 then 0 else if P q o ≤ 0 then 0 else 1
  let F2 : Nat → Nat → Int32 := fun q o => if kF q = 0 then 0 else if kF o = 0 then 0 else if 0 ≤ P q o then 0 else 1
  let F3 : Nat → Nat → Int32 := fun q o => if kF q = 0 then 0 else if kF o = 0 then 0 else if P q o = 0 then 1 else 0
  have hk64 : ∀ s, s < S → ((Int32.toInt64 (kF s) = (0 : Int64)) = (kF s = 0)) := by
    intro s hs
    obtain ⟨⟨k, q3, q4⟩, -⟩ := hM s hs
    rw [q4, nI_l (by omega), show (0 : Int64) = lN 0 from rfl, show (0 : Int32) = nI 0 from rfl, eq_iff_iff, pk_lEQ (by omega) (by decide), nI_eq (by omega) (by decide)]
  -- the class' side of a pair
  have hCp : ∀ o q c1, o < S → q < S → gaC c c1 → ∃ t : Zst × Int32, f_X0_goesWithRight c1 (nI o) (nI q) p0 = some t ∧ gaC c t.1 ∧ gNR c1 t.1 ∧
      (if t.2 = 1 then (1 : Int32) else 0) = F1 q o ∧ (if t.2 = -1 then (1 : Int32) else 0) = F2 q o ∧ (if t.2 = 0 then (1 : Int32) else 0) = F3 q o := by
    intro o q c1 ho hq hc1
    obtain ⟨-, -, gC, -⟩ := hM o ho
    obtain ⟨c2, f1, aC2, nC2, i1, i2⟩ := gC c1 hc1
    obtain ⟨-, -, gC, -⟩ := hM q hq
    obtain ⟨c3, f2, aC3, nC3, i3, i4⟩ := gC c2 aC2
    unfold f_X0_goesWithRight
    simp only [f1, f2, Option.bind_some, i1, i2, i3, i4, hk64 o ho]
    by_cases z1 : kF o = 0
    · refine ⟨(c3, -2), by rw [if_pos z1], aC3, gNR_tr nC2 nC3, ?_, ?_, ?_⟩
      · show (if (-2 : Int32) = 1 then (1 : Int32) else 0) = (if kF q = 0 then 0 else if kF o = 0 then 0 else _)
        rw [if_neg (by decide)]
        by_cases z2 : kF q = 0
        · rw [if_pos z2]
        · rw [if_neg z2, if_pos z1]
      · show (if (-2 : Int32) = -1 then (1 : Int32) else 0) = (if kF q = 0 then 0 else if kF o = 0 then 0 else _)
        rw [if_neg (by decide)]
        by_cases z2 : kF q = 0
        · rw [if_pos z2]
        · rw [if_neg z2, if_pos z1]
      · show (if (-2 : Int32) = 0 then (1 : Int32) else 0) = (if kF q = 0 then 0 else if kF o = 0 then 0 else _)
        rw [if_neg (by decide)]
        by_cases z2 : kF q = 0
        · rw [if_pos z2]
        · rw [if_neg z2, if_pos z1]
    · by_cases z2 : kF q = 0
      · refine ⟨(c3, -2), by rw [if_neg z1, if_pos z2], aC3, gNR_tr nC2 nC3, ?_, ?_, ?_⟩
        · show (if (-2 : Int32) = 1 then (1 : Int32) else 0) = (if kF q = 0 then 0 else if kF o = 0 then 0 else _)
          rw [if_neg (by decide), if_pos z2]
        · show (if (-2 : Int32) = -1 then (1 : Int32) else 0) = (if kF q = 0 then 0 else if kF o = 0 then 0 else _)
          rw [if_neg (by decide), if_pos z2]
        · show (if (-2 : Int32) = 0 then (1 : Int32) else 0) = (if kF q = 0 then 0 else if kF o = 0 then 0 else _)
          rw [if_neg (by decide), if_pos z2]
      · have r1 := gL_right (gRA_ag h'.1 aC3 gaM_rf) ho
        have r2 := gL_right (gRA_ag h'.1 aC3 gaM_rf) hq
        rw [aC3.2 11 rfl, (hRt o ho).1] at r1
        rw [aC3.2 11 rfl, (hRt q hq).1] at r2
        have e : f_J6_compare_7cf53 (rF o) (rF q) * f_X11_compareFractions (Int32.toInt64 (sF o)) (Int32.toInt64 (kF o)) (Int32.toInt64 (sF q)) (Int32.toInt64 (kF q)) = P q o := by
          unfold f_X11_compareFractions
          rw [gCmpI, gCmpS, (hmul o q ho hq).1, (hmul q o hq ho).1, hP]
          rw [show (sF q).toInt * (kF o).toInt - (sF o).toInt * (kF q).toInt = -((sF o).toInt * (kF q).toInt - (sF q).toInt * (kF o).toInt) by omega, show (rF q).toInt - (rF o).toInt = -((rF o).toInt - (rF q).toInt) by omega, gsg_neg, gsg_neg, Int32.neg_mul_neg, Int32.mul_comm]
        simp only [if_neg z1, if_neg z2, r1, r2, Option.bind_some, e]
        refine ⟨_, rfl, aC3, gNR_tr nC2 nC3, ?_, ?_, ?_⟩
        · show _ = (if kF q = 0 then 0 else if kF o = 0 then 0 else _)
          rw [if_neg z2, if_neg z1]
          exact (gFl _ (hP1 q o)).1
        · show _ = (if kF q = 0 then 0 else if kF o = 0 then 0 else _)
          rw [if_neg z2, if_neg z1]
          exact (gFl _ (hP1 q o)).2.1
        · show _ = (if kF q = 0 then 0 else if kF o = 0 then 0 else _)
          rw [if_neg z2, if_neg z1]
          exact (gFl _ (hP1 q o)).2.2
  -- the class: rows
  have hCin : ∀ o c1 (v2 v3 v4 : Int32), o < S → gaC c c1 → gNR c c1 → ∃ c2, gaC c c2 ∧ gNR c c2 ∧ ∀ k : Zst × Int32 × Int32 × Int32 → Option (Zst × Int32), L_X0_pairsByRight_37 (fun σ w8 w9 w10 => k (σ, w8, w9, w10)) p0 (nI o) zFu c1 v2 v3 v4 (nI o + 1) = k (c2, v2 + gS (fun q => if o < q then F1 q o else 0) S, v3 + gS (fun q => if o < q then F2 q o else 0) S, v4 + gS (fun q => if o < q then F3 q o else 0) S) := by
    intro o c1 v2 v3 v4 ho aC nC
    obtain ⟨ra, g1, c2, g2, g3, g4⟩ := gq_run1 (La := fun (k : Zst × Int32 × Int32 × Int32 → Option (Zst × Int32)) n (a : Zst × Int32 × Int32 × Int32 × Int32) => L_X0_pairsByRight_37 (fun σ w8 w9 w10 => k (σ, w8, w9, w10)) p0 (nI o) n a.1 a.2.1 a.2.2.1 a.2.2.2.1 a.2.2.2.2)
      (fun i a => o < i ∧ ∃ c2, gaC c c2 ∧ gNR c c2 ∧ a = (c2, v2 + gS (fun q => if o < q then F1 q o else 0) i, v3 + gS (fun q => if o < q then F2 q o else 0) i, v4 + gS (fun q => if o < q then F3 q o else 0) i, nI i))
      (fun r => ∃ c2, gaC c c2 ∧ gNR c c2 ∧ r = (c2, v2 + gS (fun q => if o < q then F1 q o else 0) S, v3 + gS (fun q => if o < q then F2 q o else 0) S, v4 + gS (fun q => if o < q then F3 q o else 0) S)) (o + 1) S ho (by omega)
      (a := (c1, v2, v3, v4, nI o + 1))
      (fun i a hi hI => by
        obtain ⟨hoi, c2, b1, b2, rfl⟩ := hI
        have hs1 : f_X10_sortCount c2 = nI S := (gCor_ag h' b1 gaM_rf).1.1.2.2.1
        have hn : ¬ nI S ≤ nI i := nI_ge hi (by omega)
        · obtain ⟨t, f1, f2, f3, f4, f5, f6⟩ := hCp o i c2 ho hi b1
          refine ⟨(t.1, v2 + gS (fun q => if o < q then F1 q o else 0) (i + 1), v3 + gS (fun q => if o < q then F2 q o else 0) (i + 1), v4 + gS (fun q => if o < q then F3 q o else 0) (i + 1), nI (i + 1)), fun k n => ?_, by omega, t.1, f2, gNR_tr b2 f3, rfl⟩
          have a1 : gS (fun q => if o < q then F1 q o else 0) (i + 1) = gS (fun q => if o < q then F1 q o else 0) i + F1 i o := by
            show _ + (if o < i then F1 i o else 0) = _
            rw [if_pos hoi]
          have a2 : gS (fun q => if o < q then F2 q o else 0) (i + 1) = gS (fun q => if o < q then F2 q o else 0) i + F2 i o := by
            show _ + (if o < i then F2 i o else 0) = _
            rw [if_pos hoi]
          have a3 : gS (fun q => if o < q then F3 q o else 0) (i + 1) = gS (fun q => if o < q then F3 q o else 0) i + F3 i o := by
            show _ + (if o < i then F3 i o else 0) = _
            rw [if_pos hoi]
          simp only [L_X0_pairsByRight_37, hs1, if_neg hn, f1, Option.bind_some, f4, f5, f6, nI_1, a1, a2, a3, Int32.add_assoc]
        )
      (fun a hI => by
        obtain ⟨-, c2, b1, b2, rfl⟩ := hI
        have hs1 : f_X10_sortCount c2 = nI S := (gCor_ag h' b1 gaM_rf).1.1.2.2.1
        have hn : nI S ≤ nI S := nI_le (Nat.le_refl _) (by omega)
        refine ⟨_, fun k n => ?_, c2, b1, b2, rfl⟩
        simp only [L_X0_pairsByRight_37, hs1, if_pos hn])
      ⟨Nat.lt_succ_self o, c1, aC, nC, by
        rw [gS_0 (f := fun q => if o < q then F1 q o else 0) (o + 1) (fun i hi => if_neg (by omega)), gS_0 (f := fun q => if o < q then F2 q o else 0) (o + 1) (fun i hi => if_neg (by omega)), gS_0 (f := fun q => if o < q then F3 q o else 0) (o + 1) (fun i hi => if_neg (by omega)), Int32.add_zero, Int32.add_zero, Int32.add_zero, nI_1]⟩
    subst g4
    exact ⟨c2, g2, g3, g1⟩
  -- the reference: one pair, a row
  have hMin : ∀ q m1 (v2 v3 v4 : Int32), q < S → gaM m0 m1 → gNRm m0 m1 → ∃ m2, gaM m0 m2 ∧ gNRm m0 m2 ∧ ∀ k : Zst × Int32 × Int32 × Int32 → Option (Zst × Int32), L_X12_right_36 (fun σ w8 w9 w10 => k (σ, w8, w9, w10)) p0 (nI q) zFu m1 v2 v3 v4 0 = k (m2, v2 + gS (fun o => F1 q o) q, v3 + gS (fun o => F2 q o) q, v4 + gS (fun o => F3 q o) q) := by
    intro q m1 v2 v3 v4 hq aM nM
    obtain ⟨ra, g1, m2, g2, g3, g4⟩ := gq_run1 (La := fun (k : Zst × Int32 × Int32 × Int32 → Option (Zst × Int32)) n (a : Zst × Int32 × Int32 × Int32 × Int32) => L_X12_right_36 (fun σ w8 w9 w10 => k (σ, w8, w9, w10)) p0 (nI q) n a.1 a.2.1 a.2.2.1 a.2.2.2.1 a.2.2.2.2)
      (fun i a => ∃ m2, gaM m0 m2 ∧ gNRm m0 m2 ∧ a = (m2, v2 + gS (fun o => F1 q o) i, v3 + gS (fun o => F2 q o) i, v4 + gS (fun o => F3 q o) i, nI i))
      (fun r => ∃ m2, gaM m0 m2 ∧ gNRm m0 m2 ∧ r = (m2, v2 + gS (fun o => F1 q o) q, v3 + gS (fun o => F2 q o) q, v4 + gS (fun o => F3 q o) q)) 0 q (Nat.zero_le _) (by omega)
      (a := (m1, v2, v3, v4, 0))
      (fun i a hi hI => by
        obtain ⟨m2, b1, b2, rfl⟩ := hI
        have ho : i < S := by omega
        have hn : ¬ nI q ≤ nI i := nI_ge hi (by omega)
        obtain ⟨-, -, -, gM⟩ := hM q hq
        obtain ⟨m3, f1, aM3, nM3, i1, i2⟩ := gM m2 b1
        obtain ⟨-, -, -, gM⟩ := hM i ho
        obtain ⟨m4, f2, aM4, nM4, i3, i4⟩ := gM m3 aM3
        have e : f_J13_signum_95d88 ((Int32.toInt64 (sF q) * Int32.toInt64 (kF i)) - (Int32.toInt64 (sF i) * Int32.toInt64 (kF q))) * f_J6_signum_0f7a4 (m4.2.1 1 q - m4.2.1 1 i) = P q i := by
          obtain ⟨x1, x2, x3⟩ := hmul q i hq ho
          obtain ⟨z1, z2, z3⟩ := hmul i q ho hq
          have e1 : (Int32.toInt64 (sF q) * Int32.toInt64 (kF i) - Int32.toInt64 (sF i) * Int32.toInt64 (kF q)).toInt = (sF q).toInt * (kF i).toInt - (sF i).toInt * (kF q).toInt := by
            rw [Int64.toInt_sub, x1, z1, gbm64 (by omega) (by omega)]
          rw [gSg64 (by omega) (by omega), e1, hP, aM4.2 1 rfl, (hRt q hq).2.1, (hRt i ho).2.1]
          obtain ⟨-, -, a, ha, ea⟩ := hRt q hq
          obtain ⟨-, -, b, hb, eb⟩ := hRt i ho
          rw [ea, eb, gSg32 a (by omega) b (by omega), gR5 ha, gR5 hb]
          congr 2
          omega
        refine ⟨(m4, v2 + gS (fun o => F1 q o) (i + 1), v3 + gS (fun o => F2 q o) (i + 1), v4 + gS (fun o => F3 q o) (i + 1), nI (i + 1)), fun k n => ?_, m4, aM4, gNRm_tr b2 (gNRm_tr nM3 nM4), rfl⟩
        have a1 : gS (fun o => F1 q o) (i + 1) = gS (fun o => F1 q o) i + F1 q i := rfl
        have a2 : gS (fun o => F2 q o) (i + 1) = gS (fun o => F2 q o) i + F2 q i := rfl
        have a3 : gS (fun o => F3 q o) (i + 1) = gS (fun o => F3 q o) i + F3 q i := rfl
        simp only [L_X12_right_36, if_neg hn, f1, f2, Option.bind_some, i1, i2, i3, i4, hk64 q hq, nI_1, a1, a2, a3]
        by_cases z1 : kF q = 0
        · have c1 : F1 q i = 0 := if_pos z1
          have c2 : F2 q i = 0 := if_pos z1
          have c3 : F3 q i = 0 := if_pos z1
          rw [if_pos z1, c1, c2, c3, Int32.add_zero, Int32.add_zero, Int32.add_zero]
        · by_cases z2 : kF i = 0
          · have c1 : F1 q i = 0 := (if_neg z1).trans (if_pos z2)
            have c2 : F2 q i = 0 := (if_neg z1).trans (if_pos z2)
            have c3 : F3 q i = 0 := (if_neg z1).trans (if_pos z2)
            rw [if_neg z1, if_pos z2, c1, c2, c3, Int32.add_zero, Int32.add_zero, Int32.add_zero]
          · have c1 : F1 q i = (if P q i ≤ 0 then 0 else 1) := (if_neg z1).trans (if_neg z2)
            have c2 : F2 q i = (if 0 ≤ P q i then 0 else 1) := (if_neg z1).trans (if_neg z2)
            have c3 : F3 q i = (if P q i = 0 then 1 else 0) := (if_neg z1).trans (if_neg z2)
            rw [if_neg z1, if_neg z2, gGx (show q < 8 by omega) (by decide), gGx (show i < 8 by omega) (by decide), nI_clamp (by omega), nI_clamp (by omega), e, gflag0, gflag0, gflag1, ← c1, ← c2, ← c3, Int32.add_assoc, Int32.add_assoc, Int32.add_assoc])
      (fun a hI => by
        obtain ⟨m2, b1, b2, rfl⟩ := hI
        have hn : nI q ≤ nI q := nI_le (Nat.le_refl _) (by omega)
        refine ⟨_, fun k n => ?_, m2, b1, b2, rfl⟩
        simp only [L_X12_right_36, if_pos hn])
      ⟨m1, aM, nM, by
        show (m1, v2, v3, v4, (0 : Int32)) = (m1, v2 + 0, v3 + 0, v4 + 0, nI 0)
        rw [Int32.add_zero, Int32.add_zero, Int32.add_zero]; rfl⟩
    subst g4
    exact ⟨m2, g2, g3, g1⟩
  -- all rows
  obtain ⟨ra, rb, h1, h2, h3⟩ := gq_lock (La := fun n (a : Zst × Int32 × Int32 × Int32 × Int32) => L_X0_pairsByRight_19 (fun σ18 w15 w16 w17 => J_X0_pairsByRight_115 σ18 w15 w16 w17) p0 n a.1 a.2.1 a.2.2.1 a.2.2.2.1 a.2.2.2.2)
    (Lb := fun n (a : Zst × Int32 × Int32 × Int32 × Int32) => L_X12_right_24 (fun σ18 w15 w16 w17 => J_X12_right_191 σ18 w15 w16 w17) p0 n a.1 a.2.1 a.2.2.1 a.2.2.2.1 a.2.2.2.2)
    (fun i a b => ∃ c1 m1, gaC c c1 ∧ gaM m0 m1 ∧ gNR c c1 ∧ gNRm m0 m1 ∧ a = (c1, gS (fun o => gS (fun q => if o < q then F1 q o else 0) S) i, gS (fun o => gS (fun q => if o < q then F2 q o else 0) S) i, gS (fun o => gS (fun q => if o < q then F3 q o else 0) S) i, nI i) ∧
      b = (m1, gS (fun q => gS (fun o => F1 q o) q) i, gS (fun q => gS (fun o => F2 q o) q) i, gS (fun q => gS (fun o => F3 q o) q) i, nI i))
    (fun ra rb => ra.2 = rb.2 ∧ gRel ra.1 rb.1) S (by omega) (a := (c, 0, 0, 0, 0)) (b := (m0, 0, 0, 0, 0))
    (fun i a b hi hI => by
      obtain ⟨c1, m1, aC, aM, nC, nM, rfl, rfl⟩ := hI
      have hcur := gCor_ag h' aC aM
      have hs1 : f_X10_sortCount c1 = nI S := hcur.1.1.2.2.1
      have hs2 : m1.1 2 = nI S := hcur.1.1.2.2.2.1
      have hn : ¬ nI S ≤ nI i := nI_ge hi (by omega)
      obtain ⟨c2, aC2, nC2, f1⟩ := hCin i c1 (gS (fun o => gS (fun q => if o < q then F1 q o else 0) S) i) (gS (fun o => gS (fun q => if o < q then F2 q o else 0) S) i) (gS (fun o => gS (fun q => if o < q then F3 q o else 0) S) i) hi aC nC
      obtain ⟨m2, aM2, nM2, f2⟩ := hMin i m1 (gS (fun q => gS (fun o => F1 q o) q) i) (gS (fun q => gS (fun o => F2 q o) q) i) (gS (fun q => gS (fun o => F3 q o) q) i) hi aM nM
      refine ⟨_, _, fun n => ?_, fun n => ?_, c2, m2, aC2, aM2, nC2, nM2, rfl, rfl⟩
      · have e := f1 (fun r => J_X0_pairsByRight_109 (fun σ w2 w3 w4 w5 => L_X0_pairsByRight_19 (fun σ18 w15 w16 w17 => J_X0_pairsByRight_115 σ18 w15 w16 w17) p0 n σ w2 w3 w4 w5) r.1 p0 r.2.1 r.2.2.1 r.2.2.2 (nI i))
        simp only [L_X0_pairsByRight_19, hs1, if_neg hn]
        refine e.trans ?_
        simp only [J_X0_pairsByRight_109, nI_1]
        rfl
      · have e := f2 (fun r => J_X12_right_185 (fun σ w2 w3 w4 w5 => L_X12_right_24 (fun σ18 w15 w16 w17 => J_X12_right_191 σ18 w15 w16 w17) p0 n σ w2 w3 w4 w5) r.1 p0 r.2.1 r.2.2.1 r.2.2.2 (nI i))
        simp only [L_X12_right_24, hs2, if_neg hn]
        refine e.trans ?_
        simp only [J_X12_right_185, nI_1]
        rfl)
    (fun a b hI => by
      obtain ⟨c1, m1, aC, aM, nC, nM, rfl, rfl⟩ := hI
      have hcur := gCor_ag h' aC aM
      have hs1 : f_X10_sortCount c1 = nI S := hcur.1.1.2.2.1
      have hs2 : m1.1 2 = nI S := hcur.1.1.2.2.2.1
      have hn : nI S ≤ nI S := nI_le (Nat.le_refl _) (by omega)
      have hr1 := gRR_nr hr' nC nM
      rw [gS_swap F1, gS_swap F2, gS_swap F3]
      obtain ⟨w1', w2', w3', w4'⟩ := gX_clear hr1
      obtain ⟨c3, m3, j1, j2, j3, j4, j5⟩ := gX_add w2' (by decide) (x := Int32.toInt64 (gS (fun q => gS (fun o => F2 q o) q) S)) rfl
      obtain ⟨c4, m4, l1, l2, l3, l4, l5⟩ := gX_add j3 (by decide) (x := Int32.toInt64 (gS (fun q => gS (fun o => F3 q o) q) S)) rfl
      refine ⟨(c4, gS (fun q => gS (fun o => F1 q o) q) S), (m4, gS (fun q => gS (fun o => F1 q o) q) S), fun n => ?_, fun n => ?_, rfl, gRel_of h' (gaC_tr aC (gOR_a (gOR_tr w3' (gOR_tr j4 l4)))) (gaM_tr aM (gORm_a (gORm_tr w4' (gORm_tr j5 l5)))) l3⟩
      · simp only [L_X0_pairsByRight_19, hs1, if_pos hn, J_X0_pairsByRight_115, w1', j1, l1, Option.bind_some]
      · simp only [L_X12_right_24, hs2, if_pos hn, J_X12_right_191, j2, l2, Option.bind_some])
    ⟨c, m0, gaC_rf, gaM_rf, ⟨rfl, rfl⟩, ⟨rfl, rfl⟩, rfl, rfl⟩
  have h1 : L_X0_pairsByRight_19 (fun σ18 w15 w16 w17 => J_X0_pairsByRight_115 σ18 w15 w16 w17) p0 zFu c 0 0 0 0 = some ra := h1
  have h2 : L_X12_right_24 (fun σ18 w15 w16 w17 => J_X12_right_191 σ18 w15 w16 w17) p0 zFu m0 0 0 0 0 = some rb := h2
  rw [h1, h2]
  exact ⟨ra, rb, rfl, rfl, h3⟩
