theorem gJr3 : ∀ x, x < 3 → jRem (nI x + 1) 3 = nI ((x + 1) % 3) ∧ jRem (nI x + 2) 3 = nI ((x + 2) % 3) := by decide
def gLow (D : Nat → Nat → Int) (x : Nat) : Int64 := Int64.ofInt (D ((x + 1) % 3) ((x + 2) % 3)) * Int64.ofInt (D x x)
def gUpp (D : Nat → Nat → Int) (x : Nat) : Int64 := Int64.ofInt (D x ((x + 1) % 3)) * Int64.ofInt (D x ((x + 2) % 3))
theorem gL_low {n : Nat} {Sm : Nat → Nat} {Pm : Nat → Nat → Nat} {c : Zst} (h : gSt n Sm Pm c) (hn : n ≤ 96) {x : Nat} (hx : x < 3) : f_X0_lowerOf c (nI x) = some (gLow (gD n Sm Pm) x) := by
  unfold f_X0_lowerOf
  rw [(gJr3 x hx).1, (gJr3 x hx).2, gL_spread h hn (Nat.mod_lt _ (by decide)) (Nat.mod_lt _ (by decide)), gL_spread h hn hx hx]
  rfl
theorem gMulD {D : Nat → Nat → Int} (hD : ∀ a b, a < 3 → b < 3 → -2299394304 ≤ D a b ∧ D a b ≤ 2299394304) {a b a' b' : Nat} (h1 : a < 3) (h2 : b < 3) (h3 : a' < 3) (h4 : b' < 3) :
    (Int64.ofInt (D a b) * Int64.ofInt (D a' b')).toInt = D a b * D a' b' ∧ -5287214165267644416 ≤ D a b * D a' b' ∧ D a b * D a' b' ≤ 5287214165267644416 := by
  have d1 := hD a b h1 h2
  have d2 := hD a' b' h3 h4
  have e1 : (Int64.ofInt (D a b)).toInt = D a b := by rw [Int64.toInt_ofInt_of_le (by omega) (by omega)]
  have e2 : (Int64.ofInt (D a' b')).toInt = D a' b' := by rw [Int64.toInt_ofInt_of_le (by omega) (by omega)]
  have := gMulB (x := Int64.ofInt (D a b)) (y := Int64.ofInt (D a' b')) (A := 2299394304) (B := 2299394304) (by rw [e1]; exact d1.1) (by rw [e1]; exact d1.2) (by rw [e2]; exact d2.1) (by rw [e2]; exact d2.2) (by decide) (by decide) (by decide)
  rw [e1, e2] at this
  refine ⟨this.1, Int.le_trans (by decide) this.2.1, Int.le_trans this.2.2 (by decide)⟩
theorem gLow0 {D : Nat → Nat → Int} (hD : ∀ a b, a < 3 → b < 3 → -2299394304 ≤ D a b ∧ D a b ≤ 2299394304) {x : Nat} (hx : x < 3) : (gLow D x = 0) = (D ((x + 1) % 3) ((x + 2) % 3) = 0 ∨ D x x = 0) := by
  have m := gMulD hD (a := (x + 1) % 3) (b := (x + 2) % 3) (a' := x) (b' := x) (Nat.mod_lt _ (by decide)) (Nat.mod_lt _ (by decide)) hx hx
  rw [eq_iff_iff, ← Int64.toInt_inj]
  unfold gLow
  rw [m.1]
  show _ = (0 : Int) ↔ _
  exact Int.mul_eq_zero
theorem gOz {D : Nat → Nat → Int} (hD : ∀ a b, a < 3 → b < 3 → -2299394304 ≤ D a b ∧ D a b ≤ 2299394304) {a b : Nat} (ha : a < 3) (hb : b < 3) : (Int64.ofInt (D a b) = 0) = (D a b = 0) := by
  have d1 := hD a b ha hb
  rw [eq_iff_iff, ← Int64.toInt_inj, Int64.toInt_ofInt_of_le (by omega) (by omega)]
  exact Iff.rfl
theorem gThr {D : Nat → Nat → Int} (hD : ∀ a b, a < 3 → b < 3 → -2299394304 ≤ D a b ∧ D a b ≤ 2299394304) {x : Nat} (hx : x < 3) (h0 : ¬ gLow D x = 0) : ∃ z, f_X0_thousandths (gUpp D x) (gLow D x) = some z ∧ f_X12_thousandths (gUpp D x) (gLow D x) = some z := by
  have m := gMulD hD (a := (x + 1) % 3) (b := (x + 2) % 3) (a' := x) (b' := x) (Nat.mod_lt _ (by decide)) (Nat.mod_lt _ (by decide)) hx hx
  have u := gMulD hD (a := x) (b := (x + 1) % 3) (a' := x) (b' := (x + 2) % 3) hx (Nat.mod_lt _ (by decide)) hx (Nat.mod_lt _ (by decide))
  have h1 : (gLow D x).toInt ≠ 0 := fun q => h0 (Int64.toInt_inj.mp q)
  refine gThous (x := gUpp D x) (y := gLow D x) ?_ ?_ ?_ ?_ h1
  · exact Int.le_trans (show (-9223372036854775807 : Int) ≤ -5287214165267644416 by decide) (by unfold gUpp; rw [u.1]; exact u.2.1)
  · exact Int.le_trans (by unfold gUpp; rw [u.1]; exact u.2.2) (by decide)
  · exact Int.le_trans (show (-9223372036854775807 : Int) ≤ -5287214165267644416 by decide) (by unfold gLow; rw [m.1]; exact m.2.1)
  · exact Int.le_trans (by unfold gLow; rw [m.1]; exact m.2.2) (by decide)
theorem gThreeCheck {m : Zst} {s n : Nat} {Sm : Nat → Nat} {Pm : Nat → Nat → Nat} (hD : ∀ a b, a < 3 → b < 3 → -2299394304 ≤ gD n Sm Pm a b ∧ gD n Sm Pm a b ≤ 2299394304) (f3 : ∀ a b, a < 3 → b < 3 → f_X12_together m (nI s) (nI a) (nI b) = some (Int64.ofInt (gD n Sm Pm a b))) (k : Option (Zst × Int32)) (v3 : Int32) :
    ((gLow (gD n Sm Pm) 0 = 0 ∨ gLow (gD n Sm Pm) 1 = 0 ∨ gLow (gD n Sm Pm) 2 = 0) → L_X12_three_48 k m (nI s) v3 zFu 0 = some (m, -2)) ∧ (¬ (gLow (gD n Sm Pm) 0 = 0 ∨ gLow (gD n Sm Pm) 1 = 0 ∨ gLow (gD n Sm Pm) 2 = 0) → L_X12_three_48 k m (nI s) v3 zFu 0 = k) := by
  obtain ⟨fu, hfu⟩ := gFu4
  have step : ∀ fu x, x < 3 → L_X12_three_48 k m (nI s) v3 (fu + 1) (nI x) = (if gLow (gD n Sm Pm) x = 0 then some (m, -2) else L_X12_three_48 k m (nI s) v3 fu (nI (x + 1))) := by
    intro fu x hx
    have t1 := f3 ((x + 1) % 3) ((x + 2) % 3) (Nat.mod_lt _ (by decide)) (Nat.mod_lt _ (by decide))
    have t2 := f3 x x hx hx
    simp only [L_X12_three_48, if_neg (show ¬ (3 : Int32) ≤ nI x from nI_ge (b := 3) hx (by decide)), (gJr3 x hx).1, (gJr3 x hx).2]
    rw [t1, Option.bind_some, t2]
    simp only [Option.bind_some]
    by_cases q1 : gD n Sm Pm ((x + 1) % 3) ((x + 2) % 3) = 0
    · rw [if_pos ((gOz hD (Nat.mod_lt _ (by decide)) (Nat.mod_lt _ (by decide))).mpr q1), if_pos ((gLow0 hD hx).mpr (Or.inl q1))]
    · rw [if_neg (fun z => q1 ((gOz hD (Nat.mod_lt _ (by decide)) (Nat.mod_lt _ (by decide))).mp z))]
      by_cases q2 : gD n Sm Pm x x = 0
      · rw [if_pos ((gOz hD hx hx).mpr q2), if_pos ((gLow0 hD hx).mpr (Or.inr q2))]
      · rw [if_neg (fun z => q2 ((gOz hD hx hx).mp z)), if_neg (fun z => ((gLow0 hD hx).mp z).elim q1 q2), nI_1]
  have e : L_X12_three_48 k m (nI s) v3 zFu 0 = (if gLow (gD n Sm Pm) 0 = 0 then some (m, -2) else (if gLow (gD n Sm Pm) 1 = 0 then some (m, -2) else (if gLow (gD n Sm Pm) 2 = 0 then some (m, -2) else k))) := by
    rw [hfu]
    have e0 := step (fu + 1 + 1 + 1) 0 (by decide)
    have e0 : L_X12_three_48 k m (nI s) v3 (fu + 1 + 1 + 1 + 1) 0 = _ := e0
    rw [e0, step (fu + 1 + 1) (0 + 1) (by decide), step (fu + 1) (0 + 1 + 1) (by decide)]
    have e3 : L_X12_three_48 k m (nI s) v3 (fu + 1) (nI (0 + 1 + 1 + 1)) = k := by
      simp only [L_X12_three_48, if_pos (show (3 : Int32) ≤ nI (0 + 1 + 1 + 1) by decide)]
    rw [e3]
  rw [e]
  constructor
  · intro h
    by_cases q0 : gLow (gD n Sm Pm) 0 = 0
    · rw [if_pos q0]
    · rw [if_neg q0]
      by_cases q1 : gLow (gD n Sm Pm) 1 = 0
      · rw [if_pos q1]
      · rw [if_neg q1, if_pos ((h.resolve_left q0).resolve_left q1)]
  · intro h
    rw [if_neg (fun q => h (Or.inl q)), if_neg (fun q => h (Or.inr (Or.inl q))), if_neg (fun q => h (Or.inr (Or.inr q)))]
theorem pp_three : lp_three gRel := by
  intro c m hR p0 p1
  obtain ⟨S, T, n, h, hr⟩ := hR
  have no : gRel c (zI m 0 0) := gNo h hr
  have h' : gCor S T c (zI m 0 0) := gCor_ag h gaC_rf gaM_0
  have hr' : gRR n c (zI m 0 0) := hr
  have hA : m.2.1 13 = (zI m 0 0).2.1 13 := rfl
  unfold f_X11_three f_X0_threeApart f_X12_three
  simp only [gL_way, gL_sort h'.1, hA]
  generalize zI m 0 0 = m0 at *
  rcases gS_sort h.1 p0 with ⟨e0, s, x1, x2⟩ | e0
  case inr => simp only [e0, ↓reduceIte, Option.bind_some]; exact ⟨_, _, rfl, rfl, rfl, no⟩
  rcases gS_way p1 with ⟨e1, y, y1, y2⟩ | e1
  case inr => simp only [e0, e1, gq_10, ↓reduceIte, Option.bind_some]; exact ⟨_, _, rfl, rfl, rfl, no⟩
  subst x2
  obtain ⟨g1, g2⟩ := gKind3 h' p1
  have hr2 : gRR n c (zA m0 13 (upd (m0.2.1 13) (Int32.toNatClampNeg 2) (2 + p1))) := hr'
  generalize zA m0 13 (upd (m0.2.1 13) (Int32.toNatClampNeg 2) (2 + p1)) = m1 at *
  have h2 := gCor_ag h' gaC_rf g1
  obtain ⟨N, Sm, Pm, c1, hN, f1, aC, nC, hst, f2, f3, hD⟩ := gThree h2 x1 y2 y1 g2
  have hr1 : gRR n c1 m1 := gRR_nr hr2 nC ⟨rfl, rfl⟩
  have c2e : (nI N < 2) = (N < 2) := propext (nI_ltI (b := 2) (by omega) (by decide))
  have c2m : ((2 : Int32) ≤ nI N) = (2 ≤ N) := propext (nI_leI (a := 2) (by decide) (by omega))
  have fin2 : gRel ((c1, (-2 : Int32)) : Zst × Int32).1 ((m1, (-2 : Int32)) : Zst × Int32).1 := gRel_of h' aC g1 hr1
  simp only [e0, e1, gq_10, ↓reduceIte, f1, f2, Option.bind_some, hst.1, c2e, c2m]
  by_cases q : N < 2
  · simp only [if_pos q, if_neg (show ¬ 2 ≤ N by omega), Option.bind_some]
    exact ⟨(c1, -2), (m1, -2), rfl, rfl, rfl, fin2⟩
  simp only [if_neg q, if_pos (show 2 ≤ N by omega)]
  have l0 : f_X0_lowerOf c1 0 = _ := gL_low hst hN (x := 0) (by decide)
  have l1 : f_X0_lowerOf c1 1 = _ := gL_low hst hN (x := 1) (by decide)
  have l2 : f_X0_lowerOf c1 2 = _ := gL_low hst hN (x := 2) (by decide)
  obtain ⟨ck1, ck2⟩ := gThreeCheck hD (f3 m1 rfl rfl) (J_X12_three_99 m1 (nI s) (nI N)) (nI N)
  rw [l0, Option.bind_some, l1]
  simp only [Option.bind_some]
  rw [l2]
  simp only [Option.bind_some]
  by_cases z : gLow (gD N Sm Pm) 0 = 0 ∨ gLow (gD N Sm Pm) 1 = 0 ∨ gLow (gD N Sm Pm) 2 = 0
  · rw [ck1 z]
    refine ⟨(c1, -2), (m1, -2), ?_, rfl, rfl, fin2⟩
    by_cases q0 : gLow (gD N Sm Pm) 0 = 0
    · rw [if_pos q0]; rfl
    · rw [if_neg q0]
      by_cases q1 : gLow (gD N Sm Pm) 1 = 0
      · rw [if_pos q1]; rfl
      · rw [if_neg q1, if_pos ((z.resolve_left q0).resolve_left q1)]; rfl
  · rw [ck2 z, if_neg (fun q => z (Or.inl q)), if_neg (fun q => z (Or.inr (Or.inl q))), if_neg (fun q => z (Or.inr (Or.inr q)))]
    have hz : ∀ x, x < 3 → ¬ gLow (gD N Sm Pm) x = 0 := by
      intro x hx hq
      have hx3 : x = 0 ∨ x = 1 ∨ x = 2 := by omega
      rcases hx3 with rfl | rfl | rfl
      · exact z (Or.inl hq)
      · exact z (Or.inr (Or.inl hq))
      · exact z (Or.inr (Or.inr hq))
    obtain ⟨w1, w2, w3, w4⟩ := gX_clear hr1
    obtain ⟨ra, rb, r1, r2, r3⟩ := gq_lock (La := fun n (a : Zst × Int32) => L_X0_threeApart_77 n a.1 a.2)
      (Lb := fun n (a : Zst × Int32) => L_X12_three_107 (nI s) (nI N) n a.1 a.2)
      (fun i a b => ∃ c2 m2, a = (c2, nI i) ∧ b = (m2, nI i) ∧ gOR c1 c2 ∧ gORm m1 m2 ∧ gRR i c2 m2)
      (fun ra rb => ra.2 = rb.2 ∧ gRel ra.1 rb.1) 3 (by omega) (a := (zI c1 0 0, 0)) (b := (zI m1 1 0, 0))
      (fun i a b hi hI => by
        obtain ⟨c2, m2, rfl, rfl, oC, oM, hrr⟩ := hI
        have hst2 := gSt_or hst oC
        have u1 := f3 m2 (oM.1 3 (by decide)) oM.2.1
        obtain ⟨th, t1, t2⟩ := gThr hD hi (hz i hi)
        obtain ⟨c3, m3, j1, j2, j3, j4, j5⟩ := gX_add hrr (by omega) (x := th) rfl
        have hi3 : ¬ (3 : Int32) ≤ nI i := nI_ge (b := 3) hi (by decide)
        refine ⟨(c3, nI (i + 1)), (m3, nI (i + 1)), fun n => ?_, fun n => ?_, c3, m3, rfl, rfl, gOR_tr oC j4, gORm_tr oM j5, j3⟩
        · show L_X0_threeApart_77 (n + 1) c2 (nI i) = L_X0_threeApart_77 n c3 (nI (i + 1))
          have e : L_X0_threeApart_77 (n + 1) c2 (nI i) = (f_X0_thousandths (gUpp (gD N Sm Pm) i) (gLow (gD N Sm Pm) i)).bind fun t4 => (f_X5_add c2 t4).bind fun t5 => L_X0_threeApart_77 n t5 (nI i + 1) := by
            simp only [L_X0_threeApart_77, if_neg hi3, (gJr3 i hi).1, (gJr3 i hi).2]
            rw [gL_spread hst2 hN hi (Nat.mod_lt _ (by decide)), Option.bind_some, gL_spread hst2 hN hi (Nat.mod_lt _ (by decide)), Option.bind_some, gL_low hst2 hN hi, Option.bind_some]
            rfl
          rw [e, t1, Option.bind_some, j1, Option.bind_some, nI_1]
        · show L_X12_three_107 (nI s) (nI N) (n + 1) m2 (nI i) = L_X12_three_107 (nI s) (nI N) n m3 (nI (i + 1))
          have e : L_X12_three_107 (nI s) (nI N) (n + 1) m2 (nI i) = (f_X12_thousandths (gUpp (gD N Sm Pm) i) (gLow (gD N Sm Pm) i)).bind fun t7 => (f_X12_enters m2 t7).bind fun t8 => L_X12_three_107 (nI s) (nI N) n t8 (nI i + 1) := by
            simp only [L_X12_three_107, if_neg hi3, (gJr3 i hi).1, (gJr3 i hi).2]
            rw [u1 i _ hi (Nat.mod_lt _ (by decide)), Option.bind_some, u1 i _ hi (Nat.mod_lt _ (by decide)), Option.bind_some, u1 _ _ (Nat.mod_lt _ (by decide)) (Nat.mod_lt _ (by decide)), Option.bind_some, u1 i i hi hi, Option.bind_some]
            rfl
          rw [e, t2, Option.bind_some, j2, Option.bind_some, nI_1])
      (fun a b hI => by
        obtain ⟨c2, m2, rfl, rfl, oC, oM, hrr⟩ := hI
        have hst2 := gSt_or hst oC
        refine ⟨(c2, nI N), (m2, nI N), fun n => ?_, fun n => ?_, rfl, gRel_of h' (gaC_tr aC (gOR_a oC)) (gaM_tr g1 (gORm_a oM)) hrr⟩
        · simp only [L_X0_threeApart_77, if_pos (show (3 : Int32) ≤ nI 3 by decide), hst2.1]
        · simp only [L_X12_three_107, if_pos (show (3 : Int32) ≤ nI 3 by decide)])
      ⟨zI c1 0 0, zI m1 1 0, rfl, rfl, w3, w4, w2⟩
    have r1 : L_X0_threeApart_77 zFu (zI c1 0 0) 0 = some ra := r1
    have r2 : L_X12_three_107 (nI s) (nI N) zFu (zI m1 1 0) 0 = some rb := r2
    unfold J_X12_three_99
    rw [w1, Option.bind_some, r1, r2]
    exact ⟨ra, rb, rfl, rfl, r3⟩
