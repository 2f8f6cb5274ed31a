theorem gPowM {v0 : Int64} {y e : Nat} (hv : v0 = lN y) (he : e ≤ 4) : f_X12_power v0 (nI e) = some (lN (y ^ e)) := by
  subst hv
  obtain ⟨r, h1, rfl⟩ := gq_loop (La := fun n (a : Int64 × Int32) => L_X12_power_5 (lN y) (nI e) n a.1 a.2)
    (fun i a => a = (lN (y ^ i), nI i)) (fun r => r = lN (y ^ e)) e (by omega) (a := (1, 0))
    (fun i a hi hI => by
      subst hI
      refine ⟨(lN (y ^ (i + 1)), nI (i + 1)), fun n => ?_, rfl⟩
      simp only [L_X12_power_5, if_neg (nI_ge hi (show e < 2 ^ 31 by omega)), lN_mul, nI_1, Nat.pow_succ])
    (fun a hI => by
      subst hI
      exact ⟨_, fun n => by simp only [L_X12_power_5, if_pos (show nI e ≤ nI e from Int32.le_refl _)], rfl⟩) (by rw [Nat.pow_zero]; rfl)
  exact h1
theorem gTens (d : Int32) : ∃ e : Nat, e ≤ 4 ∧ f_X11_within d 0 4 = nI e ∧ jMax 0 (jMin 4 d) = nI e := by
  unfold f_X11_within jMax jMin
  have t0 : (0 : Int32).toInt = 0 := rfl
  have t4 : (4 : Int32).toInt = 4 := rfl
  by_cases h0 : (0 : Int32) ≤ d
  · rw [if_pos h0]
    by_cases h4 : d ≤ 4
    · rw [if_pos h4]
      have g0 := h0
      have g4 := h4
      rw [Int32.le_iff_toInt_le] at g0 g4
      obtain ⟨e, e1, rfl⟩ := gq_nat (p := d) (n := 4) (by omega) (by omega)
      refine ⟨e, e1, rfl, ?_⟩
      by_cases q : nI e < 4
      · rw [if_pos q]
        by_cases r : (0 : Int32) < nI e
        · rw [if_pos r]
        · rw [if_neg r]
          have := Int32.le_antisymm h0 (Int32.not_lt.mp r)
          exact this
      · rw [if_neg q, if_pos (by decide)]
        exact Int32.le_antisymm (Int32.not_lt.mp q) h4
    · rw [if_neg h4]
      refine ⟨4, by decide, rfl, ?_⟩
      rw [if_neg (fun q => h4 (Int32.le_of_lt q)), if_pos (by decide)]
      rfl
  · rw [if_neg h0]
    refine ⟨0, by decide, rfl, ?_⟩
    have g0 := Int32.not_le.mp h0
    rw [Int32.lt_iff_toInt_lt] at g0
    rw [if_pos (show d < 4 by rw [Int32.lt_iff_toInt_lt]; omega), if_neg (show ¬ (0 : Int32) < d by rw [Int32.lt_iff_toInt_lt]; omega)]
    rfl
theorem gGrown {m : Zst} {a y s : Nat} (ha : a ≤ 9999) (hy0 : 1 ≤ y) (hy : y ≤ 100) (hs : s < 8) (hm : m.2.1 2 s = nI y) (d : Int32) : ∃ R : Int64, f_X3_grown (nI a) (nI y) d = some R ∧ f_X12_once m (nI s) (nI a) d = some R := by
  obtain ⟨e, e1, e2, e3⟩ := gTens (d / 10)
  have hpow : y ^ e ≤ 100 ^ 4 := Nat.le_trans (Nat.pow_le_pow_left hy e) (Nat.pow_le_pow_right (by decide) e1)
  have hpos : 0 < y ^ e := Nat.pow_pos (by omega)
  have hne : ¬ lN (y ^ e) = 0 := by
    rw [show (0 : Int64) = lN 0 from rfl, lN_eq (by omega) (by omega)]; omega
  have hnle : ¬ lN (y ^ e) ≤ 0 := by
    rw [Int64.le_iff_toInt_le, pk_lT (by omega)]
    show ¬ ((y ^ e : Nat) : Int) ≤ 0
    omega
  refine ⟨lN (a * 100 ^ e) / lN (y ^ e), ?_, ?_⟩
  · unfold f_X3_grown
    rw [e2]
    obtain ⟨r, h1, rfl⟩ := gq_loop (La := fun n (x : Int64 × Int64 × Int32) => L_X3_grown_20 (fun w1 w2 => J_X3_grown_47 w1 w2) (nI y) (nI e) n x.1 x.2.1 x.2.2)
      (fun i x => x = (lN (a * 100 ^ i), lN (y ^ i), nI i)) (fun r => r = lN (a * 100 ^ e) / lN (y ^ e)) e (by omega) (a := (Int32.toInt64 (nI a), 1, 0))
      (fun i x hi hI => by
        subst hI
        refine ⟨(lN (a * 100 ^ (i + 1)), lN (y ^ (i + 1)), nI (i + 1)), fun n => ?_, rfl⟩
        simp only [L_X3_grown_20, if_neg (nI_ge hi (show e < 2 ^ 31 by omega)), show (100 : Int64) = lN 100 from rfl, nI_l (show y < 2 ^ 31 by omega), lN_mul, nI_1, Nat.pow_succ, Nat.mul_assoc])
      (fun x hI => by
        subst hI
        exact ⟨_, fun n => by simp only [L_X3_grown_20, if_pos (show nI e ≤ nI e from Int32.le_refl _), J_X3_grown_47, if_neg hnle, gNzL_ok hne], rfl⟩) (by rw [Nat.pow_zero, Nat.pow_zero, Nat.mul_one, nI_l (show a < 2 ^ 31 by omega)]; rfl)
    exact h1
  · unfold f_X12_once
    rw [e3, show f_X12_power 100 (nI e) = _ from gPowM (y := 100) rfl e1, Option.bind_some, gGx hs (by decide), nI_clamp (show s < 2 ^ 31 by omega), hm, gPowM (y := y) (nI_l (by omega)) e1, Option.bind_some, gNzL_ok hne, nI_l (show a < 2 ^ 31 by omega), lN_mul]
theorem gX_frame {c c' : Zst} {l : Int32} (h1 : c'.1 23 = c.1 23) (h2 : c'.2.1 = c.2.1) : f_X3_firstYearOf c' l = f_X3_firstYearOf c l ∧ f_X3_lastYearOf c' l = f_X3_lastYearOf c l := by
  have k1 : ∀ n x y, L_X3_firstYearOf_6 c' l n x y = L_X3_firstYearOf_6 c l n x y := by
    intro n
    induction n with
    | zero => intro x y; rfl
    | succ n ih => intro x y; simp only [L_X3_firstYearOf_6, h1, h2, ih]
  have k2 : ∀ n x y, L_X3_lastYearOf_6 c' l n x y = L_X3_lastYearOf_6 c l n x y := by
    intro n
    induction n with
    | zero => intro x y; rfl
    | succ n ih => intro x y; simp only [L_X3_lastYearOf_6, h1, h2, ih]
  exact ⟨k1 _ _ _, k2 _ _ _⟩
theorem pp_was : lp_was gRel := by
  intro c m hR p0 p1 p2 p3
  obtain ⟨S, T, n, h, hr⟩ := hR
  have no : gRel c (zI m 0 0) := gNo h hr
  have h' : gCor S T c (zI m 0 0) := gCor_ag h gaC_rf gaM_0
  have hr' : gRR n c (zI m 0 0) := hr
  have hS := h.1.1.1
  unfold f_X11_was f_X3_thrownOnce f_X3_isLayer f_X12_was
  simp only [gq_in_0_9, gL_sort h'.1, gq_in_0_9999, gL_year]
  generalize zI m 0 0 = m0 at *
  rcases gS_btw (p := p0) (a := 0) (b := 9) 0 9 rfl rfl (by decide) (by decide) with ⟨e0, l, -, l1, l2⟩ | e0
  case inr => simp only [e0, ↓reduceIte, Option.bind_some]; exact ⟨_, _, rfl, rfl, rfl, no⟩
  rcases gS_sort h.1 p1 with ⟨e1, s, x1, x2⟩ | e1
  case inr => simp only [e0, e1, gq_10, ↓reduceIte, Option.bind_some]; exact ⟨_, _, rfl, rfl, rfl, no⟩
  rcases gS_btw (p := p2) (a := 0) (b := 9999) 0 9999 rfl rfl (by decide) (by decide) with ⟨e2, a, -, a1, a2⟩ | e2
  case inr => simp only [e0, e1, e2, gq_10, ↓reduceIte, Option.bind_some]; exact ⟨_, _, rfl, rfl, rfl, no⟩
  rcases gS_btw (p := p3) (a := 1900) (b := 2100) 1900 2100 rfl rfl (by decide) (by decide) with ⟨e3, y, -, -, -⟩ | e3
  case inr => simp only [e0, e1, e2, e3, gq_10, ↓reduceIte, Option.bind_some]; exact ⟨_, _, rfl, rfl, rfl, no⟩
  subst l2 x2 a2
  obtain ⟨P, x, u, v, hP, d1, d2, hx, hc, hw⟩ := gRM_fn h'.2.2.2.2.1
  have hx1 : ∀ i, i < P → x i < 10 ∧ 1900 ≤ u i ∧ u i ≤ v i ∧ v i ≤ 2100 := fun i hi => (hx i hi).1
  obtain ⟨b, b1, b2⟩ := gTog hP d1 (fun i hi => (hx1 i hi).2.2.1) hw (2 ^ P - 1)
  obtain ⟨m1, b', g1, g2, g3, g4, g5, g6⟩ := gDates (m := m0) hP d2 hx (w0 := 0) (K := fun _ => true) (fun i hi => by
    show f_X12_has (nI 0) (nI i) = 0
    rw [gq_has, gHasBit (by omega), Nat.zero_testBit]; rfl)
  have hbb : b = b' := by
    rw [Bool.eq_iff_iff, b2, g2]
    have ht : ∀ i, i < P → (2 ^ P - 1).testBit i = true := fun i hi => by rw [Nat.testBit_two_pow_sub_one]; exact decide_eq_true hi
    exact ⟨fun q i j hi hj _ _ hij => q i j hi hj (ht i hi) (ht j hj) hij, fun q i j hi hj _ _ hij => q i j hi hj rfl rfl hij⟩
  subst hbb
  simp only [e0, e1, e2, e3, gq_10, ↓reduceIte, gAllP hP d1, b1, g1, Option.bind_some]
  cases b
  · simp only [Bool.false_eq_true, ↓reduceIte, Option.bind_some]
    exact ⟨_, _, rfl, rfl, rfl, gRel_of h' gaC_rf g3 (gRR_nr hr' ⟨rfl, rfl⟩ g4)⟩
  simp only [↓reduceIte, gq_10]
  obtain ⟨k1, k2⟩ := gFirst hP (show l < 10 by omega) d1 hx1 hc
  obtain ⟨-, -, y, -, -, -, y1, y2, -, -, y3⟩ := h.1.2.2.1 s x1
  have hlast : f_X10_lastsOf c (nI s) = some (nI y) := by
    unfold f_X10_lastsOf
    rw [e1, if_neg (by decide), gGx (show s < 8 by omega) (by decide), nI_clamp (show s < 2 ^ 31 by omega), y3]
  have hm2 : m1.2.1 2 s = nI y := by
    rw [g3.2 2 rfl, h'.1.2.1.2.2.1, y3]
  have hr1 : gRR n c m1 := gRR_nr hr' ⟨rfl, rfl⟩ g4
  obtain ⟨w1, w2, w3, w4⟩ := gX_clear hr1
  have s2 : m1.2.1 28 l = nI (gHi x v (fun _ => true) l P) := g6 l (by omega)
  obtain ⟨R1, r1, r2⟩ := gGrown (m := zI m1 1 0) a1 y1 y2 (show s < 8 by omega) hm2 (p3 - nI (gHi x v (fun _ => true) l P))
  obtain ⟨c2, m2, i1, i2, i3, i4, i5⟩ := gX_add w2 (by decide) (x := R1) (y := R1) rfl
  have q1 := gOR_tr w3 i4
  have q2 := gORm_tr w4 i5
  have hm3 : m2.2.1 2 s = nI y := by rw [q2.2.1]; exact hm2
  have s3 : m2.2.1 27 l = nI (gLo x u (fun _ => true) l P) := by rw [q2.2.1]; exact g5 l (by omega)
  obtain ⟨R2, r3, r4⟩ := gGrown (m := m2) a1 y1 y2 (show s < 8 by omega) hm3 (p3 - nI (gLo x u (fun _ => true) l P))
  obtain ⟨c3, m3, j1, j2, j3, j4, j5⟩ := gX_add i3 (by decide) (x := R2) (y := R2) rfl
  have fr1 := gX_frame (c := c) (c' := zI c 0 0) (l := nI l) rfl rfl
  have fr2 := gX_frame (c := c) (c' := c2) (l := nI l) (q1.1 23 (by decide)) q1.2.1
  simp only [hlast, w1, Option.bind_some, fr1.2, fr2.1, k1, k2, r1, i1, r3, j1, gGx (show l < 10 by omega) (by decide), nI_clamp (show l < 2 ^ 31 by omega), s2, r2, i2, s3, r4, j2]
  exact ⟨_, _, rfl, rfl, rfl, gRel_of h' (gOR_a (gOR_tr q1 j4)) (gaM_tr g3 (gORm_a (gORm_tr q2 j5))) j3⟩
/-- bits set -/
def gpc : Nat → Nat → Nat
  | 0, _ => 0
  | f + 1, k => k % 2 + gpc f (k / 2)
theorem gpc_0 : ∀ f, gpc f 0 = 0
  | 0 => rfl
  | f + 1 => by unfold gpc; rw [Nat.zero_div, gpc_0 f]
theorem gpc_lt : ∀ f k P, P ≤ f → k < 2 ^ P → gpc f k ≤ P ∧ (k < 2 ^ P - 1 → gpc f k < P) ∧ (k = 2 ^ P - 1 → gpc f k = P)
  | f, k, 0, _, hk => by
    have : k = 0 := by simpa using hk
    subst this
    rw [gpc_0]
    exact ⟨Nat.le_refl 0, fun q => absurd q (Nat.not_lt_zero 0), fun _ => rfl⟩
  | 0, _, P + 1, h, _ => absurd h (by omega)
  | f + 1, k, P + 1, h, hk => by
    rw [Nat.pow_succ] at hk ⊢
    have ih := gpc_lt f (k / 2) P (by omega) (by omega)
    unfold gpc
    generalize 2 ^ P = z at *
    omega
theorem gPc0 : ∀ a, a < 64 → ∀ b, b < 64 → f_J6_bitCount_0f7a4 (nI (64 * a + b)) = nI (gpc 12 (64 * a + b)) := by decide +kernel
theorem gPc {k : Nat} (h : k < 4096) : f_J6_bitCount_0f7a4 (nI k) = nI (gpc 12 k) := by
  have := gPc0 (k / 64) (by omega) (k % 64) (by omega)
  rw [show 64 * (k / 64) + k % 64 = k by omega] at this
  exact this
theorem gMask {P i : Nat} (hP : P ≤ 12) (hi : i < 2 ^ P) : nI (2 ^ P - 1) &&& (nI i ^^^ (-1)) = nI ((2 ^ P - 1) ^^^ i) := by
  apply b_ext
  intro j hj
  rw [b_and, b_xor, gbt_nI hj, gbt_nI hj, gbt_nI hj, b_m1 j hj, Nat.testBit_xor, Nat.testBit_two_pow_sub_one]
  by_cases h : j < P
  · rw [decide_eq_true h]
    cases i.testBit j <;> rfl
  · have : i.testBit j = false := Nat.testBit_lt_two_pow (Nat.lt_of_lt_of_le hi (Nat.pow_le_pow_right (by decide) (by omega)))
    rw [decide_eq_false h, this]; rfl
theorem pp_stray : lp_stray gRel := by
  intro c m hR
  obtain ⟨S, T, n, h, hr⟩ := hR
  have no : gRel c (zI m 0 0) := gNo h hr
  have h' : gCor S T c (zI m 0 0) := gCor_ag h gaC_rf gaM_0
  have hr' : gRR n c (zI m 0 0) := hr
  unfold f_X11_stray f_X3_fewestOut f_X12_stray
  generalize zI m 0 0 = m0 at *
  obtain ⟨P, x, u, v, hP, d1, d2, hx, hc, hw⟩ := gRM_fn h'.2.2.2.2.1
  have hx1 : ∀ i, i < P → x i < 10 ∧ 1900 ≤ u i ∧ u i ≤ v i ∧ v i ≤ 2100 := fun i hi => (hx i hi).1
  have hPP : 2 ^ P ≤ 4096 := Nat.pow_le_pow_right (n := 2) (by decide) hP
  have hPp : 1 ≤ 2 ^ P := Nat.one_le_two_pow
  obtain ⟨ra, rb, h1, h2, h3, h4⟩ := gq_lock (La := fun n (a : Int32 × Int32) => L_X3_fewestOut_7 (fun w4 => J_X3_fewestOut_49 c w4) c n a.1 a.2)
    (Lb := fun n (a : Zst × Int32 × Int32) => L_X12_stray_9 (fun σ9 w8 => J_X12_stray_64 σ9 w8) n a.1 a.2.1 a.2.2)
    (fun i a b => ∃ (m1 : Zst) (B : Nat) (M : Int32), a = (nI B, nI i) ∧ b = (m1, M, nI i) ∧ B < 2 ^ P ∧ gaM m0 m1 ∧ gNRm m0 m1 ∧ ((M = -1 ∧ B = 2 ^ P - 1 ∧ i ≤ 2 ^ P - 1) ∨ M = nI B))
    (fun ra rb => ra.2 = rb.2 ∧ gRel ra.1 rb.1) (2 ^ P) (by omega) (a := (nI (2 ^ P - 1), 0)) (b := (m0, -1, 0))
    (fun i a b hi hI => by
      obtain ⟨m1, B, M, rfl, rfl, hB, am, an, hM⟩ := hI
      have d2' : m1.1 23 = nI P := by rw [am.1.1 23 rfl, d2]
      have hx' : ∀ i, i < P → (x i < 10 ∧ 1900 ≤ u i ∧ u i ≤ v i ∧ v i ≤ 2100) ∧ m1.2.1 24 i = nI (x i) ∧ m1.2.1 25 i = nI (u i) ∧ m1.2.1 26 i = nI (v i) := fun i hi => by
        rw [am.2 24 rfl, am.2 25 rfl, am.2 26 rfl]; exact hx i hi
      obtain ⟨b, b1, b2⟩ := gTog hP d1 (fun i hi => (hx1 i hi).2.2.1) hw ((2 ^ P - 1) ^^^ i)
      obtain ⟨m2, b', g1, g2, g3, g4, -, -⟩ := gDates (m := m1) hP d2' hx' (w0 := nI i) (K := fun j => ((2 ^ P - 1) ^^^ i).testBit j) (fun j hj => by
        rw [gq_has, gHasBit (by omega), Nat.testBit_xor, Nat.testBit_two_pow_sub_one, decide_eq_true hj]
        cases i.testBit j <;> rfl)
      have hbb : b = b' := by
        rw [Bool.eq_iff_iff, b2, g2]
      subst hbb
      have am2 : gaM m0 m2 := gaM_tr am g3
      have an2 : gNRm m0 m2 := ⟨g4.1.trans an.1, g4.2.trans an.2⟩
      have n1 : ¬ nI (2 ^ P - 1) < nI i := by
        rw [nI_ltI (by omega) (by omega)]; omega
      have n2 : ¬ nI (2 ^ P) ≤ nI i := nI_ge hi (by omega)
      have pB := (gpc_lt 12 B P hP hB).1
      have pi := gpc_lt 12 i P hP hi
      have hcmp : ∀ A, A < 2 ^ P → (f_J6_bitCount_0f7a4 (nI A) ≤ f_J6_bitCount_0f7a4 (nI i)) = (gpc 12 A ≤ gpc 12 i) := fun A hA => by
        rw [gPc (by omega), gPc (by omega)]
        exact propext (nI_leI (by have := (gpc_lt 12 A P hP hA).1; omega) (by omega))
      rcases hM with ⟨hM, hB2, hi2⟩ | hM
      · subst hM
        by_cases hl : i = 2 ^ P - 1
        · -- all taken out
          have hb : b = true := by
            rw [b2]
            intro a c _ _ ka
            rw [hl, Nat.xor_self, Nat.zero_testBit] at ka
            cases ka
          subst hb
          refine ⟨(nI B, nI (i + 1)), (m2, nI i, nI (i + 1)), fun n => ?_, fun n => ?_, m2, B, nI i, rfl, rfl, hB, am2, an2, Or.inr (by rw [hB2, hl])⟩
          · have : gpc 12 B ≤ gpc 12 i := by rw [hB2, hl]; exact Nat.le_refl _
            simp only [L_X3_fewestOut_7, gAllP hP d1, if_neg n1, hcmp B hB, if_pos this, nI_1]
          · simp only [L_X12_stray_9, d2', gShl1 (show P < 31 by omega), if_neg n2, show ((-1 : Int32) < 0) = True by decide, ↓reduceIte, gq_10, g1, Option.bind_some, nI_1]
        · have hlt := pi.2.1 (by omega)
          have hall := (gpc_lt 12 B P hP hB).2.2 hB2
          have hn : ¬ gpc 12 B ≤ gpc 12 i := by omega
          cases b
          · refine ⟨(nI B, nI (i + 1)), (m2, -1, nI (i + 1)), fun n => ?_, fun n => ?_, m2, B, -1, rfl, rfl, hB, am2, an2, Or.inl ⟨rfl, hB2, by omega⟩⟩
            · simp only [L_X3_fewestOut_7, gAllP hP d1, if_neg n1, hcmp B hB, if_neg hn, gMask hP hi, b1, Option.bind_some, Bool.false_eq_true, ↓reduceIte, nI_1]
            · simp only [L_X12_stray_9, d2', gShl1 (show P < 31 by omega), if_neg n2, show ((-1 : Int32) < 0) = True by decide, ↓reduceIte, gq_10, g1, Option.bind_some, Bool.false_eq_true, nI_1]
          · refine ⟨(nI i, nI (i + 1)), (m2, nI i, nI (i + 1)), fun n => ?_, fun n => ?_, m2, i, nI i, rfl, rfl, hi, am2, an2, Or.inr rfl⟩
            · simp only [L_X3_fewestOut_7, gAllP hP d1, if_neg n1, hcmp B hB, if_neg hn, gMask hP hi, b1, Option.bind_some, gq_10, ↓reduceIte, nI_1]
            · simp only [L_X12_stray_9, d2', gShl1 (show P < 31 by omega), if_neg n2, show ((-1 : Int32) < 0) = True by decide, ↓reduceIte, gq_10, g1, Option.bind_some, nI_1]
      · subst hM
        have hM0 : ¬ nI B < 0 := nI_pos (by omega)
        by_cases hn : gpc 12 B ≤ gpc 12 i
        · refine ⟨(nI B, nI (i + 1)), (m1, nI B, nI (i + 1)), fun n => ?_, fun n => ?_, m1, B, nI B, rfl, rfl, hB, am, an, Or.inr rfl⟩
          · simp only [L_X3_fewestOut_7, gAllP hP d1, if_neg n1, hcmp B hB, if_pos hn, nI_1]
          · simp only [L_X12_stray_9, d2', gShl1 (show P < 31 by omega), if_neg n2, if_neg hM0, hcmp B hB, if_pos hn, ↓reduceIte, nI_1]
        · cases b
          · refine ⟨(nI B, nI (i + 1)), (m2, nI B, nI (i + 1)), fun n => ?_, fun n => ?_, m2, B, nI B, rfl, rfl, hB, am2, an2, Or.inr rfl⟩
            · simp only [L_X3_fewestOut_7, gAllP hP d1, if_neg n1, hcmp B hB, if_neg hn, gMask hP hi, b1, Option.bind_some, Bool.false_eq_true, ↓reduceIte, nI_1]
            · simp only [L_X12_stray_9, d2', gShl1 (show P < 31 by omega), if_neg n2, if_neg hM0, hcmp B hB, if_neg hn, ↓reduceIte, gq_10, g1, Option.bind_some, Bool.false_eq_true, nI_1]
          · refine ⟨(nI i, nI (i + 1)), (m2, nI i, nI (i + 1)), fun n => ?_, fun n => ?_, m2, i, nI i, rfl, rfl, hi, am2, an2, Or.inr rfl⟩
            · simp only [L_X3_fewestOut_7, gAllP hP d1, if_neg n1, hcmp B hB, if_neg hn, gMask hP hi, b1, Option.bind_some, gq_10, ↓reduceIte, nI_1]
            · simp only [L_X12_stray_9, d2', gShl1 (show P < 31 by omega), if_neg n2, if_neg hM0, hcmp B hB, if_neg hn, ↓reduceIte, gq_10, g1, Option.bind_some, nI_1])
    (fun a b hI => by
      obtain ⟨m1, B, M, rfl, rfl, hB, am, an, hM⟩ := hI
      have hM : M = nI B := by
        rcases hM with ⟨-, -, q⟩ | q
        · omega
        · exact q
      subst hM
      have d2' : m1.1 23 = nI P := by rw [am.1.1 23 rfl, d2]
      have hr1 : gRR n c m1 := gRR_nr hr' ⟨rfl, rfl⟩ an
      obtain ⟨w1, w2, w3, w4⟩ := gX_clear hr1
      obtain ⟨c2, m2, i1, i2, i3, i4, i5⟩ := gX_add w2 (by decide) (x := Int32.toInt64 (nI B)) (y := Int32.toInt64 (nI B)) rfl
      have n1 : nI (2 ^ P - 1) < nI (2 ^ P) := (nI_ltI (by omega) (by omega)).mpr (by omega)
      refine ⟨(c2, f_J6_bitCount_0f7a4 (nI B)), (m2, f_J6_bitCount_0f7a4 (nI B)), fun n => ?_, fun n => ?_, rfl, gRel_of h' (gOR_a (gOR_tr w3 i4)) (gaM_tr am (gORm_a (gORm_tr w4 i5))) i3⟩
      · simp only [L_X3_fewestOut_7, gAllP hP d1, if_pos n1, J_X3_fewestOut_49, w1, i1, Option.bind_some]
      · simp only [L_X12_stray_9, d2', gShl1 (show P < 31 by omega), if_pos (show nI (2 ^ P) ≤ nI (2 ^ P) from Int32.le_refl _), J_X12_stray_64, i2, Option.bind_some])
    ⟨m0, 2 ^ P - 1, -1, rfl, rfl, by omega, gaM_rf, ⟨rfl, rfl⟩, Or.inl ⟨rfl, rfl, by omega⟩⟩
  obtain ⟨ca, va⟩ := ra
  obtain ⟨cb, vb⟩ := rb
  have h3 : va = vb := h3
  subst h3
  rw [gAllP hP d1, show L_X3_fewestOut_7 (fun w4 => J_X3_fewestOut_49 c w4) c zFu (nI (2 ^ P - 1)) 0 = some (ca, va) from h1]
  exact ⟨(ca, va), (cb, va), rfl, h2, rfl, h4⟩
