theorem gbt_nI {k i : Nat} (hi : i < 32) : bt (nI k) i = k.testBit i := by
  show (nI k).toBitVec.getLsbD i = _
  rw [show (nI k).toBitVec = BitVec.ofNat 32 k from rfl, BitVec.getLsbD_ofNat]
  simp [hi]
theorem gHasBit {k i : Nat} (hi : i < 32) : f_X11_hasBit (nI k) (nI i) = if k.testBit i = true then 1 else 0 := by
  unfold f_X11_hasBit
  rw [gb_shr _ hi, gbt_nI hi]
  cases k.testBit i <;> rfl
/-- the mound as numbers -/
theorem gRM_fn {c m : Zst} (h : gRM c m) : ∃ (P : Nat) (x u v : Nat → Nat), P ≤ 12 ∧ c.1 23 = nI P ∧ m.1 23 = nI P ∧
    (∀ i, i < P → (x i < 10 ∧ 1900 ≤ u i ∧ u i ≤ v i ∧ v i ≤ 2100) ∧ m.2.1 24 i = nI (x i) ∧ m.2.1 25 i = nI (u i) ∧ m.2.1 26 i = nI (v i)) ∧
    (∀ i, i < P → c.2.1 27 i = nI (x i) ∧ c.2.1 28 i = nI (u i) ∧ c.2.1 29 i = nI (v i)) ∧
    (∀ i, i < P → ∃ w : Nat, w < 2 ^ i ∧ c.2.1 30 i = nI w ∧ ∀ j, j < i → (w.testBit j = true ↔ ((x j ≤ x i ∧ v j < u i) ∨ (x i ≤ x j ∧ v i < u j)))) := by
  obtain ⟨P, d0, d1, d2, d3, d4, d5, d6, d7⟩ := h
  have h1 : ∀ i, ∃ t : Nat × Nat × Nat, i < P → (t.1 < 10 ∧ 1900 ≤ t.2.1 ∧ t.2.1 ≤ t.2.2 ∧ t.2.2 ≤ 2100) ∧ c.2.1 27 i = nI t.1 ∧ c.2.1 28 i = nI t.2.1 ∧ c.2.1 29 i = nI t.2.2 := fun i => by
    by_cases hi : i < P
    · obtain ⟨x, u, v, a1, a2, a3, a4, a5, a6, a7⟩ := d6 i hi
      exact ⟨(x, u, v), fun _ => ⟨⟨a1, a2, a3, a4⟩, a5, a6, a7⟩⟩
    · exact ⟨(0, 0, 0), fun q => absurd q hi⟩
  obtain ⟨f, hf⟩ := Classical.skolem.mp h1
  refine ⟨P, fun i => (f i).1, fun i => (f i).2.1, fun i => (f i).2.2, d0, d1, d2, fun i hi => ⟨(hf i hi).1, ?_, ?_, ?_⟩, fun i hi => (hf i hi).2, fun i hi => ?_⟩
  · rw [d3]; exact (hf i hi).2.1
  · rw [d4]; exact (hf i hi).2.2.1
  · rw [d5]; exact (hf i hi).2.2.2
  · obtain ⟨w, w1, w2, w3⟩ := d7 i hi
    refine ⟨w, w1, w2, fun j hj => ?_⟩
    obtain ⟨⟨a1, a2, a3, a4⟩, a5, a6, a7⟩ := hf i hi
    obtain ⟨⟨b1, b2, b3, b4⟩, b5, b6, b7⟩ := hf j (by omega)
    rw [w3 j hj, a5, a6, a7, b5, b6, b7]
    rw [show (nI (f j).1 ≤ nI (f i).1) = ((f j).1 ≤ (f i).1) from propext (nI_leI (by omega) (by omega)), show (nI (f i).1 ≤ nI (f j).1) = ((f i).1 ≤ (f j).1) from propext (nI_leI (by omega) (by omega)), show (nI (f j).2.2 < nI (f i).2.1) = ((f j).2.2 < (f i).2.1) from propext (nI_ltI (by omega) (by omega)), show (nI (f i).2.2 < nI (f j).2.1) = ((f i).2.2 < (f j).2.1) from propext (nI_ltI (by omega) (by omega))]
/-- whether papers go together, as the class finds it -/
theorem gTog {c : Zst} {P : Nat} {x u v : Nat → Nat} (hP : P ≤ 12) (d1 : c.1 23 = nI P) (hx : ∀ i, i < P → u i ≤ v i)
    (hw : ∀ i, i < P → ∃ w : Nat, w < 2 ^ i ∧ c.2.1 30 i = nI w ∧ ∀ j, j < i → (w.testBit j = true ↔ ((x j ≤ x i ∧ v j < u i) ∨ (x i ≤ x j ∧ v i < u j)))) (k : Nat) :
    ∃ b : Bool, f_X3_goTogether c (nI k) = some (if b then 1 else 0) ∧ (b = true ↔ ∀ i j, i < P → j < P → k.testBit i = true → k.testBit j = true → x i ≤ x j → u j ≤ v i) := by
  have key : ∀ d i n, i + d = P → d < n → (∀ a b, a < i → b < i → k.testBit a = true → k.testBit b = true → x a ≤ x b → u b ≤ v a) →
      ∃ b : Bool, L_X3_goTogether_2 c (nI k) n (nI i) = some (if b then 1 else 0) ∧ (b = true ↔ ∀ i j, i < P → j < P → k.testBit i = true → k.testBit j = true → x i ≤ x j → u j ≤ v i) := by
    intro d
    induction d with
    | zero =>
      intro i n hi hn ha
      obtain ⟨n, rfl⟩ : ∃ k, n = k + 1 := ⟨n - 1, by omega⟩
      have hi : i = P := by omega
      subst hi
      refine ⟨true, ?_, fun _ => ha, fun _ => rfl⟩
      simp only [L_X3_goTogether_2, d1, if_pos (show nI i ≤ nI i from Int32.le_refl _), ↓reduceIte]
    | succ d ih =>
      intro i n hi hn ha
      obtain ⟨n, rfl⟩ : ∃ k, n = k + 1 := ⟨n - 1, by omega⟩
      have hiP : i < P := by omega
      obtain ⟨w, w1, w2, w3⟩ := hw i hiP
      have e1 : ¬ nI P ≤ nI i := nI_ge hiP (by omega)
      have e2 : ¬ (12 : Int32) ≤ nI i := nI_ge (b := 12) (by omega) (by decide)
      have e3 := gHasBit (k := k) (i := i) (by omega)
      by_cases hk : k.testBit i = true
      · rw [if_pos hk] at e3
        by_cases hz : w &&& k = 0
        · obtain ⟨b, b1, b2⟩ := ih (i + 1) n (by omega) (by omega) (fun a b ha' hb' ka kb hab => by
            have hno : ∀ j, j < i → k.testBit j = true → ¬ ((x j ≤ x i ∧ v j < u i) ∨ (x i ≤ x j ∧ v i < u j)) := fun j hj kj q => by
              have := (w3 j hj).mpr q
              have t : (w &&& k).testBit j = true := by rw [Nat.testBit_and, this, kj]; rfl
              rw [hz, Nat.zero_testBit] at t
              cases t
            by_cases qa : a = i
            · by_cases qb : b = i
              · subst qa; rw [qb]; exact hx _ hiP
              · subst qa
                have := hno b (by omega) kb
                omega
            · by_cases qb : b = i
              · subst qb
                have := hno a (by omega) ka
                omega
              · exact ha a b (by omega) (by omega) ka kb hab)
          refine ⟨b, ?_, b2⟩
          rw [← b1]
          simp only [L_X3_goTogether_2, d1, if_neg e1, if_neg e2, e3, gq_10, ↓reduceIte, gGx (show i < 12 by omega) (by decide), nI_clamp (show i < 2 ^ 31 by omega), w2, nx_and, hz, show (nI 0 = (0 : Int32)) = True by decide, nI_1]
        · obtain ⟨j, hj⟩ := Nat.exists_testBit_of_ne_zero hz
          rw [Nat.testBit_and, Bool.and_eq_true] at hj
          have hji : j < i := by
            rcases Nat.lt_or_ge j i with q | q
            · exact q
            · have : w < 2 ^ j := Nat.lt_of_lt_of_le w1 (Nat.pow_le_pow_right (by decide) q)
              rw [Nat.testBit_lt_two_pow this] at hj
              cases hj.1
          have hne : ¬ nI (w &&& k) = 0 := by
            have hlt : w &&& k < 2 ^ i := Nat.lt_of_le_of_lt Nat.and_le_left w1
            have : 2 ^ i ≤ 2 ^ 12 := Nat.pow_le_pow_right (by decide) (by omega)
            exact nI_ne0 (by omega) (by omega)
          refine ⟨false, ?_, ⟨fun q => (Bool.noConfusion q), fun q => ?_⟩⟩
          · simp only [L_X3_goTogether_2, d1, if_neg e1, if_neg e2, e3, gq_10, ↓reduceIte, gGx (show i < 12 by omega) (by decide), nI_clamp (show i < 2 ^ 31 by omega), w2, nx_and, if_neg hne, Bool.false_eq_true]
          · exfalso
            rcases (w3 j hji).mp hj.1 with t | t
            · have := q j i (by omega) hiP hj.2 hk t.1; omega
            · have := q i j hiP (by omega) hk hj.2 t.1; omega
      · rw [if_neg hk] at e3
        obtain ⟨b, b1, b2⟩ := ih (i + 1) n (by omega) (by omega) (fun a b ha' hb' ka kb hab => by
          by_cases qa : a = i
          · subst qa; exact absurd ka hk
          · by_cases qb : b = i
            · subst qb; exact absurd kb hk
            · exact ha a b (by omega) (by omega) ka kb hab)
        refine ⟨b, ?_, b2⟩
        rw [← b1]
        simp only [L_X3_goTogether_2, d1, if_neg e1, if_neg e2, e3, ↓reduceIte, nI_1]
  obtain ⟨b, b1, b2⟩ := key P 0 zFu (by omega) (by rw [zFu_eq]; omega) (fun a b ha => absurd ha (Nat.not_lt_zero a))
  exact ⟨b, b1, b2⟩
theorem gAllP {c : Zst} {P : Nat} (hP : P ≤ 12) (d1 : c.1 23 = nI P) : f_X3_allPapers c = nI (2 ^ P - 1) := by
  unfold f_X3_allPapers
  rw [d1, gShl1 (by omega), show (1 : Int32) = nI 1 from rfl, pk_sub (Nat.one_le_two_pow)]
theorem gFirst {c : Zst} {P l : Nat} {x u v : Nat → Nat} (hP : P ≤ 12) (hl : l < 10) (d1 : c.1 23 = nI P) (hx : ∀ i, i < P → x i < 10 ∧ 1900 ≤ u i ∧ u i ≤ v i ∧ v i ≤ 2100)
    (hc : ∀ i, i < P → c.2.1 27 i = nI (x i) ∧ c.2.1 28 i = nI (u i) ∧ c.2.1 29 i = nI (v i)) :
    f_X3_firstYearOf c (nI l) = some (nI (gLo x u (fun _ => true) l P)) ∧ f_X3_lastYearOf c (nI l) = some (nI (gHi x v (fun _ => true) l P)) := by
  constructor
  · obtain ⟨r, h1, rfl⟩ := gq_loop (La := fun n (a : Int32 × Int32) => L_X3_firstYearOf_6 c (nI l) n a.1 a.2)
      (fun i a => a = (nI (gLo x u (fun _ => true) l i), nI i)) (fun r => r = nI (gLo x u (fun _ => true) l P)) P (by omega) (a := (1900, 0))
      (fun i a hi hI => by
        subst hI
        obtain ⟨y1, y2, y3⟩ := hc i hi
        obtain ⟨x0, x1, x2, x3⟩ := hx i hi
        have z := (gLoE_b (K := fun _ => true) (l := l) i (fun j hj => hx j (by omega))).2
        refine ⟨(nI (gLo x u (fun _ => true) l (i + 1)), nI (i + 1)), fun n => ?_, rfl⟩
        simp only [L_X3_firstYearOf_6, d1, if_neg (nI_ge hi (show P < 2 ^ 31 by omega)), if_neg (show ¬ (12 : Int32) ≤ nI i from nI_ge (b := 12) (by omega) (by decide)), gGx (show i < 12 by omega) (by decide), nI_clamp (show i < 2 ^ 31 by omega), y1, y2, nI_1, gLo_s, gJmax (show gLo x u (fun _ => true) l i < 2 ^ 31 by omega) (show u i < 2 ^ 31 by omega), true_and, show (nI (x i) < nI l) = (x i < l) from propext (nI_ltI (by omega) (by omega))]
        by_cases e : x i < l
        · rw [if_pos e, if_neg (by omega)]
        · rw [if_neg e, if_pos (by omega)])
      (fun a hI => by
        subst hI
        exact ⟨_, fun n => by simp only [L_X3_firstYearOf_6, d1, if_pos (show nI P ≤ nI P from Int32.le_refl _)], rfl⟩) rfl
    exact h1
  · obtain ⟨r, h1, rfl⟩ := gq_loop (La := fun n (a : Int32 × Int32) => L_X3_lastYearOf_6 c (nI l) n a.1 a.2)
      (fun i a => a = (nI (gHi x v (fun _ => true) l i), nI i)) (fun r => r = nI (gHi x v (fun _ => true) l P)) P (by omega) (a := (2100, 0))
      (fun i a hi hI => by
        subst hI
        obtain ⟨y1, y2, y3⟩ := hc i hi
        obtain ⟨x0, x1, x2, x3⟩ := hx i hi
        have z := (gHiE_b (x := x) (v := v) (K := fun _ => true) (l := l) i).2
        refine ⟨(nI (gHi x v (fun _ => true) l (i + 1)), nI (i + 1)), fun n => ?_, rfl⟩
        simp only [L_X3_lastYearOf_6, d1, if_neg (nI_ge hi (show P < 2 ^ 31 by omega)), if_neg (show ¬ (12 : Int32) ≤ nI i from nI_ge (b := 12) (by omega) (by decide)), gGx (show i < 12 by omega) (by decide), nI_clamp (show i < 2 ^ 31 by omega), y1, y3, nI_1, gHi_s, gJmin (show gHi x v (fun _ => true) l i < 2 ^ 31 by omega) (show v i < 2 ^ 31 by omega), true_and, show (nI l < nI (x i)) = (l < x i) from propext (nI_ltI (by omega) (by omega))]
        by_cases e : l < x i
        · rw [if_pos e, if_neg (by omega)]
        · rw [if_neg e, if_pos (by omega)])
      (fun a hI => by
        subst hI
        exact ⟨_, fun n => by simp only [L_X3_lastYearOf_6, d1, if_pos (show nI P ≤ nI P from Int32.le_refl _)], rfl⟩) rfl
    exact h1
theorem pp_year : lp_year gRel := by
  intro c m hR p0
  obtain ⟨S, T, n, h, hr⟩ := hR
  have no : gRel c (zI m 0 0) := gNo h hr
  have h' : gCor S T c (zI m 0 0) := gCor_ag h gaC_rf gaM_0
  have hr' : gRR n c (zI m 0 0) := hr
  unfold f_X11_year f_X3_yearsOf f_X3_isLayer f_X12_year
  simp only [gq_in_0_9]
  generalize zI m 0 0 = m0 at *
  rcases gS_btw (p := p0) (a := 0) (b := 9) 0 9 rfl rfl (by decide) (by decide) with ⟨e0, l, -, l1, l2⟩ | e0
  case inr => simp only [e0, ↓reduceIte, Option.bind_some]; exact ⟨_, _, rfl, rfl, rfl, no⟩
  subst l2
  obtain ⟨P, x, u, v, hP, d1, d2, hx, hc, hw⟩ := gRM_fn h'.2.2.2.2.1
  have hx1 : ∀ i, i < P → x i < 10 ∧ 1900 ≤ u i ∧ u i ≤ v i ∧ v i ≤ 2100 := fun i hi => (hx i hi).1
  obtain ⟨b, b1, b2⟩ := gTog hP d1 (fun i hi => (hx1 i hi).2.2.1) hw (2 ^ P - 1)
  obtain ⟨m1, b', g1, g2, g3, g4, g5, g6⟩ := gDates (m := m0) hP d2 hx (w0 := 0) (K := fun _ => true) (fun i hi => by
    show f_X12_has (nI 0) (nI i) = 0
    rw [gq_has, gHasBit (by omega), Nat.zero_testBit]; rfl)
  have hbb : b = b' := by
    rw [Bool.eq_iff_iff, b2, g2]
    have ht : ∀ i, i < P → (2 ^ P - 1).testBit i = true := fun i hi => by rw [Nat.testBit_two_pow_sub_one]; exact decide_eq_true hi
    exact ⟨fun q i j hi hj _ _ hij => q i j hi hj (ht i hi) (ht j hj) hij, fun q i j hi hj _ _ hij => q i j hi hj rfl rfl hij⟩
  subst hbb
  simp only [e0, gq_10, ↓reduceIte, gAllP hP d1, b1, g1, Option.bind_some]
  cases b
  · simp only [Bool.false_eq_true, ↓reduceIte, Option.bind_some]
    exact ⟨_, _, rfl, rfl, rfl, gRel_of h' gaC_rf g3 (gRR_nr hr' ⟨rfl, rfl⟩ g4)⟩
  simp only [↓reduceIte, gq_10]
  obtain ⟨k1, k2⟩ := gFirst hP (show l < 10 by omega) d1 hx1 hc
  have hr1 : gRR n c m1 := gRR_nr hr' ⟨rfl, rfl⟩ g4
  obtain ⟨w1, w2, w3, w4⟩ := gX_clear hr1
  obtain ⟨c2, m2, i1, i2, i3, i4, i5⟩ := gX_add w2 (by decide) (x := Int32.toInt64 (nI (gLo x u (fun _ => true) l P))) (y := Int32.toInt64 (nI (gLo x u (fun _ => true) l P))) rfl
  obtain ⟨c3, m3, j1, j2, j3, j4, j5⟩ := gX_add i3 (by decide) (x := Int32.toInt64 (nI (gHi x v (fun _ => true) l P))) (y := Int32.toInt64 (nI (gHi x v (fun _ => true) l P))) rfl
  have q1 := gOR_tr (gOR_tr w3 i4) j4
  have q2 := gORm_tr (gORm_tr w4 i5) j5
  have s0 : (zI m1 1 0).2.1 27 l = nI (gLo x u (fun _ => true) l P) := g5 l (by omega)
  have s1 : m1.2.1 27 l = nI (gLo x u (fun _ => true) l P) := g5 l (by omega)
  have s2 : m2.2.1 28 l = nI (gHi x v (fun _ => true) l P) := by rw [(gORm_tr w4 i5).2.1]; exact g6 l (by omega)
  have s3 : m3.2.1 28 l = nI (gHi x v (fun _ => true) l P) := by rw [q2.2.1]; exact g6 l (by omega)
  have s4 : m3.2.1 27 l = nI (gLo x u (fun _ => true) l P) := by rw [q2.2.1]; exact g5 l (by omega)
  simp only [k1, k2, w1, Option.bind_some, i1, j1, gGx (show l < 10 by omega) (by decide), nI_clamp (show l < 2 ^ 31 by omega), s1, i2, s2, j2, s3, s4]
  exact ⟨_, _, rfl, rfl, rfl, gRel_of h' (gOR_a q1) (gaM_tr g3 (gORm_a q2)) j3⟩
