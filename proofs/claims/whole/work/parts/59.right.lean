def gsg (x : Int) : Int32 := if x < 0 then -1 else if x = 0 then 0 else 1
theorem gsg_c (x : Int) : gsg x = -1 ∨ gsg x = 0 ∨ gsg x = 1 := by
  unfold gsg
  by_cases h : x < 0
  · rw [if_pos h]; exact Or.inl rfl
  · rw [if_neg h]
    by_cases h2 : x = 0
    · rw [if_pos h2]; exact Or.inr (Or.inl rfl)
    · rw [if_neg h2]; exact Or.inr (Or.inr rfl)
theorem gsg_neg (x : Int) : gsg (-x) = -gsg x := by
  unfold gsg
  by_cases h : x < 0
  · rw [if_pos h, if_neg (by omega), if_neg (by omega)]; rfl
  · rw [if_neg h]
    by_cases h2 : x = 0
    · rw [if_pos h2, if_neg (by omega), if_pos (by omega)]; rfl
    · rw [if_neg h2, if_pos (by omega)]
theorem gShr63 (x : Int64) : jShrL x 63 = if x.toInt < 0 then -1 else 0 := by
  apply Int64.toBitVec_inj.mp
  have e : jShrL x 63 = x >>> ((63 : Int32).toInt64 &&& 63) := rfl
  rw [e, Int64.toBitVec_shiftRight]
  show x.toBitVec.sshiftRight (((63 : Int32).toInt64 &&& 63).toBitVec.smod 64).toNat = _
  rw [show (((63 : Int32).toInt64 &&& 63).toBitVec.smod 64).toNat = 63 by decide +kernel]
  apply BitVec.eq_of_getLsbD_eq
  intro i hi
  have hm : x.toBitVec.msb = decide (x.toInt < 0) := BitVec.msb_eq_toInt
  have h4 : x.toBitVec.getLsbD 63 = decide (x.toInt < 0) := by rw [BitVec.msb_eq_getLsbD_last] at hm; exact hm
  rw [BitVec.getLsbD_sshiftRight, hm]
  have e1 : (if 63 + i < 64 then x.toBitVec.getLsbD (63 + i) else decide (x.toInt < 0)) = decide (x.toInt < 0) := by
    by_cases h2 : 63 + i < 64
    · rw [if_pos h2, show 63 + i = 63 by omega]; exact h4
    · rw [if_neg h2]
  rw [e1, decide_eq_false (show ¬ 64 ≤ i by omega)]
  by_cases h : x.toInt < 0
  · rw [if_pos h, decide_eq_true h, (by decide +kernel : ∀ i, i < 64 → (-1 : Int64).toBitVec.getLsbD i = true) i hi]; rfl
  · rw [if_neg h, decide_eq_false h]
    show _ = (0#64).getLsbD i
    rw [BitVec.getLsbD_zero]; rfl
theorem gUshr63 (x : Int64) : jUshrL x 63 = if x.toInt < 0 then 1 else 0 := by
  apply Int64.toBitVec_inj.mp
  apply BitVec.eq_of_getLsbD_eq
  intro i hi
  have e : (jUshrL x 63).toBitVec.getLsbD i = x.toBitVec.getLsbD (63 + i) := by
    show (x.toUInt64 >>> ((63 : Int32).toInt64.toUInt64 &&& Int64.toUInt64 63)).toBitVec.getLsbD i = x.toUInt64.toBitVec.getLsbD (63 + i)
    rw [UInt64.toBitVec_shiftRight]
    show (x.toUInt64.toBitVec >>> (((63 : Int32).toInt64.toUInt64 &&& Int64.toUInt64 63).toBitVec % 64).toNat).getLsbD i = _
    rw [show (((63 : Int32).toInt64.toUInt64 &&& Int64.toUInt64 63).toBitVec % 64).toNat = 63 by decide +kernel, BitVec.getLsbD_ushiftRight]
  have hm : x.toBitVec.msb = decide (x.toInt < 0) := BitVec.msb_eq_toInt
  have h4 : x.toBitVec.getLsbD 63 = decide (x.toInt < 0) := by rw [BitVec.msb_eq_getLsbD_last] at hm; exact hm
  rw [e]
  by_cases h0 : i = 0
  · subst h0
    rw [Nat.add_zero, h4]
    by_cases h : x.toInt < 0
    · rw [if_pos h, decide_eq_true h]; rfl
    · rw [if_neg h, decide_eq_false h]; rfl
  · rw [BitVec.getLsbD_of_ge _ _ (by omega)]
    by_cases h : x.toInt < 0
    · rw [if_pos h, (by decide +kernel : ∀ i, i < 64 → (1 : Int64).toBitVec.getLsbD i = decide (i = 0)) i hi, decide_eq_false h0]
    · rw [if_neg h]
      show _ = (0#64).getLsbD i
      rw [BitVec.getLsbD_zero]
theorem gSg64 {x : Int64} (h1 : -4611686018427387904 < x.toInt) (h2 : x.toInt < 4611686018427387904) : f_J13_signum_95d88 x = gsg x.toInt := by
  have hn : (-x).toInt = -x.toInt := by rw [Int64.toInt_neg, gbm64 (by omega) (by omega)]
  unfold f_J13_signum_95d88 gsg
  rw [gShr63, gUshr63, hn]
  by_cases h : x.toInt < 0
  · rw [if_pos h, if_pos h, if_neg (show ¬ -x.toInt < 0 by omega)]; decide +kernel
  · rw [if_neg h, if_neg h]
    by_cases h0 : x.toInt = 0
    · rw [if_pos h0, if_neg (show ¬ -x.toInt < 0 by omega)]; decide +kernel
    · rw [if_neg h0, if_pos (show -x.toInt < 0 by omega)]; decide +kernel
theorem gSg32 : ∀ a, a < 11 → ∀ b, b < 11 → f_J6_signum_0f7a4 ((nI a - 5) - (nI b - 5)) = gsg ((a : Int) - b) := by decide +kernel
theorem gCmp32 : ∀ a, a < 11 → ∀ b, b < 11 → f_J6_compare_7cf53 (nI a - 5) (nI b - 5) = gsg ((a : Int) - b) := by decide +kernel
theorem gCmpS (x y : Int64) : f_J13_compare_74951 x y = gsg (x.toInt - y.toInt) := by
  rw [gCmp]
  unfold gsg
  by_cases h : x.toInt < y.toInt
  · rw [if_pos h, if_pos (show x.toInt - y.toInt < 0 by omega)]
  · rw [if_neg h, if_neg (show ¬ x.toInt - y.toInt < 0 by omega)]
    by_cases h2 : x.toInt = y.toInt
    · rw [if_pos h2, if_pos (show x.toInt - y.toInt = 0 by omega)]
    · rw [if_neg h2, if_neg (show ¬ x.toInt - y.toInt = 0 by omega)]
/-! sums of ints -/
def gS (f : Nat → Int32) : Nat → Int32
  | 0 => 0
  | n + 1 => gS f n + f n
theorem gS_eq {f g : Nat → Int32} : ∀ n, (∀ i, i < n → f i = g i) → gS f n = gS g n := by
  intro n
  induction n with
  | zero => intro _; rfl
  | succ n ih =>
    intro h
    show gS f n + f n = gS g n + g n
    rw [ih (fun i hi => h i (by omega)), h n (by omega)]
theorem gS_add (f g : Nat → Int32) : ∀ n, gS (fun i => f i + g i) n = gS f n + gS g n := by
  intro n
  induction n with
  | zero => rfl
  | succ n ih =>
    show gS _ n + (f n + g n) = (gS f n + f n) + (gS g n + g n)
    rw [ih, Int32.add_assoc, Int32.add_assoc]
    congr 1
    rw [← Int32.add_assoc, ← Int32.add_assoc, Int32.add_comm (gS g n)]
theorem gS_0 {f : Nat → Int32} : ∀ n, (∀ i, i < n → f i = 0) → gS f n = 0 := by
  intro n
  induction n with
  | zero => intro _; rfl
  | succ n ih =>
    intro h
    show gS f n + f n = 0
    rw [ih (fun i hi => h i (by omega)), h n (by omega)]; rfl
/-- pairs above the diagonal, by rows and by columns -/
theorem gS_swap (f : Nat → Nat → Int32) : ∀ n, gS (fun o => gS (fun q => if o < q then f q o else 0) n) n = gS (fun q => gS (fun o => f q o) q) n := by
  intro n
  induction n with
  | zero => rfl
  | succ n ih =>
    show gS (fun o => gS (fun q => if o < q then f q o else 0) (n + 1)) n + gS (fun q => if n < q then f q n else 0) (n + 1) = gS (fun q => gS (fun o => f q o) q) n + gS (fun o => f n o) n
    rw [gS_0 (f := fun q => if n < q then f q n else 0) (n + 1) (fun i hi => if_neg (by omega)), Int32.add_zero, ← ih, ← gS_add]
    apply gS_eq
    intro i hi
    show gS (fun q => if i < q then f q i else 0) n + (if i < n then f n i else 0) = _
    rw [if_pos hi]
/-- loops with what follows as a function, side by side -/
theorem gq_run {A B R1 R2 : Type} {A' B' : Type} {La : (A' → Option R1) → Nat → A → Option R1} {Lb : (B' → Option R2) → Nat → B → Option R2} (I : Nat → A → B → Prop) (Post : A' → B' → Prop) (i0 N : Nat) (h0 : i0 ≤ N) (hN : N < 9000)
    (step : ∀ i a b, i < N → I i a b → ∃ a' b', (∀ k n, La k (n + 1) a = La k n a') ∧ (∀ k n, Lb k (n + 1) b = Lb k n b') ∧ I (i + 1) a' b')
    (fin : ∀ a b, I N a b → ∃ ra rb, (∀ k n, La k (n + 1) a = k ra) ∧ (∀ k n, Lb k (n + 1) b = k rb) ∧ Post ra rb)
    {a : A} {b : B} (h : I i0 a b) : ∃ ra rb, (∀ k, La k zFu a = k ra) ∧ (∀ k, Lb k zFu b = k rb) ∧ Post ra rb := by
  have key : ∀ d i a b n, i + d = N → d < n → I i a b → ∃ ra rb, (∀ k, La k n a = k ra) ∧ (∀ k, Lb k n b = k rb) ∧ Post ra rb := by
    intro d
    induction d with
    | zero =>
      intro i a b n hi hn hI
      obtain ⟨n, rfl⟩ : ∃ k, n = k + 1 := ⟨n - 1, by omega⟩
      have hi : i = N := by omega
      subst hi
      obtain ⟨ra, rb, h1, h2, h3⟩ := fin a b hI
      exact ⟨ra, rb, fun k => h1 k n, fun k => h2 k n, h3⟩
    | succ d ih =>
      intro i a b n hi hn hI
      obtain ⟨n, rfl⟩ : ∃ k, n = k + 1 := ⟨n - 1, by omega⟩
      obtain ⟨a', b', h1, h2, h3⟩ := step i a b (by omega) hI
      obtain ⟨ra, rb, g1, g2, g3⟩ := ih (i + 1) a' b' n (by omega) (by omega) h3
      exact ⟨ra, rb, fun k => (h1 k n).trans (g1 k), fun k => (h2 k n).trans (g2 k), g3⟩
  exact key (N - i0) i0 a b zFu (by omega) (by rw [zFu_eq]; omega) h
/-- one side alone -/
theorem gq_run1 {A R1 : Type} {A' : Type} {La : (A' → Option R1) → Nat → A → Option R1} (I : Nat → A → Prop) (Post : A' → Prop) (i0 N : Nat) (h0 : i0 ≤ N) (hN : N < 9000)
    (step : ∀ i a, i < N → I i a → ∃ a', (∀ k n, La k (n + 1) a = La k n a') ∧ I (i + 1) a')
    (fin : ∀ a, I N a → ∃ ra, (∀ k n, La k (n + 1) a = k ra) ∧ Post ra)
    {a : A} (h : I i0 a) : ∃ ra, (∀ k, La k zFu a = k ra) ∧ Post ra := by
  obtain ⟨ra, rb, h1, -, h3⟩ := gq_run (La := La) (Lb := La) (fun i a b => a = b ∧ I i a) (fun a b => Post a) i0 N h0 hN
    (fun i a b hi hI => by
      obtain ⟨rfl, hI⟩ := hI
      obtain ⟨a', g1, g2⟩ := step i a hi hI
      exact ⟨a', a', g1, g1, rfl, g2⟩)
    (fun a b hI => by
      obtain ⟨rfl, hI⟩ := hI
      obtain ⟨a', g1, g2⟩ := fin a hI
      exact ⟨a', a', g1, g1, g2⟩) ⟨rfl, h⟩
  exact ⟨ra, h1, h3⟩
theorem pp_worst : lp_worst gRel := by
  intro c m hR p0 p1
  obtain ⟨S, T, n, h, hr⟩ := hR
  have no : gRel c (zI m 0 0) := gNo h hr
  have h' : gCor S T c (zI m 0 0) := gCor_ag h gaC_rf gaM_0
  have hr' : gRR n c (zI m 0 0) := hr
  have hS := h.1.1.1
  unfold f_X11_worst f_X0_worstSort f_X12_worst
  simp only [gL_way, gq_in_0_1]
  generalize zI m 0 0 = m0 at *
  rcases gS_way p0 with ⟨e0, y, y1, y2⟩ | e0
  case inr => simp only [e0, ↓reduceIte, Option.bind_some]; exact ⟨_, _, rfl, rfl, rfl, no⟩
  rcases gS_btw (p := p1) (a := 0) (b := 1) 0 1 rfl rfl (by decide) (by decide) with ⟨e1, w, -, w1, w2⟩ | e1
  case inr => simp only [e0, e1, gq_10, ↓reduceIte, Option.bind_some]; exact ⟨_, _, rfl, rfl, rfl, no⟩
  simp only [e0, e1, gq_10, ↓reduceIte]
  have hsg : ∃ sg : Int, (sg = 1 ∧ p1 = 0) ∨ (sg = -1 ∧ ¬ p1 = 0) := by
    by_cases q : p1 = 0
    · exact ⟨1, Or.inl ⟨rfl, q⟩⟩
    · exact ⟨-1, Or.inr ⟨rfl, q⟩⟩
  generalize hw3 : (if p1 = (0 : Int32) then (1 : Int32) else (-1 : Int32)) = w3
  obtain ⟨ra, rb, h1, h2, h3⟩ := gq_lock (La := fun n (a : Zst × Int32 × Int64 × Int64 × Int32) => L_X0_worstSort_41 (fun σ9 w6 w7 w8 => J_X0_worstSort_118 σ9 w6 w7 w8) p0 w3 n a.1 a.2.1 a.2.2.1 a.2.2.2.1 a.2.2.2.2)
    (Lb := fun n (a : Zst × Int32 × Int64 × Int64 × Int32) => L_X12_worst_36 (fun σ6 w3 w4 w5 => J_X12_worst_126 σ6 w3 w4 w5) p0 p1 n a.1 a.2.1 a.2.2.1 a.2.2.2.1 a.2.2.2.2)
    (fun i a b => ∃ (c1 m1 : Zst) (v : Int32) (x y : Int64), a = (c1, v, x, y, nI i) ∧ b = (m1, v, x, y, nI i) ∧ gaC c c1 ∧ gaM m0 m1 ∧ gNR c c1 ∧ gNRm m0 m1 ∧ -1000000 ≤ x.toInt ∧ x.toInt ≤ 1000000 ∧ 1 ≤ y.toInt ∧ y.toInt ≤ 1000000)
    (fun ra rb => ra.2 = rb.2 ∧ gRel ra.1 rb.1) S (by omega) (a := (c, -2, 0, 1, 0)) (b := (m0, -2, 0, 1, 0))
    (fun i a b hi hI => by
      obtain ⟨c1, m1, v, x, y', rfl, rfl, aC, aM, nC, nM, b1, b2, b3, b4⟩ := hI
      have hcur := gCor_ag h' aC aM
      have hs1 : f_X10_sortCount c1 = nI S := hcur.1.1.2.2.1
      have hs2 : m1.1 2 = nI S := hcur.1.1.2.2.2.1
      have hn : ¬ nI S ≤ nI i := nI_ge hi (by omega)
      obtain ⟨c2, m2, k, f1, f2, aC2, aM2, nC2, nM2, k1, k2, k3, k4, ⟨k5, k6⟩, -⟩ := gMeasure hcur (p0 := nI i) rfl hi y2 y1
      have aC' := gaC_tr aC aC2
      have aM' := gaM_tr aM aM2
      have nC' := gNR_tr nC nC2
      have nM' := gNRm_tr nM nM2
      by_cases hk : k = 0
      · refine ⟨(c2, v, x, y', nI (i + 1)), (m2, v, x, y', nI (i + 1)), fun n => ?_, fun n => ?_, c2, m2, v, x, y', rfl, rfl, aC', aM', nC', nM', b1, b2, b3, b4⟩
        · subst hk; simp only [L_X0_worstSort_41, hs1, if_neg hn, f1, Option.bind_some, k2, show (nI 0 ≤ (0 : Int32)) = True by decide, ↓reduceIte, nI_1]
        · subst hk; simp only [L_X12_worst_36, hs2, if_neg hn, f2, Option.bind_some, k3, show (nI 0 ≤ (0 : Int32)) = True by decide, ↓reduceIte, nI_1]
      have hk2 : ¬ nI k ≤ 0 := nI_nle (by omega) (by omega)
      have m1' := gMulB (x := Int32.toInt64 (c2.1 13)) (y := y') (A := 1000000) (B := 1000000) (by rw [gl_toInt]; omega) (by rw [gl_toInt]; omega) (by omega) (by omega) (by decide) (by decide) (by decide)
      have m2' := gMulB (x := x) (y := Int32.toInt64 (nI k)) (A := 1000000) (B := 1000000) (by omega) (by omega) (by rw [gl_toInt, nI_toInt (by omega)]; omega) (by rw [gl_toInt, nI_toInt (by omega)]; omega) (by decide) (by decide) (by decide)
      have hsub : (Int32.toInt64 (c2.1 13) * y' - x * Int32.toInt64 (nI k)).toInt = (Int32.toInt64 (c2.1 13) * y').toInt - (x * Int32.toInt64 (nI k)).toInt := by
        rw [Int64.toInt_sub, gbm64 (by omega) (by omega)]
      have hcf : f_X11_compareFractions (Int32.toInt64 (c2.1 13)) (Int32.toInt64 (nI k)) x y' = gsg ((Int32.toInt64 (c2.1 13) * y').toInt - (x * Int32.toInt64 (nI k)).toInt) := gCmpS _ _
      generalize hd : (Int32.toInt64 (c2.1 13) * y').toInt - (x * Int32.toInt64 (nI k)).toInt = d at hsub hcf
      -- whether the new one is taken
      have key : ∃ P : Prop, ((P → ¬ (gsg d * w3 ≤ 0)) ∧ (¬ P → gsg d * w3 ≤ 0)) ∧ ((p1 = 0 ∧ (P → ¬ d ≤ 0) ∧ (¬ P → d ≤ 0)) ∨ (¬ p1 = 0 ∧ (P → ¬ 0 ≤ d) ∧ (¬ P → 0 ≤ d))) := by
        by_cases q : p1 = 0
        · rw [if_pos q] at hw3
          subst hw3
          refine ⟨0 < d, ⟨fun z => ?_, fun z => ?_⟩, Or.inl ⟨q, by omega, by omega⟩⟩
          · unfold gsg; rw [if_neg (by omega), if_neg (by omega)]; decide
          · unfold gsg
            by_cases z2 : d < 0
            · rw [if_pos z2]; decide
            · rw [if_neg z2, if_pos (by omega)]; decide
        · rw [if_neg q] at hw3
          subst hw3
          refine ⟨d < 0, ⟨fun z => ?_, fun z => ?_⟩, Or.inr ⟨q, by omega, by omega⟩⟩
          · unfold gsg; rw [if_pos z]; decide
          · unfold gsg
            rw [if_neg z]
            by_cases z2 : d = 0
            · rw [if_pos z2]; decide
            · rw [if_neg z2]; decide
      obtain ⟨P, ⟨P1, P2⟩, P3⟩ := key
      have z64 : (0 : Int64).toInt = 0 := rfl
      by_cases hq : v < 0 ∨ P
      · refine ⟨(c2, nI i, Int32.toInt64 (c2.1 13), Int32.toInt64 (nI k), nI (i + 1)), (m2, nI i, Int32.toInt64 (c2.1 13), Int32.toInt64 (nI k), nI (i + 1)), fun n => ?_, fun n => ?_, c2, m2, nI i, _, _, rfl, rfl, aC', aM', nC', nM', by rw [gl_toInt]; omega, by rw [gl_toInt]; omega, by rw [gl_toInt, nI_toInt (by omega)]; omega, by rw [gl_toInt, nI_toInt (by omega)]; omega⟩
        · simp only [L_X0_worstSort_41, J_X0_worstSort_94, hs1, if_neg hn, f1, Option.bind_some, k2, if_neg hk2, nI_1, hcf]
          by_cases hv0 : v < 0
          · rw [if_pos hv0]
          · rw [if_neg hv0, if_neg (P1 (hq.resolve_left hv0))]
        · simp only [L_X12_worst_36, J_X12_worst_103, hs2, if_neg hn, f2, Option.bind_some, k3, if_neg hk2, nI_1, ← k4]
          by_cases hv0 : v < 0
          · rw [if_pos hv0]
          · have hP := hq.resolve_left hv0
            rw [if_neg hv0]
            rcases P3 with ⟨q1, q2, -⟩ | ⟨q1, q2, -⟩
            · rw [if_pos q1, if_neg (by rw [Int64.le_iff_toInt_le, hsub, z64]; exact q2 hP)]
            · rw [if_neg q1, if_neg (by rw [Int64.le_iff_toInt_le, hsub, z64]; exact q2 hP)]
      · have hv0 : ¬ v < 0 := fun q => hq (Or.inl q)
        have hP : ¬ P := fun q => hq (Or.inr q)
        refine ⟨(c2, v, x, y', nI (i + 1)), (m2, v, x, y', nI (i + 1)), fun n => ?_, fun n => ?_, c2, m2, v, x, y', rfl, rfl, aC', aM', nC', nM', b1, b2, b3, b4⟩
        · simp only [L_X0_worstSort_41, J_X0_worstSort_94, hs1, if_neg hn, f1, Option.bind_some, k2, if_neg hk2, nI_1, hcf, if_neg hv0, if_pos (P2 hP)]
        · simp only [L_X12_worst_36, J_X12_worst_103, hs2, if_neg hn, f2, Option.bind_some, k3, if_neg hk2, nI_1, ← k4, if_neg hv0]
          rcases P3 with ⟨q1, -, q2⟩ | ⟨q1, -, q2⟩
          · rw [if_pos q1, if_pos (by rw [Int64.le_iff_toInt_le, hsub, z64]; exact q2 hP)]
          · rw [if_neg q1, if_pos (by rw [Int64.le_iff_toInt_le, hsub, z64]; exact q2 hP)])
    (fun a b hI => by
      obtain ⟨c1, m1, v, x, y', rfl, rfl, aC, aM, nC, nM, b1, b2, b3, b4⟩ := hI
      have hcur := gCor_ag h' aC aM
      have hs1 : f_X10_sortCount c1 = nI S := hcur.1.1.2.2.1
      have hs2 : m1.1 2 = nI S := hcur.1.1.2.2.2.1
      have hn : nI S ≤ nI S := nI_le (Nat.le_refl _) (by omega)
      have hr1 := gRR_nr hr' nC nM
      by_cases hv : v < 0
      · refine ⟨(c1, v), (m1, v), fun n => ?_, fun n => ?_, rfl, gRel_of h' aC aM hr1⟩
        · simp only [L_X0_worstSort_41, hs1, if_pos hn, J_X0_worstSort_118, if_pos hv]
        · simp only [L_X12_worst_36, hs2, if_pos hn, J_X12_worst_126, if_pos hv]
      · obtain ⟨w1', w2', w3', w4'⟩ := gX_clear hr1
        obtain ⟨c3, m5, j1, j2, j3, j4, j5⟩ := gX_frac w2' (by decide) (x := x) (x' := x) (y := y') (y' := y') rfl rfl (by omega) (by omega) (by omega) (by omega) (by omega)
        refine ⟨(c3, v), (m5, v), fun n => ?_, fun n => ?_, rfl, gRel_of h' (gaC_tr aC (gOR_a (gOR_tr w3' j4))) (gaM_tr aM (gORm_a (gORm_tr w4' j5))) j3⟩
        · simp only [L_X0_worstSort_41, hs1, if_pos hn, J_X0_worstSort_118, if_neg hv, w1', j1, Option.bind_some]
        · simp only [L_X12_worst_36, hs2, if_pos hn, J_X12_worst_126, if_neg hv, j2, Option.bind_some])
    ⟨c, m0, -2, 0, 1, rfl, rfl, gaC_rf, gaM_rf, ⟨rfl, rfl⟩, ⟨rfl, rfl⟩, by decide, by decide, by decide, by decide⟩
  have h1 : L_X0_worstSort_41 (fun σ9 w6 w7 w8 => J_X0_worstSort_118 σ9 w6 w7 w8) p0 w3 zFu c (-2) 0 1 0 = some ra := h1
  have h2 : L_X12_worst_36 (fun σ6 w3 w4 w5 => J_X12_worst_126 σ6 w3 w4 w5) p0 p1 zFu m0 (-2) 0 1 0 = some rb := h2
  rw [h1, h2]
  exact ⟨ra, rb, rfl, rfl, h3⟩
