theorem gbm64 {x : Int} (h1 : -9223372036854775808 ≤ x) (h2 : x < 9223372036854775808) : x.bmod (2 ^ 64) = x := by
  rw [Int.bmod_def]
  split <;> omega
theorem gAbs {x : Int64} (h1 : -4611686018427387904 ≤ x.toInt) (h2 : x.toInt ≤ 4611686018427387904) : jAbsL x = lN x.toInt.natAbs ∧ (if (0 : Int64) ≤ x then x else -x) = lN x.toInt.natAbs := by
  have hn : (-x).toInt = -x.toInt := by
    rw [Int64.toInt_neg, gbm64 (by omega) (by omega)]
  have hl : (lN x.toInt.natAbs).toInt = (x.toInt.natAbs : Int) := pk_lT (by omega)
  have e0 : (0 : Int64).toInt = 0 := rfl
  unfold jAbsL
  constructor
  · apply Int64.toInt_inj.mp
    rw [hl]
    by_cases h : (0 : Int64) < x
    · rw [if_pos h]
      rw [Int64.lt_iff_toInt_lt, e0] at h
      omega
    · rw [if_neg h, hn]
      rw [Int64.lt_iff_toInt_lt, e0] at h
      omega
  · apply Int64.toInt_inj.mp
    rw [hl]
    by_cases h : (0 : Int64) ≤ x
    · rw [if_pos h]
      rw [Int64.le_iff_toInt_le, e0] at h
      omega
    · rw [if_neg h, hn]
      rw [Int64.le_iff_toInt_le, e0] at h
      omega
theorem gGcd : ∀ (j a b i n : Nat), a < 2 ^ 63 → b < 2 ^ 63 → b < 2 ^ j → i + 2 * j + 1 ≤ 100 → 2 * j + 2 ≤ n →
    L_X11_commonDivisor_15 n (lN a) (lN b) (nI i) = some (lN (Nat.gcd a b)) ∧ L_X12_common_28 n (lN a) (lN b) = some (lN (Nat.gcd a b)) := by
  intro j
  induction j with
  | zero =>
    intro a b i n ha hb hj hi hn
    have h0 : b = 0 := by omega
    subst h0
    obtain ⟨n, rfl⟩ : ∃ k, n = k + 1 := ⟨n - 1, by omega⟩
    simp only [L_X11_commonDivisor_15, L_X12_common_28]
    rw [if_neg (show ¬ (100 : Int32) ≤ nI i from nI_ge (b := 100) (by omega) (by decide)), if_pos (show lN 0 = 0 from rfl), Nat.gcd_zero_right]
    exact ⟨rfl, rfl⟩
  | succ j ih =>
    intro a b i n ha hb hj hi hn
    obtain ⟨n, rfl⟩ : ∃ k, n = k + 1 + 1 := ⟨n - 2, by omega⟩
    have z0 : (0 : Int64) = lN 0 := rfl
    by_cases h0 : b = 0
    · subst h0
      simp only [L_X11_commonDivisor_15, L_X12_common_28]
      rw [if_neg (show ¬ (100 : Int32) ≤ nI i from nI_ge (b := 100) (by omega) (by decide)), if_pos (show lN 0 = 0 from rfl), Nat.gcd_zero_right]
      exact ⟨rfl, rfl⟩
    · have hb0 : ¬ lN b = 0 := by
        rw [z0, pk_lEQ hb (by decide)]; exact h0
      have hr : jRemL (lN a) (lN b) = lN (a % b) := pk_lRem ha (by omega) hb
      have hlt : a % b < b := Nat.mod_lt _ (by omega)
      have hg : Nat.gcd a b = Nat.gcd b (a % b) := by rw [Nat.gcd_comm a b, Nat.gcd_rec b a, Nat.gcd_comm]
      have s1 : L_X11_commonDivisor_15 (n + 1 + 1) (lN a) (lN b) (nI i) = L_X11_commonDivisor_15 (n + 1) (lN b) (lN (a % b)) (nI (i + 1)) := by
        simp only [L_X11_commonDivisor_15]
        rw [if_neg (show ¬ (100 : Int32) ≤ nI i from nI_ge (b := 100) (by omega) (by decide)), if_neg hb0, gNzL_ok hb0, hr, nI_1]
      have s2 : L_X12_common_28 (n + 1 + 1) (lN a) (lN b) = L_X12_common_28 (n + 1) (lN b) (lN (a % b)) := by
        simp only [L_X12_common_28]
        rw [if_neg hb0, gNzL_ok hb0, hr]
      rw [s1, s2, hg]
      generalize hc : a % b = r at *
      by_cases h1 : r = 0
      · subst h1
        simp only [L_X11_commonDivisor_15, L_X12_common_28]
        rw [if_neg (show ¬ (100 : Int32) ≤ nI (i + 1) from nI_ge (b := 100) (by omega) (by decide)), if_pos (show lN 0 = 0 from rfl), Nat.gcd_zero_right]
        exact ⟨rfl, rfl⟩
      · have hr0 : ¬ lN r = 0 := by
          rw [z0, pk_lEQ (by omega) (by decide)]; exact h1
        have hr2 : jRemL (lN b) (lN r) = lN (b % r) := pk_lRem hb (by omega) (by omega)
        have hlt2 : b % r < r := Nat.mod_lt _ (by omega)
        have hle2 : b % r + r ≤ b := by
          have h9 := Nat.div_add_mod b r
          have h8 : 1 ≤ b / r := (Nat.one_le_div_iff (by omega)).mpr (by omega)
          have h7 : r * 1 ≤ r * (b / r) := Nat.mul_le_mul_left r h8
          omega
        have hg2 : Nat.gcd b r = Nat.gcd r (b % r) := by rw [Nat.gcd_comm b r, Nat.gcd_rec r b, Nat.gcd_comm]
        have s3 : L_X11_commonDivisor_15 (n + 1) (lN b) (lN r) (nI (i + 1)) = L_X11_commonDivisor_15 n (lN r) (lN (b % r)) (nI (i + 2)) := by
          simp only [L_X11_commonDivisor_15]
          rw [if_neg (show ¬ (100 : Int32) ≤ nI (i + 1) from nI_ge (b := 100) (by omega) (by decide)), if_neg hr0, gNzL_ok hr0, hr2, nI_1]
        have s4 : L_X12_common_28 (n + 1) (lN b) (lN r) = L_X12_common_28 n (lN r) (lN (b % r)) := by
          simp only [L_X12_common_28]
          rw [if_neg hr0, gNzL_ok hr0, hr2]
        rw [s3, s4, hg2]
        have h5 : 2 ^ (j + 1) = 2 * 2 ^ j := Nat.pow_succ'
        exact ih r (b % r) (i + 2) n (by omega) (by omega) (by omega) (by omega) (by omega)
theorem gCommon {x y : Int64} (hx1 : -4611686018427387904 ≤ x.toInt) (hx2 : x.toInt ≤ 4611686018427387904) (hy1 : -35184372088832 < y.toInt) (hy2 : y.toInt < 35184372088832) :
    f_X11_commonDivisor x y = some (lN (Nat.gcd x.toInt.natAbs y.toInt.natAbs)) ∧ f_X12_common x y = some (lN (Nat.gcd x.toInt.natAbs y.toInt.natAbs)) := by
  obtain ⟨a1, a2⟩ := gAbs hx1 hx2
  obtain ⟨b1, b2⟩ := gAbs (x := y) (by omega) (by omega)
  unfold f_X11_commonDivisor f_X12_common
  rw [a1, a2, b1, b2]
  exact gGcd 45 _ _ 0 zFu (by omega) (by omega) (by omega) (by decide) (by rw [zFu_eq]; decide)
theorem gX_frac {n : Nat} {c m : Zst} (h : gRR n c m) (hn : n + 2 ≤ 8) {x y x' y' : Int64} (ex : x = x') (ey : y = y') (hx1 : -4611686018427387904 ≤ x.toInt) (hx2 : x.toInt ≤ 4611686018427387904) (hy1 : -35184372088832 < y.toInt) (hy2 : y.toInt < 35184372088832) (h0 : y.toInt ≠ 0) :
    ∃ c' m', f_X5_addFraction c x y = some c' ∧ f_X12_entersFraction m x' y' = some m' ∧ gRR (n + 2) c' m' ∧ gOR c c' ∧ gORm m m' := by
  subst ex ey
  obtain ⟨g1, g2⟩ := gCommon hx1 hx2 hy1 hy2
  have hg0 : 0 < Nat.gcd x.toInt.natAbs y.toInt.natAbs := Nat.gcd_pos_of_pos_right _ (by omega)
  have hg1 : Nat.gcd x.toInt.natAbs y.toInt.natAbs ≤ y.toInt.natAbs := Nat.gcd_le_right _ (by omega)
  generalize Nat.gcd x.toInt.natAbs y.toInt.natAbs = g at *
  have hz : ¬ lN g = 0 := by
    rw [show (0 : Int64) = lN 0 from rfl, pk_lEQ (by omega) (by decide)]; omega
  have hz2 : ¬ -(lN g) = 0 := by
    intro q
    have q2 := congrArg Int64.toInt q
    rw [Int64.toInt_neg, pk_lT (by omega), gbm64 (by omega) (by omega)] at q2
    have q3 : (0 : Int64).toInt = 0 := rfl
    omega
  unfold f_X5_addFraction f_X12_entersFraction J_X12_entersFraction_20
  rw [g1, g2]
  simp only [Option.bind_some, if_neg hz]
  by_cases hs : (0 : Int64) ≤ y
  · simp only [if_pos hs, gNzL_ok hz]
    obtain ⟨c1, m1, e1, e2, r1, ac1, am1⟩ := gX_add h (show n < 8 by omega) (x := x / lN g) rfl
    obtain ⟨c2, m2, e3, e4, r2, ac2, am2⟩ := gX_add r1 (show n + 1 < 8 by omega) (x := y / lN g) rfl
    simp only [e1, e2, Option.bind_some, e3, e4]
    exact ⟨c2, m2, rfl, rfl, r2, gOR_tr ac1 ac2, gORm_tr am1 am2⟩
  · simp only [if_neg hs, gNzL_ok hz2]
    obtain ⟨c1, m1, e1, e2, r1, ac1, am1⟩ := gX_add h (show n < 8 by omega) (x := x / -(lN g)) rfl
    obtain ⟨c2, m2, e3, e4, r2, ac2, am2⟩ := gX_add r1 (show n + 1 < 8 by omega) (x := y / -(lN g)) rfl
    simp only [e1, e2, Option.bind_some, e3, e4]
    exact ⟨c2, m2, rfl, rfl, r2, gOR_tr ac1 ac2, gORm_tr am1 am2⟩
theorem gW_frac {n : Nat} {c m : Zst} (h : gRR n c m) (hn : n + 2 ≤ 8) {x y x' y' : Int64} (ex : x = x') (ey : y = y') (hx1 : -4611686018427387904 ≤ x.toInt) (hx2 : x.toInt ≤ 4611686018427387904) (hy1 : -35184372088832 < y.toInt) (hy2 : y.toInt < 35184372088832) (h0 : y.toInt ≠ 0) :
    ∃ c' m', f_X5_addFraction c x y = some c' ∧ f_X12_entersFraction m x' y' = some m' ∧ gRR (n + 2) c' m' ∧ gaC c c' ∧ gaM m m' := by
  obtain ⟨c', m', h1, h2, h3, h4, h5⟩ := gX_frac h hn ex ey hx1 hx2 hy1 hy2 h0
  exact ⟨c', m', h1, h2, h3, gOR_a h4, gORm_a h5⟩
theorem gL_leaves {S T : Nat} {c m : Zst} (h : gRA S T c m) {p : Int32} {s : Nat} (hp : p = nI s) (hs : s < S) : ∃ x : Nat, 1 ≤ x ∧ x ≤ 100 ∧ f_X10_leavesOf c p = some (nI x) ∧ m.2.1 0 s = nI x := by
  subst hp
  obtain ⟨x, r, y, h1, h2, h3, h4, h5, h6, h7, h8⟩ := h.2.2.1 s hs
  have h9 := h.1.1
  refine ⟨x, h1, h2, ?_, by rw [h.2.1.1]; exact h6⟩
  unfold f_X10_leavesOf f_X10_hasSort
  rw [h.1.2.2.1, if_neg (nI_pos (by omega)), if_neg (nI_ge hs (by omega)), if_neg (by decide), gGx (show s < 8 by omega) (by decide), nI_clamp (by omega), h6]
theorem gL_stays {S T : Nat} {c m : Zst} (h : gRA S T c m) {p : Int32} {s : Nat} (hp : p = nI s) (hs : s < S) : ∃ g : Nat, g ≤ 100 ∧ f_X10_staysOf c p = some (nI (100 - g)) ∧ f_X12_goesAll m p = some (nI g) := by
  subst hp
  have h9 := h.1.1
  obtain ⟨x, y, z, h1, h2, h3, h4⟩ := h.2.2.2.1 s (by omega)
  refine ⟨x + y + z, h1, ?_, ?_⟩
  · unfold f_X10_staysOf f_X10_hasSort
    rw [h.1.2.2.1, if_neg (nI_pos (by omega)), if_neg (nI_ge hs (by omega)), if_neg (by decide), gGx (show s < 8 by omega) (by decide), gGx (show s < 8 by omega) (by decide), gGx (show s < 8 by omega) (by decide), nI_clamp (by omega), h2, h3, h4, show (100 : Int32) = nI 100 from rfl, pk_sub (by omega), pk_sub (by omega), pk_sub (by omega), show 100 - x - y - z = 100 - (x + y + z) by omega]
  · unfold f_X12_goesAll
    rw [gGx (show s < 8 by omega) (by decide), gGx (show s < 8 by omega) (by decide), gGx (show s < 8 by omega) (by decide), nI_clamp (by omega), h.2.1.2.2.2.1, h.2.1.2.2.2.2.1, h.2.1.2.2.2.2.2.1, h2, h3, h4, nI_add, nI_add]
