/-! sums over subsets; the order of Gray meets each subset once -/
theorem gN_cat (f : Nat → Nat) (a : Nat) : ∀ b, gN f (a + b) = gN f a + gN (fun i => f (a + i)) b
  | 0 => rfl
  | b + 1 => by
    show gN f (a + b) + f (a + b) = gN f a + (gN (fun i => f (a + i)) b + f (a + b))
    rw [gN_cat f a b]; omega
theorem gN_rev (f : Nat → Nat) : ∀ n, gN (fun i => f (n - 1 - i)) n = gN f n
  | 0 => rfl
  | n + 1 => by
    have h := gN_cat (fun i => f (n + 1 - 1 - i)) 1 n
    rw [show 1 + n = n + 1 by omega] at h
    rw [h]
    have e : gN (fun i => f (n + 1 - 1 - (1 + i))) n = gN f n := by
      rw [← gN_rev f n]
      exact gN_eq n (fun i hi => by rw [show n + 1 - 1 - (1 + i) = n - 1 - i by omega])
    rw [e]
    show (0 + f (n + 1 - 1 - 0)) + gN f n = gN f n + f n
    rw [show n + 1 - 1 - 0 = n by omega]; omega
def gGry (t : Nat) : Nat := t ^^^ (t >>> 1)
theorem gGry_b (t j : Nat) : (gGry t).testBit j = (t.testBit j ^^ t.testBit (j + 1)) := by
  unfold gGry
  rw [Nat.testBit_xor, Nat.testBit_shiftRight, Nat.add_comm 1 j]
theorem gGry_lt {t N : Nat} (h : t < 2 ^ N) : gGry t < 2 ^ N := by
  unfold gGry
  refine Nat.xor_lt_two_pow h ?_
  rw [Nat.shiftRight_eq_div_pow]
  exact Nat.lt_of_le_of_lt (Nat.div_le_self _ _) h
theorem gGry_mir {N t : Nat} (h : t < 2 ^ N) : gGry (2 ^ N + t) = 2 ^ N + gGry (2 ^ N - 1 - t) := by
  have h1 : 2 ^ N + t = 2 ^ N ||| t := by
    have := Nat.two_pow_add_eq_or_of_lt h 1
    rwa [Nat.mul_one] at this
  have hl : gGry (2 ^ N - 1 - t) < 2 ^ N := gGry_lt (by omega)
  have h2 : 2 ^ N + gGry (2 ^ N - 1 - t) = 2 ^ N ||| gGry (2 ^ N - 1 - t) := by
    have := Nat.two_pow_add_eq_or_of_lt hl 1
    rwa [Nat.mul_one] at this
  have hb : ∀ j, (2 ^ N - 1 - t).testBit j = (decide (j < N) && !t.testBit j) := fun j => by
    rw [show 2 ^ N - 1 - t = 2 ^ N - (t + 1) by omega, Nat.testBit_two_pow_sub_succ h]
  have ht : ∀ j, N ≤ j → t.testBit j = false := fun j hj => Nat.testBit_lt_two_pow (Nat.lt_of_lt_of_le h (Nat.pow_le_pow_right (by decide) hj))
  rw [h2, h1]
  apply Nat.eq_of_testBit_eq
  intro j
  rw [gGry_b, Nat.testBit_or, Nat.testBit_or, Nat.testBit_or, Nat.testBit_two_pow, Nat.testBit_two_pow, gGry_b, hb, hb]
  by_cases a : j < N
  · have e1 : decide (N = j) = false := decide_eq_false (by omega)
    rw [e1, decide_eq_true a]
    by_cases b : j + 1 < N
    · have e2 : decide (N = j + 1) = false := decide_eq_false (by omega)
      rw [e2, decide_eq_true b]
      cases t.testBit j <;> cases t.testBit (j + 1) <;> rfl
    · have e2 : decide (N = j + 1) = true := decide_eq_true (by omega)
      rw [e2, decide_eq_false b, ht (j + 1) (by omega)]
      cases t.testBit j <;> rfl
  · rw [decide_eq_false a, ht j (by omega), ht (j + 1) (by omega), decide_eq_false (show ¬ j + 1 < N by omega), decide_eq_false (show ¬ N = j + 1 by omega)]
    cases decide (N = j) <;> rfl
theorem gGry_sum : ∀ (N : Nat) (f : Nat → Nat), gN (fun t => f (gGry t)) (2 ^ N) = gN f (2 ^ N)
  | 0, f => rfl
  | N + 1, f => by
    rw [show 2 ^ (N + 1) = 2 ^ N + 2 ^ N by rw [Nat.pow_succ]; omega, gN_cat, gN_cat, gGry_sum N f]
    have e : gN (fun i => f (gGry (2 ^ N + i))) (2 ^ N) = gN (fun i => f (2 ^ N + i)) (2 ^ N) := by
      rw [← gGry_sum N (fun i => f (2 ^ N + i)), ← gN_rev (fun t => f (2 ^ N + gGry t)) (2 ^ N)]
      exact gN_eq _ (fun i hi => by rw [gGry_mir hi])
    rw [e]
/-- trailing zeroes -/
def gtz : Nat → Nat → Nat
  | 0, _ => 0
  | f + 1, k => if k % 2 = 1 then 0 else 1 + gtz f (k / 2)
theorem gTz0 : ∀ a, a < 64 → ∀ b, b < 64 → 64 * a + b = 0 ∨ (f_J6_numberOfTrailingZeros_0f7a4 (nI (64 * a + b)) = nI (gtz 12 (64 * a + b)) ∧ gGry (64 * a + b) = gGry (64 * a + b - 1) ^^^ 2 ^ gtz 12 (64 * a + b)) := by decide +kernel
theorem gTz {k : Nat} (h0 : 0 < k) (h : k < 4096) : f_J6_numberOfTrailingZeros_0f7a4 (nI k) = nI (gtz 12 k) ∧ gGry k = gGry (k - 1) ^^^ 2 ^ gtz 12 k := by
  have := gTz0 (k / 64) (by omega) (k % 64) (by omega)
  rw [show 64 * (k / 64) + k % 64 = k by omega] at this
  rcases this with q | q
  · omega
  · exact q
theorem gtz_lt : ∀ f k N, N ≤ f → 0 < k → k < 2 ^ N → gtz f k < N
  | _, k, 0, _, h0, hk => by
    have : k < 1 := hk
    omega
  | 0, _, N + 1, h, _, _ => absurd h (by omega)
  | f + 1, k, N + 1, h, h0, hk => by
    rw [Nat.pow_succ] at hk
    unfold gtz
    by_cases e : k % 2 = 1
    · rw [if_pos e]; omega
    · rw [if_neg e]
      have := gtz_lt f (k / 2) N (by omega) (by omega) (by omega)
      omega
/-- the sum of a subset -/
def gSub (M : Nat → Nat) (s : Nat) : Nat → Nat
  | 0 => 0
  | i + 1 => gSub M s i + (if s.testBit i = true then M i else 0)
theorem gSub_s (M : Nat → Nat) (s i : Nat) : gSub M s (i + 1) = gSub M s i + (if s.testBit i = true then M i else 0) := rfl
theorem gSub_lo {M : Nat → Nat} {s z : Nat} : ∀ n, n ≤ z → gSub M (s ^^^ 2 ^ z) n = gSub M s n
  | 0, _ => rfl
  | n + 1, h => by
    rw [gSub_s, gSub_s, gSub_lo n (by omega), Nat.testBit_xor, Nat.testBit_two_pow, decide_eq_false (show ¬ z = n by omega), Bool.xor_false]
theorem gSub_x {M : Nat → Nat} {s z : Nat} : ∀ n, z < n → (s ^^^ 2 ^ z).testBit z = true → gSub M (s ^^^ 2 ^ z) n = gSub M s n + M z
  | 0, h, _ => absurd h (Nat.not_lt_zero z)
  | n + 1, h, hb => by
    rw [gSub_s, gSub_s]
    by_cases e : z = n
    · subst e
      rw [gSub_lo z (Nat.le_refl z), if_pos hb]
      have : s.testBit z = false := by
        rw [Nat.testBit_xor, Nat.testBit_two_pow, decide_eq_true rfl] at hb
        cases q : s.testBit z
        · rfl
        · rw [q] at hb; cases hb
      rw [this, if_neg (by decide), Nat.add_zero]
    · rw [gSub_x n (by omega) hb, Nat.testBit_xor, Nat.testBit_two_pow, decide_eq_false e, Bool.xor_false]
      omega
theorem gSub_y {M : Nat → Nat} {s z : Nat} (n : Nat) (h : z < n) (hb : (s ^^^ 2 ^ z).testBit z = false) : gSub M s n = gSub M (s ^^^ 2 ^ z) n + M z := by
  have e : s ^^^ 2 ^ z ^^^ 2 ^ z = s := by rw [Nat.xor_assoc, Nat.xor_self, Nat.xor_zero]
  have h1 : (s ^^^ 2 ^ z ^^^ 2 ^ z).testBit z = true := by
    rw [e]
    rw [Nat.testBit_xor, Nat.testBit_two_pow, decide_eq_true rfl] at hb
    cases q : s.testBit z
    · rw [q] at hb; cases hb
    · rfl
  have := gSub_x (M := M) (s := s ^^^ 2 ^ z) n h h1
  rw [e] at this
  exact this
theorem gSub_0 (M : Nat → Nat) : ∀ n, gSub M 0 n = 0
  | 0 => rfl
  | n + 1 => by rw [gSub_s, gSub_0 M n, Nat.zero_testBit]; rfl
theorem gSub_all (M : Nat → Nat) (N : Nat) : ∀ n, n ≤ N → gSub M (2 ^ N - 1) n = gN M n
  | 0, _ => rfl
  | n + 1, h => by
    rw [gSub_s, gSub_all M N n (by omega), Nat.testBit_two_pow_sub_one, decide_eq_true (show n < N by omega), if_pos rfl]; rfl
