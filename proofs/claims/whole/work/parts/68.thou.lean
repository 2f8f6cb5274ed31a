theorem gAbs' {x : Int64} (h1 : -9223372036854775807 ≤ x.toInt) (h2 : x.toInt ≤ 9223372036854775807) : jAbsL x = lN x.toInt.natAbs ∧ (if (0 : Int64) ≤ x then x else -x) = lN x.toInt.natAbs := by
  have hn : (-x).toInt = -x.toInt := by
    rw [Int64.toInt_neg, gbm64 (by omega) (by omega)]
  have hl : (lN x.toInt.natAbs).toInt = (x.toInt.natAbs : Int) := pk_lT (by omega)
  have e0 : (0 : Int64).toInt = 0 := rfl
  unfold jAbsL
  constructor
  · apply Int64.toInt_inj.mp
    rw [hl]
    by_cases h : (0 : Int64) < x
    · rw [if_pos h]
      rw [Int64.lt_iff_toInt_lt, e0] at h
      omega
    · rw [if_neg h, hn]
      rw [Int64.lt_iff_toInt_lt, e0] at h
      omega
  · apply Int64.toInt_inj.mp
    rw [hl]
    by_cases h : (0 : Int64) ≤ x
    · rw [if_pos h]
      rw [Int64.le_iff_toInt_le, e0] at h
      omega
    · rw [if_neg h, hn]
      rw [Int64.le_iff_toInt_le, e0] at h
      omega
/-- one step of a number doubled, or with one rest more, past a divisor -/
theorem gOver {L q : Nat} (hL : L < 2 ^ 63) (hq : q < L) {r : Nat} (hr : r < L) :
    (lN q < lN L - lN r ↔ q + r < L) := by
  rw [lN_sub (by omega), pk_lLT (by omega) (by omega)]
  omega
def gThs : Nat → Nat → Nat → Nat × Nat → Nat × Nat
  | _, _, 0, x => x
  | L, r, b + 1, x =>
    let y := (2 * x.1 + (if x.2 + x.2 < L then 0 else 1), if x.2 + x.2 < L then x.2 + x.2 else x.2 + x.2 - L)
    gThs L r b (if (1000 >>> b) % 2 = 0 then y else (y.1 + (if y.2 + r < L then 0 else 1), if y.2 + r < L then y.2 + r else y.2 + r - L))
theorem gThs_ok {L r : Nat} (hr : r < L) : ∀ (b p : Nat) (x : Nat × Nat), b ≤ 10 → x.2 < L → r * p = L * x.1 + x.2 → p = 1000 >>> b → r * 1000 = L * (gThs L r b x).1 + (gThs L r b x).2 ∧ (gThs L r b x).2 < L := by
  intro b
  induction b with
  | zero =>
    intro p x _ hx he hp
    have : p = 1000 := hp
    subst this
    exact ⟨he, hx⟩
  | succ b ih =>
    intro p x hb hx he hp
    have hp2 : 1000 >>> b = 2 * p + (1000 >>> b) % 2 := by
      rw [hp, Nat.shiftRight_succ]
      omega
    -- doubled
    have hy : ∃ y : Nat × Nat, y = (2 * x.1 + (if x.2 + x.2 < L then 0 else 1), if x.2 + x.2 < L then x.2 + x.2 else x.2 + x.2 - L) ∧ y.2 < L ∧ r * (2 * p) = L * y.1 + y.2 := by
      refine ⟨_, rfl, ?_, ?_⟩
      · show (if x.2 + x.2 < L then x.2 + x.2 else x.2 + x.2 - L) < L
        split <;> omega
      · show r * (2 * p) = L * (2 * x.1 + (if x.2 + x.2 < L then 0 else 1)) + (if x.2 + x.2 < L then x.2 + x.2 else x.2 + x.2 - L)
        have e1 : r * (2 * p) = 2 * (r * p) := by grind
        have e2 : L * (2 * x.1 + (if x.2 + x.2 < L then 0 else 1)) = 2 * (L * x.1) + L * (if x.2 + x.2 < L then 0 else 1) := by grind
        rw [e1, e2, he]
        split
        · omega
        · rw [Nat.mul_one]; omega
    obtain ⟨y, hy1, hy2, hy3⟩ := hy
    show r * 1000 = L * (gThs L r b (if (1000 >>> b) % 2 = 0 then (2 * x.1 + (if x.2 + x.2 < L then 0 else 1), if x.2 + x.2 < L then x.2 + x.2 else x.2 + x.2 - L) else _)).1 + _ ∧ _
    show r * 1000 = L * (gThs L r (b + 1) x).1 + (gThs L r (b + 1) x).2 ∧ (gThs L r (b + 1) x).2 < L
    have e : gThs L r (b + 1) x = gThs L r b (if (1000 >>> b) % 2 = 0 then y else (y.1 + (if y.2 + r < L then 0 else 1), if y.2 + r < L then y.2 + r else y.2 + r - L)) := by rw [hy1]; rfl
    rw [e]
    by_cases hz : (1000 >>> b) % 2 = 0
    · rw [if_pos hz]
      exact ih (2 * p) y (by omega) hy2 hy3 (by omega)
    · rw [if_neg hz]
      refine ih (2 * p + 1) _ (by omega) ?_ ?_ (by omega)
      · show (if y.2 + r < L then y.2 + r else y.2 + r - L) < L
        split <;> omega
      · show r * (2 * p + 1) = L * (y.1 + (if y.2 + r < L then 0 else 1)) + (if y.2 + r < L then y.2 + r else y.2 + r - L)
        rw [Nat.mul_add, hy3, Nat.mul_one, Nat.mul_add]
        split
        · omega
        · rw [Nat.mul_one]; omega
theorem gBit1000 : ∀ b, b < 10 → f_X11_hasBit 1000 (nI b) = (if (1000 >>> b) % 2 = 0 then 0 else 1) := by decide +kernel
theorem gThC {L r : Nat} (hL : L < 2 ^ 63) (hr : r < L) (v0 v2 v8 : Int64) (k : Int64 → Option Int64) : ∀ (b n : Nat) (x : Nat × Nat), b ≤ 10 → b < n → x.2 < L →
    L_X0_thousandths_43 k v0 v2 (lN L) (lN r) v8 n (lN x.1) (lN x.2) (nI b - 1) = k (lN (gThs L r b x).1) := by
  intro b
  induction b with
  | zero =>
    intro n x _ hn hx
    obtain ⟨n, rfl⟩ : ∃ k, n = k + 1 := ⟨n - 1, by omega⟩
    simp only [L_X0_thousandths_43, if_pos (show nI 0 - 1 < 0 by decide)]
    rfl
  | succ b ih =>
    intro n x hb hn hx
    obtain ⟨n, rfl⟩ : ∃ k, n = k + 1 := ⟨n - 1, by omega⟩
    have e1 : nI (b + 1) - 1 = nI b := nI_pred b
    have e2 : nI b + -1 = nI b - 1 := (Int32.sub_eq_add_neg _ _).symm
    have o1 : (lN x.2 < lN L - lN x.2) = (x.2 + x.2 < L) := propext (gOver hL hx hx)
    have hy : ∃ y : Nat × Nat, y = (2 * x.1 + (if x.2 + x.2 < L then 0 else 1), if x.2 + x.2 < L then x.2 + x.2 else x.2 + x.2 - L) ∧ y.2 < L ∧
        lN x.1 + lN x.1 + Int32.toInt64 (if (if x.2 + x.2 < L then (0 : Int32) else 1) = 0 then 0 else 1) = lN y.1 ∧ (if (if x.2 + x.2 < L then (0 : Int32) else 1) = 0 then lN x.2 + lN x.2 else lN x.2 - (lN L - lN x.2)) = lN y.2 := by
      refine ⟨_, rfl, ?_, ?_, ?_⟩
      · show (if x.2 + x.2 < L then x.2 + x.2 else x.2 + x.2 - L) < L
        split <;> omega
      · show _ = lN (2 * x.1 + (if x.2 + x.2 < L then 0 else 1))
        by_cases q : x.2 + x.2 < L
        · rw [if_pos q, if_pos q, if_pos rfl, lN_add, show Int32.toInt64 0 = lN 0 from rfl, lN_add]
          congr 1; omega
        · rw [if_neg q, if_neg q, if_neg (by decide), lN_add, show Int32.toInt64 1 = lN 1 from rfl, lN_add]
          congr 1; omega
      · show _ = lN (if x.2 + x.2 < L then x.2 + x.2 else x.2 + x.2 - L)
        by_cases q : x.2 + x.2 < L
        · rw [if_pos q, if_pos rfl, if_pos q, lN_add]
        · rw [if_neg q, if_neg (by decide), if_neg q, lN_sub (by omega), lN_sub (by omega)]
          congr 1; omega
    obtain ⟨y, hy1, hy2, hy3, hy4⟩ := hy
    have o2 : (lN y.2 < lN L - lN r) = (y.2 + r < L) := propext (gOver hL hy2 hr)
    have e : gThs L r (b + 1) x = gThs L r b (if (1000 >>> b) % 2 = 0 then y else (y.1 + (if y.2 + r < L then 0 else 1), if y.2 + r < L then y.2 + r else y.2 + r - L)) := by rw [hy1]; rfl
    simp only [L_X0_thousandths_43, e1, if_neg (nI_pos (show b < 2 ^ 31 by omega)), gBit1000 b (by omega), e2, o1, hy3, hy4, o2]
    rw [e]
    by_cases hz : (1000 >>> b) % 2 = 0
    · simp only [if_pos hz, ↓reduceIte]
      exact ih n y (by omega) (by omega) hy2
    · simp only [if_neg hz, gq_10, ↓reduceIte]
      have s1 : lN y.1 + (if (if y.2 + r < L then (0 : Int32) else 1) = 0 then (0 : Int64) else 1) = lN (y.1 + (if y.2 + r < L then 0 else 1)) := by
        by_cases q : y.2 + r < L
        · rw [if_pos q, if_pos rfl, if_pos q, show (0 : Int64) = lN 0 from rfl, lN_add]
        · rw [if_neg q, if_neg (by decide), if_neg q, show (1 : Int64) = lN 1 from rfl, lN_add]
      have s2 : (if (if y.2 + r < L then (0 : Int32) else 1) = 0 then lN y.2 + lN r else lN y.2 - (lN L - lN r)) = lN (if y.2 + r < L then y.2 + r else y.2 + r - L) := by
        by_cases q : y.2 + r < L
        · rw [if_pos q, if_pos rfl, if_pos q, lN_add]
        · rw [if_neg q, if_neg (by decide), if_neg q, lN_sub (by omega), lN_sub (by omega)]
          congr 1; omega
      rw [s1, s2]
      exact ih n (y.1 + (if y.2 + r < L then 0 else 1), if y.2 + r < L then y.2 + r else y.2 + r - L) (by omega) (by omega) (by
        show (if y.2 + r < L then y.2 + r else y.2 + r - L) < L
        split <;> omega)
/-- ten times a rest, by a divisor -/
theorem gTen {L r : Nat} (hL : L < 2 ^ 63) (hr : r < L) (v4 : Int32) (v9 : Int64) (v13 : Int32) (k : Int32 × Int64 → Option Int64) :
    L_X12_thousandths_92 (fun w1 w2 => k (w1, w2)) v4 (lN L) v9 (lN r) v13 zFu 0 0 0 = k (nI (10 * r / L), lN (10 * r % L)) := by
  obtain ⟨ra, g1, g2⟩ := gq_run1 (La := fun (k : Int32 × Int64 → Option Int64) n (a : Int32 × Int64 × Int32) => L_X12_thousandths_92 (fun w1 w2 => k (w1, w2)) v4 (lN L) v9 (lN r) v13 n a.1 a.2.1 a.2.2)
    (fun i a => ∃ d s : Nat, a = (nI d, lN s, nI i) ∧ s < L ∧ i * r = L * d + s) (fun q => q = (nI (10 * r / L), lN (10 * r % L))) 0 10 (Nat.zero_le _) (by omega) (a := (0, 0, 0))
    (fun i a hi ha => by
      obtain ⟨d, s, rfl, hs, he⟩ := ha
      have o1 : (lN s < lN L - lN r) = (s + r < L) := propext (gOver hL hs hr)
      by_cases q : s + r < L
      · refine ⟨(nI d, lN (s + r), nI (i + 1)), fun k n => ?_, d, s + r, rfl, q, by rw [Nat.add_mul, he]; omega⟩
        simp only [L_X12_thousandths_92, if_neg (show ¬ (10 : Int32) ≤ nI i from nI_ge (b := 10) hi (by decide)), o1, if_pos q, lN_add, nI_1]
      · refine ⟨(nI (d + 1), lN (s + r - L), nI (i + 1)), fun k n => ?_, d + 1, s + r - L, rfl, by omega, by rw [Nat.add_mul, he, Nat.mul_add]; omega⟩
        have e : lN s - (lN L - lN r) = lN (s + r - L) := by
          rw [lN_sub (by omega), lN_sub (by omega)]
          congr 1; omega
        simp only [L_X12_thousandths_92, if_neg (show ¬ (10 : Int32) ≤ nI i from nI_ge (b := 10) hi (by decide)), o1, if_neg q, e, nI_1])
    (fun a ha => by
      obtain ⟨d, s, rfl, hs, he⟩ := ha
      have e1 : 10 * r / L = d := by
        rw [he, Nat.mul_add_div (by omega), Nat.div_eq_of_lt hs, Nat.add_zero]
      have e2 : 10 * r % L = s := by
        rw [he, Nat.mul_add_mod, Nat.mod_eq_of_lt hs]
      refine ⟨(nI d, lN s), fun k n => ?_, by rw [e1, e2]⟩
      simp only [L_X12_thousandths_92, if_pos (show (10 : Int32) ≤ nI 10 by decide)])
    ⟨0, 0, rfl, by omega, by omega⟩
  subst g2
  exact g1 k
theorem gFu4 : ∃ k, zFu = k + 1 + 1 + 1 + 1 := ⟨9996, by rw [zFu_eq]⟩
/-- thousandths: both sides -/
theorem gThous {x y : Int64} (hx1 : -9223372036854775807 ≤ x.toInt) (hx2 : x.toInt ≤ 9223372036854775807) (hy1 : -9223372036854775807 ≤ y.toInt) (hy2 : y.toInt ≤ 9223372036854775807) (h0 : y.toInt ≠ 0) :
    ∃ z, f_X0_thousandths x y = some z ∧ f_X12_thousandths x y = some z := by
  obtain ⟨a1, a2⟩ := gAbs' hx1 hx2
  obtain ⟨b1, b2⟩ := gAbs' hy1 hy2
  unfold f_X0_thousandths f_X12_thousandths
  rw [a1, a2, b1, b2]
  have hL : y.toInt.natAbs < 2 ^ 63 := by omega
  have hU : x.toInt.natAbs < 2 ^ 63 := by omega
  have hL0 : 0 < y.toInt.natAbs := by omega
  generalize y.toInt.natAbs = L at *
  generalize x.toInt.natAbs = U at *
  have hz : ¬ lN L = 0 := by rw [show (0 : Int64) = lN 0 from rfl, pk_lEQ hL (by decide)]; omega
  have hr : U % L < L := Nat.mod_lt _ hL0
  have e1 : lN U / lN L = lN (U / L) := pk_lDiv hU hL0 hL
  have e2 : jRemL (lN U) (lN L) = lN (U % L) := pk_lRem hU hL0 hL
  rw [if_neg hz, gNzL_ok hz, gNzL_ok hz, gNzL_ok hz, gNzL_ok hz, e1, e2]
  generalize U % L = r at *
  generalize U / L = w at *
  have hc := gThC hL hr x y (lN w) (fun w19 => J_X0_thousandths_181 x y (lN w) w19) 10 zFu (0, 0) (by omega) (by rw [zFu_eq]; omega) hL0
  have hc : L_X0_thousandths_43 (fun w19 => J_X0_thousandths_181 x y (lN w) w19) x y (lN L) (lN r) (lN w) zFu 0 0 9 = _ := hc
  obtain ⟨t1, t2⟩ := gThs_ok hr 10 0 (0, 0) (by omega) hL0 (by simp) (by decide)
  rw [hc]
  generalize gThs L r 10 (0, 0) = res at *
  -- the reference: three digits
  have hm : ∀ (v4 : Int32) (k : Int64 → Option Int64), L_X12_thousandths_77 k v4 (lN L) zFu (lN w) (lN r) 0 = k (lN (w * 1000 + res.1)) := by
    intro v4 k
    obtain ⟨fu, hfu⟩ := gFu4
    have d1 : 10 * r % L < L := Nat.mod_lt _ hL0
    have d2 : 10 * (10 * r % L) % L < L := Nat.mod_lt _ hL0
    have d3 : 10 * (10 * (10 * r % L) % L) % L < L := Nat.mod_lt _ hL0
    have l1 : ∀ a b : Nat, b < 2 ^ 31 → (10 : Int64) * lN a + Int32.toInt64 (nI b) = lN (10 * a + b) := fun a b hb => by
      rw [nI_l hb, show (10 : Int64) = lN 10 from rfl, lN_mul, lN_add]
    have q10 : ∀ x, x < L → 10 * x / L < 2 ^ 31 := by
      intro x hx
      have : 10 * x / L < 10 := (Nat.div_lt_iff_lt_mul hL0).mpr (by omega)
      omega
    have s1 : ∀ n (k : Int64 → Option Int64), L_X12_thousandths_77 k v4 (lN L) (n + 1) (lN w) (lN r) 0 = L_X12_thousandths_77 k v4 (lN L) n (lN (10 * w + 10 * r / L)) (lN (10 * r % L)) 1 := by
      intro n k
      have e := gTen hL hr v4 (lN w) 0 (fun q => J_X12_thousandths_139 (fun w9 w11 w13 => L_X12_thousandths_77 k v4 (lN L) n w9 w11 w13) v4 (lN L) (lN w) 0 q.1 q.2)
      simp only [L_X12_thousandths_77, show ((3 : Int32) ≤ 0) = False by decide, ↓reduceIte]
      refine e.trans ?_
      simp only [J_X12_thousandths_139, l1 _ _ (q10 r hr)]
      rfl
    have s2 : ∀ n (k : Int64 → Option Int64) (a b : Nat), b < L → L_X12_thousandths_77 k v4 (lN L) (n + 1) (lN a) (lN b) 1 = L_X12_thousandths_77 k v4 (lN L) n (lN (10 * a + 10 * b / L)) (lN (10 * b % L)) 2 := by
      intro n k a b hb
      have e := gTen hL hb v4 (lN a) 1 (fun q => J_X12_thousandths_139 (fun w9 w11 w13 => L_X12_thousandths_77 k v4 (lN L) n w9 w11 w13) v4 (lN L) (lN a) 1 q.1 q.2)
      simp only [L_X12_thousandths_77, show ((3 : Int32) ≤ 1) = False by decide, ↓reduceIte]
      refine e.trans ?_
      simp only [J_X12_thousandths_139, l1 _ _ (q10 b hb)]
      rfl
    have s3 : ∀ n (k : Int64 → Option Int64) (a b : Nat), b < L → L_X12_thousandths_77 k v4 (lN L) (n + 1) (lN a) (lN b) 2 = L_X12_thousandths_77 k v4 (lN L) n (lN (10 * a + 10 * b / L)) (lN (10 * b % L)) 3 := by
      intro n k a b hb
      have e := gTen hL hb v4 (lN a) 2 (fun q => J_X12_thousandths_139 (fun w9 w11 w13 => L_X12_thousandths_77 k v4 (lN L) n w9 w11 w13) v4 (lN L) (lN a) 2 q.1 q.2)
      simp only [L_X12_thousandths_77, show ((3 : Int32) ≤ 2) = False by decide, ↓reduceIte]
      refine e.trans ?_
      simp only [J_X12_thousandths_139, l1 _ _ (q10 b hb)]
      rfl
    rw [hfu, s1, s2 _ _ _ _ d1, s3 _ _ _ _ d2]
    simp only [L_X12_thousandths_77, show ((3 : Int32) ≤ 3) = True by decide, ↓reduceIte]
    -- the digits are those of the quotient
    have m1 := Nat.div_add_mod (10 * r) L
    have m2 := Nat.div_add_mod (10 * (10 * r % L)) L
    have m3 := Nat.div_add_mod (10 * (10 * (10 * r % L) % L)) L
    generalize 10 * r / L = A at *
    generalize 10 * r % L = r1 at *
    generalize 10 * r1 / L = B at *
    generalize 10 * r1 % L = r2 at *
    generalize 10 * r2 / L = C at *
    generalize 10 * r2 % L = r3 at *
    have e9 : L * (100 * A + 10 * B + C) + r3 = L * res.1 + res.2 := by
      rw [← t1, Nat.mul_add, Nat.mul_add, Nat.mul_left_comm, Nat.mul_left_comm L 10]
      omega
    have e10 : 100 * A + 10 * B + C = res.1 := by
      have h1 : (L * (100 * A + 10 * B + C) + r3) / L = 100 * A + 10 * B + C := by
        rw [Nat.mul_add_div hL0, Nat.div_eq_of_lt d3, Nat.add_zero]
      have h2 : (L * res.1 + res.2) / L = res.1 := by
        rw [Nat.mul_add_div hL0, Nat.div_eq_of_lt t2, Nat.add_zero]
      rw [← h1, e9, h2]
    congr 2
    omega
  rw [hm]
  have e3 : lN w * 1000 + lN res.1 = lN (w * 1000 + res.1) := by rw [show (1000 : Int64) = lN 1000 from rfl, lN_mul, lN_add]
  unfold J_X0_thousandths_181 J_X12_thousandths_161
  rw [e3]
  refine ⟨_, rfl, ?_⟩
  by_cases c1 : (0 : Int64) ≤ x
  · by_cases c2 : (0 : Int64) ≤ y
    · simp only [if_pos c1, if_pos c2, ↓reduceIte]
    · simp only [if_pos c1, if_neg c2, gq_01, ↓reduceIte, gq_10]
  · by_cases c2 : (0 : Int64) ≤ y
    · simp only [if_neg c1, if_pos c2, gq_10, ↓reduceIte]
    · simp only [if_neg c1, if_neg c2, ↓reduceIte]
