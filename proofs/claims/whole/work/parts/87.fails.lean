theorem gJ129 {m : Zst} {A B : Nat} (hA : A < 10) (hB : B < 10) (K : Int32 → Int32 → Option Int32) (v1 v2 v3 s0 : Int32) : J_X12_fails_129 K m v1 v2 v3 (nI A) (nI B) s0 = K (v2 + (if s0 = 0 ∨ m.2.2.1 4 A = 0 ∨ m.2.2.1 4 B = 0 then 1 else 0)) (v3 + 1) := by
  unfold J_X12_fails_129
  have f1 : f_X12_flag 1 = 1 := rfl
  have f0 : f_X12_flag 0 = 0 := rfl
  by_cases h : s0 = 0
  · rw [if_pos h, if_pos (Or.inl h), f1]
  · rw [if_neg h, gGx hA (by decide), nI_clamp (by omega)]
    by_cases a : m.2.2.1 4 A = 0
    · rw [if_pos a, if_pos (Or.inr (Or.inl a)), f1]
    · rw [if_neg a, gGx hB (by decide), nI_clamp (by omega)]
      by_cases b : m.2.2.1 4 B = 0
      · rw [if_pos b, if_pos (Or.inr (Or.inr b)), f1]
      · rw [if_neg b, if_neg (by intro q; rcases q with q | q | q; exact h q; exact a q; exact b q), f0]
theorem gPi5_lt {a : Nat} (h : a < 10) : gPi5 a < 10 := by unfold gPi5; omega
/-- the comparison of two things' means -/
theorem gCmpT {c m : Zst} (h : gTg 5 c m) {a b : Nat} (ha : a < 10) (hb : b < 10) (za : ¬ c.2.2.1 4 a = 0) (zb : ¬ c.2.2.1 4 b = 0) :
    f_X11_compareFractions (c.2.2.1 3 a) (c.2.2.1 4 a) (c.2.2.1 3 b) (c.2.2.1 4 b) = f_J13_signum_95d88 (((m.2.2.1 3 (gPi5 a)) * (m.2.2.1 4 (gPi5 b))) - ((m.2.2.1 3 (gPi5 b)) * (m.2.2.1 4 (gPi5 a)))) := by
  obtain ⟨a1, a2, a3, a4, ka, a5, a6⟩ := h a (by omega)
  obtain ⟨b1, b2, b3, b4, kb, b5, b6⟩ := h b (by omega)
  rw [a2 za, b2 zb, a1, b1]
  generalize m.2.2.1 3 (gPi5 a) = u0 at *
  generalize m.2.2.1 4 (gPi5 a) = l0 at *
  generalize m.2.2.1 3 (gPi5 b) = u1 at *
  generalize m.2.2.1 4 (gPi5 b) = l1 at *
  have c0 : l0.toInt = (ka : Int) := by rw [a6, pk_lT (by omega)]
  have c1 : l1.toInt = (kb : Int) := by rw [b6, pk_lT (by omega)]
  have x1 := gMulB (x := u0) (y := l1) (A := 96000) (B := 96000) (by omega) (by omega) (by omega) (by omega) (by decide) (by decide) (by decide)
  have x2 := gMulB (x := u1) (y := l0) (A := 96000) (B := 96000) (by omega) (by omega) (by omega) (by omega) (by decide) (by decide) (by decide)
  have e : (u0 * l1 - u1 * l0).toInt = (u0 * l1).toInt - (u1 * l0).toInt := by
    rw [Int64.toInt_sub, gbm64 (by omega) (by omega)]
  unfold f_X11_compareFractions
  rw [gCmpS, gSg64 (by rw [e]; omega) (by rw [e]; omega), e]
def gS0 (sg : Nat) (x : Int32) : Int32 := if sg = 0 then (if (0 : Int32) ≤ x then 0 else 1) else if sg = 1 then (if x ≤ 0 then 0 else 1) else (if x = 0 then 1 else 0)
theorem gTn {c m : Zst} (h : gTg 5 c m) {a : Nat} (ha : a < 10) : 0 ≤ (c.2.2.1 4 a).toInt := by
  obtain ⟨a1, a2, a3, a4, ka, a5, a6⟩ := h a (by omega)
  rw [a1, a6, pk_lT (by omega)]
  omega
theorem gIsSo {c : Zst} {a b sg : Nat} (ha : a < 10) (hb : b < 10) (na : 0 ≤ (c.2.2.1 4 a).toInt) (nb : 0 ≤ (c.2.2.1 4 b).toInt) (hsg : sg = 60 ∨ sg = 62 ∨ sg = 61) : f_X8_isSo c (nI a) (nI sg) (nI b) = some (if c.2.2.1 4 a = 0 ∨ c.2.2.1 4 b = 0 then 0 else gS0 (gSgI sg) (f_X11_compareFractions (c.2.2.1 3 a) (c.2.2.1 4 a) (c.2.2.1 3 b) (c.2.2.1 4 b))) := by
  unfold f_X8_isSo
  rw [gHad ha na, gHad hb nb]
  simp only [Option.bind_some]
  by_cases za : c.2.2.1 4 a = 0
  · rw [if_pos za, if_pos (Or.inl za), if_pos rfl]
  · rw [if_neg za, if_neg (show ¬ (1 : Int32) = 0 by decide)]
    by_cases zb : c.2.2.1 4 b = 0
    · rw [if_pos zb, if_pos (Or.inr zb), if_pos rfl]
    · rw [if_neg zb, if_neg (show ¬ (1 : Int32) = 0 by decide), gCmpTh ha hb na nb za zb, Option.bind_some, if_neg (show ¬ (c.2.2.1 4 a = 0 ∨ c.2.2.1 4 b = 0) by intro q; rcases q with q | q; exact za q; exact zb q)]
      generalize f_X11_compareFractions (c.2.2.1 3 a) (c.2.2.1 4 a) (c.2.2.1 3 b) (c.2.2.1 4 b) = D
      unfold gS0 gSgI
      rcases hsg with rfl | rfl | rfl
      · rw [if_pos (show nI 60 = (60 : Int32) by decide)]; rfl
      · rw [if_neg (show ¬ nI 62 = (60 : Int32) by decide), if_pos (show nI 62 = (62 : Int32) by decide)]; rfl
      · rw [if_neg (show ¬ nI 61 = (60 : Int32) by decide), if_neg (show ¬ nI 61 = (62 : Int32) by decide)]; rfl
theorem gS0_ne {sg : Nat} {x : Int32} : gS0 sg x = 0 ∨ gS0 sg x = 1 := by
  unfold gS0
  repeat' split
  all_goals first | exact Or.inl rfl | exact Or.inr rfl
/-- how many claims of a story fail, both sides -/
theorem gFails {S T : Nat} {c m : Zst} (h : gCor S T c m) (ht : gTg 5 c m) {st Q : Nat} (hQ : m.1 20 = nI Q) (hQ6 : Q ≤ 6) (hst : st < Q) : ∃ x : Int32, f_X8_failingOf c (nI st) = some x ∧ f_X12_fails m (nI st) = some x := by
  obtain ⟨Q', hQ', q1, q2, q3⟩ := h.2.2.2.2.2.2.1
  have hQQ : Q' = Q := (nI_eq (show Q' < 2 ^ 31 by omega) (show Q < 2 ^ 31 by omega)).mp (q2.symm.trans hQ)
  subst hQQ
  obtain ⟨n, cl, v, z1, z2, z3, z4, z5, z6, z7, z8⟩ := q3 st hst
  have hist : f_X1_isText_S (nI st) = 1 := by
    unfold f_X1_isText_S
    rw [if_neg (nI_pos (by omega)), if_neg (show ¬ (6 : Int32) ≤ nI st from nI_ge (b := 6) (by omega) (by decide))]
  have hsz : f_X1_sizeOf_S c (nI st) = some (nI n) := by
    unfold f_X1_sizeOf_S
    rw [hist, if_neg (by decide), gGx (show st < 6 by omega) (by decide), nI_clamp (show st < 2 ^ 31 by omega), z3]
  have hat : ∀ p, p < n → f_X1_signAt_S c (nI st) (nI p) = some (nI (v p)) := fun p hp => by
    have hx : nI st * (40 : Int32) + nI p = nI (40 * st + p) := by rw [show (40 : Int32) = nI 40 from rfl, pk_mul, nI_add, Nat.mul_comm]
    unfold f_X1_signAt_S
    rw [if_neg (nI_pos (by omega)), if_neg (show ¬ (6 : Int32) ≤ nI st from nI_ge (b := 6) (by omega) (by decide)), if_neg (nI_pos (by omega)), gGx (show st < 6 by omega) (by decide), nI_clamp (show st < 2 ^ 31 by omega), z3, if_neg (nI_ge hp (show n < 2 ^ 31 by omega)), if_neg (by decide), hx, gGx (show 40 * st + p < 240 by omega) (by decide), nI_clamp (show 40 * st + p < 2 ^ 31 by omega), z6 p hp]
  have hthing : ∀ p, p < n → ¬ p % 4 = 1 → ¬ p % 4 = 3 → f_X8_thingOf (nI (v p)) = some (nI (gTi (v p))) ∧ gTi (v p) < 10 := fun p hp h1 h3 => by
    have := z7 p hp
    unfold gOk at this
    rw [if_neg h1, if_neg h3] at this
    rcases gTh (v p) (z2 p) with ⟨a, -⟩ | ⟨a, b, -⟩
    · exact absurd a this
    · rw [gThing (z2 p), b]; exact ⟨rfl, a⟩
  have hsig : ∀ p, p < n → p % 4 = 1 → (v p = 60 ∨ v p = 62 ∨ v p = 61) := fun p hp h1 => by
    have := z7 p hp
    unfold gOk at this
    rwa [if_pos h1] at this
  have hx12 : (12 : Int32) * nI st = nI (12 * st) := by rw [show (12 : Int32) = nI 12 from rfl, pk_mul]
  obtain ⟨ra, rb, h1, h2, h3⟩ := gq_lock (La := fun n (a : Int32 × Int32) => L_X8_failingOf_4 c (nI st) n a.1 a.2)
    (Lb := fun n (a : Int32 × Int32) => L_X12_fails_7 m (nI st) n a.1 a.2)
    (fun i a b => ∃ x : Int32, a = (x, nI (4 * i)) ∧ b = (x, nI (12 * st + i)))
    (fun ra rb => ra = rb) cl (by omega) (a := (0, 0)) (b := (0, nI (12 * st)))
    (fun i a b hi hI => by
      obtain ⟨x, rfl, rfl⟩ := hI
      have e1 : ¬ nI n ≤ nI (4 * i) := nI_ge (by omega) (by omega)
      have e2 : ¬ nI (12 * st + cl) ≤ nI (12 * st + i) := nI_ge (by omega) (by omega)
      obtain ⟨t1, t2⟩ := hthing (4 * i) (by omega) (by omega) (by omega)
      obtain ⟨t3, t4⟩ := hthing (4 * i + 2) (by omega) (by omega) (by omega)
      have t5 := hsig (4 * i + 1) (by omega) (by omega)
      obtain ⟨y1, y2, y3⟩ := z8 i hi
      have a1 := hat (4 * i) (by omega)
      have a2 := hat (4 * i + 1) (by omega)
      have a3 := hat (4 * i + 2) (by omega)
      have so := gIsSo (c := c) t2 t4 (gTn ht t2) (gTn ht t4) t5
      generalize gTi (v (4 * i)) = A at *
      generalize gTi (v (4 * i + 2)) = B at *
      have pA := gPi5_lt t2
      have pB := gPi5_lt t4
      have p1 : nI (4 * i) + 1 = nI (4 * i + 1) := nI_1 _
      have p2 : nI (4 * i) + 2 = nI (4 * i + 2) := by rw [show (2 : Int32) = nI 2 from rfl, nI_add]
      have p4 : nI (4 * i) + 4 = nI (4 * (i + 1)) := by rw [show (4 : Int32) = nI 4 from rfl, nI_add]; rfl
      have zA := (ht A (by omega)).1
      have zB := (ht B (by omega)).1
      have sgl : gSgI (v (4 * i + 1)) < 3 := by unfold gSgI; split; decide; split <;> decide
      -- the sign of the difference, and what it says
      have hM : ∀ n, L_X12_fails_7 m (nI st) (n + 1) x (nI (12 * st + i)) = L_X12_fails_7 m (nI st) n (x + (if gS0 (gSgI (v (4 * i + 1))) (f_J13_signum_95d88 (((m.2.2.1 3 (gPi5 A)) * (m.2.2.1 4 (gPi5 B))) - ((m.2.2.1 3 (gPi5 B)) * (m.2.2.1 4 (gPi5 A))))) = 0 ∨ m.2.2.1 4 (gPi5 A) = 0 ∨ m.2.2.1 4 (gPi5 B) = 0 then 1 else 0)) (nI (12 * st + (i + 1))) := fun n => by
        simp only [L_X12_fails_7, gGx (show st < 6 by omega) (by decide), nI_clamp (show st < 2 ^ 31 by omega), hx12, z4, nI_add, if_neg e2, gGx (show 12 * st + i < 72 by omega) (by decide), nI_clamp (show 12 * st + i < 2 ^ 31 by omega), y1, y2, y3, gGx pA (by decide), gGx pB (by decide), nI_clamp (show gPi5 A < 2 ^ 31 by omega), nI_clamp (show gPi5 B < 2 ^ 31 by omega), gJ129 pA pB]
        generalize f_J13_signum_95d88 (((m.2.2.1 3 (gPi5 A)) * (m.2.2.1 4 (gPi5 B))) - ((m.2.2.1 3 (gPi5 B)) * (m.2.2.1 4 (gPi5 A)))) = D
        rw [show nI (12 * st + i) + 1 = nI (12 * st + (i + 1)) from nI_1 _]
        unfold gS0
        simp only [show ∀ k, k < 3 → (nI k = (0 : Int32)) = (k = 0) from fun k hk => propext (nI_eq (b := 0) (by omega) (by decide)), show ∀ k, k < 3 → (nI k = (1 : Int32)) = (k = 1) from fun k hk => propext (nI_eq (b := 1) (by omega) (by decide)), sgl]
        by_cases g0 : gSgI (v (4 * i + 1)) = 0
        · simp only [g0, ↓reduceIte]
          by_cases d : (0 : Int32) ≤ D
          · simp only [d, ↓reduceIte]
          · simp only [d, ↓reduceIte]
        · by_cases g1 : gSgI (v (4 * i + 1)) = 1
          · simp only [g0, g1, ↓reduceIte]
            by_cases d : D ≤ (0 : Int32)
            · simp only [d, ↓reduceIte]; rfl
            · simp only [d, ↓reduceIte]; rfl
          · simp only [g0, g1, ↓reduceIte]
            by_cases d : D = (0 : Int32)
            · simp only [d, ↓reduceIte]
            · simp only [d, ↓reduceIte]
      have hC : ∀ n, L_X8_failingOf_4 c (nI st) (n + 1) x (nI (4 * i)) = L_X8_failingOf_4 c (nI st) n (x + (if gS0 (gSgI (v (4 * i + 1))) (f_J13_signum_95d88 (((m.2.2.1 3 (gPi5 A)) * (m.2.2.1 4 (gPi5 B))) - ((m.2.2.1 3 (gPi5 B)) * (m.2.2.1 4 (gPi5 A))))) = 0 ∨ m.2.2.1 4 (gPi5 A) = 0 ∨ m.2.2.1 4 (gPi5 B) = 0 then 1 else 0)) (nI (4 * (i + 1))) := fun n => by
        simp only [L_X8_failingOf_4, hsz, Option.bind_some, if_neg e1, a1, t1, p1, a2, p2, a3, t3, so, p4]
        by_cases w1 : c.2.2.1 4 A = 0
        · rw [if_pos (Or.inl w1), if_pos rfl, if_pos (Or.inr (Or.inl (by rw [← zA]; exact w1)))]
        · by_cases w2 : c.2.2.1 4 B = 0
          · rw [if_pos (Or.inr w2), if_pos rfl, if_pos (Or.inr (Or.inr (by rw [← zB]; exact w2)))]
          · rw [if_neg (show ¬ (c.2.2.1 4 A = 0 ∨ c.2.2.1 4 B = 0) by intro q; rcases q with q | q; exact w1 q; exact w2 q), gCmpT ht t2 t4 w1 w2]
            generalize gS0 _ _ = D
            by_cases d : D = 0
            · rw [if_pos d, if_pos (Or.inl d)]
            · rw [if_neg d, if_neg (by intro q; rcases q with q | q | q; exact d q; exact w1 (by rw [zA]; exact q); exact w2 (by rw [zB]; exact q)), Int32.add_zero]
      exact ⟨(_, nI (4 * (i + 1))), (_, nI (12 * st + (i + 1))), hC, hM, _, rfl, rfl⟩)
    (fun a b hI => by
      obtain ⟨x, rfl, rfl⟩ := hI
      have e1 : nI n ≤ nI (4 * cl) := nI_le (by omega) (by omega)
      have e2 : nI (12 * st + cl) ≤ nI (12 * st + cl) := Int32.le_refl _
      refine ⟨x, x, fun n => ?_, fun n => ?_, rfl⟩
      · simp only [L_X8_failingOf_4, hsz, Option.bind_some, if_pos e1]
      · simp only [L_X12_fails_7, gGx (show st < 6 by omega) (by decide), nI_clamp (show st < 2 ^ 31 by omega), hx12, z4, nI_add, if_pos e2])
    ⟨0, rfl, rfl⟩
  subst h3
  refine ⟨ra, h1, ?_⟩
  unfold f_X12_fails
  rw [hx12]
  exact h2
