theorem yMk_inv {nS ch : Nat} {s s' : gS4} (h : s.2.1 ≤ 5 ∧ s.2.2.1 ≤ 3) (hk : gMk nS s ch = some s') : s'.2.1 ≤ 5 ∧ s'.2.2.1 ≤ 3 := by
  obtain ⟨A, o, d, C⟩ := s
  have h1 : o ≤ 5 := h.1
  have h2 : d ≤ 3 := h.2
  unfold gMk at hk
  simp only at hk
  repeat' split at hk
  all_goals first | (cases hk; done) | (cases hk; refine ⟨?_, ?_⟩ <;> simp only <;> omega)
theorem yMs_inv {nS : Nat} {v : Nat → Nat} : ∀ p s, yMs nS v p = some s → s.2.1 ≤ 5 ∧ s.2.2.1 ≤ 3
  | 0, s, h => by cases h; exact ⟨by decide, by decide⟩
  | p + 1, s, h => by
    have h : (yMs nS v p).bind (fun s => gMk nS s (v p)) = some s := h
    obtain ⟨s0, h0, h1⟩ := Option.bind_eq_some_iff.mp h
    exact yMk_inv (yMs_inv p s0 h0) h1
theorem yMs_none {nS : Nat} {v : Nat → Nat} {p : Nat} (h : yMs nS v p = none) : ∀ d, yMs nS v (p + d) = none
  | 0 => h
  | d + 1 => by
    show (yMs nS v (p + d)).bind _ = none
    rw [yMs_none h d]; rfl
/-- where a law is wrong, as the class finds it -/
theorem yWrongC {c : Zst} {i N P : Nat} {v : Nat → Nat} {sP : gS4} (hi : i < 6) (h3 : c.1 3 = nI i) (hN : N ≤ 60) (h1 : c.1 1 = nI N) (hv : ∀ j, v j < 256) (ht : ∀ j, c.2.1 0 j = nI (v j)) (hP : P ≤ min N 40) (hs : yMs (8 + min i 2) v P = some sP) (hst : P < min N 40 → gMk (8 + min i 2) sP (v P) = none) :
    ∃ a b d e, f_X1_wrongPlace_L c = some (gqq c a b d e, if P < min N 40 then nI P else if N ≤ 40 then (if sP.1 = false ∧ sP.2.1 = 0 then -1 else nI N) else 40) := by
  have key : ∀ d p n s, p + d = P → d < n → yMs (8 + min i 2) v p = some s → ∃ a b d e, L_X1_wrongPlace_L_6 (fun σ6 => J_X1_wrongPlace_L_40 σ6) n (gk4 c s) (nI p) = some (gqq c a b d e, if P < min N 40 then nI P else if N ≤ 40 then (if sP.1 = false ∧ sP.2.1 = 0 then -1 else nI N) else 40) := by
    intro d
    induction d with
    | zero =>
      intro p n s hp hn hm
      obtain ⟨n, rfl⟩ : ∃ k, n = k + 1 := ⟨n - 1, by omega⟩
      have hp : p = P := by omega
      subst hp
      have e : s = sP := by rw [hm] at hs; cases hs; rfl
      subst e
      obtain ⟨i1, i2⟩ := yMs_inv p s hm
      have hz : f_X9_size (gk4 c s) = nI N := h1
      by_cases q : p < min N 40
      · have e1 : ¬ nI N ≤ nI p := nI_ge (by omega) (by omega)
        have e2 : ¬ (40 : Int32) ≤ nI p := nI_ge (b := 40) (by omega) (by decide)
        have ha : f_X9_at (gk4 c s) (nI p) = some (nI (v p)) := by
          unfold f_X9_at
          rw [show (gk4 c s).1 1 = nI N from h1, if_neg (nI_pos (by omega)), if_neg e1, gGx (show p < 60 by omega) (by decide), nI_clamp (by omega), ← ht p]; rfl
        obtain ⟨a, b, d, e, ht0⟩ := (yTk (c0 := c) (i := i) (ch := v p) (s := s) h3 hi (hv p) i1 i2).2 (hst q)
        refine ⟨a, b, d, e, ?_⟩
        simp only [L_X1_wrongPlace_L_6, hz, if_neg e1, if_neg e2, ha, Option.bind_some, ht0, ↓reduceIte, if_pos q]
      · rw [if_neg q]
        have hcases : (N ≤ 40 ∧ p = N) ∨ (¬ N ≤ 40 ∧ p = 40) := by omega
        have hJ : L_X1_wrongPlace_L_6 (fun σ6 => J_X1_wrongPlace_L_40 σ6) (n + 1) (gk4 c s) (nI p) = J_X1_wrongPlace_L_40 (gk4 c s) := by
          rcases hcases with ⟨a, b⟩ | ⟨a, b⟩
          · simp only [L_X1_wrongPlace_L_6, hz, if_pos (show nI N ≤ nI p by rw [b]; exact Int32.le_refl _)]
          · simp only [L_X1_wrongPlace_L_6, hz, if_neg (show ¬ nI N ≤ nI p from nI_ge (by omega) (by omega)), if_pos (show (40 : Int32) ≤ nI p by rw [b]; decide)]
        rw [hJ]
        unfold J_X1_wrongPlace_L_40
        rw [hz]
        obtain ⟨A, o, d, C⟩ := s
        have i1 : o ≤ 5 := i1
        refine ⟨if A = true then 1 else 0, nI o, nI d, C, ?_⟩
        rcases hcases with ⟨a, b⟩ | ⟨a, b⟩
        · rw [if_pos (show nI N ≤ (40 : Int32) from nI_le (b := 40) a (by decide)), if_pos a]
          have hce : f_X2_couldEnd (gk4 c (A, o, d, C)) = if A = false ∧ o = 0 then 1 else 0 := by
            unfold f_X2_couldEnd
            rw [show (gk4 c (A, o, d, C)).1 4 = (if A = true then 1 else 0) from rfl, show (gk4 c (A, o, d, C)).1 5 = nI o from rfl]
            cases A
            · simp only [Bool.false_eq_true, ↓reduceIte, show (nI o = (0 : Int32)) = (o = 0) from propext (nI_eq (b := 0) (by omega) (by decide)), true_and]
            · simp only [↓reduceIte, gq_10, Bool.true_eq_false, false_and]
          rw [hce]
          show some (gk4 c (A, o, d, C), _) = some (gk4 c (A, o, d, C), _)
          by_cases z : A = false ∧ o = 0
          · rw [if_pos z, if_neg (by decide), if_pos z]
          · rw [if_neg z, if_pos rfl, if_neg z]
        · rw [if_neg (show ¬ nI N ≤ (40 : Int32) from nI_ge (a := 40) (by omega) (by omega)), if_neg a]
          rfl
    | succ d ih =>
      intro p n s hp hn hm
      obtain ⟨n, rfl⟩ : ∃ k, n = k + 1 := ⟨n - 1, by omega⟩
      obtain ⟨i1, i2⟩ := yMs_inv p s hm
      have hz : f_X9_size (gk4 c s) = nI N := h1
      have e1 : ¬ nI N ≤ nI p := nI_ge (by omega) (by omega)
      have e2 : ¬ (40 : Int32) ≤ nI p := nI_ge (b := 40) (by omega) (by decide)
      have ha : f_X9_at (gk4 c s) (nI p) = some (nI (v p)) := by
        unfold f_X9_at
        rw [show (gk4 c s).1 1 = nI N from h1, if_neg (nI_pos (by omega)), if_neg e1, gGx (show p < 60 by omega) (by decide), nI_clamp (by omega), ← ht p]; rfl
      cases hn1 : yMs (8 + min i 2) v (p + 1) with
      | none =>
        have := yMs_none hn1 d
        rw [show p + 1 + d = P by omega, hs] at this
        cases this
      | some s' =>
        obtain ⟨a, b, d', e, hx⟩ := ih (p + 1) n s' (by omega) (by omega) hn1
        rw [yMs_n hm] at hn1
        have ht1 := (yTk (c0 := c) (i := i) (ch := v p) (s := s) h3 hi (hv p) i1 i2).1 s' hn1
        refine ⟨a, b, d', e, ?_⟩
        simp only [L_X1_wrongPlace_L_6, hz, if_neg e1, if_neg e2, ha, Option.bind_some, ht1, ↓reduceIte, gq_10, nI_1]
        exact hx
  exact key P 0 zFu (true, 0, 0, 0) (by omega) (by rw [zFu_eq]; omega) rfl
/-- the class keeps a law -/
theorem yWriteC {c : Zst} {N Q : Nat} {v : Nat → Nat} (hQ : Q < 6) (hN : N ≤ 40) (h1 : c.1 1 = nI N) (ht : ∀ i, c.2.1 0 i = nI (v i)) : ∃ f : Nat → Int32, (∀ j, j < N → f (40 * Q + j) = nI (v j)) ∧ (∀ j, ¬ (40 * Q ≤ j ∧ j < 40 * Q + N) → f j = c.2.1 7 j) ∧ (∀ K : Zst → Option (Zst × Int32), L_X1_write_L_25 K (nI Q) zFu c 0 = K (zA c 7 f)) := by
  obtain ⟨r, g1, f, rfl, g2, g3⟩ := gq_run1 (La := fun (K : Zst → Option (Zst × Int32)) n (a : Zst × Int32) => L_X1_write_L_25 K (nI Q) n a.1 a.2)
    (fun i a => ∃ f : Nat → Int32, a = (zA c 7 f, nI i) ∧ (∀ j, j < i → f (40 * Q + j) = nI (v j)) ∧ (∀ j, ¬ (40 * Q ≤ j ∧ j < 40 * Q + N) → f j = c.2.1 7 j))
    (fun r => ∃ f : Nat → Int32, r = zA c 7 f ∧ (∀ j, j < N → f (40 * Q + j) = nI (v j)) ∧ (∀ j, ¬ (40 * Q ≤ j ∧ j < 40 * Q + N) → f j = c.2.1 7 j)) 0 N (Nat.zero_le N) (by omega) (a := (zA c 7 (c.2.1 7), 0))
    (fun i a hi hI => by
      obtain ⟨f, rfl, g2, g3⟩ := hI
      have e1 : ¬ nI N ≤ nI i := nI_ge hi (by omega)
      have hs : f_X9_size (zA c 7 f) = nI N := h1
      have ha : f_X9_at (zA c 7 f) (nI i) = some (nI (v i)) := by
        unfold f_X9_at
        rw [show (zA c 7 f).1 1 = nI N from h1, if_neg (nI_pos (by omega)), if_neg e1, gGx (show i < 60 by omega) (by decide), nI_clamp (by omega), ← ht i]; rfl
      have hx : nI Q * (40 : Int32) + nI i = nI (40 * Q + i) := by rw [show (40 : Int32) = nI 40 from rfl, pk_mul, nI_add, Nat.mul_comm]
      refine ⟨(zA c 7 (upd f (40 * Q + i) (nI (v i))), nI (i + 1)), fun K n => ?_, _, rfl, fun j hj => ?_, fun j hj => ?_⟩
      · simp only [L_X1_write_L_25, hs, if_neg e1, if_neg (show ¬ (40 : Int32) ≤ nI i from nI_ge (b := 40) (by omega) (by decide)), ha, Option.bind_some, hx, gGx (show 40 * Q + i < 240 by omega) (by decide), nI_clamp (show 40 * Q + i < 2 ^ 31 by omega), gzAA, nI_1]
        rfl
      · by_cases e : j = i
        · rw [e]; exact gU_eq rfl
        · rw [gU_ne (by omega)]; exact g2 j (by omega)
      · rw [gU_ne (by omega)]; exact g3 j hj)
    (fun a hI => by
      obtain ⟨f, rfl, g2, g3⟩ := hI
      have hs : f_X9_size (zA c 7 f) = nI N := h1
      exact ⟨_, fun K n => by simp only [L_X1_write_L_25, hs, if_pos (show nI N ≤ nI N from Int32.le_refl _)], f, rfl, g2, g3⟩)
    ⟨c.2.1 7, rfl, fun j hj => absurd hj (Nat.not_lt_zero j), fun j hj => rfl⟩
  refine ⟨f, g2, g3, fun K => ?_⟩
  rw [← g1 K]
  have e0 : zA c 7 (c.2.1 7) = c := by
    unfold zA
    obtain ⟨c1, c2, c3⟩ := c
    simp only
    congr 2
    funext j
    by_cases h : j = 7
    · rw [if_pos h, h]
    · rw [if_neg h]
  show L_X1_write_L_25 K (nI Q) zFu c 0 = L_X1_write_L_25 K (nI Q) zFu (zA c 7 (c.2.1 7)) 0
  rw [e0]
theorem gzI_id {c : Zst} {k : Nat} {x : Int32} (h : c.1 k = x) : zI c k x = c := by
  unfold zI
  obtain ⟨c1, c2⟩ := c
  simp only
  congr 1
  funext j
  by_cases e : j = k
  · rw [if_pos e, e]; exact h.symm
  · rw [if_neg e]
theorem gzA_id {c : Zst} {k : Nat} {f : Nat → Int32} (h : c.2.1 k = f) : zA c k f = c := by
  unfold zA
  obtain ⟨c1, c2, c3⟩ := c
  simp only
  congr 2
  funext j
  by_cases e : j = k
  · rw [if_pos e, e]; exact h.symm
  · rw [if_neg e]
/-- the reference keeps a law -/
theorem yWriteM {m : Zst} {Q : Nat} (hQ : Q < 6) : ∃ f : Nat → Int32, (∀ j, j < 48 → f (48 * Q + j) = m.2.1 9 (288 + j)) ∧ (∀ j, ¬ (48 * Q ≤ j ∧ j < 48 * Q + 48) → f j = m.2.1 9 j) ∧ L_X12_law_91 (nI Q) zFu m 0 = some (zA m 9 f, 0) := by
  obtain ⟨r, g1, f, rfl, g2, g3⟩ := gq_loop (La := fun n (a : Zst × Int32) => L_X12_law_91 (nI Q) n a.1 a.2)
    (fun i a => ∃ f : Nat → Int32, a = (zA m 9 f, nI i) ∧ (∀ j, j < i → f (48 * Q + j) = m.2.1 9 (288 + j)) ∧ (∀ j, ¬ (48 * Q ≤ j ∧ j < 48 * Q + 48) → f j = m.2.1 9 j))
    (fun r => ∃ f : Nat → Int32, r = (zA m 9 f, (0 : Int32)) ∧ (∀ j, j < 48 → f (48 * Q + j) = m.2.1 9 (288 + j)) ∧ (∀ j, ¬ (48 * Q ≤ j ∧ j < 48 * Q + 48) → f j = m.2.1 9 j)) 48 (by decide) (a := (zA m 9 (m.2.1 9), 0))
    (fun i a hi hI => by
      obtain ⟨f, rfl, g2, g3⟩ := hI
      have h1 : (288 : Int32) + nI i = nI (288 + i) := by rw [show (288 : Int32) = nI 288 from rfl, nI_add]
      have h2 : (48 : Int32) * nI Q + nI i = nI (48 * Q + i) := by rw [show (48 : Int32) = nI 48 from rfl, pk_mul, nI_add]
      have e9 : (zA m 9 f).2.1 9 = f := rfl
      refine ⟨(zA m 9 (upd f (48 * Q + i) (f (288 + i))), nI (i + 1)), fun n => ?_, _, rfl, fun j hj => ?_, fun j hj => ?_⟩
      · simp only [L_X12_law_91, if_neg (show ¬ (48 : Int32) ≤ nI i from nI_ge (b := 48) hi (by decide)), h1, h2, gGx (show 288 + i < 336 by omega) (by decide), gGx (show 48 * Q + i < 336 by omega) (by decide), nI_clamp (show 288 + i < 2 ^ 31 by omega), nI_clamp (show 48 * Q + i < 2 ^ 31 by omega), e9, gzAA, nI_1]
      · by_cases e : j = i
        · subst e; rw [gU_eq rfl]; exact g3 _ (by omega)
        · rw [gU_ne (by omega)]; exact g2 j (by omega)
      · rw [gU_ne (by omega)]; exact g3 j hj)
    (fun a hI => by
      obtain ⟨f, rfl, g2, g3⟩ := hI
      exact ⟨_, fun n => by simp only [L_X12_law_91, if_pos (show (48 : Int32) ≤ nI 48 by decide)], f, rfl, g2, g3⟩)
    ⟨m.2.1 9, rfl, fun j hj => absurd hj (Nat.not_lt_zero j), fun j hj => rfl⟩
  refine ⟨f, g2, g3, ?_⟩
  rw [← g1]
  show L_X12_law_91 (nI Q) zFu m 0 = L_X12_law_91 (nI Q) zFu (zA m 9 (m.2.1 9)) 0
  rw [gzA_id rfl]
theorem gStL {c c' : Zst} {p y0 : Int32} (h : f_X1_wrongPlace_L (zI c 3 p) = some (c', y0)) (hy0 : ¬ y0 < 0) : f_X2_enact c p = some (c', -1 - y0) := by
  have h1 : f_X1_write_L (zI c 3 p) p = some (c', -1 - y0) := by
    unfold f_X1_write_L
    rw [h, Option.bind_some]
    exact if_neg hy0
  unfold f_X2_enact
  rw [h1, Option.bind_some]
theorem gStLA {c c' c2 : Zst} {p : Int32} (h : f_X1_wrongPlace_L (zI c 3 p) = some (c', -1)) (hp : ¬ f_X1_isText_L p = 0) (hw : L_X1_write_L_25 (fun σ3 => J_X1_write_L_65 σ3 p) p zFu c' 0 = some (c2, 0)) : f_X2_enact c p = some (c2, 0) := by
  have h1 : f_X1_write_L (zI c 3 p) p = some (c2, 0) := by
    unfold f_X1_write_L
    rw [h, Option.bind_some, ← hw]
    refine Eq.trans (if_pos (show (-1 : Int32) < 0 by decide)) ?_
    exact if_neg hp
  unfold f_X2_enact
  rw [h1, Option.bind_some]
theorem gRL_up {c m c' m' : Zst} (h : gRL c m) (h7 : c'.2.1 7 = c.2.1 7) (h8 : c'.2.1 8 = c.2.1 8) (h9 : ∀ j, j < 288 → m'.2.1 9 j = m.2.1 9 j) (h10 : ∀ i, i < 6 → m'.2.1 10 i = m.2.1 10 i) : gRL c' m' := by
  have h : gLawN (c.2.1 8) (m.2.1 10) ∧ gLawD (c.2.1 7) (c.2.1 8) (m.2.1 9) (m.2.1 10) := h
  show gLawN (c'.2.1 8) (m'.2.1 10) ∧ gLawD (c'.2.1 7) (c'.2.1 8) (m'.2.1 9) (m'.2.1 10)
  rw [h7, h8]
  refine ⟨fun i hi => ?_, fun i hi n k hn hk e1 e2 h0 => ?_⟩
  · obtain ⟨n, k, a1, a2, a3, a4, a5⟩ := h.1 i hi
    exact ⟨n, k, a1, a2, a3, by rw [h10 i hi]; exact a4, a5⟩
  · obtain ⟨v, K, b1, b2, b3, b4, b5⟩ := h.2 i hi n k hn hk e1 (by rw [← h10 i hi]; exact e2) h0
    exact ⟨v, K, b1, b2, b3, b4, fun j hj => by rw [h9 _ (by omega)]; exact b5 j hj⟩
