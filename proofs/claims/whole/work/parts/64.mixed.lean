/-- the most mixed pair so far -/
def gMi (w : Nat → Nat → Nat) (a : Nat) (st : Nat × Nat × Nat) : Nat → Nat × Nat × Nat
  | 0 => st
  | n + 1 => if a < n then (if w a n ≤ (gMi w a st n).1 then gMi w a st n else (w a n, a, n)) else gMi w a st n
def gMo (w : Nat → Nat → Nat) (N : Nat) : Nat → Nat × Nat × Nat
  | 0 => (0, 0, 0)
  | n + 1 => gMi w n (gMo w N n) N
theorem gMi_lo {w : Nat → Nat → Nat} {a : Nat} {st : Nat × Nat × Nat} : ∀ n, n ≤ a + 1 → gMi w a st n = st := by
  intro n
  induction n with
  | zero => intro _; rfl
  | succ n ih =>
    intro h
    show (if a < n then _ else gMi w a st n) = st
    rw [if_neg (by omega), ih (by omega)]
theorem gMi_ext {w : Nat → Nat → Nat} {a S : Nat} {st : Nat × Nat × Nat} : ∀ d, (∀ b, S ≤ b → b < S + d → w a b = 0) → gMi w a st (S + d) = gMi w a st S := by
  intro d
  induction d with
  | zero => intro _; rfl
  | succ d ih =>
    intro h
    show (if a < S + d then (if w a (S + d) ≤ (gMi w a st (S + d)).1 then gMi w a st (S + d) else (w a (S + d), a, S + d)) else gMi w a st (S + d)) = gMi w a st S
    rw [h (S + d) (by omega) (by omega), if_pos (Nat.zero_le _), ih (fun b h1 h2 => h b h1 (by omega))]
    split <;> rfl
theorem gMi_8 {w : Nat → Nat → Nat} {a S : Nat} {st : Nat × Nat × Nat} (hS : S ≤ 8) (h : ∀ b, S ≤ b → b < 8 → w a b = 0) : gMi w a st 8 = gMi w a st S := by
  have := gMi_ext (w := w) (a := a) (S := S) (st := st) (8 - S) (fun b h1 h2 => h b h1 (by omega))
  rw [show S + (8 - S) = 8 by omega] at this
  exact this
theorem gMo_8 {w : Nat → Nat → Nat} {S : Nat} (hS : S ≤ 8) (h : ∀ a b, a < 8 → b < 8 → (S ≤ a ∨ S ≤ b) → w a b = 0) : gMo w 8 8 = gMo w S S := by
  have h1 : ∀ n, n ≤ 8 → gMo w 8 n = gMo w S n := by
    intro n
    induction n with
    | zero => intro _; rfl
    | succ n ih =>
      intro hn
      show gMi w n (gMo w 8 n) 8 = gMi w n (gMo w S n) S
      rw [ih (by omega), gMi_8 hS (fun b h1 h2 => h n b (by omega) h2 (Or.inr h1))]
  have h2 : ∀ d, S + d ≤ 8 → gMo w S (S + d) = gMo w S S := by
    intro d
    induction d with
    | zero => intro _; rfl
    | succ d ih =>
      intro hd
      show gMi w (S + d) (gMo w S (S + d)) S = gMo w S S
      rw [gMi_lo S (by omega), ih (by omega)]
  have h3 := h2 (8 - S) (by omega)
  rw [show S + (8 - S) = 8 by omega] at h3
  rw [h1 8 (Nat.le_refl _), h3]
theorem pp_mixed : lp_mixed gRel := by
  intro c m hR
  obtain ⟨S, T, n, h, hr⟩ := hR
  have no : gRel c (zI m 0 0) := gNo h hr
  have h' : gCor S T c (zI m 0 0) := gCor_ag h gaC_rf gaM_0
  have hr' : gRR n c (zI m 0 0) := hr
  have hS := h.1.1.1
  obtain ⟨P, v, k1, k2, k3, k4, hk⟩ := gTk_of h'.2.2.2.1
  unfold f_X11_mixed f_X7_mostMixed f_X12_mixed
  generalize zI m 0 0 = m0 at *
  have hs : f_X10_sortCount c = nI S := h'.1.1.2.2.1
  obtain ⟨w, hw⟩ : ∃ w : Nat → Nat → Nat, ∀ a b, w a b = v (8 * a + b) + v (8 * b + a) := ⟨_, fun _ _ => rfl⟩
  have hw9 : ∀ a b, a < 8 → b < 8 → w a b ≤ 20000 := by
    intro a b ha hb
    have h1 := gN_one (f := v) 64 (show 8 * a + b < 64 by omega)
    have h2 := gN_one (f := v) 64 (show 8 * b + a < 64 by omega)
    have h3 := hk.2.2.2
    rw [hw]; omega
  have hw0 : ∀ a b, a < 8 → b < 8 → (S ≤ a ∨ S ≤ b) → w a b = 0 := by
    intro a b ha hb hab
    rw [hw, hk.2.2.1 a b ha hb hab, hk.2.2.1 b a hb ha (by omega)]
  have hb9 : ∀ a st N, a < 8 → N ≤ 8 → (st : Nat × Nat × Nat).1 ≤ 20000 → (gMi w a st N).1 ≤ 20000 := by
    intro a st N ha
    induction N with
    | zero => intro _ h; exact h
    | succ N ih =>
      intro hN h
      have := ih (by omega) h
      show (if a < N then (if w a N ≤ (gMi w a st N).1 then gMi w a st N else (w a N, a, N)) else gMi w a st N).1 ≤ 20000
      split
      · split
        · exact this
        · exact hw9 a N ha (by omega)
      · exact this
  have ho9 : ∀ N k, N ≤ 8 → k ≤ 8 → (gMo w N k).1 ≤ 20000 := by
    intro N k hN
    induction k with
    | zero => intro _; exact Nat.zero_le _
    | succ k ih => intro hk8; exact hb9 k _ N (by omega) hN (ih (by omega))
  -- rows
  have hC : ∀ a (st : Nat × Nat × Nat), a < S → st.1 ≤ 20000 → ∀ k : Int32 × Int32 × Int32 → Option (Zst × Int32), L_X7_mostMixed_27 (fun w3 w4 w5 => k (w3, w4, w5)) c (nI a) zFu (nI st.1) (nI st.2.1) (nI st.2.2) (nI a + 1) = k (nI (gMi w a st S).1, nI (gMi w a st S).2.1, nI (gMi w a st S).2.2) := by
    intro a st ha hst
    obtain ⟨ra, g1, g2⟩ := gq_run1 (La := fun (k : Int32 × Int32 × Int32 → Option (Zst × Int32)) n (x : Int32 × Int32 × Int32 × Int32) => L_X7_mostMixed_27 (fun w3 w4 w5 => k (w3, w4, w5)) c (nI a) n x.1 x.2.1 x.2.2.1 x.2.2.2)
      (fun i x => a < i ∧ x = (nI (gMi w a st i).1, nI (gMi w a st i).2.1, nI (gMi w a st i).2.2, nI i)) (fun r => r = (nI (gMi w a st S).1, nI (gMi w a st S).2.1, nI (gMi w a st S).2.2)) (a + 1) S ha (by omega) (a := (nI st.1, nI st.2.1, nI st.2.2, nI a + 1))
      (fun i x hi hx => by
        obtain ⟨hai, rfl⟩ := hx
        refine ⟨(nI (gMi w a st (i + 1)).1, nI (gMi w a st (i + 1)).2.1, nI (gMi w a st (i + 1)).2.2, nI (i + 1)), fun k n => ?_, by omega, rfl⟩
        have e : gMi w a st (i + 1) = (if w a i ≤ (gMi w a st i).1 then gMi w a st i else (w a i, a, i)) := if_pos hai
        have b1 := hb9 a st i (by omega) (by omega) hst
        have b2 := hw9 a i (by omega) (by omega)
        have e2 : (nI (w a i) ≤ nI (gMi w a st i).1) = (w a i ≤ (gMi w a st i).1) := propext (nI_leI (by omega) (by omega))
        simp only [L_X7_mostMixed_27, hs, if_neg (nI_ge hi (show S < 2 ^ 31 by omega)), gL_as h'.1 hk (show a < 8 by omega) (show i < 8 by omega), gL_as h'.1 hk (show i < 8 by omega) (show a < 8 by omega), Option.bind_some, nI_add, ← hw, nI_1, e2, e]
        by_cases q : w a i ≤ (gMi w a st i).1
        · rw [if_pos q, if_pos q]
        · rw [if_neg q, if_neg q])
      (fun x hx => by
        obtain ⟨hai, rfl⟩ := hx
        refine ⟨_, fun k n => ?_, rfl⟩
        simp only [L_X7_mostMixed_27, hs, if_pos (nI_le (Nat.le_refl S) (show S < 2 ^ 31 by omega))])
      ⟨by omega, by rw [gMi_lo (a + 1) (Nat.le_refl _), nI_1]⟩
    subst g2
    exact g1
  have hM : ∀ a (st : Nat × Nat × Nat), a < 8 → st.1 ≤ 20000 → ∀ k : Int32 × Int32 × Int32 → Option (Zst × Int32), L_X12_mixed_27 (fun w3 w4 w5 => k (w3, w4, w5)) m0 (nI a) zFu (nI st.1) (nI st.2.1) (nI st.2.2) (nI a + 1) = k (nI (gMi w a st 8).1, nI (gMi w a st 8).2.1, nI (gMi w a st 8).2.2) := by
    intro a st ha hst
    obtain ⟨ra, g1, g2⟩ := gq_run1 (La := fun (k : Int32 × Int32 × Int32 → Option (Zst × Int32)) n (x : Int32 × Int32 × Int32 × Int32) => L_X12_mixed_27 (fun w3 w4 w5 => k (w3, w4, w5)) m0 (nI a) n x.1 x.2.1 x.2.2.1 x.2.2.2)
      (fun i x => a < i ∧ x = (nI (gMi w a st i).1, nI (gMi w a st i).2.1, nI (gMi w a st i).2.2, nI i)) (fun r => r = (nI (gMi w a st 8).1, nI (gMi w a st 8).2.1, nI (gMi w a st 8).2.2)) (a + 1) 8 ha (by omega) (a := (nI st.1, nI st.2.1, nI st.2.2, nI a + 1))
      (fun i x hi hx => by
        obtain ⟨hai, rfl⟩ := hx
        refine ⟨(nI (gMi w a st (i + 1)).1, nI (gMi w a st (i + 1)).2.1, nI (gMi w a st (i + 1)).2.2, nI (i + 1)), fun k n => ?_, by omega, rfl⟩
        have e : gMi w a st (i + 1) = (if w a i ≤ (gMi w a st i).1 then gMi w a st i else (w a i, a, i)) := if_pos hai
        have b1 := hb9 a st i (by omega) (by omega) hst
        have b2 := hw9 a i (by omega) (by omega)
        have e2 : (nI (w a i) ≤ nI (gMi w a st i).1) = (w a i ≤ (gMi w a st i).1) := propext (nI_leI (by omega) (by omega))
        have i1 : (8 : Int32) * nI a + nI i = nI (8 * a + i) := by rw [show (8 : Int32) = nI 8 from rfl, pk_mul, nI_add]
        have i2 : (8 : Int32) * nI i + nI a = nI (8 * i + a) := by rw [show (8 : Int32) = nI 8 from rfl, pk_mul, nI_add]
        simp only [L_X12_mixed_27, if_neg (show ¬ (8 : Int32) ≤ nI i from nI_ge (b := 8) hi (by decide)), i1, i2, gGx (show 8 * a + i < 64 by omega) (by decide), gGx (show 8 * i + a < 64 by omega) (by decide), nI_clamp (show 8 * a + i < 2 ^ 31 by omega), nI_clamp (show 8 * i + a < 2 ^ 31 by omega), hk.2.1 _ (show 8 * a + i < 64 by omega), hk.2.1 _ (show 8 * i + a < 64 by omega), nI_add, ← hw, nI_1, e2, e]
        by_cases q : w a i ≤ (gMi w a st i).1
        · rw [if_pos q, if_pos q]
        · rw [if_neg q, if_neg q])
      (fun x hx => by
        obtain ⟨hai, rfl⟩ := hx
        refine ⟨_, fun k n => ?_, rfl⟩
        simp only [L_X12_mixed_27, if_pos (show (8 : Int32) ≤ nI 8 by decide)])
      ⟨by omega, by rw [gMi_lo (a + 1) (Nat.le_refl _), nI_1]⟩
    subst g2
    exact g1
  -- the whole
  obtain ⟨ra, g1, g2⟩ := gq_run1 (La := fun (k : Int32 × Int32 × Int32 → Option (Zst × Int32)) n (x : Int32 × Int32 × Int32 × Int32) => L_X7_mostMixed_9 (fun w9 w10 w11 => k (w9, w10, w11)) c n x.1 x.2.1 x.2.2.1 x.2.2.2)
    (fun i x => x = (nI (gMo w S i).1, nI (gMo w S i).2.1, nI (gMo w S i).2.2, nI i)) (fun r => r = (nI (gMo w S S).1, nI (gMo w S S).2.1, nI (gMo w S S).2.2)) 0 S (Nat.zero_le _) (by omega) (a := (0, 0, 0, 0))
    (fun i x hi hx => by
      subst hx
      refine ⟨(nI (gMo w S (i + 1)).1, nI (gMo w S (i + 1)).2.1, nI (gMo w S (i + 1)).2.2, nI (i + 1)), fun k n => ?_, rfl⟩
      have e := hC i (gMo w S i) hi (ho9 S i hS (by omega)) (fun r => J_X7_mostMixed_79 (fun w1 w2 w3 w4 => L_X7_mostMixed_9 (fun w9 w10 w11 => k (w9, w10, w11)) c n w1 w2 w3 w4) c r.1 r.2.1 r.2.2 (nI i))
      simp only [L_X7_mostMixed_9, hs, if_neg (nI_ge hi (show S < 2 ^ 31 by omega))]
      refine e.trans ?_
      simp only [J_X7_mostMixed_79, nI_1]
      rfl)
    (fun x hx => by
      subst hx
      refine ⟨_, fun k n => ?_, rfl⟩
      simp only [L_X7_mostMixed_9, hs, if_pos (nI_le (Nat.le_refl S) (show S < 2 ^ 31 by omega))])
    rfl
  subst g2
  obtain ⟨rb, g3, g4⟩ := gq_run1 (La := fun (k : Int32 × Int32 × Int32 → Option (Zst × Int32)) n (x : Int32 × Int32 × Int32 × Int32) => L_X12_mixed_14 (fun w9 w10 w11 => k (w9, w10, w11)) m0 n x.1 x.2.1 x.2.2.1 x.2.2.2)
    (fun i x => x = (nI (gMo w 8 i).1, nI (gMo w 8 i).2.1, nI (gMo w 8 i).2.2, nI i)) (fun r => r = (nI (gMo w 8 8).1, nI (gMo w 8 8).2.1, nI (gMo w 8 8).2.2)) 0 8 (Nat.zero_le _) (by omega) (a := (0, 0, 0, 0))
    (fun i x hi hx => by
      subst hx
      refine ⟨(nI (gMo w 8 (i + 1)).1, nI (gMo w 8 (i + 1)).2.1, nI (gMo w 8 (i + 1)).2.2, nI (i + 1)), fun k n => ?_, rfl⟩
      have e := hM i (gMo w 8 i) hi (ho9 8 i (Nat.le_refl _) (by omega)) (fun r => J_X12_mixed_84 (fun w1 w2 w3 w4 => L_X12_mixed_14 (fun w9 w10 w11 => k (w9, w10, w11)) m0 n w1 w2 w3 w4) m0 r.1 r.2.1 r.2.2 (nI i))
      simp only [L_X12_mixed_14, if_neg (show ¬ (8 : Int32) ≤ nI i from nI_ge (b := 8) hi (by decide))]
      refine e.trans ?_
      simp only [J_X12_mixed_84, nI_1]
      rfl)
    (fun x hx => by
      subst hx
      refine ⟨_, fun k n => ?_, rfl⟩
      simp only [L_X12_mixed_14, if_pos (show (8 : Int32) ≤ nI 8 by decide)])
    rfl
  subst g4
  have g1' : L_X7_mostMixed_9 (fun w9 w10 w11 => J_X7_mostMixed_85 c w9 w10 w11) c zFu 0 0 0 0 = _ := g1 (fun r => J_X7_mostMixed_85 c r.1 r.2.1 r.2.2)
  have g3' : L_X12_mixed_14 (fun w6 w7 w8 => J_X12_mixed_90 m0 w6 w7 w8) m0 zFu 0 0 0 0 = _ := g3 (fun r => J_X12_mixed_90 m0 r.1 r.2.1 r.2.2)
  rw [g1', g3', gMo_8 hS hw0]
  generalize gMo w S S = st
  unfold J_X7_mostMixed_85 J_X12_mixed_90
  by_cases q : nI st.1 ≤ 0
  · simp only [if_pos q, Option.bind_some]
    exact ⟨(c, nI st.1), (m0, nI st.1), rfl, rfl, rfl, no⟩
  · obtain ⟨w1, w2, w3, w4⟩ := gX_clear hr'
    obtain ⟨c3, m3, j1, j2, j3, j4, j5⟩ := gX_add w2 (by decide) (x := Int32.toInt64 (nI st.2.1)) rfl
    obtain ⟨c4, m4, i1, i2, i3, i4, i5⟩ := gX_add j3 (by decide) (x := Int32.toInt64 (nI st.2.2)) rfl
    simp only [if_neg q, w1, j1, j2, i1, i2, Option.bind_some]
    exact ⟨(c4, nI st.1), (m4, nI st.1), rfl, rfl, rfl, gRel_of h' (gOR_a (gOR_tr w3 (gOR_tr j4 i4))) (gORm_a (gORm_tr w4 (gORm_tr j5 i5))) i3⟩
theorem pp_truly : lp_truly gRel := by
  intro c m hR p0 p1
  obtain ⟨S, T, n, h, hr⟩ := hR
  have no : gRel c (zI m 0 0) := gNo h hr
  have h' : gCor S T c (zI m 0 0) := gCor_ag h gaC_rf gaM_0
  have hr' : gRR n c (zI m 0 0) := hr
  have hT := h.1.1.2.1
  have hS := h.1.1.1
  unfold f_X11_truly f_X7_spread f_X12_truly
  simp only [gL_sort h'.1, gL_cell h'.1]
  generalize zI m 0 0 = m0 at *
  rcases gS_sort h.1 p0 with ⟨e0, s, x1, x2⟩ | e0
  case inr => simp only [e0, ↓reduceIte, Option.bind_some]; exact ⟨_, _, rfl, rfl, rfl, no⟩
  rcases gS_cell h.1 p1 with ⟨e1, j, y1, y2⟩ | e1
  case inr => simp only [e0, e1, gq_10, ↓reduceIte, Option.bind_some]; exact ⟨_, _, rfl, rfl, rfl, no⟩
  subst x2 y2
  obtain ⟨P, v, k1, k2, k3, k4, hk⟩ := gTk_of h'.2.2.2.1
  obtain ⟨t1, -⟩ := gL_took hk (show s < 8 by omega)
  obtain ⟨t3, -⟩ := gL_first h'.1 hk (show s < 8 by omega)
  have hall := (gTk_row hk (show s < 8 by omega)).1
  simp only [e0, e1, gq_10, ↓reduceIte, t1, t3, gL_has h'.2.1 (x := 0) 0 j s rfl (y := nI j) rfl (z := nI s) rfl (by decide) (by omega) (by omega), gL_told h'.2.1 (x := 0) 0 j s rfl (y := nI j) rfl (z := nI s) rfl (by decide) (by omega) (by omega), Option.bind_some]
  rcases gtf_c (m0.2.1 8 (gP 0 j s)) with b3 | b3
  · simp only [b3, ↓reduceIte, Option.bind_some]; exact ⟨_, _, rfl, rfl, rfl, no⟩
  generalize gN (fun b => v (8 * s + b)) 8 = al at *
  by_cases ha : al = 0
  · subst ha
    simp only [b3, gq_10, ↓reduceIte, show (nI 0 = (0 : Int32)) = True by decide, Option.bind_some]; exact ⟨_, _, rfl, rfl, rfl, no⟩
  have hal : ¬ nI al = 0 := nI_ne0 (by omega) (by omega)
  obtain ⟨w1, w2, w3, w4⟩ := gX_clear hr'
  simp only [b3, gq_10, ↓reduceIte, if_neg hal, w1, Option.bind_some]
  obtain ⟨ra, rb, h1, h2, h3⟩ := gq_lock (La := fun n (a : Zst × Int32 × Int32) => L_X7_spread_64 (nI s) (nI j) (nI al) n a.1 a.2.1 a.2.2)
    (Lb := fun n (a : Zst × Int32 × Int32) => L_X12_truly_58 (nI s) (nI j) (nI al) n a.1 a.2.1 a.2.2)
    (fun i a b => ∃ c1 m1 x, a = (c1, x, nI i) ∧ b = (m1, x, nI i) ∧ gOR c c1 ∧ gORm m0 m1 ∧ gRR i c1 m1)
    (fun ra rb => ra.2 = rb.2 ∧ gRel ra.1 rb.1) S (by omega) (a := (zI c 0 0, 0, 0)) (b := (zI m0 1 0, 0, 0))
    (fun i a b hi hI => by
      obtain ⟨c1, m1, x, rfl, rfl, oC, oM, hrr⟩ := hI
      have hcur := gCor_ag h' (gOR_a oC) (gORm_a oM)
      have hs : f_X10_sortCount c1 = nI S := hcur.1.1.2.2.1
      have hs2 : m1.1 2 = nI S := hcur.1.1.2.2.2.1
      have hk1 : gTk S v c1 m1 := by
        unfold gTk at *
        rw [oC.2.1, oM.2.1]
        exact hk
      have e : (8 : Int32) * nI s + nI i = nI (8 * s + i) := by rw [show (8 : Int32) = nI 8 from rfl, pk_mul, nI_add]
      have u1 := gL_of hcur.2.1 (x := 0) 0 j s rfl (y := nI j) rfl (z := nI s) rfl (by decide) (by omega) (by omega)
      have u2 := gL_at (m := m1) (x := 0) 0 j s rfl (y := nI j) rfl (z := nI s) rfl (by decide) (by omega) (by omega)
      generalize m1.2.1 8 (gP 0 j s) - 1 = q at u1 u2
      obtain ⟨c2, m2, f1, f2, f3, f4, f5⟩ := gX_add hrr (by omega) (x := Int32.toInt64 (q * nI (v (8 * s + i)) / nI al)) rfl
      refine ⟨(c2, x + q * nI (v (8 * s + i)) / nI al, nI (i + 1)), (m2, x + q * nI (v (8 * s + i)) / nI al, nI (i + 1)), fun n => ?_, fun n => ?_, c2, m2, _, rfl, rfl, gOR_tr oC f4, gORm_tr oM f5, f3⟩
      · simp only [L_X7_spread_64, hs, if_neg (nI_ge hi (show S < 2 ^ 31 by omega)), u1, gL_as hcur.1 hk1 (show s < 8 by omega) (show i < 8 by omega), Option.bind_some, gNz_ok hal, f1, nI_1]
      · simp only [L_X12_truly_58, hs2, if_neg (nI_ge hi (show S < 2 ^ 31 by omega)), u2, Option.bind_some, e, gGx (show 8 * s + i < 64 by omega) (by decide), gNz_ok hal, nI_clamp (show 8 * s + i < 2 ^ 31 by omega), hk1.2.1 _ (show 8 * s + i < 64 by omega), f2, nI_1])
    (fun a b hI => by
      obtain ⟨c1, m1, x, rfl, rfl, oC, oM, hrr⟩ := hI
      have hcur := gCor_ag h' (gOR_a oC) (gORm_a oM)
      have hs : f_X10_sortCount c1 = nI S := hcur.1.1.2.2.1
      have hs2 : m1.1 2 = nI S := hcur.1.1.2.2.2.1
      refine ⟨(c1, x), (m1, x), fun n => ?_, fun n => ?_, rfl, gRel_of h' (gOR_a oC) (gORm_a oM) hrr⟩
      · simp only [L_X7_spread_64, hs, if_pos (nI_le (Nat.le_refl S) (show S < 2 ^ 31 by omega))]
      · simp only [L_X12_truly_58, hs2, if_pos (nI_le (Nat.le_refl S) (show S < 2 ^ 31 by omega))])
    ⟨zI c 0 0, zI m0 1 0, 0, rfl, rfl, w3, w4, w2⟩
  have h1 : L_X7_spread_64 (nI s) (nI j) (nI al) zFu (zI c 0 0) 0 0 = some ra := h1
  have h2 : L_X12_truly_58 (nI s) (nI j) (nI al) zFu (zI m0 1 0) 0 0 = some rb := h2
  rw [h1, h2]
  exact ⟨ra, rb, rfl, rfl, h3⟩
