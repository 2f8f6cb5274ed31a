section
variable {m0 : Zst} {to s nS : Nat} {v : Nat → Nat}
/-- behind a whole expression, where no ) can come, the class can't go on -/
theorem gPo_stuck {p o d : Nat} {Cc C0 : Int32} (h : gPo v to 0 p o Cc C0 d) (hp : p < to) (hc : ¬ v p = 41 ∨ o = 0) : gMk nS (false, o, d, Cc) (v p) = none := by
  obtain ⟨h1, h2, h3, h4, -⟩ := h
  have b0 : ¬ v p = 124 := fun e => h3 0 (Nat.le_refl _) (by decide) (by decide) hp (Or.inl ⟨rfl, e⟩)
  have b1 : ¬ v p = 38 := fun e => h3 1 (by decide) (by decide) (by decide) hp (Or.inr (Or.inl ⟨rfl, e⟩))
  have b3 : ¬ (v p = 43 ∨ v p = 45) := fun e => h3 3 (by decide) (by decide) (by decide) hp (Or.inr (Or.inr (Or.inr (Or.inl ⟨rfl, e⟩))))
  have b4 : ¬ (v p = 42 ∨ v p = 47) := fun e => h3 4 (by decide) (by decide) (by decide) hp (Or.inr (Or.inr (Or.inr (Or.inr ⟨rfl, e⟩))))
  have b2 : v p = 60 ∨ v p = 62 ∨ v p = 61 → bt Cc o = true := fun e => h4 (by decide) hp (Or.inr (Or.inr (Or.inl ⟨rfl, e⟩)))
  clear h3 h4
  unfold gMk
  simp only [Bool.false_eq_true, ↓reduceIte]
  by_cases q1 : 48 ≤ v p ∧ v p ≤ 57
  · rw [if_pos q1, if_neg (show ¬ (d = 1 ∨ d = 2) from fun e => by have := h2 hp q1.1 q1.2; clear b0 b1 b2 b3 b4 hc; omega)]
  · rw [if_neg q1]
    by_cases q2 : v p = 41
    · have o0 : o = 0 := hc.resolve_left (fun e => e q2)
      rw [if_pos q2, if_neg (show ¬ 0 < o from fun e => absurd o0 (Nat.pos_iff_ne_zero.mp e))]
    · rw [if_neg q2]
      by_cases q3 : v p = 60 ∨ v p = 62 ∨ v p = 61
      · rw [if_pos q3, if_pos (b2 q3)]
      · rw [if_neg q3, if_neg (show ¬ (v p = 124 ∨ v p = 38) from fun e => e.elim b0 b1), if_neg (show ¬ (v p = 43 ∨ v p = 45 ∨ v p = 42 ∨ v p = 47) from fun e => e.elim (fun e => b3 (Or.inl e)) (fun e => e.elim (fun e => b3 (Or.inr e)) b4))]
theorem gClr (C : Int32) {w j : Nat} (hw : w < 32) (hj : j < 32) : bt (C &&& (jShl 1 (nI w) ^^^ (-1))) j = (bt C j && !decide (j = w)) := gb_clr C hw hj
/-- a thing -/
theorem gRd6 (h : gEP m0 to s v) (hnS : nS = 8 + s) {d : Nat} (ih : gPR m0 to nS v d) {p o dd k : Nat} {C : Int32} {Cm : Nat → Int32} (hp : p ≤ to) (ho : o ≤ 5) (hk : k ≤ p) (hM : yMs nS v p = some (true, o, dd, C)) (hdd : dd ≤ 3) (hu : p < to → ¬ v p = 33 ∧ ¬ v p = 45) (hd : 9 * (5 - o) + (to - p) + 1 ≤ d) :
    gRes m0 nS v to 6 5 o p Cm k C (f_X12rec (d + 1) 2 (gx m0 p o Cm k) 0) := by
  have hto := h.1
  have hs3 := h.2.1
  show gRes m0 nS v to 6 5 o p Cm k C (f_X12_thing (f_X12rec d) (gx m0 p o Cm k))
  unfold f_X12_thing
  rw [gxD h hp, Option.bind_some]
  by_cases q : p < to ∧ (48 ≤ v p ∧ v p ≤ 57)
  · -- a number
    rw [if_pos q, if_neg (show ¬ (1 : Int32) = 0 by decide)]
    have key : ∀ e j n, j + e = 3 → e < n → p + j ≤ to → (∀ i, i < j → 48 ≤ v (p + i) ∧ v (p + i) ≤ 57) → yMs nS v (p + j) = some (if j = 0 then (true, o, dd, C) else (false, o, j, C)) →
        ∃ t, j ≤ t ∧ t ≤ 3 ∧ p + t ≤ to ∧ (∀ i, i < t → 48 ≤ v (p + i) ∧ v (p + i) ≤ 57) ∧ (t < 3 → p + t < to → ¬ (48 ≤ v (p + t) ∧ v (p + t) ≤ 57)) ∧ yMs nS v (p + t) = some (if t = 0 then (true, o, dd, C) else (false, o, t, C)) ∧
          L_X12_thing_11 (f_X12rec d) (fun σ11 w10 => J_X12_thing_57 (f_X12rec d) σ11 w10) n (gx m0 (p + j) o Cm k) (nI (gNum v p j)) (nI j) = J_X12_thing_57 (f_X12rec d) (gx m0 (p + t) o Cm k) (nI (gNum v p t)) := by
      intro e
      induction e with
      | zero =>
        intro j n hj hn h1 h2 h3
        obtain ⟨n, rfl⟩ : ∃ k, n = k + 1 := ⟨n - 1, by omega⟩
        have hj : j = 3 := by omega
        subst hj
        refine ⟨3, by omega, by omega, h1, h2, fun w => by omega, h3, ?_⟩
        simp only [L_X12_thing_11, if_pos (show (3 : Int32) ≤ nI 3 by decide)]
      | succ e ih2 =>
        intro j n hj hn h1 h2 h3
        obtain ⟨n, rfl⟩ : ∃ k, n = k + 1 := ⟨n - 1, by omega⟩
        have n3 : ¬ (3 : Int32) ≤ nI j := nI_ge (b := 3) (by omega) (by decide)
        by_cases w : p + j < to ∧ (48 ≤ v (p + j) ∧ v (p + j) ≤ 57)
        · have hm : yMs nS v (p + (j + 1)) = some (if j + 1 = 0 then (true, o, dd, C) else (false, o, j + 1, C)) := by
            rw [if_neg (by omega), ← Nat.add_assoc, yMs_n h3]
            unfold gMk
            by_cases j0 : j = 0
            · subst j0
              simp only [↓reduceIte]
              rw [if_neg (show ¬ (v (p + 0) = 33 ∨ v (p + 0) = 45) by omega), if_neg (show ¬ v (p + 0) = 40 by omega), if_pos w.2]
            · simp only [if_neg j0, Bool.false_eq_true, ↓reduceIte]
              rw [if_pos w.2, if_pos (show j = 1 ∨ j = 2 by omega)]
          obtain ⟨t, t1, t2, t3, t4, t5, t6, t7⟩ := ih2 (j + 1) n (by omega) (by omega) (by omega) (fun i hi => by
            by_cases e : i = j
            · subst e; exact w.2
            · exact h2 i (by omega)) hm
          refine ⟨t, by omega, t2, t3, t4, t5, t6, ?_⟩
          have et : (gx m0 (p + j) o Cm k).2.1 12 (p + j) = nI (v (p + j)) := h.2.2.2.2.1 (p + j)
          have ev : (10 : Int32) * nI (gNum v p j) + nI (v (p + j)) - (48 : Int32) = nI (gNum v p (j + 1)) := by
            rw [show (10 : Int32) = nI 10 from rfl, show (48 : Int32) = nI 48 from rfl, pk_mul, nI_add, pk_sub (by omega)]
            rfl
          have e6 : (gx m0 (p + j) o Cm k).1 6 = nI (p + j) := rfl
          have en := gx_n m0 (p + j) o Cm k
          rw [e6] at en
          simp only [L_X12_thing_11, if_neg n3, gxD h h1, Option.bind_some, if_pos w, gq_10, ↓reduceIte, e6, gGx (show p + j < 60 by omega) (by decide), nI_clamp (show p + j < 2 ^ 31 by omega), et, ev, en, nI_1 j]
          exact t7
        · refine ⟨j, Nat.le_refl j, by omega, h1, h2, fun _ w2 w3 => w ⟨w2, w3⟩, h3, ?_⟩
          simp only [L_X12_thing_11, if_neg n3, gxD h h1, Option.bind_some, if_neg w, ↓reduceIte]
    obtain ⟨t, t1, t2, t3, t4, t5, t6, t7⟩ := key 3 0 zFu (by omega) (by rw [zFu_eq]; omega) hp (fun i hi => absurd hi (Nat.not_lt_zero i)) (by rw [if_pos rfl]; exact hM)
    have t0 : ¬ t = 0 := fun e => by
      subst e
      exact t5 (by omega) q.1 q.2
    have t7 : L_X12_thing_11 (f_X12rec d) (fun σ11 w10 => J_X12_thing_57 (f_X12rec d) σ11 w10) zFu (gx m0 p o Cm k) 0 0 = J_X12_thing_57 (f_X12rec d) (gx m0 (p + t) o Cm k) (nI (gNum v p t)) := t7
    rw [t7]
    unfold J_X12_thing_57
    rw [gx_mk (by omega), Option.bind_some]
    rw [if_neg t0] at t6
    obtain ⟨g1, g2⟩ := gPut (Cm := Cm) (C' := Cm) (k := k) (K := []) (x := nI (gNum v p t)) (fun j _ => rfl) (fun j hj => absurd hj (Nat.not_lt_zero j))
    refine Or.inl ⟨p + t, _, [nI (gNum v p t)], t, C, rfl, by omega, t3, by show 1 + p ≤ p + t; omega, (gFm_ru v to nS).1 o p t (by omega) t2 t3 t4, g1, g2, t6, t2, fun w1 w2 w3 => ?_, fun r' w1 w2 => by omega, fun w => by omega, fun j _ => rfl, fun _ => rfl⟩
    by_cases w : t < 3
    · exact absurd ⟨w2, w3⟩ (t5 w w1)
    · omega
  · rw [if_neg q, if_pos rfl, show (gx m0 p o Cm k).2.2.2 0 = s + 2 from h.2.2.2.2.2]
    show gRes m0 nS v to 6 5 o p Cm k C ((f_X12_among (gx m0 p o Cm k) (s + 1)).bind _)
    rw [gxA h (by omega) hp, Option.bind_some]
    by_cases q2 : p < to ∧ gIdx (v p) < nS
    · -- a sign
      obtain ⟨c1, c2, c3⟩ := gIdx_lt (show gIdx (v p) < 10 by omega)
      rw [if_pos q2.1, ySg s hs3 _ (h.2.2.1 p), if_pos (show gIdx (v p) < 8 + s by omega), if_neg (nI_pos (show gIdx (v p) < 2 ^ 31 by omega)), gx_mk (by omega), Option.bind_some, show (1000 : Int32) + nI (gIdx (v p)) = nI (1000 + gIdx (v p)) by rw [show (1000 : Int32) = nI 1000 from rfl, nI_add], gx_n]
      obtain ⟨g1, g2⟩ := gPut (Cm := Cm) (C' := Cm) (k := k) (K := []) (x := nI (1000 + gIdx (v p))) (fun j _ => rfl) (fun j hj => absurd hj (Nat.not_lt_zero j))
      refine Or.inl ⟨p + 1, _, [nI (1000 + gIdx (v p))], 0, C, rfl, by omega, q2.1, by show 1 + p ≤ p + 1; omega, (gFm_ru v to nS).2.1 o p q2.1 q2.2, g1, g2, ?_, by omega, fun w1 w2 w3 => Or.inl rfl, fun r' w1 w2 => by omega, fun w => by omega, fun j _ => rfl, fun _ => rfl⟩
      rw [yMs_n hM]
      unfold gMk
      simp only [↓reduceIte]
      rw [if_neg (show ¬ (v p = 33 ∨ v p = 45) by omega), if_neg (show ¬ v p = 40 by omega), if_neg (show ¬ (48 ≤ v p ∧ v p ≤ 57) by omega), if_pos q2.2]
    · have e1 : (if p < to then zStrIx (s + 1) (nI (v p)) else -1) = -1 := by
        by_cases w : p < to
        · rw [if_pos w, ySg s hs3 _ (h.2.2.1 p), if_neg (show ¬ gIdx (v p) < 8 + s from fun w2 => q2 ⟨w, by omega⟩)]
        · rw [if_neg w]
      rw [e1, if_pos (show (-1 : Int32) < 0 by decide), gxA h (by decide) hp, Option.bind_some]
      by_cases q3 : p < to ∧ v p = 40
      · rw [if_pos q3.1, yLp _ (h.2.2.1 p), if_pos q3.2, if_neg (show ¬ (0 : Int32) < 0 by decide), show (gx m0 p o Cm k).1 8 = nI o from rfl]
        have hg : ∀ w, o < 5 → gMk nS (true, o, dd, C) (v p) = some w → w = (true, o + 1, dd, C &&& (jShl 1 (nI (o + 1)) ^^^ (-1))) := by
          intro w ho5 hw
          unfold gMk at hw
          simp only [↓reduceIte] at hw
          rw [if_neg (show ¬ (v p = 33 ∨ v p = 45) by omega), if_pos q3.2, if_pos ho5] at hw
          cases hw; rfl
        by_cases q4 : o < 5
        · rw [if_neg (show ¬ nI o = (5 : Int32) from fun e => by have := (nI_eq (b := 5) (by omega) (by decide)).mp e; omega), gx_n, nI_1 o, gx_8]
          have hm : yMs nS v (p + 1) = some (true, o + 1, dd, C &&& (jShl 1 (nI (o + 1)) ^^^ (-1))) := by
            rw [yMs_n hM]
            unfold gMk
            simp only [↓reduceIte]
            rw [if_neg (show ¬ (v p = 33 ∨ v p = 45) by omega), if_pos q3.2, if_pos q4]
          have hb : ∀ j, j < 32 → bt (C &&& (jShl 1 (nI (o + 1)) ^^^ (-1))) j = (bt C j && !decide (j = o + 1)) := fun j hj => gClr C (by omega) hj
          generalize C &&& (jShl 1 (nI (o + 1)) ^^^ (-1)) = C2 at hm hb hg
          have hin := ih.1 0 (p + 1) (o + 1) dd C2 k Cm (by omega) (by omega) (by omega) (by omega) hdd hm (fun _ => by rw [hb _ (by omega), decide_eq_true rfl, Bool.not_true, Bool.and_false]) (by omega)
          have hin : gRes m0 nS v to 0 0 (o + 1) (p + 1) Cm k C2 (f_X12rec d 0 (gx m0 (p + 1) (o + 1) Cm k) 0) := hin
          rcases hin with ⟨p', C', K, d2, Cc, hout, i1, i2, i3, i4, i5, i6, i7, i8⟩ | ⟨p', o', C', k', hout, i1, i2, i3⟩
          · rw [hout, Option.bind_some]
            rw [if_neg (show ¬ (1 : Int32) = 0 by decide), gxA h (by decide) i2, Option.bind_some]
            by_cases q5 : p' < to ∧ v p' = 41
            · rw [if_pos q5.1, yRp _ (h.2.2.1 p'), if_pos q5.2, if_pos (show (0 : Int32) ≤ 0 by decide), gx_n, show (gx m0 p' (o + 1) C' (k + K.length)).1 8 - 1 = nI o from nI_pred o, gx_8]
              refine Or.inl ⟨p' + 1, C', K, 0, Cc, rfl, by omega, by omega, by omega, (gFm_ru v to nS).2.2.1 o p p' K q4 q3.1 q3.2 i4 q5.1 q5.2, i5, i6, ?_, by omega, fun w1 w2 w3 => Or.inl rfl, fun r' w1 w2 => by omega, fun w => by omega, fun j hj => ?_, fun _ => ?_⟩
              · rw [yMs_n i7]
                unfold gMk
                simp only [Bool.false_eq_true, ↓reduceIte]
                rw [if_neg (show ¬ (48 ≤ v p' ∧ v p' ≤ 57) by omega), if_pos q5.2, if_pos (show 0 < o + 1 by omega), Nat.add_sub_cancel]
              · rw [i8.2.2.2.2.1 j (by omega), hb j (by omega), decide_eq_false (by omega), Bool.not_false, Bool.and_true]
              · rw [i8.2.2.2.2.1 o (by omega), hb o (by omega), decide_eq_false (by omega), Bool.not_false, Bool.and_true]
            · have e2 : (if p' < to then zStrIx 6 (nI (v p')) else -1) = -1 := by
                by_cases w : p' < to
                · rw [if_pos w, yRp _ (h.2.2.1 p'), if_neg (fun w2 => q5 ⟨w, w2⟩)]
                · rw [if_neg w]
              rw [e2, if_neg (show ¬ (0 : Int32) ≤ -1 by decide)]
              refine Or.inr ⟨p', _, C', _, rfl, i2, fun j hj => i5 j (by omega), _, i7, fun w => ?_, fun w => by have := w.2; simp at this⟩
              exact gPo_stuck i8 w (Or.inl (fun w2 => q5 ⟨w, w2⟩))
          · rw [hout, Option.bind_some, if_pos rfl]
            exact Or.inr ⟨p', o', C', k', rfl, i1, i2, i3⟩
        · have o5 : o = 5 := by omega
          rw [if_pos (show nI o = (5 : Int32) by rw [o5]; rfl)]
          refine Or.inr ⟨p, o, Cm, k, rfl, hp, fun j _ => rfl, _, hM, fun w => ?_, fun w => by have := w.1; simp at this⟩
          unfold gMk
          simp only [↓reduceIte]
          rw [if_neg (show ¬ (v p = 33 ∨ v p = 45) by omega), if_pos q3.2, if_neg q4]
      · have e2 : (if p < to then zStrIx 5 (nI (v p)) else -1) = -1 := by
          by_cases w : p < to
          · rw [if_pos w, yLp _ (h.2.2.1 p), if_neg (fun w2 => q3 ⟨w, w2⟩)]
          · rw [if_neg w]
        rw [e2, if_pos (show (-1 : Int32) < 0 by decide)]
        refine Or.inr ⟨p, o, Cm, k, rfl, hp, fun j _ => rfl, _, hM, fun w => ?_, fun w => by have := w.1; simp at this⟩
        have hu := hu w
        unfold gMk
        simp only [↓reduceIte]
        rw [if_neg (show ¬ (v p = 33 ∨ v p = 45) by omega), if_neg (fun w2 => q3 ⟨w, w2⟩), if_neg (fun w2 => q ⟨w, w2⟩), if_neg (fun w2 => q2 ⟨w, w2⟩)]
/-- signs ahead of a thing -/
theorem gRd5 (h : gEP m0 to s v) {d : Nat} (ih : gPR m0 to nS v d) {p o dd k : Nat} {C : Int32} {Cm : Nat → Int32} (hp : p ≤ to) (ho : o ≤ 5) (hk : k ≤ p) (hM : yMs nS v p = some (true, o, dd, C)) (hdd : dd ≤ 3) (hd : 9 * (5 - o) + (to - p) + 2 ≤ d) :
    gRes m0 nS v to 5 5 o p Cm k C (f_X12rec (d + 1) 1 (gx m0 p o Cm k) 0) := by
  have hto := h.1
  show gRes m0 nS v to 5 5 o p Cm k C (f_X12_ahead (f_X12rec d) (gx m0 p o Cm k))
  unfold f_X12_ahead
  rw [gxA h (by decide) hp, Option.bind_some]
  by_cases q : p < to ∧ (v p = 33 ∨ v p = 45)
  · have hm : yMs nS v (p + 1) = some (true, o, dd, C) := by
      rw [yMs_n hM]
      unfold gMk
      simp only [↓reduceIte]
      rw [if_pos q.2]
    have hin := ih.2.1 (p + 1) o dd C k Cm (by omega) ho (by omega) hdd hm (by omega)
    have e1 : (0 : Int32) ≤ (if p < to then zStrIx 4 (nI (v p)) else -1) ∧ (2000 : Int32) + (if (if p < to then zStrIx 4 (nI (v p)) else -1) = 0 then 33 else 126) = nI (if v p = 33 then 2033 else 2126) := by
      rw [if_pos q.1, yUn _ (h.2.2.1 p)]
      rcases q.2 with w | w
      · rw [w]; exact ⟨by decide, by decide⟩
      · rw [w]; exact ⟨by decide, by decide⟩
    rw [if_pos e1.1, gx_n]
    rcases hin with ⟨p', C', K, d2, Cc, hout, i1, i2, i3, i4, i5, i6, i7, i8⟩ | ⟨p', o', C', k', hout, i1, i2, i3⟩
    · rw [hout, Option.bind_some]
      rw [if_neg (show ¬ (1 : Int32) = 0 by decide), gx_mk (by omega), Option.bind_some, e1.2, gBo_1]
      obtain ⟨g1, g2⟩ := gPut (x := nI (if v p = 33 then 2033 else 2126)) i5 i6
      refine Or.inl ⟨p', _, K ++ [nI (if v p = 33 then 2033 else 2126)], d2, Cc, ?_, by omega, i2, by rw [List.length_append, List.length_singleton]; omega, (gFm_ru v to nS).2.2.2.2.1 o p p' K q.1 q.2 i4, g1, g2, i7, i8⟩
      rw [List.length_append, List.length_singleton, Nat.add_assoc k]
    · rw [hout, Option.bind_some, if_pos rfl, gBo_0]
      exact Or.inr ⟨p', o', C', k', rfl, i1, i2, i3⟩
  · have e1 : (if p < to then zStrIx 4 (nI (v p)) else -1) = -1 := by
      by_cases w : p < to
      · rw [if_pos w, yUn _ (h.2.2.1 p), if_neg (fun w2 => q ⟨w, Or.inl w2⟩), if_neg (fun w2 => q ⟨w, Or.inr w2⟩)]
      · rw [if_neg w]
    rw [e1, if_neg (show ¬ (0 : Int32) ≤ -1 by decide)]
    have hin := ih.2.2 p o dd C k Cm hp ho hk hdd hM (fun w => ⟨fun w2 => q ⟨w, Or.inl w2⟩, fun w2 => q ⟨w, Or.inr w2⟩⟩) (by omega)
    have hin := gRes_bo hin
    rcases hin with ⟨p', C', K, d2, Cc, hout, i1, i2, i3, i4, i5, i6, i7, i8⟩ | hin
    · have hpt : p < to := by omega
      exact Or.inl ⟨p', C', K, d2, Cc, hout, i1, i2, i3, (gFm_ru v to nS).2.2.2.1 o p p' K hpt (fun w2 => q ⟨hpt, Or.inl w2⟩) (fun w2 => q ⟨hpt, Or.inr w2⟩) i4, i5, i6, i7, i8⟩
    · exact Or.inr hin
end
