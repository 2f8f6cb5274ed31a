section
variable {m0 : Zst} {to s nS : Nat} {v : Nat → Nat}
/-- the mark of an operator -/
theorem gMark {ch : Nat} (x : Int32) (hx : x = nI ch) : (2000 : Int32) + x = nI (2000 + ch) := by
  rw [hx, show (2000 : Int32) = nI 2000 from rfl, nI_add]
/-- what the class does behind a thing, at an operator -/
theorem gOpM {x o d : Nat} {Cc : Int32} {ch : Nat} (hx : x < 5) (hx2 : ¬ x = 2) (ho : gOp x ch) (ho5 : o ≤ 5) : ∃ Cx : Int32, gMk nS (false, o, d, Cc) ch = some (true, o, 0, Cx) ∧ (x ≤ 2 → bt Cx o = false) ∧ (∀ j, j < o → bt Cx j = bt Cc j) ∧ (3 ≤ x → bt Cx o = bt Cc o) := by
  unfold gOp at ho
  unfold gMk
  simp only [Bool.false_eq_true, ↓reduceIte]
  by_cases q : x ≤ 2
  · have e : ch = 124 ∨ ch = 38 := by omega
    clear ho
    rw [if_neg (show ¬ (48 ≤ ch ∧ ch ≤ 57) by omega), if_neg (show ¬ ch = 41 by omega), if_neg (show ¬ (ch = 60 ∨ ch = 62 ∨ ch = 61) by omega), if_pos e]
    refine ⟨_, rfl, fun _ => ?_, fun j hj => ?_, fun w => by omega⟩
    · rw [gClr Cc (by omega) (by omega), decide_eq_true rfl, Bool.not_true, Bool.and_false]
    · rw [gClr Cc (by omega) (by omega), decide_eq_false (by omega), Bool.not_false, Bool.and_true]
  · have e : ch = 43 ∨ ch = 45 ∨ ch = 42 ∨ ch = 47 := by omega
    clear ho
    rw [if_neg (show ¬ (48 ≤ ch ∧ ch ≤ 57) by omega), if_neg (show ¬ ch = 41 by omega), if_neg (show ¬ (ch = 60 ∨ ch = 62 ∨ ch = 61) by omega), if_neg (show ¬ (ch = 124 ∨ ch = 38) by omega), if_pos e]
    exact ⟨Cc, rfl, fun w => absurd w q, fun j _ => rfl, fun _ => rfl⟩
/-- the loop of a rank -/
theorem gLoopR (h : gEP m0 to s v) {d x : Nat} (ih : gPR m0 to nS v d) (hx : x < 5) (hx2 : ¬ x = 2) {p o k : Nat} {C0 : Int32} {Cm : Nat → Int32} (ho : o ≤ 5) (hk : k ≤ p) (hd : 9 * (5 - o) + (to - p) + 8 - x ≤ d) :
    ∀ e n p1 K1 C1 d2 Cc, to - p1 ≤ e → e + 1 < n → p < p1 → p1 ≤ to → K1.length + p ≤ p1 → gFm v to nS (10 + x) o p p1 K1 → (∀ j, j < 288 + k → C1 j = Cm j) → (∀ j, j < K1.length → C1 (288 + k + j) = K1.getD j 0) → yMs nS v p1 = some (false, o, d2, Cc) → gPo v to (x + 1) p1 o Cc C0 d2 →
      gRes m0 nS v to x x o p Cm k C0 (L_X12_ranked_63 (f_X12rec d) (nI x) (7 + x) n (gx m0 p1 o C1 (k + K1.length)) 1 1) := by
  have hto := h.1
  have hx2I : ¬ nI x = (2 : Int32) := fun e => hx2 ((nI_eq (b := 2) (by omega) (by decide)).mp e)
  intro e
  induction e with
  | zero =>
    intro n p1 K1 C1 d2 Cc he hn a1 a2 a3 a4 a5 a6 a7 a8
    obtain ⟨n, rfl⟩ : ∃ k, n = k + 1 := ⟨n - 1, by omega⟩
    have hpt : ¬ p1 < to := by omega
    simp only [L_X12_ranked_63, gq_10, ↓reduceIte, gxA h (show 7 + x < 14 by omega) a2, if_neg hpt, Option.bind_some, if_pos (show (-1 : Int32) < 0 by decide), gBo_1]
    refine Or.inl ⟨p1, C1, K1, d2, Cc, rfl, a1, a2, a3, (gFm_ru v to nS).2.2.2.2.2.2.2.1 x o p p1 K1 hx hx2 a4 (fun w => absurd w hpt), a5, a6, a7, a8.1, fun w => absurd w hpt, fun r' _ _ _ w => absurd w hpt, fun _ w => absurd w hpt, a8.2.2.2.2.1, fun w => a8.2.2.2.2.2 (by omega)⟩
  | succ e ihe =>
    intro n p1 K1 C1 d2 Cc he hn a1 a2 a3 a4 a5 a6 a7 a8
    obtain ⟨n, rfl⟩ : ∃ k, n = k + 1 := ⟨n - 1, by omega⟩
    by_cases q : p1 < to ∧ gOp x (v p1)
    · obtain ⟨Cx, m1, m2, m3, m4⟩ := gOpM (nS := nS) (d := d2) (Cc := Cc) hx hx2 q.2 ho
      rw [← yMs_n a7] at m1
      have hin := ih.1 (x + 1) (p1 + 1) o 0 Cx (k + K1.length) C1 (by omega) (by omega) ho (by omega) (by omega) m1 (fun w => m2 (by omega)) (by omega)
      have e6 : (gx m0 p1 o C1 (k + K1.length)).1 6 = nI p1 := rfl
      have en := gx_n m0 p1 o C1 (k + K1.length)
      rw [e6] at en
      have et : (gx m0 p1 o C1 (k + K1.length)).2.1 12 p1 = nI (v p1) := h.2.2.2.2.1 p1
      have hq : ¬ zStrIx (7 + x) (nI (v p1)) < 0 := fun w => (yRk hx (h.2.2.1 p1)).mp w q.2
      obtain ⟨n, rfl⟩ : ∃ k, n = k + 1 := ⟨n - 1, by omega⟩
      rcases hin with ⟨p', C', K, d3, Cd, hout, i1, i2, i3, i4, i5, i6, i7, i8⟩ | ⟨p', o', C', k', hout, i1, i2, i3⟩
      · obtain ⟨g1, g2⟩ := gPut (Cm := Cm) (C' := C') (k := k) (K := K1 ++ K) (x := nI (2000 + v p1)) (fun j hj => by rw [i5 j (by omega)]; exact a5 j hj) (gCat a6 i5 i6)
        have hl : k + K1.length + K.length = k + (K1 ++ K).length := by rw [List.length_append, Nat.add_assoc]
        have hl2 : k + (K1 ++ K).length + 1 = k + (K1 ++ K ++ [nI (2000 + v p1)]).length := by rw [List.length_append (as := K1 ++ K), List.length_singleton, Nat.add_assoc]
        have hb : k + (K1 ++ K).length < 48 := by rw [List.length_append]; omega
        have := ihe (n + 1) p' (K1 ++ K ++ [nI (2000 + v p1)]) _ d3 Cd (by omega) (by omega) (by omega) i2 (by rw [List.length_append, List.length_append, List.length_singleton]; omega) ((gFm_ru v to nS).2.2.2.2.2.2.1 x o p p1 p' K1 K hx hx2 a4 q.1 q.2 i4) g1 g2 i7 ⟨i8.1, i8.2.1, i8.2.2.1, i8.2.2.2.1, fun j hj => by rw [i8.2.2.2.2.1 j hj, m3 j hj]; exact a8.2.2.2.2.1 j hj, fun w => by
          by_cases w3 : 3 ≤ x
          · rw [i8.2.2.2.2.2 w, m4 w3]; exact a8.2.2.2.2.2 w
          · omega⟩
        rw [L_X12_ranked_63]
        simp only [gq_10, ↓reduceIte, gxA h (show 7 + x < 14 by omega) a2, if_pos q.1, Option.bind_some, if_neg hq, e6, gGx (show p1 < 60 by omega) (by decide), nI_clamp (show p1 < 2 ^ 31 by omega), en, nI_1 x, hout, et, gMark (nI (v p1)) rfl, hl, gx_mk hb, J_X12_ranked_123, if_neg hx2I, hl2]
        exact this
      · rw [L_X12_ranked_63]
        simp only [gq_10, ↓reduceIte, gxA h (show 7 + x < 14 by omega) a2, if_pos q.1, Option.bind_some, if_neg hq, e6, gGx (show p1 < 60 by omega) (by decide), nI_clamp (show p1 < 2 ^ 31 by omega), en, nI_1 x, hout, J_X12_ranked_123]
        rw [L_X12_ranked_63]
        simp only [↓reduceIte, gBo_0]
        exact Or.inr ⟨p', o', C', k', rfl, i1, fun j hj => (i2 j hj).trans (a5 j (by omega)), i3⟩
    · have e1 : (if p1 < to then zStrIx (7 + x) (nI (v p1)) else -1) < 0 := by
        by_cases w : p1 < to
        · rw [if_pos w]; exact (yRk hx (h.2.2.1 p1)).mpr (fun w2 => q ⟨w, w2⟩)
        · rw [if_neg w]; decide
      simp only [L_X12_ranked_63, gq_10, ↓reduceIte, gxA h (show 7 + x < 14 by omega) a2, Option.bind_some, if_pos e1, gBo_1]
      refine Or.inl ⟨p1, C1, K1, d2, Cc, rfl, a1, a2, a3, (gFm_ru v to nS).2.2.2.2.2.2.2.1 x o p p1 K1 hx hx2 a4 (fun w w2 => q ⟨w, w2⟩), a5, a6, a7, a8.1, a8.2.1, fun r' w1 w2 w3 w4 w5 => ?_, fun w => a8.2.2.2.1 (by omega), a8.2.2.2.2.1, fun w => a8.2.2.2.2.2 (by omega)⟩
      by_cases w6 : r' = x
      · subst w6; exact q ⟨w4, w5⟩
      · exact a8.2.2.1 r' (by omega) w2 w3 w4 w5
/-- a comparison -/
theorem gLoop2 (h : gEP m0 to s v) {d : Nat} (ih : gPR m0 to nS v d) {p o k : Nat} {C0 : Int32} {Cm : Nat → Int32} (ho : o ≤ 5) (hk : k ≤ p) (hd : 9 * (5 - o) + (to - p) + 6 ≤ d) (hC0 : bt C0 o = false) {n p1 d2 : Nat} {K1 : List Int32} {C1 : Nat → Int32} {Cc : Int32} (hn : 2 < n) (a1 : p < p1) (a2 : p1 ≤ to) (a3 : K1.length + p ≤ p1) (a4 : gFm v to nS 3 o p p1 K1) (a5 : ∀ j, j < 288 + k → C1 j = Cm j) (a6 : ∀ j, j < K1.length → C1 (288 + k + j) = K1.getD j 0) (a7 : yMs nS v p1 = some (false, o, d2, Cc)) (a8 : gPo v to 3 p1 o Cc C0 d2) :
    gRes m0 nS v to 2 2 o p Cm k C0 (L_X12_ranked_63 (f_X12rec d) (nI 2) 9 n (gx m0 p1 o C1 (k + K1.length)) 1 1) := by
  have hto := h.1
  obtain ⟨n, rfl⟩ : ∃ k, n = k + 1 + 1 := ⟨n - 2, by omega⟩
  by_cases q : p1 < to ∧ gOp 2 (v p1)
  · have qe : v p1 = 60 ∨ v p1 = 62 ∨ v p1 = 61 := by have := q.2; unfold gOp at this; omega
    have m1 : yMs nS v (p1 + 1) = some (true, o, 0, Cc ||| jShl 1 (nI o)) := by
      rw [yMs_n a7]
      unfold gMk
      simp only [Bool.false_eq_true, ↓reduceIte]
      rw [if_neg (show ¬ (48 ≤ v p1 ∧ v p1 ≤ 57) by omega), if_neg (show ¬ v p1 = 41 by omega), if_pos qe, if_neg (show ¬ bt Cc o = true by rw [a8.2.2.2.2.2 (by decide), hC0]; exact fun e => Bool.noConfusion e)]
    have hb : ∀ j, j < 32 → bt (Cc ||| jShl 1 (nI o)) j = (bt Cc j || decide (j = o)) := fun j hj => gb_set Cc (by omega) hj
    generalize Cc ||| jShl 1 (nI o) = Cx at m1 hb
    have hin := ih.1 3 (p1 + 1) o 0 Cx (k + K1.length) C1 (by decide) (by omega) ho (by omega) (by omega) m1 (fun w => absurd w (by decide)) (by omega)
    have hin : gRes m0 nS v to 3 3 o (p1 + 1) C1 (k + K1.length) Cx (f_X12rec d 0 (gx m0 (p1 + 1) o C1 (k + K1.length)) 3) := hin
    have e6 : (gx m0 p1 o C1 (k + K1.length)).1 6 = nI p1 := rfl
    have en := gx_n m0 p1 o C1 (k + K1.length)
    rw [e6] at en
    have et : (gx m0 p1 o C1 (k + K1.length)).2.1 12 p1 = nI (v p1) := h.2.2.2.2.1 p1
    have hq : ¬ zStrIx 9 (nI (v p1)) < 0 := fun w => (yRk (r := 2) (by decide) (h.2.2.1 p1)).mp w q.2
    have e21 : (2 : Int32) + 1 = 3 := rfl
    have e22 : nI 2 = (2 : Int32) := rfl
    rcases hin with ⟨p', C', K, d3, Cd, hout, i1, i2, i3, i4, i5, i6, i7, i8⟩ | ⟨p', o', C', k', hout, i1, i2, i3⟩
    · obtain ⟨g1, g2⟩ := gPut (Cm := Cm) (C' := C') (k := k) (K := K1 ++ K) (x := nI (2000 + v p1)) (fun j hj => by rw [i5 j (by omega)]; exact a5 j hj) (gCat a6 i5 i6)
      have hl : k + K1.length + K.length = k + (K1 ++ K).length := by rw [List.length_append, Nat.add_assoc]
      have hl2 : k + (K1 ++ K).length + 1 = k + (K1 ++ K ++ [nI (2000 + v p1)]).length := by rw [List.length_append (as := K1 ++ K), List.length_singleton, Nat.add_assoc]
      have hb2 : k + (K1 ++ K).length < 48 := by rw [List.length_append]; omega
      rw [L_X12_ranked_63]
      simp only [gq_10, ↓reduceIte, gxA h (show 9 < 14 by omega) a2, if_pos q.1, Option.bind_some, if_neg hq, e6, gGx (show p1 < 60 by omega) (by decide), nI_clamp (show p1 < 2 ^ 31 by omega), en, e22, e21, hout, et, gMark (nI (v p1)) rfl, hl, gx_mk hb2, J_X12_ranked_123, hl2]
      rw [L_X12_ranked_63]
      simp only [gq_10, ↓reduceIte, gBo_1]
      refine Or.inl ⟨p', _, K1 ++ K ++ [nI (2000 + v p1)], d3, Cd, rfl, by omega, i2, by rw [List.length_append, List.length_append, List.length_singleton]; omega, (gFm_ru v to nS).2.2.2.2.2.2.2.2.2 o p p1 p' K1 K a4 q.1 q.2 i4, g1, g2, i7, i8.1, i8.2.1, fun r' w1 w2 w3 => i8.2.2.1 r' (by omega) w2 w3, fun _ _ _ => ?_, fun j hj => ?_, fun w => absurd w (by decide)⟩
      · rw [i8.2.2.2.2.2 (by decide), hb o (by omega), decide_eq_true rfl, Bool.or_true]
      · rw [i8.2.2.2.2.1 j hj, hb j (by omega), decide_eq_false (by omega), Bool.or_false]
        exact a8.2.2.2.2.1 j hj
    · rw [L_X12_ranked_63]
      simp only [gq_10, ↓reduceIte, gxA h (show 9 < 14 by omega) a2, if_pos q.1, Option.bind_some, if_neg hq, e6, gGx (show p1 < 60 by omega) (by decide), nI_clamp (show p1 < 2 ^ 31 by omega), en, e22, e21, hout, J_X12_ranked_123]
      rw [L_X12_ranked_63]
      simp only [↓reduceIte, gBo_0]
      exact Or.inr ⟨p', o', C', k', rfl, i1, fun j hj => (i2 j hj).trans (a5 j (by omega)), i3⟩
  · have e1 : (if p1 < to then zStrIx 9 (nI (v p1)) else -1) < 0 := by
      by_cases w : p1 < to
      · rw [if_pos w]; exact (yRk (r := 2) (by decide) (h.2.2.1 p1)).mpr (fun w2 => q ⟨w, w2⟩)
      · rw [if_neg w]; decide
    rw [L_X12_ranked_63]
    simp only [gq_10, ↓reduceIte, gxA h (show 9 < 14 by omega) a2, Option.bind_some, if_pos e1, gBo_1]
    exact Or.inl ⟨p1, C1, K1, d2, Cc, rfl, a1, a2, a3, (gFm_ru v to nS).2.2.2.2.2.2.2.2.1 o p p1 K1 a4 (fun w w2 => q ⟨w, w2⟩), a5, a6, a7, a8.1, a8.2.1, fun r' w1 w2 w3 => a8.2.2.1 r' (by omega) w2 w3, fun _ w w2 => absurd ⟨w, w2⟩ q, a8.2.2.2.2.1, fun w => absurd w (by decide)⟩
theorem gJ51 (F : Nat → Zst → Int32 → Option (Zst × Int32)) (σ : Zst) {x : Nat} (hx : x < 5) : f_X12_ranked F σ (nI x) = J_X12_ranked_51 F σ (nI x) (7 + x) := by
  unfold f_X12_ranked
  rcases (show x = 0 ∨ x = 1 ∨ x = 2 ∨ x = 3 ∨ x = 4 by omega) with rfl | rfl | rfl | rfl | rfl
  · rw [if_neg (by decide), if_pos (by decide)]
  · rw [if_neg (by decide), if_neg (by decide), if_pos (by decide)]
  · rw [if_neg (by decide), if_neg (by decide), if_neg (by decide), if_pos (by decide)]
  · rw [if_neg (by decide), if_neg (by decide), if_neg (by decide), if_neg (by decide), if_pos (by decide)]
  · rw [if_neg (by decide), if_neg (by decide), if_neg (by decide), if_neg (by decide), if_neg (by decide)]
/-- a rank -/
theorem gRd0 (h : gEP m0 to s v) {d : Nat} (ih : gPR m0 to nS v d) {x p o dd k : Nat} {C : Int32} {Cm : Nat → Int32} (hx : x ≤ 5) (hp : p ≤ to) (ho : o ≤ 5) (hk : k ≤ p) (hdd : dd ≤ 3) (hM : yMs nS v p = some (true, o, dd, C)) (hC : x ≤ 2 → bt C o = false) (hd : 9 * (5 - o) + (to - p) + 8 - x ≤ d) :
    gRes m0 nS v to x x o p Cm k C (f_X12rec (d + 1) 0 (gx m0 p o Cm k) (nI x)) := by
  have hto := h.1
  show gRes m0 nS v to x x o p Cm k C (f_X12_ranked (f_X12rec d) (gx m0 p o Cm k) (nI x))
  by_cases h5 : x = 5
  · subst h5
    have hin := gRes_bo (ih.2.1 p o dd C k Cm hp ho hk hdd hM (by omega))
    exact hin
  · have hx5 : x < 5 := by omega
    rw [gJ51 _ _ hx5]
    unfold J_X12_ranked_51
    rw [nI_1]
    have hin := ih.1 (x + 1) p o dd C k Cm (by omega) hp ho hk hdd hM (fun w => hC (by omega)) (by omega)
    rcases hin with ⟨p', C', K, d3, Cd, hout, i1, i2, i3, i4, i5, i6, i7, i8⟩ | ⟨p', o', C', k', hout, i1, i2, i3⟩
    · rw [hout, Option.bind_some]
      by_cases h2 : x = 2
      · subst h2
        exact gLoop2 h ih ho hk (by omega) (hC (by omega)) (by rw [zFu_eq]; omega) i1 i2 i3 i4 i5 i6 i7 i8
      · exact gLoopR h ih hx5 h2 ho hk hd 40 zFu p' K C' d3 Cd (by omega) (by rw [zFu_eq]; omega) i1 i2 i3 ((gFm_ru v to nS).2.2.2.2.2.1 x o p p' K hx5 i4) i5 i6 i7 i8
    · rw [hout, Option.bind_some]
      obtain ⟨fu, hfu⟩ := gFu3
      rw [hfu, L_X12_ranked_63]
      simp only [↓reduceIte, gBo_0]
      exact Or.inr ⟨p', o', C', k', rfl, i1, fun j hj => i2 j hj, i3⟩
theorem gPR_all (h : gEP m0 to s v) (hnS : nS = 8 + s) : ∀ d, gPR m0 to nS v d
  | 0 => ⟨fun x p o dd C k Cm h1 h2 h3 h4 h5 h6 h7 h8 => by omega, fun p o dd C k Cm h1 h2 h3 h4 h5 h6 => by omega, fun p o dd C k Cm h1 h2 h3 h4 h5 h6 h7 => by omega⟩
  | d + 1 => ⟨fun x p o dd C k Cm h1 h2 h3 h4 h5 h6 h7 h8 => gRd0 h (gPR_all h hnS d) h1 h2 h3 h4 h5 h6 h7 (by omega), fun p o dd C k Cm h1 h2 h3 h4 h5 h6 => gRd5 h (gPR_all h hnS d) h1 h2 h3 h5 h4 (by omega), fun p o dd C k Cm h1 h2 h3 h4 h5 h6 h7 => gRd6 h hnS (gPR_all h hnS d) h1 h2 h3 h5 h4 h6 (by omega)⟩
end
