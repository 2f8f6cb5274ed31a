theorem gzA2 {σ : Zst} {k : Nat} {f g : Nat → Int32} : zA (zA σ k f) k g = zA σ k g := by
  refine Prod.ext rfl (Prod.ext (funext fun j => ?_) rfl)
  show (if j = k then g else (if j = k then f else σ.2.1 j)) = (if j = k then g else σ.2.1 j)
  by_cases h : j = k
  · rw [if_pos h, if_pos h]
  · rw [if_neg h, if_neg h, if_neg h]
theorem gzA0 {σ : Zst} {k : Nat} {f : Nat → Int32} (h : σ.2.1 k = f) : zA σ k f = σ := by
  refine Prod.ext rfl (Prod.ext (funext fun j => ?_) rfl)
  show (if j = k then f else σ.2.1 j) = σ.2.1 j
  by_cases e : j = k
  · rw [if_pos e, e, h]
  · rw [if_neg e]
theorem gzAx {σ : Zst} {k : Nat} {f g : Nat → Int32} (h : f = g) : zA σ k f = zA σ k g := by rw [h]
def gCp (o i : Nat) (f g : Nat → Int32) : Nat → Int32 := fun j => if o ≤ j ∧ j < o + i then f (j - o) else g j
theorem gCp_0 {o : Nat} {f g : Nat → Int32} : gCp o 0 f g = g := funext fun j => if_neg (by omega)
theorem gCp_s {o i : Nat} {f g : Nat → Int32} : upd (gCp o i f g) (o + i) (f i) = gCp o (i + 1) f g := by
  funext j
  unfold upd gCp
  by_cases h : j = o + i
  · rw [if_pos h, if_pos (by omega), show j - o = i by omega]
  · rw [if_neg h]
    by_cases h2 : o ≤ j ∧ j < o + i
    · rw [if_pos h2, if_pos (by omega)]
    · rw [if_neg h2, if_neg (by omega)]
theorem gnar1 : vp_nar .boolean (1 : Int32) = 1 := rfl
theorem gKeepM {k : Nat} (hk : k < 3) (m1 : Zst) : L_X12_keep_28 (nI k) zFu m1 0 = some (zA (zA m1 31 (gCp (k * 4608) 4608 (m1.2.1 8) (m1.2.1 31))) 32 (upd (m1.2.1 32) k (m1.1 4)), 1) := by
  obtain ⟨ra, h1, h2⟩ := gq_loop (La := fun n (a : Zst × Int32) => L_X12_keep_28 (nI k) n a.1 a.2) (fun i a => a = (zA m1 31 (gCp (k * 4608) i (m1.2.1 8) (m1.2.1 31)), nI i)) (fun r => r = (zA (zA m1 31 (gCp (k * 4608) 4608 (m1.2.1 8) (m1.2.1 31))) 32 (upd (m1.2.1 32) k (m1.1 4)), 1)) 4608 (by decide) (a := (m1, 0))
    (fun i a hi ha => by
      subst ha
      refine ⟨_, fun n => ?_, rfl⟩
      have q : nI k * (4608 : Int32) + nI i = nI (k * 4608 + i) := by rw [show (4608 : Int32) = nI 4608 from rfl, pk_mul, nI_add]
      show L_X12_keep_28 (nI k) (n + 1) _ _ = L_X12_keep_28 (nI k) n _ _
      simp only [L_X12_keep_28]
      rw [if_neg (show ¬ (4608 : Int32) ≤ nI i from nI_ge (b := 4608) hi (by decide)), gGx hi (by decide), q, gGx (show k * 4608 + i < 13824 by omega) (by decide), nI_clamp (by omega), nI_clamp (by omega), nI_1, gzA2]
      exact congrArg (fun f => L_X12_keep_28 (nI k) n (zA m1 31 f) (nI (i + 1))) gCp_s)
    (fun a ha => by
      subst ha
      refine ⟨_, fun n => ?_, rfl⟩
      show L_X12_keep_28 (nI k) (n + 1) _ _ = _
      simp only [L_X12_keep_28]
      rw [if_pos (show (4608 : Int32) ≤ nI 4608 from nI_le (Nat.le_refl _) (by decide)), gGx hk (by decide), nI_clamp (by omega)]
      rfl)
    (by rw [gCp_0, gzA0 rfl]; rfl)
  rw [h2] at h1
  exact h1
theorem gAgainM {k : Nat} (hk : k < 3) (m1 : Zst) : L_X12_again_30 (nI k) zFu m1 0 = some (zI (zA m1 8 (gCp 0 4608 (fun j => m1.2.1 31 (k * 4608 + j)) (m1.2.1 8))) 4 (m1.2.1 32 k), 1) := by
  obtain ⟨ra, h1, h2⟩ := gq_loop (La := fun n (a : Zst × Int32) => L_X12_again_30 (nI k) n a.1 a.2) (fun i a => a = (zA m1 8 (gCp 0 i (fun j => m1.2.1 31 (k * 4608 + j)) (m1.2.1 8)), nI i)) (fun r => r = (zI (zA m1 8 (gCp 0 4608 (fun j => m1.2.1 31 (k * 4608 + j)) (m1.2.1 8))) 4 (m1.2.1 32 k), 1)) 4608 (by decide) (a := (m1, 0))
    (fun i a hi ha => by
      subst ha
      refine ⟨_, fun n => ?_, rfl⟩
      have q : nI k * (4608 : Int32) + nI i = nI (k * 4608 + i) := by rw [show (4608 : Int32) = nI 4608 from rfl, pk_mul, nI_add]
      show L_X12_again_30 (nI k) (n + 1) _ _ = L_X12_again_30 (nI k) n _ _
      simp only [L_X12_again_30]
      rw [if_neg (show ¬ (4608 : Int32) ≤ nI i from nI_ge (b := 4608) hi (by decide)), q, gGx (show k * 4608 + i < 13824 by omega) (by decide), gGx hi (by decide), nI_clamp (show i < 2 ^ 31 by omega), nI_clamp (show k * 4608 + i < 2 ^ 31 by omega), nI_1, gzA2]
      have e := gCp_s (o := 0) (i := i) (f := fun j => m1.2.1 31 (k * 4608 + j)) (g := m1.2.1 8)
      rw [Nat.zero_add] at e
      exact congrArg (fun f => L_X12_again_30 (nI k) n (zA m1 8 f) (nI (i + 1))) e)
    (fun a ha => by
      subst ha
      refine ⟨_, fun n => ?_, rfl⟩
      show L_X12_again_30 (nI k) (n + 1) _ _ = _
      simp only [L_X12_again_30]
      rw [if_pos (show (4608 : Int32) ≤ nI 4608 from nI_le (Nat.le_refl _) (by decide)), gGx hk (by decide), nI_clamp (by omega)]
      rfl)
    (by rw [gCp_0, gzA0 rfl]; rfl)
  rw [h2] at h1
  exact h1
theorem gK3 {p : Int32} : (f_X11_between p 0 2 = 1 ∧ (p = nI 0 ∨ p = nI 1 ∨ p = nI 2)) ∨ f_X11_between p 0 2 = 0 := by
  rcases gS_btw (p := p) (a := 0) (b := 2) 0 2 rfl rfl (by decide) (by decide) with ⟨e, v, -, h, rfl⟩ | e
  · left
    refine ⟨e, ?_⟩
    have h2 : v = 0 ∨ v = 1 ∨ v = 2 := by omega
    rcases h2 with rfl | rfl | rfl
    · exact Or.inl rfl
    · exact Or.inr (Or.inl rfl)
    · exact Or.inr (Or.inr rfl)
  · exact Or.inr e
theorem gRW_cp {f g w : Nat → Int32} {o o' : Nat} (h : gRW f g o) : gRW (va_cpy f w (Int32.toNatClampNeg 0) (Int32.toNatClampNeg 0) (Int32.toNatClampNeg 4608)) (gCp o' 4608 (fun j => g (o + j)) w) o' := by
  intro p hp
  obtain ⟨v, h1, h2, h3⟩ := h p hp
  refine ⟨v, h1, ?_, ?_⟩
  · show va_cpy f w 0 0 4608 p = _
    rw [sb_cpy0 hp]; exact h2
  · unfold gCp
    rw [if_pos (by omega), show o' + p - o' = p by omega]
    exact h3
theorem gRW_w {f f' g w : Nat → Int32} {o o' : Nat} (h : gRW f g o) (e : ∀ p, p < 4608 → f' p = f p) (e2 : ∀ p, p < 4608 → w (o' + p) = g (o + p)) : gRW f' w o' := by
  intro p hp
  obtain ⟨v, h1, h2, h3⟩ := h p hp
  exact ⟨v, h1, (e p hp).trans h2, (e2 p hp).trans h3⟩
theorem gRefB (p : Int32) (h : f_X11_between p 0 2 = 0) : p < 0 ∨ (¬ p < 0 ∧ ¬ p < 3 ∧ 3 ≤ p) := by
  rcases gq_btw p 0 2 with ⟨q, -⟩ | ⟨-, q⟩
  · rw [q] at h; exact absurd h (by decide)
  · have q : ¬ ((0 : Int) ≤ p.toInt ∧ p.toInt ≤ 2) := q
    simp only [Int32.lt_iff_toInt_lt, Int32.le_iff_toInt_le]
    show p.toInt < 0 ∨ (¬ p.toInt < 0 ∧ ¬ p.toInt < 3 ∧ 3 ≤ p.toInt)
    omega
theorem gCpy {f g : Nat → Int32} {p : Nat} (hp : p < 4608) : va_cpy f g (Int32.toNatClampNeg 0) (Int32.toNatClampNeg 0) (Int32.toNatClampNeg 4608) p = f p := sb_cpy0 hp
theorem gCp_in {o i p : Nat} {f g : Nat → Int32} (h1 : o ≤ p) (h2 : p < o + i) : gCp o i f g p = f (p - o) := if_pos ⟨h1, h2⟩
theorem gCp_out {o i p : Nat} {f g : Nat → Int32} (h : p < o ∨ o + i ≤ p) : gCp o i f g p = g p := if_neg (by omega)
theorem gCp_at {o p : Nat} {f g : Nat → Int32} {y : Int32} (hp : p < 4608) (e : f p = y) : gCp o 4608 f g (o + p) = y := by
  rw [gCp_in (by omega) (by omega), Nat.add_sub_cancel_left]; exact e
theorem pp_keep : lp_keep gRel := by
  intro c m hR p0
  obtain ⟨S, T, n, h, hr⟩ := hR
  have no : gRel c (zI m 0 0) := gNo h hr
  obtain ⟨⟨n1, n2⟩, n3, n4, n5, n6, n7, n8⟩ := id h.2.1
  unfold f_X11_keep f_X4_store f_X12_keep
  rw [gq_in_0_2]
  rcases gK3 (p := p0) with ⟨e, hp⟩ | e
  case inr =>
    rcases gRefB p0 e with q | ⟨q1, q2, q3⟩
    · simp only [e, ↓reduceIte, if_pos q, Option.bind_some, gBo_0]; exact ⟨_, _, rfl, rfl, rfl, no⟩
    · simp only [e, ↓reduceIte, if_neg q1, if_neg q2, Option.bind_some, gBo_0]; exact ⟨_, _, rfl, rfl, rfl, no⟩
  have fin : ∀ (k : Nat) (f2 f3 f4 : Nat → Int32) (x : Nat → Int32), k < 3 → x = gCp (k * 4608) 4608 (m.2.1 8) (m.2.1 31) →
      ((upd (c.2.1 6) k 1) 0 = 1 → gRW f2 x 0) → ((upd (c.2.1 6) k 1) 1 = 1 → gRW f3 x 4608) → ((upd (c.2.1 6) k 1) 2 = 1 → gRW f4 x 9216) →
      ∀ c' m' : Zst, c'.1 = c.1 → (∀ j, j ≠ 2 → j ≠ 3 → j ≠ 4 → j ≠ 5 → j ≠ 6 → c'.2.1 j = c.2.1 j) → c'.2.2.1 = c.2.2.1 → c'.2.1 2 = f2 → c'.2.1 3 = f3 → c'.2.1 4 = f4 → c'.2.1 5 = upd (c.2.1 5) k (c.1 2) → c'.2.1 6 = upd (c.2.1 6) k 1 →
      m' = zA (zA (zA (zI m 0 0) 30 (upd (m.2.1 30) k 1)) 31 x) 32 (upd (m.2.1 32) k (m.1 4)) → gRel c' m' := by
    intro k f2 f3 f4 x hk hx h2 h3 h4 c' m' g1 g2 g3 g4 g5 g6 g7 g8 hm
    subst hm
    have hA : gRA S T c' (zI m 0 0) := by
      have := gRA_ag h.1 gaC_rf (gaM_0 (x := 0))
      unfold gRA at *
      rw [g1, g2 10 (by decide) (by decide) (by decide) (by decide) (by decide), g2 11 (by decide) (by decide) (by decide) (by decide) (by decide), g2 12 (by decide) (by decide) (by decide) (by decide) (by decide), g2 13 (by decide) (by decide) (by decide) (by decide) (by decide), g2 14 (by decide) (by decide) (by decide) (by decide) (by decide), g2 15 (by decide) (by decide) (by decide) (by decide) (by decide), g2 16 (by decide) (by decide) (by decide) (by decide) (by decide), g2 17 (by decide) (by decide) (by decide) (by decide) (by decide), g2 18 (by decide) (by decide) (by decide) (by decide) (by decide)]
      exact this
    have hX : gRX c' m := by
      have := h.2.2.1
      unfold gRX at *
      rw [g1, g2 0 (by decide) (by decide) (by decide) (by decide) (by decide)]
      exact this
    have hK : gRK S c' m := by
      have := h.2.2.2.1
      unfold gRK at *
      rw [g1, g2 22 (by decide) (by decide) (by decide) (by decide) (by decide)]
      exact this
    have hM : gRM c' m := by
      have := h.2.2.2.2.1
      unfold gRM at *
      rw [g1, g2 27 (by decide) (by decide) (by decide) (by decide) (by decide), g2 28 (by decide) (by decide) (by decide) (by decide) (by decide), g2 29 (by decide) (by decide) (by decide) (by decide) (by decide), g2 30 (by decide) (by decide) (by decide) (by decide) (by decide)]
      exact this
    have hL : gRL c' m := by
      have := h.2.2.2.2.2.1
      unfold gRL at *
      rw [g2 7 (by decide) (by decide) (by decide) (by decide) (by decide), g2 8 (by decide) (by decide) (by decide) (by decide) (by decide)]
      exact this
    have hT : gRT c' m := by
      have := h.2.2.2.2.2.2
      unfold gRT at *
      rw [g1, g2 19 (by decide) (by decide) (by decide) (by decide) (by decide), g2 20 (by decide) (by decide) (by decide) (by decide) (by decide)]
      exact this
    refine ⟨S, T, n, ⟨hA, ⟨⟨?_, ?_⟩, ?_, ?_, ?_, ?_, ?_, ?_⟩, hX, hK, hM, hL, hT⟩, ?_⟩
    · show c'.1 2 = m.1 4
      rw [g1]; exact n1
    · show gRW (c'.2.1 1) (m.2.1 8) 0
      rw [g2 1 (by decide) (by decide) (by decide) (by decide) (by decide)]; exact n2
    · show c'.2.1 6 = upd (m.2.1 30) k 1
      rw [g8, n3]
    · intro i
      rw [g8]
      by_cases e : i = k
      · rw [gU_eq e]; exact Or.inr rfl
      · rw [gU_ne e]; exact n4 i
    · show c'.2.1 5 = upd (m.2.1 32) k (m.1 4)
      rw [g7, n5, n1]
    · show c'.2.1 6 0 = 1 → gRW (c'.2.1 2) x 0
      rw [g8, g4]; exact h2
    · show c'.2.1 6 1 = 1 → gRW (c'.2.1 3) x 4608
      rw [g8, g5]; exact h3
    · show c'.2.1 6 2 = 1 → gRW (c'.2.1 4) x 9216
      rw [g8, g6]; exact h4
    · unfold gRR at *
      rw [g1, g3]; exact hr
  have t01 : (nI 0 = (0 : Int32)) = True := by decide
  have t10 : (nI 1 = (0 : Int32)) = False := by decide
  have t20 : (nI 2 = (0 : Int32)) = False := by decide
  have t11 : (nI 1 = (1 : Int32)) = True := by decide
  have t21 : (nI 2 = (1 : Int32)) = False := by decide
  have l0 : (nI 0 < (0 : Int32)) = False := by decide
  have l1 : (nI 1 < (0 : Int32)) = False := by decide
  have l2 : (nI 2 < (0 : Int32)) = False := by decide
  have m0 : (nI 0 < (3 : Int32)) = True := by decide
  have m1 : (nI 1 < (3 : Int32)) = True := by decide
  have m2 : (nI 2 < (3 : Int32)) = True := by decide
  have fr : ∀ (k : Nat) (f : Nat → Int32) (kk : Nat), kk < 3 → ∀ j, j ≠ 2 → j ≠ 3 → j ≠ 4 → j ≠ 5 → j ≠ 6 → (zA (zA (zA c (2 + kk) f) 5 (upd (c.2.1 5) k (c.1 2))) 6 (upd (c.2.1 6) k 1)).2.1 j = c.2.1 j := by
    intro k f kk hkk j h2 h3 h4 h5 h6
    show (if j = 6 then _ else if j = 5 then _ else if j = 2 + kk then _ else c.2.1 j) = _
    rw [if_neg h6, if_neg h5, if_neg (by omega)]
  rcases hp with rfl | rfl | rfl
  · simp only [e, gq_10, ↓reduceIte, l0, m0, t01, gGx (show 0 < 3 by decide) (by decide), nI_clamp (show 0 < 2 ^ 31 by decide), gnar1, Option.bind_some, gBo_1, gKeepM (show 0 < 3 by decide)]
    refine ⟨_, _, rfl, rfl, rfl, fin 0 _ _ _ _ (by decide) rfl (fun _ => ?_) (fun q => ?_) (fun q => ?_) _ _ rfl (fr 0 _ 0 (by decide)) rfl rfl rfl rfl rfl rfl rfl⟩
    · exact gRW_w n2 (fun p hp => gCpy hp) (fun p hp => gCp_at hp (congrArg (m.2.1 8) (Nat.zero_add p).symm))
    · exact gRW_w (n7 ((gU_ne (by decide)).symm.trans q)) (fun p hp => rfl) (fun p hp => by rw [gCp_out (by omega)])
    · exact gRW_w (n8 ((gU_ne (by decide)).symm.trans q)) (fun p hp => rfl) (fun p hp => by rw [gCp_out (by omega)])
  · simp only [e, gq_10, ↓reduceIte, l1, m1, t10, t11, gGx (show 1 < 3 by decide) (by decide), nI_clamp (show 1 < 2 ^ 31 by decide), gnar1, Option.bind_some, gBo_1, gKeepM (show 1 < 3 by decide)]
    refine ⟨_, _, rfl, rfl, rfl, fin 1 _ _ _ _ (by decide) rfl (fun q => ?_) (fun _ => ?_) (fun q => ?_) _ _ rfl (fr 1 _ 1 (by decide)) rfl rfl rfl rfl rfl rfl rfl⟩
    · exact gRW_w (n6 ((gU_ne (by decide)).symm.trans q)) (fun p hp => rfl) (fun p hp => by rw [gCp_out (by omega)])
    · exact gRW_w n2 (fun p hp => gCpy hp) (fun p hp => gCp_at hp (congrArg (m.2.1 8) (Nat.zero_add p).symm))
    · exact gRW_w (n8 ((gU_ne (by decide)).symm.trans q)) (fun p hp => rfl) (fun p hp => by rw [gCp_out (by omega)])
  · simp only [e, gq_10, ↓reduceIte, l2, m2, t20, t21, gGx (show 2 < 3 by decide) (by decide), nI_clamp (show 2 < 2 ^ 31 by decide), gnar1, Option.bind_some, gBo_1, gKeepM (show 2 < 3 by decide)]
    refine ⟨_, _, rfl, rfl, rfl, fin 2 _ _ _ _ (by decide) rfl (fun q => ?_) (fun q => ?_) (fun _ => ?_) _ _ rfl (fr 2 _ 2 (by decide)) rfl rfl rfl rfl rfl rfl rfl⟩
    · exact gRW_w (n6 ((gU_ne (by decide)).symm.trans q)) (fun p hp => rfl) (fun p hp => by rw [gCp_out (by omega)])
    · exact gRW_w (n7 ((gU_ne (by decide)).symm.trans q)) (fun p hp => rfl) (fun p hp => by rw [gCp_out (by omega)])
    · exact gRW_w n2 (fun p hp => gCpy hp) (fun p hp => gCp_at hp (congrArg (m.2.1 8) (Nat.zero_add p).symm))
theorem pp_again : lp_again gRel := by
  intro c m hR p0
  obtain ⟨S, T, n, h, hr⟩ := hR
  have no : gRel c (zI m 0 0) := gNo h hr
  obtain ⟨⟨n1, n2⟩, n3, n4, n5, n6, n7, n8⟩ := id h.2.1
  unfold f_X11_again f_X4_restore f_X12_again
  rw [gq_in_0_2]
  rcases gK3 (p := p0) with ⟨e, hp⟩ | e
  case inr =>
    rcases gRefB p0 e with q | ⟨q1, q2, q3⟩
    · simp only [e, ↓reduceIte, if_pos q, Option.bind_some, gBo_0]; exact ⟨_, _, rfl, rfl, rfl, no⟩
    · simp only [e, ↓reduceIte, if_neg q1, if_pos q3, Option.bind_some, gBo_0]; exact ⟨_, _, rfl, rfl, rfl, no⟩
  have fin : ∀ (k : Nat) (f : Nat → Int32), gRW f (m.2.1 31) (k * 4608) → gRel (zI (zA c 1 (va_cpy f (c.2.1 1) (Int32.toNatClampNeg 0) (Int32.toNatClampNeg 0) (Int32.toNatClampNeg 4608))) 2 (c.2.1 5 k)) (zI (zA (zI m 0 0) 8 (gCp 0 4608 (fun j => m.2.1 31 (k * 4608 + j)) (m.2.1 8))) 4 (m.2.1 32 k)) := by
    intro k f hf
    refine ⟨S, T, n, ⟨h.1, ⟨⟨?_, ?_⟩, n3, n4, n5, n6, n7, n8⟩, h.2.2.1, h.2.2.2.1, h.2.2.2.2.1, h.2.2.2.2.2.1, h.2.2.2.2.2.2⟩, hr⟩
    · show c.2.1 5 k = m.2.1 32 k
      rw [n5]
    · exact gRW_w hf (fun p hp => gCpy hp) (fun p hp => gCp_at (o := 0) (f := fun j => m.2.1 31 (k * 4608 + j)) hp rfl)
  have t01 : (nI 0 = (0 : Int32)) = True := by decide
  have t10 : (nI 1 = (0 : Int32)) = False := by decide
  have t20 : (nI 2 = (0 : Int32)) = False := by decide
  have t11 : (nI 1 = (1 : Int32)) = True := by decide
  have t21 : (nI 2 = (1 : Int32)) = False := by decide
  have l0 : (nI 0 < (0 : Int32)) = False := by decide
  have l1 : (nI 1 < (0 : Int32)) = False := by decide
  have l2 : (nI 2 < (0 : Int32)) = False := by decide
  have m0 : ((3 : Int32) ≤ nI 0) = False := by decide
  have m1 : ((3 : Int32) ≤ nI 1) = False := by decide
  have m2 : ((3 : Int32) ≤ nI 2) = False := by decide
  rcases hp with rfl | rfl | rfl
  · simp only [e, gq_10, ↓reduceIte, l0, m0, t01, gGx (show 0 < 3 by decide) (by decide), nI_clamp (show 0 < 2 ^ 31 by decide), ← n3, gAgainM (show 0 < 3 by decide)]
    rcases n4 0 with q | q
    · simp only [q, ↓reduceIte, Option.bind_some, gBo_0]; exact ⟨_, _, rfl, rfl, rfl, no⟩
    · simp only [q, gq_10, ↓reduceIte, Option.bind_some, gBo_1]
      exact ⟨_, _, rfl, rfl, rfl, fin 0 _ (n6 q)⟩
  · simp only [e, gq_10, ↓reduceIte, l1, m1, t10, t11, gGx (show 1 < 3 by decide) (by decide), nI_clamp (show 1 < 2 ^ 31 by decide), ← n3, gAgainM (show 1 < 3 by decide)]
    rcases n4 1 with q | q
    · simp only [q, ↓reduceIte, Option.bind_some, gBo_0]; exact ⟨_, _, rfl, rfl, rfl, no⟩
    · simp only [q, gq_10, ↓reduceIte, Option.bind_some, gBo_1]
      exact ⟨_, _, rfl, rfl, rfl, fin 1 _ (n7 q)⟩
  · simp only [e, gq_10, ↓reduceIte, l2, m2, t20, t21, gGx (show 2 < 3 by decide) (by decide), nI_clamp (show 2 < 2 ^ 31 by decide), ← n3, gAgainM (show 2 < 3 by decide)]
    rcases n4 2 with q | q
    · simp only [q, ↓reduceIte, Option.bind_some, gBo_0]; exact ⟨_, _, rfl, rfl, rfl, no⟩
    · simp only [q, gq_10, ↓reduceIte, Option.bind_some, gBo_1]
      exact ⟨_, _, rfl, rfl, rfl, fin 2 _ (n8 q)⟩
