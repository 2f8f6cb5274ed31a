theorem pp_lack : lp_lack gRel := by
  intro c m hR p0 p1 p2 hp2
  obtain ⟨S, T, n, h, hr⟩ := hR
  have no : gRel c (zI m 0 0) := gNo h hr
  obtain ⟨⟨a1, a2, a3, a4, a5, a6⟩, hb, hs, hg, ht, ht0, hl⟩ := id h.1
  unfold f_X11_lack f_X10_setLack f_X12_lack
  simp only [gL_sort (gRA_ag h.1 gaC_rf gaM_0), gL_week]
  rcases gS_sort h.1 p0 with ⟨e0, s, x1, x2⟩ | e0
  case inr => simp only [e0, ↓reduceIte, Option.bind_some, gBo_0]; exact ⟨_, _, rfl, rfl, rfl, no⟩
  rcases gS_week p1 with ⟨e1, w, y1, y2⟩ | e1
  case inr => simp only [e0, e1, gq_10, ↓reduceIte, Option.bind_some, gBo_0]; exact ⟨_, _, rfl, rfl, rfl, no⟩
  subst x2 y2
  have q : (12 : Int32) * nI s + nI w = nI (12 * s + w) := by rw [show (12 : Int32) = nI 12 from rfl, pk_mul, nI_add]
  have fin : ∀ (g : Int32) (z : Bool), (∀ i, i < 32 → bt g i = if i = w then z else bt (c.2.1 16 s) i) → ∀ v : Int32, v = (if z then 1 else 0) → gRel (zA c 16 (upd (c.2.1 16) s g)) (zA (zI m 0 0) 7 (upd (m.2.1 7) (12 * s + w) v)) := by
    intro g z hgz v hv
    refine ⟨S, T, n, ⟨⟨⟨a1, a2, a3, a4, a5, a6⟩, hb, hs, hg, ht, ht0, fun s' w' h1 h2 => ?_⟩, h.2.1, h.2.2.1, h.2.2.2.1, h.2.2.2.2.1, h.2.2.2.2.2.1, h.2.2.2.2.2.2⟩, hr⟩
    show upd (m.2.1 7) (12 * s + w) v (12 * s' + w') = (jShr (upd (c.2.1 16) s g s') (nI w')) &&& 1
    by_cases e : s' = s
    · subst e
      rw [gU_eq rfl, gb_shr _ (by omega), hgz w' (by omega)]
      by_cases e2 : w' = w
      · subst e2
        rw [gU_eq rfl, if_pos rfl, hv]
      · rw [gU_ne (by omega), if_neg e2, hl s' w' h1 h2, gb_shr _ (by omega)]
    · rw [gU_ne (by omega), gU_ne e]
      exact hl s' w' h1 h2
  simp only [e0, e1, gq_10, ↓reduceIte, gGx (show s < 8 by omega) (by decide), q, gGx (show 12 * s + w < 96 by omega) (by decide), nI_clamp (show s < 2 ^ 31 by omega), nI_clamp (show 12 * s + w < 2 ^ 31 by omega)]
  rcases hp2 with rfl | rfl
  · simp only [↓reduceIte, Option.bind_some, gBo_1]
    exact ⟨_, _, rfl, rfl, rfl, fin _ false (fun i hi => by rw [gb_clr _ (by omega) hi]; by_cases e : i = w <;> simp [e]) _ rfl⟩
  · simp only [gq_10, ↓reduceIte, Option.bind_some, gBo_1]
    exact ⟨_, _, rfl, rfl, rfl, fin _ true (fun i hi => by rw [gb_set _ (by omega) hi]; by_cases e : i = w <;> simp [e]) _ rfl⟩
theorem gSum_upd (v : Nat → Nat) (k : Nat) {n j : Nat} (h : j < n) : ((List.range n).map (fun i => if i = j then v i + k else v i)).sum = ((List.range n).map v).sum + k := by
  have h0 : ∀ n, n ≤ j → (List.range n).map (fun i => if i = j then v i + k else v i) = (List.range n).map v := by
    intro n hn
    apply List.map_congr_left
    intro i hi
    rw [List.mem_range] at hi
    rw [if_neg (by omega)]
  induction n with
  | zero => omega
  | succ n ih =>
    rw [List.range_succ, List.map_append, List.map_append, List.sum_append, List.sum_append]
    simp only [List.map_cons, List.map_nil, List.sum_cons, List.sum_nil]
    by_cases e : j = n
    · subst e
      rw [h0 j (Nat.le_refl _), if_pos rfl]
      omega
    · rw [ih (by omega), if_neg (fun q => e q.symm)]
      omega
theorem pp_twice : lp_twice gRel := by
  intro c m hR p0 p1 p2
  obtain ⟨S, T, n, h, hr⟩ := hR
  have no : gRel c (zI m 0 0) := gNo h hr
  have hS := h.1.1.1
  obtain ⟨P, v, k1, k2, k3, k4, k5, k6, k7⟩ := id h.2.2.2.1
  unfold f_X11_twice f_X7_add f_X12_twice
  simp only [gL_sort (gRA_ag h.1 gaC_rf gaM_0), gq_in_1_99]
  rcases gS_sort h.1 p0 with ⟨e0, s, x1, x2⟩ | e0
  case inr => simp only [e0, ↓reduceIte, Option.bind_some]; exact ⟨_, _, rfl, rfl, rfl, no⟩
  rcases gS_sort h.1 p1 with ⟨e1, o, y1, y2⟩ | e1
  case inr => simp only [e0, e1, gq_10, ↓reduceIte, Option.bind_some]; exact ⟨_, _, rfl, rfl, rfl, no⟩
  rcases gS_btw (p := p2) (a := 1) (b := 99) 1 99 rfl rfl (by decide) (by decide) with ⟨e2, z, z0, z1, z2⟩ | e2
  case inr => simp only [e0, e1, e2, gq_10, ↓reduceIte, Option.bind_some]; exact ⟨_, _, rfl, rfl, rfl, no⟩
  subst x2 y2 z2
  have q : (8 : Int32) * nI s + nI o = nI (8 * s + o) := by rw [show (8 : Int32) = nI 8 from rfl, pk_mul, nI_add]
  have q2 : nI s * (8 : Int32) + nI o = nI (8 * s + o) := by rw [show (8 : Int32) = nI 8 from rfl, pk_mul, nI_add, Nat.mul_comm]
  have l1 : (nI (P + z) ≤ (9999 : Int32)) = (P + z ≤ 9999) := propext (nI_leI (b := 9999) (by omega) (by decide))
  simp only [e0, e1, e2, gq_10, ↓reduceIte, q, q2, k2, k3, nI_add, l1]
  by_cases hw : P + z ≤ 9999
  case neg => simp only [if_neg hw, Option.bind_some]; exact ⟨_, _, rfl, rfl, rfl, no⟩
  have hi : 8 * s + o < 64 := by omega
  simp only [if_pos hw, gGx hi (by decide), Option.bind_some, nI_clamp (show 8 * s + o < 2 ^ 31 by omega)]
  refine ⟨_, _, rfl, rfl, rfl, S, T, n, ⟨h.1, h.2.1, h.2.2.1, ⟨P + z, fun i => if i = 8 * s + o then v i + z else v i, hw, rfl, rfl, ?_, fun i hi2 => ?_, ?_, fun a b ha hb hab => ?_⟩, h.2.2.2.2.1, h.2.2.2.2.2.1, h.2.2.2.2.2.2⟩, hr⟩
  · show upd (c.2.1 22) (8 * s + o) (c.2.1 22 (8 * s + o) + nI z) = upd (m.2.1 21) (8 * s + o) (m.2.1 21 (8 * s + o) + nI z)
    rw [k4]
  · show upd (c.2.1 22) (8 * s + o) (c.2.1 22 (8 * s + o) + nI z) i = nI (if i = 8 * s + o then v i + z else v i)
    by_cases e : i = 8 * s + o
    · rw [gU_eq e, if_pos e, ← e, k5 i hi2, nI_add]
    · rw [gU_ne e, if_neg e, k5 i hi2]
  · rw [gSum_upd v z hi, k6]
  · show (if 8 * a + b = 8 * s + o then _ else _) = 0
    rw [if_neg (by omega)]
    exact k7 a b ha hb hab
theorem pp_end : lp_end gRel := by
  intro c m hR p0
  obtain ⟨S, T, n, h, hr⟩ := hR
  have no : gRel c (zI m 0 0) := gNo h hr
  obtain ⟨N, h1, h2, h3, h4, h5⟩ := id h.2.2.1
  unfold f_X11_end f_X9_cut f_X12_end
  rw [show (0 : Int64) = Int32.toInt64 0 from rfl, gq_in, h2, h3]
  rcases gS_btw (p := p0) (a := 0) (b := nI N) 0 N rfl rfl (by decide) (by omega) with ⟨e, v, -, v1, rfl⟩ | e
  · rw [e, if_neg (nI_pos (by omega)), if_pos (nI_le v1 (by omega))]
    simp only [gq_10, ↓reduceIte, Option.bind_some, gBo_1]
    exact ⟨_, _, rfl, rfl, rfl, S, T, n, ⟨h.1, h.2.1, ⟨v, by omega, rfl, rfl, h4, h5⟩, h.2.2.2.1, h.2.2.2.2.1, h.2.2.2.2.2.1, h.2.2.2.2.2.2⟩, hr⟩
  · rw [e]
    have e2 : (if p0 < 0 then some (c, (0 : Int32)) else if p0 ≤ nI N then some (zI c 1 p0, 1) else some (c, 0)) = some (c, 0) := by
      unfold f_X11_between at e
      by_cases q : p0 < 0
      · rw [if_pos q]
      · rw [if_neg q] at e ⊢
        by_cases q2 : nI N < p0
        · rw [if_neg (by rw [Int32.not_le]; exact q2)]
        · rw [if_neg q2] at e; exact absurd e (by decide)
    rw [e2]
    simp only [↓reduceIte, Option.bind_some, gBo_0]
    exact ⟨_, _, rfl, rfl, rfl, no⟩
theorem gFu5 : ∃ k, zFu = k + 1 + 1 + 1 + 1 + 1 := ⟨9995, by rw [zFu_eq]⟩
theorem pp_sign : lp_sign gRel := by
  intro c m hR p0
  obtain ⟨S, T, n, h, hr⟩ := hR
  have no : gRel c (zI m 0 0) := gNo h hr
  obtain ⟨N, h1, h2, h3, h4, h5⟩ := id h.2.2.1
  have l1 : (nI N ≤ (56 : Int32)) = (N ≤ 56) := propext (nI_leI (b := 56) (by omega) (by decide))
  unfold f_X11_sign f_X9_append f_X12_sign
  simp only [h2, h3, l1]
  by_cases hN : N ≤ 56
  case neg => simp only [if_neg hN, Option.bind_some]; exact ⟨_, _, rfl, rfl, rfl, no⟩
  simp only [if_pos hN]
  obtain ⟨fu, hfu⟩ := gFu5
  have t1 : (24 : Int32) + -8 = 16 := by decide
  have t2 : (16 : Int32) + -8 = 8 := by decide
  have t3 : (8 : Int32) + -8 = 0 := by decide
  have t4 : (0 : Int32) + -8 = -8 := by decide
  have t5 : ((24 : Int32) < 0) = False := by decide
  have t6 : ((16 : Int32) < 0) = False := by decide
  have t7 : ((8 : Int32) < 0) = False := by decide
  have t8 : ((0 : Int32) < 0) = False := by decide
  have t9 : ((-8 : Int32) < 0) = True := by decide
  have z0 : ∀ (σ : Zst) (x : Int32) (f : Nat → Int32) (k : Nat), (zI (zA σ k f) 1 x).1 1 = x := fun _ _ _ _ => rfl
  have z1 : ∀ (σ : Zst) (x : Int32) (f : Nat → Int32), (zI (zA σ 0 f) 1 x).2.1 0 = f := fun _ _ _ => rfl
  have hc : L_X9_append_14 p0 zFu c 24 = some (zI (zA (zI (zA (zI (zA (zI (zA c 0 (upd (c.2.1 0) N (jUshr p0 24 &&& 255))) 1 (nI (N + 1))) 0 (upd (upd (c.2.1 0) N (jUshr p0 24 &&& 255)) (N + 1) (jUshr p0 16 &&& 255))) 1 (nI (N + 1 + 1))) 0 (upd (upd (upd (c.2.1 0) N (jUshr p0 24 &&& 255)) (N + 1) (jUshr p0 16 &&& 255)) (N + 1 + 1) (jUshr p0 8 &&& 255))) 1 (nI (N + 1 + 1 + 1))) 0 (upd (upd (upd (upd (c.2.1 0) N (jUshr p0 24 &&& 255)) (N + 1) (jUshr p0 16 &&& 255)) (N + 1 + 1) (jUshr p0 8 &&& 255)) (N + 1 + 1 + 1) (jUshr p0 0 &&& 255))) 1 (nI (N + 1 + 1 + 1 + 1)), nI (N + 1 + 1 + 1 + 1)) := by
    rw [hfu]
    simp only [L_X9_append_14, t1, t2, t3, t4, t5, t6, t7, t8, t9, ↓reduceIte, h2, z0, z1, nI_1, gGx (show N < 60 by omega) (by decide), gGx (show N + 1 < 60 by omega) (by decide), gGx (show N + 1 + 1 < 60 by omega) (by decide), gGx (show N + 1 + 1 + 1 < 60 by omega) (by decide), nI_clamp (show N < 2 ^ 31 by omega), nI_clamp (show N + 1 < 2 ^ 31 by omega), nI_clamp (show N + 1 + 1 < 2 ^ 31 by omega), nI_clamp (show N + 1 + 1 + 1 < 2 ^ 31 by omega)]
  have u1 : (0 : Int32) + 1 = 1 := by decide
  have u2 : (1 : Int32) + 1 = 2 := by decide
  have u3 : (2 : Int32) + 1 = 3 := by decide
  have u4 : (3 : Int32) + 1 = 4 := by decide
  have u5 : ((4 : Int32) ≤ 0) = False := by decide
  have u6 : ((4 : Int32) ≤ 1) = False := by decide
  have u7 : ((4 : Int32) ≤ 2) = False := by decide
  have u8 : ((4 : Int32) ≤ 3) = False := by decide
  have u9 : ((4 : Int32) ≤ 4) = True := by decide
  have i0 : nI N + 0 = nI N := by rw [show (0 : Int32) = nI 0 from rfl, nI_add]; rfl
  have i1 : nI N + 1 = nI (N + 1) := nI_1 N
  have i2 : nI N + 2 = nI (N + 1 + 1) := by rw [show (2 : Int32) = nI 2 from rfl, nI_add]
  have i3 : nI N + 3 = nI (N + 1 + 1 + 1) := by rw [show (3 : Int32) = nI 3 from rfl, nI_add]
  have i4 : nI N + 4 = nI (N + 1 + 1 + 1 + 1) := by rw [show (4 : Int32) = nI 4 from rfl, nI_add]
  have y0 : ∀ (σ : Zst) (f : Nat → Int32) (k : Nat), (zA σ k f).1 5 = σ.1 5 := fun _ _ _ => rfl
  have y1 : ∀ (σ : Zst) (f : Nat → Int32), (zA σ 12 f).2.1 12 = f := fun _ _ => rfl
  have y2 : (zI m 0 0).1 5 = nI N := h3
  have y3 : (zI m 0 0).2.1 12 = m.2.1 12 := rfl
  have s1 : (24 : Int32) - 8 * 0 = 24 := by decide
  have s2 : (24 : Int32) - 8 * 1 = 16 := by decide
  have s3 : (24 : Int32) - 8 * 2 = 8 := by decide
  have s4 : (24 : Int32) - 8 * 3 = 0 := by decide
  have hm : L_X12_sign_18 (fun σ1 => J_X12_sign_53 σ1) p0 zFu (zI m 0 0) 0 = some (zI (zA (zA (zA (zA (zI m 0 0) 12 (upd (m.2.1 12) N (jShr p0 24 &&& 255))) 12 (upd (upd (m.2.1 12) N (jShr p0 24 &&& 255)) (N + 1) (jShr p0 16 &&& 255))) 12 (upd (upd (upd (m.2.1 12) N (jShr p0 24 &&& 255)) (N + 1) (jShr p0 16 &&& 255)) (N + 1 + 1) (jShr p0 8 &&& 255))) 12 (upd (upd (upd (upd (m.2.1 12) N (jShr p0 24 &&& 255)) (N + 1) (jShr p0 16 &&& 255)) (N + 1 + 1) (jShr p0 8 &&& 255)) (N + 1 + 1 + 1) (jShr p0 0 &&& 255))) 5 (nI (N + 1 + 1 + 1 + 1)), nI (N + 1 + 1 + 1 + 1)) := by
    rw [hfu]
    simp only [L_X12_sign_18, J_X12_sign_53, u1, u2, u3, u4, u5, u6, u7, u8, u9, ↓reduceIte, y0, y1, y2, y3, i0, i1, i2, i3, i4, s1, s2, s3, s4, gGx (show N < 60 by omega) (by decide), gGx (show N + 1 < 60 by omega) (by decide), gGx (show N + 1 + 1 < 60 by omega) (by decide), gGx (show N + 1 + 1 + 1 < 60 by omega) (by decide), nI_clamp (show N < 2 ^ 31 by omega), nI_clamp (show N + 1 < 2 ^ 31 by omega), nI_clamp (show N + 1 + 1 < 2 ^ 31 by omega), nI_clamp (show N + 1 + 1 + 1 < 2 ^ 31 by omega)]
  rw [hc, hm]
  have b24 : jUshr p0 24 &&& 255 = jShr p0 24 &&& 255 := gb_byte p0 (w := 24) (by decide)
  have b16 : jUshr p0 16 &&& 255 = jShr p0 16 &&& 255 := gb_byte p0 (w := 16) (by decide)
  have b8 : jUshr p0 8 &&& 255 = jShr p0 8 &&& 255 := gb_byte p0 (w := 8) (by decide)
  have b0 : jUshr p0 0 &&& 255 = jShr p0 0 &&& 255 := gb_byte p0 (w := 0) (by decide)
  rw [Option.bind_some]
  refine ⟨_, _, rfl, rfl, rfl, S, T, n, ⟨h.1, h.2.1, ⟨N + 4, by omega, rfl, rfl, ?_, fun i => ?_⟩, h.2.2.2.1, h.2.2.2.2.1, h.2.2.2.2.2.1, h.2.2.2.2.2.2⟩, hr⟩
  · show upd (upd (upd (upd (c.2.1 0) _ _) _ _) _ _) _ _ = upd (upd (upd (upd (m.2.1 12) _ _) _ _) _ _) _ _
    rw [h4, b24, b16, b8, b0]
  · show ∃ v : Nat, v < 256 ∧ upd (upd (upd (upd (c.2.1 0) _ _) _ _) _ _) _ _ i = nI v
    have hv : ∀ x : Int32, ∃ v : Nat, v < 256 ∧ x &&& 255 = nI v := fun x => pk_andE x (m := 255) 8 (by decide)
    unfold upd
    split
    · exact hv _
    · split
      · exact hv _
      · split
        · exact hv _
        · split
          · exact hv _
          · exact h5 i
