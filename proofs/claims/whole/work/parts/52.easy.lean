theorem gNo {S T n : Nat} {c m : Zst} (h : gCor S T c m) (hr : gRR n c m) : gRel c (zI m 0 0) := ⟨S, T, n, gCor_ag h gaC_rf gaM_0, hr⟩
theorem gU_eq {f : Nat → Int32} {k j : Nat} {x : Int32} (h : j = k) : upd f k x j = x := if_pos h
theorem gU_ne {f : Nat → Int32} {k j : Nat} {x : Int32} (h : ¬ j = k) : upd f k x j = f j := if_neg h
theorem gGx {n j : Nat} (h : j < n) (hn : n < 2 ^ 31) : ∀ {α : Type} (k : Option α), gIx (nI j) n k = k := fun _ => gIx_ok rfl h hn
theorem gK_up {S S' : Nat} {c m : Zst} (h : gRK S c m) (hS : S ≤ S') : gRK S' c m := by
  obtain ⟨P, v, h1, h2, h3, h4, h5, h6, h7⟩ := h
  exact ⟨P, v, h1, h2, h3, h4, h5, h6, fun a b ha hb hab => h7 a b ha hb (by omega)⟩
theorem pp_sort : lp_sort gRel := by
  intro c m hR p0 p1 p2
  obtain ⟨S, T, n, h, hr⟩ := hR
  have no : gRel c (zI m 0 0) := gNo h hr
  obtain ⟨⟨a1, a2, a3, a4, a5, a6⟩, ⟨b0, b1, b2, b3, b4, b5, b6⟩, hs, hg, ht, ht0, hl⟩ := id h.1
  unfold f_X11_sort f_X10_addSort f_X12_sort
  simp only [gq_in_1_100, gq_in_m5_5]
  rcases gS_btw (p := p0) (a := 1) (b := 100) 1 100 rfl rfl (by decide) (by decide) with ⟨e0, x, x1, x2, x3⟩ | e0
  case inr => simp only [e0, ↓reduceIte, Option.bind_some]; exact ⟨_, _, rfl, rfl, rfl, no⟩
  rcases gq_btw p1 (-5) 5 with ⟨e1, y1, y2⟩ | ⟨e1, -⟩
  case inr => simp only [e0, e1, gq_10, ↓reduceIte, Option.bind_some]; exact ⟨_, _, rfl, rfl, rfl, no⟩
  rcases gS_btw (p := p2) (a := 1) (b := 100) 1 100 rfl rfl (by decide) (by decide) with ⟨e2, z, z1, z2, z3⟩ | e2
  case inr => simp only [e0, e1, e2, gq_10, ↓reduceIte, Option.bind_some]; exact ⟨_, _, rfl, rfl, rfl, no⟩
  have l1 : (nI S < (8 : Int32)) = (S < 8) := propext (nI_ltI (b := 8) (by omega) (by decide))
  have l2 : (nI S = (8 : Int32)) = (S = 8) := propext (nI_eq (b := 8) (by omega) (by decide))
  simp only [e0, e1, e2, gq_10, ↓reduceIte, a3, a4, l1, l2]
  by_cases hS : S < 8
  case neg => simp only [if_neg hS, if_pos (show S = 8 by omega), Option.bind_some]; exact ⟨_, _, rfl, rfl, rfl, no⟩
  simp only [if_pos hS, if_neg (show ¬ S = 8 by omega), gGx hS (by decide), Option.bind_some, nI_clamp (show S < 2 ^ 31 by omega), nI_1, nI_pred]
  refine ⟨_, _, rfl, rfl, rfl, S + 1, T, n, ⟨?_, h.2.1, h.2.2.1, gK_up h.2.2.2.1 (Nat.le_succ S), h.2.2.2.2.1, h.2.2.2.2.2.1, h.2.2.2.2.2.2⟩, hr⟩
  have y1 : -5 ≤ p1.toInt := y1
  have y2 : p1.toInt ≤ 5 := y2
  refine ⟨⟨hS, a2, rfl, rfl, a5, a6⟩, ⟨?_, ?_, ?_, b3, b4, b5, b6⟩, fun s hs1 => ?_, hg, ht, ht0, hl⟩
  · show upd (m.2.1 0) S p0 = upd (c.2.1 10) S p0
    rw [b0]
  · show upd (m.2.1 1) S p1 = upd (c.2.1 11) S p1
    rw [b1]
  · show upd (m.2.1 2) S p2 = upd (c.2.1 12) S p2
    rw [b2]
  · show ∃ x r y : Nat, 1 ≤ x ∧ x ≤ 100 ∧ r ≤ 10 ∧ 1 ≤ y ∧ y ≤ 100 ∧ upd (c.2.1 10) S p0 s = nI x ∧ upd (c.2.1 11) S p1 s = nI r - 5 ∧ upd (c.2.1 12) S p2 s = nI y
    by_cases e : s = S
    · refine ⟨x, (p1.toInt + 5).toNat, z, x1, x2, by omega, z1, z2, (gU_eq e).trans x3, (gU_eq e).trans ?_, (gU_eq e).trans z3⟩
      apply Int32.toInt_inj.mp
      rw [show (5 : Int32) = nI 5 from rfl, pk_sub_toInt (by omega) (by decide)]
      omega
    · rw [gU_ne e, gU_ne e, gU_ne e]
      exact hs s (by omega)
theorem pp_seed : lp_seed gRel := by
  intro c m hR p0
  obtain ⟨S, T, n, h, hr⟩ := hR
  refine ⟨_, _, rfl, rfl, h.2.1.1.1, S, T, n, ⟨h.1, ⟨⟨rfl, h.2.1.1.2⟩, h.2.1.2⟩, h.2.2.1, h.2.2.2.1, h.2.2.2.2.1, h.2.2.2.2.2.1, h.2.2.2.2.2.2⟩, hr⟩
theorem pp_street : lp_street gRel := by
  intro c m hR p0
  obtain ⟨S, T, n, h, hr⟩ := hR
  have no : gRel c (zI m 0 0) := gNo h hr
  obtain ⟨⟨a1, a2, a3, a4, a5, a6⟩, ⟨b0, b1, b2, b3, b4, b5, b6⟩, hs, hg, ht, ht0, hl⟩ := id h.1
  unfold f_X11_street f_X10_addStreet f_X12_street
  simp only [gq_in_1_100]
  rcases gS_btw (p := p0) (a := 1) (b := 100) 1 100 rfl rfl (by decide) (by decide) with ⟨e0, x, x1, x2, x3⟩ | e0
  case inr => simp only [e0, ↓reduceIte, Option.bind_some]; exact ⟨_, _, rfl, rfl, rfl, no⟩
  have l1 : (nI T < (8 : Int32)) = (T < 8) := propext (nI_ltI (b := 8) (by omega) (by decide))
  have l2 : (nI T = (8 : Int32)) = (T = 8) := propext (nI_eq (b := 8) (by omega) (by decide))
  simp only [e0, gq_10, ↓reduceIte, a5, a6, l1, l2]
  by_cases hS : T < 8
  case neg => simp only [if_neg hS, if_pos (show T = 8 by omega), Option.bind_some]; exact ⟨_, _, rfl, rfl, rfl, no⟩
  simp only [if_pos hS, if_neg (show ¬ T = 8 by omega), gGx hS (by decide), Option.bind_some, nI_clamp (show T < 2 ^ 31 by omega), nI_1, nI_pred]
  refine ⟨_, _, rfl, rfl, rfl, S, T + 1, n, ⟨?_, h.2.1, h.2.2.1, h.2.2.2.1, h.2.2.2.2.1, h.2.2.2.2.2.1, h.2.2.2.2.2.2⟩, hr⟩
  refine ⟨⟨a1, hS, a3, a4, rfl, rfl⟩, ⟨b0, b1, b2, b3, b4, b5, ?_⟩, hs, hg, fun s hs1 => ?_, fun s hs1 => ht0 s (by omega), hl⟩
  · show upd (m.2.1 6) T p0 = upd (c.2.1 17) T p0
    rw [b6]
  · show ∃ v : Nat, v ≤ 12 ∧ upd (c.2.1 18) T (-1) s = nI v - 1 ∧ m.2.1 29 s = nI v
    by_cases e : s = T
    · exact ⟨0, by decide, (gU_eq e).trans rfl, ht0 s (by omega)⟩
    · rw [gU_ne e]
      exact ht s (by omega)
theorem pp_goes : lp_goes gRel := by
  intro c m hR p0 p1 p2 p3
  obtain ⟨S, T, n, h, hr⟩ := hR
  have no : gRel c (zI m 0 0) := gNo h hr
  obtain ⟨⟨a1, a2, a3, a4, a5, a6⟩, ⟨b0, b1, b2, b3, b4, b5, b6⟩, hs, hg, ht, ht0, hl⟩ := id h.1
  unfold f_X11_goes f_X10_setGone f_X12_goes
  simp only [gq_in_0_100, gL_sort (gRA_ag h.1 gaC_rf gaM_0)]
  rcases gS_sort h.1 p0 with ⟨e0, s0, x1, x2⟩ | e0
  case inr => simp only [e0, ↓reduceIte, Option.bind_some, gBo_0]; exact ⟨_, _, rfl, rfl, rfl, no⟩
  rcases gS_btw (p := p1) (a := 0) (b := 100) 0 100 rfl rfl (by decide) (by decide) with ⟨e1, y, -, y1, y2⟩ | e1
  case inr => simp only [e0, e1, gq_10, ↓reduceIte, Option.bind_some, gBo_0]; exact ⟨_, _, rfl, rfl, rfl, no⟩
  rcases gS_btw (p := p2) (a := 0) (b := 100) 0 100 rfl rfl (by decide) (by decide) with ⟨e2, z, -, z1, z2⟩ | e2
  case inr => simp only [e0, e1, e2, gq_10, ↓reduceIte, Option.bind_some, gBo_0]; exact ⟨_, _, rfl, rfl, rfl, no⟩
  rcases gS_btw (p := p3) (a := 0) (b := 100) 0 100 rfl rfl (by decide) (by decide) with ⟨e3, w, -, w1, w2⟩ | e3
  case inr => simp only [e0, e1, e2, e3, gq_10, ↓reduceIte, Option.bind_some, gBo_0]; exact ⟨_, _, rfl, rfl, rfl, no⟩
  subst x2 y2 z2 w2
  have l1 : (nI (y + z + w) ≤ (100 : Int32)) = (y + z + w ≤ 100) := propext (nI_leI (b := 100) (by omega) (by decide))
  simp only [e0, e1, e2, e3, gq_10, ↓reduceIte, nI_add, l1]
  by_cases hw : y + z + w ≤ 100
  case neg => simp only [if_neg hw, Option.bind_some, gBo_0]; exact ⟨_, _, rfl, rfl, rfl, no⟩
  simp only [if_pos hw, gGx (show s0 < 8 by omega) (by decide), Option.bind_some, nI_clamp (show s0 < 2 ^ 31 by omega), gBo_1]
  refine ⟨_, _, rfl, rfl, rfl, S, T, n, ⟨?_, h.2.1, h.2.2.1, h.2.2.2.1, h.2.2.2.2.1, h.2.2.2.2.2.1, h.2.2.2.2.2.2⟩, hr⟩
  refine ⟨⟨a1, a2, a3, a4, a5, a6⟩, ⟨b0, b1, b2, ?_, ?_, ?_, b6⟩, hs, fun s hs1 => ?_, ht, ht0, hl⟩
  · show upd (m.2.1 3) s0 (nI y) = upd (c.2.1 13) s0 (nI y)
    rw [b3]
  · show upd (m.2.1 4) s0 (nI z) = upd (c.2.1 14) s0 (nI z)
    rw [b4]
  · show upd (m.2.1 5) s0 (nI w) = upd (c.2.1 15) s0 (nI w)
    rw [b5]
  · show ∃ x y' z' : Nat, x + y' + z' ≤ 100 ∧ upd (c.2.1 13) s0 (nI y) s = nI x ∧ upd (c.2.1 14) s0 (nI z) s = nI y' ∧ upd (c.2.1 15) s0 (nI w) s = nI z'
    by_cases e : s = s0
    · exact ⟨y, z, w, hw, gU_eq e, gU_eq e, gU_eq e⟩
    · rw [gU_ne e, gU_ne e, gU_ne e]
      exact hg s hs1
theorem pp_told : lp_told gRel := by
  intro c m hR p0 p1
  obtain ⟨S, T, n, h, hr⟩ := hR
  have no : gRel c (zI m 0 0) := gNo h hr
  obtain ⟨⟨a1, a2, a3, a4, a5, a6⟩, hb, hs, hg, ht, ht0, hl⟩ := id h.1
  have fin : ∀ (t v : Nat), t < T → v ≤ 12 → gRel (zA c 18 (upd (c.2.1 18) t (nI v - 1))) (zA (zI m 0 0) 29 (upd (m.2.1 29) t (nI v))) := by
    intro t v h1 h2
    refine ⟨S, T, n, ⟨⟨⟨a1, a2, a3, a4, a5, a6⟩, hb, hs, hg, fun s hs1 => ?_, fun s hs1 => ?_, hl⟩, h.2.1, h.2.2.1, h.2.2.2.1, h.2.2.2.2.1, h.2.2.2.2.2.1, h.2.2.2.2.2.2⟩, hr⟩
    · show ∃ w : Nat, w ≤ 12 ∧ upd (c.2.1 18) t (nI v - 1) s = nI w - 1 ∧ upd (m.2.1 29) t (nI v) s = nI w
      by_cases e : s = t
      · exact ⟨v, h2, gU_eq e, gU_eq e⟩
      · rw [gU_ne e, gU_ne e]
        exact ht s hs1
    · show upd (m.2.1 29) t (nI v) s = 0
      rw [gU_ne (by omega)]
      exact ht0 s hs1
  unfold f_X11_told f_X10_setTold f_X12_told
  simp only [gq_in_m1_11, gL_street (gRA_ag h.1 gaC_rf gaM_0)]
  rcases gS_street h.1 p0 with ⟨e0, s0, x1, x2⟩ | e0
  case inr => simp only [e0, ↓reduceIte, Option.bind_some, gBo_0]; exact ⟨_, _, rfl, rfl, rfl, no⟩
  subst x2
  simp only [e0, gq_10, ↓reduceIte, gGx (show s0 < 8 by omega) (by decide), nI_clamp (show s0 < 2 ^ 31 by omega)]
  rcases gq_btw p1 (-1) 11 with ⟨e1, y1, y2⟩ | ⟨e1, y1⟩
  · have y1 : -1 ≤ p1.toInt := y1
    have y2 : p1.toInt ≤ ((11 : Nat) : Int) := y2
    obtain ⟨v, hv, rfl⟩ := gq_nat1 y1 y2 (by decide)
    have hm : nI v - 1 + 1 = nI v := Int32.sub_add_cancel _ _
    simp only [e1, gq_10, ↓reduceIte, hm]
    by_cases h0 : nI v - 1 = -1
    · simp only [if_pos h0, Option.bind_some, gBo_1]
      exact ⟨_, _, rfl, rfl, rfl, fin s0 v x1 hv⟩
    · have h1 : f_X11_isWeek (nI v - 1) = 1 := by
        rcases gq_btw (nI v - 1) 0 11 with ⟨q, -⟩ | ⟨-, q⟩
        · exact q
        · refine absurd ⟨?_, y2⟩ q
          have h2 : ¬ (nI v - 1).toInt = -1 := fun q => h0 (Int32.toInt_inj.mp (q.trans (by decide)))
          show (0 : Int) ≤ _
          omega
      simp only [if_neg h0, h1, gq_10, ↓reduceIte, Option.bind_some, gBo_1]
      exact ⟨_, _, rfl, rfl, rfl, fin s0 v x1 hv⟩
  · have h0 : ¬ p1 = -1 := fun q => y1 (by subst q; decide)
    have h1 : f_X11_isWeek p1 = 0 := by
      rcases gq_btw p1 0 11 with ⟨-, q1, q2⟩ | ⟨q, -⟩
      · have q1 : (0 : Int) ≤ p1.toInt := q1
        refine absurd ⟨?_, q2⟩ y1
        show (-1 : Int) ≤ _
        omega
      · exact q
    simp only [e1, if_neg h0, h1, ↓reduceIte, Option.bind_some, gBo_0]
    exact ⟨_, _, rfl, rfl, rfl, no⟩
theorem pp_get : lp_get gRel := by
  intro c m hR p0 p1 p2
  obtain ⟨S, T, n, h, hr⟩ := hR
  have no : gRel c (zI m 0 0) := gNo h hr
  have h' : gCor S T c (zI m 0 0) := gCor_ag h gaC_rf gaM_0
  have hT := h.1.1.2.1
  have hS := h.1.1.1
  unfold f_X11_get f_X10_hasNumber f_X12_get
  simp only [gL_kind, gL_cell h'.1, gL_sort h'.1]
  rcases gS_kind p0 with ⟨e0, k, x1, x2⟩ | e0
  case inr => simp only [e0, ↓reduceIte]; exact ⟨_, _, rfl, rfl, rfl, no⟩
  rcases gS_cell h.1 p1 with ⟨e1, j, y1, y2⟩ | e1
  case inr => simp only [e0, e1, gq_10, ↓reduceIte]; exact ⟨_, _, rfl, rfl, rfl, no⟩
  rcases gS_sort h.1 p2 with ⟨e2, s, z1, z2⟩ | e2
  case inr => simp only [e0, e1, e2, gq_10, ↓reduceIte]; exact ⟨_, _, rfl, rfl, rfl, no⟩
  simp only [e0, e1, e2, gq_10, ↓reduceIte, gL_of h.2.1 k j s x2 y2 z2 x1 (by omega) (by omega), gL_at (m := zI m 0 0) k j s x2 y2 z2 x1 (by omega) (by omega), Option.bind_some]
  exact ⟨_, _, rfl, rfl, rfl, no⟩
theorem pp_put : lp_put gRel := by
  intro c m hR p0 p1 p2 p3
  obtain ⟨S, T, n, h, hr⟩ := hR
  have no : gRel c (zI m 0 0) := gNo h hr
  have h' : gCor S T c (zI m 0 0) := gCor_ag h gaC_rf gaM_0
  have hT := h.1.1.2.1
  have hS := h.1.1.1
  unfold f_X11_put f_X10_hasNumber f_X12_put
  simp only [gL_kind, gL_cell h'.1, gL_sort h'.1, gq_in_m1_999]
  rcases gS_kind p0 with ⟨e0, k, x1, x2⟩ | e0
  case inr => simp only [e0, ↓reduceIte]; exact ⟨_, _, rfl, rfl, rfl, no⟩
  rcases gS_cell h.1 p1 with ⟨e1, j, y1, y2⟩ | e1
  case inr => simp only [e0, e1, gq_10, ↓reduceIte]; exact ⟨_, _, rfl, rfl, rfl, no⟩
  rcases gS_sort h.1 p2 with ⟨e2, s, z1, z2⟩ | e2
  case inr => simp only [e0, e1, e2, gq_10, ↓reduceIte]; exact ⟨_, _, rfl, rfl, rfl, no⟩
  rcases gq_btw p3 (-1) 999 with ⟨e3, w1, w2⟩ | ⟨e3, -⟩
  case inr => simp only [e0, e1, e2, e3, gq_10, ↓reduceIte]; exact ⟨_, _, rfl, rfl, rfl, no⟩
  have w1 : -1 ≤ p3.toInt := w1
  have w2 : p3.toInt ≤ ((999 : Nat) : Int) := w2
  obtain ⟨v, hv, rfl⟩ := gq_nat1 w1 w2 (by decide)
  have hp := gP_lt x1 (show j < 96 by omega) (show s < 8 by omega)
  have q := gL_pl k j s x2 y2 z2 x1 (by omega) (by omega)
  unfold f_X4_change f_X12_sets
  simp only [e0, e1, e2, e3, gq_10, ↓reduceIte, gL_of h.2.1 k j s x2 y2 z2 x1 (by omega) (by omega), gL_at (m := zI m 0 0) k j s x2 y2 z2 x1 (by omega) (by omega), Option.bind_some, q.1, q.2, if_neg (nI_pos (show gP k j s < 2 ^ 31 by omega)), if_neg (show ¬ (4608 : Int32) ≤ nI (gP k j s) from nI_ge (b := 4608) hp (by decide)), gGx hp (by decide), nI_clamp (show gP k j s < 2 ^ 31 by omega), Int32.sub_add_cancel]
  refine ⟨_, _, rfl, rfl, rfl, S, T, n, ⟨h.1, ⟨⟨h.2.1.1.1, fun p hp2 => ?_⟩, h.2.1.2⟩, h.2.2.1, h.2.2.2.1, h.2.2.2.2.1, h.2.2.2.2.2.1, h.2.2.2.2.2.2⟩, hr⟩
  show ∃ w : Nat, w ≤ 1000 ∧ upd (c.2.1 1) (gP k j s) (nI v - 1) p = nI w - 1 ∧ upd (m.2.1 8) (gP k j s) (nI v) (0 + p) = nI w
  by_cases e : p = gP k j s
  · exact ⟨v, hv, gU_eq e, gU_eq (by omega)⟩
  · rw [gU_ne e, gU_ne (by omega)]
    exact h.2.1.1.2 p hp2
