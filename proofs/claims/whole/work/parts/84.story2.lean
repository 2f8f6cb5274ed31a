theorem gNeg1 {x : Nat} (hx : x < 2 ^ 30) : ((0 : Int32) ≤ -1 - nI x) = False := by
  apply eq_false
  rw [Int32.not_le, show (-1 : Int32) - nI x = -nI (x + 1) by rw [← nI_1]; show (-1 : Int32) - nI x = -(nI x + 1); rw [Int32.neg_add, Int32.sub_eq_add_neg, Int32.add_comm]; exact (Int32.sub_eq_add_neg _ _).symm]
  rw [Int32.lt_iff_toInt_lt, Int32.toInt_neg, nI_toInt (by omega), gbm32 (by omega) (by omega)]
  show -((x + 1 : Nat) : Int) < 0
  omega
theorem gStC {c c' : Zst} {p y0 y : Int32} (h : f_X1_wrongPlace_S c = some (c', y0)) (hy0 : ¬ y0 < 0) (hy : -1 - y0 = y) (hn : ¬ 0 ≤ y) : f_X8_listen c = some (c', y) := by
  have h1 : f_X1_write_S c (c.1 19) = some (c', -1 - y0) := by
    unfold f_X1_write_S
    rw [h, Option.bind_some]
    exact if_neg hy0
  unfold f_X8_listen
  rw [h1, hy, Option.bind_some]
  exact if_neg hn
theorem gStA {c c' c2 : Zst} {Q : Nat} (h : f_X1_wrongPlace_S c = some (c', -1)) (hQ : Q < 6) (h19 : c.1 19 = nI Q) (hw : L_X1_write_S_25 (fun σ3 => J_X1_write_S_65 σ3 (nI Q)) (nI Q) zFu c' 0 = some (c2, 0)) (h2 : c2.1 19 = nI Q) : f_X8_listen c = some (zI c2 19 (nI (Q + 1)), nI (Q + 1) - 1) := by
  have hist : ¬ f_X1_isText_S (nI Q) = 0 := by
    unfold f_X1_isText_S
    rw [if_neg (nI_pos (by omega)), if_neg (show ¬ (6 : Int32) ≤ nI Q from nI_ge (b := 6) hQ (by decide))]
    decide
  have h1 : f_X1_write_S c (c.1 19) = some (c2, 0) := by
    unfold f_X1_write_S
    rw [h, h19, Option.bind_some]
    rw [← hw]
    refine Eq.trans (if_pos (show (-1 : Int32) < 0 by decide)) ?_
    exact if_neg hist
  unfold f_X8_listen
  rw [h1, Option.bind_some]
  refine Eq.trans (if_pos (show (0 : Int32) ≤ 0 by decide)) ?_
  show some (zI c2 19 (c2.1 19 + 1), c2.1 19 + 1 - 1) = _
  rw [h2, nI_1]
theorem pp_story : lp_story gRel := by
  intro c m hR
  obtain ⟨S, T, n, h, hr⟩ := hR
  obtain ⟨hA, hN, ⟨N, hN0, x1, x2, x3, x4⟩, hK, hM, hL, ⟨⟨Q, hQ, q1, q2, q3⟩, t13⟩⟩ := id h
  obtain ⟨v, hv⟩ := Classical.skolem.mp x4
  have hv1 : ∀ i, v i < 256 := fun i => (hv i).1
  have hv2 : ∀ i, c.2.1 0 i = nI (v i) := fun i => (hv i).2
  have hv3 : ∀ i, m.2.1 12 i = nI (v i) := fun i => by rw [← x3]; exact hv2 i
  unfold f_X11_story f_X12_story f_X12_begins
  have e40 : jMin (nI N) 40 = nI (min N 40) := gJmin (b := 40) (by omega) (by decide)
  simp only [Option.bind_some]
  rw [show (zI m 0 0).1 5 = nI N from x2, e40]
  generalize hmb : zI (zI (zI (zI (zI m 0 0) 5 0) 6 0) 8 0) 7 (nI (min N 40)) = mb
  have hb20 : mb.1 20 = nI Q := by rw [← hmb]; exact q2
  have hcb : gCor S T (zI c 1 0) mb := by
    subst hmb
    exact ⟨hA, hN, ⟨0, by decide, rfl, rfl, x3, x4⟩, hK, hM, hL, ⟨⟨Q, hQ, q1, q2, q3⟩, t13⟩⟩
  have hrb : gRR n (zI c 1 0) mb := by
    subst hmb; exact hr
  have f0 : f_X8_isFull c = if Q < 6 then 0 else 1 := by
    unfold f_X8_isFull
    rw [q1]
    simp only [show (nI Q < (6 : Int32)) = (Q < 6) from propext (nI_ltI (b := 6) (by omega) (by decide))]
  rw [f0, hb20]
  by_cases hq6 : Q < 6
  case neg =>
    have hq : Q = 6 := by omega
    subst hq
    rw [if_neg hq6, if_neg (by decide), if_pos (by decide)]
    unfold J_X11_story_26
    rw [gCut hN0 x1, Option.bind_some]
    exact ⟨_, _, rfl, rfl, rfl, S, T, n, hcb, hrb⟩
  rw [if_pos hq6, if_pos rfl, if_neg (show ¬ nI Q = 6 from fun q => by have := (nI_eq (b := 6) (by omega) (by decide)).mp q; omega)]
  have hb6 : mb.1 6 = nI 0 := by rw [← hmb]; rfl
  have hb7 : mb.1 7 = nI (min N 40) := by rw [← hmb]; rfl
  have hbt : ∀ i, mb.2.1 12 i = nI (v i) := by rw [← hmb]; exact hv3
  -- the reading
  have hread : ∃ (m2 : Zst) (W cl : Nat) (b : Bool), L_X12_story_37 (fun σ11 w9 w10 => J_X12_story_93 σ11 (nI N) w9 w10) (nI N) zFu mb 0 1 (if nI N ≤ 0 then (0 : Int32) else 1) = J_X12_story_93 m2 (nI N) (nI cl) (if b = true then 1 else 0) ∧ gaM mb m2 ∧ gNRm mb m2 ∧ m2.1 6 = nI W ∧ m2.1 7 = nI (min N 40) ∧ W ≤ min N 40 ∧ (∀ r, r < W → gOk v r) ∧ (W < min N 40 → ¬ gOk v W) ∧ (b = true → (W + 1 = 4 * cl ∨ (W = 0 ∧ cl = 0 ∧ N = 0)) ∧ ∀ k, k < cl → gCl v m2 k) ∧ (b = false → ¬ W % 4 = 3 ∧ ¬ N = 0) := by
    by_cases hz : N = 0
    · subst hz
      refine ⟨mb, 0, 0, true, ?_, gaM_rf, ⟨rfl, rfl⟩, hb6, hb7, Nat.zero_le _, fun r hr => absurd hr (Nat.not_lt_zero r), fun q => absurd q (by decide), fun _ => ⟨Or.inr ⟨rfl, rfl, rfl⟩, fun k hk => absurd hk (Nat.not_lt_zero k)⟩, fun q => Bool.noConfusion q⟩
      obtain ⟨fu, hfu⟩ := gFu3
      rw [hfu, if_pos (show nI 0 ≤ (0 : Int32) by decide)]
      simp only [L_X12_story_37, ↓reduceIte, show nI 0 = (0 : Int32) from rfl]
    · rw [if_neg (nI_nle (show 0 < N by omega) (by omega))]
      obtain ⟨m2, W, cl, b, r1, r2, r3, r4, r5, r6, r7, r8, r9, r10⟩ := gReads (m0 := mb) (e := min N 40) (by omega) hv1 (fun σ11 w9 w10 => J_X12_story_93 σ11 (nI N) w9 w10) (nI N) 11 0 zFu mb (by omega) (by rw [zFu_eq]; omega) (by omega) gaM_rf ⟨rfl, rfl⟩ hb6 hb7 hbt (fun r hr => absurd hr (by omega)) (fun k hk => absurd hk (Nat.not_lt_zero k))
      exact ⟨m2, W, cl, b, r1 1, r2, r3, r4, r5, r6, r7, r8, fun q => ⟨Or.inl (r9 q).1, (r9 q).2⟩, fun q => ⟨r10 q, hz⟩⟩
  obtain ⟨m2, W, cl, b, r1, r2, r3, r4, r5, r6, r7, r8, r9, r10⟩ := hread
  obtain ⟨x, w1⟩ := gWrongC hN0 x1 hv1 hv2 r6 r7 r8
  rw [r1]
  unfold J_X12_story_93
  rw [gFault hN0 rfl r6 r4 r5]
  have hac : gaC (zI c 1 0) (zI (zI c 20 x) 1 0) := gaC_sw (gaC_I gaC_rf rfl)
  have hrej : gRel (zI (zI c 20 x) 1 0) m2 := gRel_of hcb hac r2 (gRR_nr hrb ⟨rfl, rfl⟩ r3)
  have hcut : f_X9_cut (zI c 20 x) 0 = some (zI (zI c 20 x) 1 0, 1) := gCut hN0 x1
  unfold J_X11_story_26
  -- a place that is wrong
  by_cases hWe : W < min N 40
  · rw [if_pos hWe] at w1 ⊢
    have hy := gNeg1 (show W < 2 ^ 30 by omega)
    have hw0 := nI_pos (show W < 2 ^ 31 by omega)
    generalize hyy : (-1 : Int32) - nI W = y at hy ⊢
    have hy : ¬ (0 : Int32) ≤ y := by rw [hy]; exact id
    rw [gStC (p := 0) w1 hw0 hyy hy, Option.bind_some, hcut, Option.bind_some, if_neg hy]
    exact ⟨(zI (zI c 20 x) 1 0, y), (m2, y), rfl, rfl, rfl, hrej⟩
  rw [if_neg hWe] at w1 ⊢
  by_cases h40 : N ≤ 40
  case neg =>
    rw [if_neg h40] at w1 ⊢
    have hy : ¬ (0 : Int32) ≤ -41 := by decide
    rw [gStC (p := 0) w1 (by decide) (show (-1 : Int32) - 40 = -41 by decide) hy, Option.bind_some, hcut, Option.bind_some, if_neg hy]
    exact ⟨(zI (zI c 20 x) 1 0, -41), (m2, -41), rfl, rfl, rfl, hrej⟩
  rw [if_pos h40] at w1 ⊢
  have hWN : W = N := by omega
  subst hWN
  cases b
  · obtain ⟨b1, b2⟩ := r10 rfl
    rw [if_neg (show ¬ (W = 0 ∨ W % 4 = 3) by omega)] at w1
    rw [if_neg (show ¬ false = true by decide)]
    have hy := gNeg1 (show W < 2 ^ 30 by omega)
    have hw0 := nI_pos (show W < 2 ^ 31 by omega)
    generalize hyy : (-1 : Int32) - nI W = y at hy ⊢
    have hy : ¬ (0 : Int32) ≤ y := by rw [hy]; exact id
    rw [gStC (p := 0) w1 hw0 hyy hy, Option.bind_some, hcut, Option.bind_some, if_neg hy]
    exact ⟨(zI (zI c 20 x) 1 0, y), (m2, y), rfl, rfl, rfl, hrej⟩
  obtain ⟨b1, b2⟩ := r9 rfl
  rw [if_pos (show W = 0 ∨ W % 4 = 3 by omega)] at w1
  rw [if_pos (show true = true from rfl), if_pos (show (0 : Int32) ≤ 0 by decide)]
  have hm20 : m2.1 20 = nI Q := by rw [r2.1.1 20 rfl]; exact hb20
  obtain ⟨f, f1, f2, f3⟩ := gWriteC (c := zI c 20 x) hq6 h40 x1 hv2
  obtain ⟨f15, f16, f17, k1, k2, k3⟩ := gWriteM (m := zA m2 14 (upd (m2.2.1 14) Q (nI cl))) (cl := cl) (Q := Q) hq6 (by omega) hm20
  have hs : f_X9_size (zA (zI c 20 x) 19 f) = nI W := x1
  have hw : L_X1_write_S_25 (fun σ3 => J_X1_write_S_65 σ3 (nI Q)) (nI Q) zFu (zI c 20 x) 0 = some (zA (zA (zI c 20 x) 19 f) 20 (upd (c.2.1 20) Q (nI W)), 0) := by
    rw [f3]
    unfold J_X1_write_S_65
    rw [gGx hq6 (by decide), nI_clamp (show Q < 2 ^ 31 by omega), hs]
    rfl
  have hlis := gStA w1 hq6 q1 hw q1
  have hcut2 : f_X9_cut (zI (zA (zA (zI c 20 x) 19 f) 20 (upd (c.2.1 20) Q (nI W))) 19 (nI (Q + 1))) 0 = some (zI (zI (zA (zA (zI c 20 x) 19 f) 20 (upd (c.2.1 20) Q (nI W))) 19 (nI (Q + 1))) 1 0, 1) := gCut hN0 x1
  rw [hlis, Option.bind_some, hcut2, Option.bind_some, hm20, gGx hq6 (by decide), nI_clamp (show Q < 2 ^ 31 by omega), k3]
  unfold J_X12_story_200
  have g20 : (zA (zA (zA (zA m2 14 (upd (m2.2.1 14) Q (nI cl))) 15 f15) 16 f16) 17 f17).1 20 = nI Q := hm20
  rw [g20, nI_1]
  have hbase := gCor_ag hcb gaC_rf r2
  generalize hyy : nI (Q + 1) - 1 = y
  refine ⟨(_, y), (_, y), rfl, rfl, rfl, S, T, n, ⟨hbase.1, hbase.2.1, hbase.2.2.1, hbase.2.2.2.1, hbase.2.2.2.2.1, hbase.2.2.2.2.2.1, ⟨Q + 1, by omega, rfl, rfl, fun s hs => ?_⟩, hbase.2.2.2.2.2.2.2⟩, gRR_nr hrb ⟨rfl, rfl⟩ r3⟩
  show ∃ (n cl' : Nat) (v : Nat → Nat), n ≤ 40 ∧ (∀ i, v i < 256) ∧ upd (c.2.1 20) Q (nI W) s = nI n ∧ upd (m2.2.1 14) Q (nI cl) s = nI cl' ∧ ((n = 0 ∧ cl' = 0) ∨ n + 1 = 4 * cl') ∧ (∀ i, i < n → f (40 * s + i) = nI (v i)) ∧ (∀ p, p < n → gOk v p) ∧
    ∀ k, k < cl' → f15 (12 * s + k) = nI (gPi5 (gTi (v (4 * k)))) ∧ f16 (12 * s + k) = nI (gSgI (v (4 * k + 1))) ∧ f17 (12 * s + k) = nI (gPi5 (gTi (v (4 * k + 2))))
  by_cases e : s = Q
  · subst e
    refine ⟨W, cl, v, h40, hv1, gU_eq rfl, gU_eq rfl, by omega, f1, r7, fun k hk => ?_⟩
    obtain ⟨y1, y2, y3⟩ := k1 k hk
    rw [y1, y2, y3]
    exact b2 k hk
  · obtain ⟨n', cl', v', z1, z2, z3, z4, z5, z6, z7, z8⟩ := q3 s (by omega)
    have m14 : m2.2.1 14 = m.2.1 14 := by rw [r2.2 14 rfl, ← hmb]; rfl
    have m15 : m2.2.1 15 = m.2.1 15 := by rw [r2.2 15 rfl, ← hmb]; rfl
    have m16 : m2.2.1 16 = m.2.1 16 := by rw [r2.2 16 rfl, ← hmb]; rfl
    have m17 : m2.2.1 17 = m.2.1 17 := by rw [r2.2 17 rfl, ← hmb]; rfl
    refine ⟨n', cl', v', z1, z2, (gU_ne e).trans z3, ?_, z5, fun i hi => (f2 _ (by omega)).trans (z6 i hi), z7, fun k hk => ?_⟩
    · rw [gU_ne e, m14]; exact z4
    · obtain ⟨y1, y2, y3⟩ := k2 (12 * s + k) (by omega)
      rw [y1, y2, y3]
      show m2.2.1 15 _ = _ ∧ m2.2.1 16 _ = _ ∧ m2.2.1 17 _ = _
      rw [m15, m16, m17]
      exact z8 k hk
