def gBg (u : Nat → Nat) : Nat → Int32
  | 0 => -1
  | s + 1 => if u s = 0 then gBg u s else (if (0 : Int32) ≤ gBg u s then gBg u s else 0) + nI (u s - 1)
theorem gBg_s (u : Nat → Nat) (s : Nat) : gBg u (s + 1) = if u s = 0 then gBg u s else (if (0 : Int32) ≤ gBg u s then gBg u s else 0) + nI (u s - 1) := rfl
theorem gBg_ok (u : Nat → Nat) : ∀ s, s ≤ 8 → (∀ i, i < 8 → u i ≤ 1000) → gBg u s = -1 ∨ ∃ k, k ≤ 1000 * s ∧ gBg u s = nI k
  | 0, _, _ => Or.inl rfl
  | s + 1, hs, hu => by
    have hk := hu s (by omega)
    unfold gBg
    by_cases e : u s = 0
    · rw [if_pos e]
      rcases gBg_ok u s (by omega) hu with h | ⟨k, k1, k2⟩
      · exact Or.inl h
      · exact Or.inr ⟨k, by omega, k2⟩
    · rw [if_neg e]
      right
      rcases gBg_ok u s (by omega) hu with h | ⟨k, k1, k2⟩
      · rw [h, if_neg (by decide)]
        exact ⟨0 + (u s - 1), by omega, by rw [show (0 : Int32) = nI 0 from rfl, nI_add]⟩
      · rw [k2, if_pos (show (0 : Int32) ≤ nI k from nI_le (a := 0) (Nat.zero_le k) (by omega)), nI_add]
        exact ⟨k + (u s - 1), by omega, rfl⟩
theorem gBg_max (u : Nat → Nat) {s : Nat} (hs : s ≤ 8) (hu : ∀ i, i < 8 → u i ≤ 1000) : jMax 0 (gBg u s) = (if (0 : Int32) ≤ gBg u s then gBg u s else 0) := by
  unfold jMax
  rcases gBg_ok u s hs hu with h | ⟨k, k1, k2⟩
  · rw [h]; rfl
  · rw [k2, if_pos (show (0 : Int32) ≤ nI k from nI_le (a := 0) (Nat.zero_le k) (by omega))]
    by_cases e : k = 0
    · subst e; rfl
    · rw [if_pos (show (0 : Int32) < nI k from (nI_ltI (a := 0) (by omega) (by omega)).mpr (by omega))]
/-- bags of a cell, both sides -/
theorem gBags {S T : Nat} {c m : Zst} (h : gCor S T c m) {x : Int32} {j wk : Nat} (hx : x = nI j) (hj : j < 12 * T) (hw : wk < 12) (h0 : m.2.1 22 wk = -1) {v1 v2 : Int32} (hv : (12 : Int32) * v1 + nI wk = nI j) :
    ∃ (V : Int32) (m' : Zst), f_X6_bagsOf c x = some V ∧ (∀ k : Zst → Option (Zst × Int32), L_X12_feasts_35 k v1 v2 (nI wk) zFu m 0 = k m') ∧ gaM m m' ∧ gNRm m m' ∧ m'.2.1 22 wk = V ∧ (∀ i, ¬ i = wk → m'.2.1 22 i = m.2.1 22 i) ∧ m'.2.1 23 = m.2.1 23 := by
  subst hx
  have hS := h.1.1.1
  have hT := h.1.1.2.1
  have hu : ∃ u : Nat → Nat, ∀ i, i < 8 → u i ≤ 1000 ∧ m.2.1 8 (gP 0 j i) = nI (u i) := by
    refine ⟨fun i => if hi : i < 8 then (gL_val h.2.1 (k := 0) (j := j) (s := i) (by decide) (by omega) hi).choose else 0, fun i hi => ?_⟩
    have := (gL_val h.2.1 (k := 0) (j := j) (s := i) (by decide) (by omega) hi).choose_spec
    simp only [hi, ↓reduceDIte]
    exact ⟨this.1, this.2.1⟩
  obtain ⟨u, hu⟩ := hu
  have hu1 : ∀ i, i < 8 → u i ≤ 1000 := fun i hi => (hu i hi).1
  obtain ⟨ra, hra, P1⟩ := gq_loop (La := fun n (a : Int32 × Int32) => L_X6_bagsOf_4 c (nI j) n a.1 a.2)
    (fun i a => a = (gBg u i, nI i)) (fun r => r = gBg u S) S (by omega) (a := (-1, 0)) (fun i a hi hI => by
      subst hI
      have t1 := gL_has h.2.1 (x := 0) 0 j i rfl rfl rfl (by decide) (by omega) (by omega)
      have t3 := gL_of h.2.1 (x := 0) 0 j i rfl rfl rfl (by decide) (by omega) (by omega)
      rw [(hu i (by omega)).2] at t1 t3
      have hn : ¬ f_X10_sortCount c ≤ nI i := by
        unfold f_X10_sortCount
        rw [h.1.1.2.2.1]; exact nI_ge hi (by omega)
      refine ⟨(gBg u (i + 1), nI (i + 1)), fun n => ?_, rfl⟩
      have hk := hu1 i (by omega)
      by_cases e : u i = 0
      · simp only [L_X6_bagsOf_4, hn, ↓reduceIte, t1, t3, Option.bind_some, e, show gtf (nI 0) = 0 from rfl, nI_1, gBg_s]
      · have e1 : gtf (nI (u i)) = 1 := by unfold gtf; rw [if_neg (nI_ne0 (by omega) (by omega))]
        have hm1 : nI (u i) - 1 = nI (u i - 1) := by rw [show (1 : Int32) = nI 1 from rfl, pk_sub (show 1 ≤ u i by omega)]
        simp only [L_X6_bagsOf_4, hn, ↓reduceIte, t1, t3, Option.bind_some, e1, gq_10, nI_1, gBg_s, if_neg e, hm1]) (fun a hI => by
      subst hI
      have hn : f_X10_sortCount c ≤ nI S := by
        unfold f_X10_sortCount
        rw [h.1.1.2.2.1]; exact Int32.le_refl _
      exact ⟨_, fun n => by simp only [L_X6_bagsOf_4, hn, ↓reduceIte], rfl⟩) rfl
  subst P1
  obtain ⟨mb, g1, g2⟩ := gq_run1 (La := fun (k : Zst → Option (Zst × Int32)) n (a : Zst × Int32) => L_X12_feasts_35 k v1 v2 (nI wk) n a.1 a.2)
    (fun i a => a.2 = nI i ∧ gaM m a.1 ∧ gNRm m a.1 ∧ a.1.2.1 22 wk = gBg u i ∧ (∀ i, ¬ i = wk → a.1.2.1 22 i = m.2.1 22 i) ∧ a.1.2.1 23 = m.2.1 23)
    (fun m' => gaM m m' ∧ gNRm m m' ∧ m'.2.1 22 wk = gBg u S ∧ (∀ i, ¬ i = wk → m'.2.1 22 i = m.2.1 22 i) ∧ m'.2.1 23 = m.2.1 23) 0 S (Nat.zero_le S) (by omega) (a := (m, 0))
    (fun i a hi hI => by
      obtain ⟨m1, q⟩ := a
      obtain ⟨hq, am, an, a1, a2, a3⟩ := hI
      have hq : q = nI i := hq
      have am : gaM m m1 := am
      have an : gNRm m m1 := an
      have a1 : m1.2.1 22 wk = gBg u i := a1
      have a2 : ∀ i, ¬ i = wk → m1.2.1 22 i = m.2.1 22 i := a2
      have a3 : m1.2.1 23 = m.2.1 23 := a3
      subst hq
      have h1 := gCor_ag h gaC_rf am
      have t1 := gL_told h1.2.1 (x := 0) 0 j i rfl rfl rfl (by decide) (by omega) (by omega)
      have t3 := gL_at (m := m1) (x := 0) 0 j i rfl rfl rfl (by decide) (by omega) (by omega)
      rw [am.2 8 rfl, (hu i (by omega)).2] at t1 t3
      have hn : ¬ m1.1 2 ≤ nI i := by
        rw [h1.1.1.2.2.2.1]; exact nI_ge hi (by omega)
      have hk := hu1 i (by omega)
      by_cases e : u i = 0
      · refine ⟨(m1, nI (i + 1)), fun k n => ?_, rfl, am, an, ?_, a2, a3⟩
        · simp only [L_X12_feasts_35, hn, ↓reduceIte, hv, t1, Option.bind_some, e, show gtf (nI 0) = 0 from rfl, nI_1]
        · show m1.2.1 22 wk = gBg u (i + 1)
          rw [a1, gBg_s, if_pos e]
      · have e1 : gtf (nI (u i)) = 1 := by unfold gtf; rw [if_neg (nI_ne0 (by omega) (by omega))]
        have hm1 : nI (u i) - 1 = nI (u i - 1) := by rw [show (1 : Int32) = nI 1 from rfl, pk_sub (show 1 ≤ u i by omega)]
        refine ⟨(zA m1 22 (upd (m1.2.1 22) wk ((jMax 0 (m1.2.1 22 wk)) + nI (u i - 1))), nI (i + 1)), fun k n => ?_, rfl, gaM_A am rfl (by decide), an, ?_, fun i hi => ?_, a3⟩
        · simp only [L_X12_feasts_35, hn, ↓reduceIte, hv, t1, t3, Option.bind_some, e1, gq_10, nI_1, gGx hw (by decide), nI_clamp (show wk < 2 ^ 31 by omega), hm1]
        · show upd (m1.2.1 22) wk ((jMax 0 (m1.2.1 22 wk)) + nI (u i - 1)) wk = gBg u (i + 1)
          rw [gU_eq rfl, a1, gBg_max u (by omega) hu1]
          rw [gBg_s, if_neg e]
        · show upd (m1.2.1 22) wk ((jMax 0 (m1.2.1 22 wk)) + nI (u _ - 1)) i = m.2.1 22 i
          rw [gU_ne hi]; exact a2 i hi)
    (fun a hI => by
      obtain ⟨m1, q⟩ := a
      obtain ⟨hq, am, an, a1, a2, a3⟩ := hI
      have hq : q = nI S := hq
      have am : gaM m m1 := am
      have hn : m1.1 2 ≤ nI S := by
        rw [am.1.1 2 rfl, h.1.1.2.2.2.1]; exact Int32.le_refl _
      subst hq
      exact ⟨m1, fun k n => by simp only [L_X12_feasts_35, hn, ↓reduceIte], am, an, a1, a2, a3⟩)
    ⟨rfl, gaM_rf, ⟨rfl, rfl⟩, h0, fun _ _ => rfl, rfl⟩
  exact ⟨gBg u S, mb, hra, g1, g2⟩
/-- putting a number into its place, both sides -/
theorem gInsB {v1 v2 v : Int32} {wk N : Nat} (hN : N < 12) (hw : wk < 12) : ∀ (q n n' : Nat) (c m : Zst), q < n → q < n' → q ≤ N → m.2.1 22 wk = v → (∀ i, i ≤ N → ¬ i = q → c.2.1 24 i = m.2.1 23 i) →
    ∃ (c' m' : Zst) (p : Nat), p ≤ q ∧ (∀ k : Zst → Int32 → Option Zst, L_X6_insert_2 k v n c (nI q) = k c' (nI p)) ∧ (∀ k : Zst → Int32 → Option (Zst × Int32), L_X12_feasts_108 k v1 v2 (nI wk) n' m (nI q) = k m' (nI p)) ∧ gaC c c' ∧ gaM m m' ∧ gNR c c' ∧ gNRm m m' ∧ c'.2.1 23 = c.2.1 23 ∧ m'.2.1 22 = m.2.1 22 ∧ (∀ i, i ≤ N → ¬ i = p → c'.2.1 24 i = m'.2.1 23 i) := by
  intro q
  induction q with
  | zero =>
    intro n n' c m hn hn' hq hv ha
    obtain ⟨n, rfl⟩ : ∃ k, n = k + 1 := ⟨n - 1, by omega⟩
    obtain ⟨n', rfl⟩ : ∃ k, n' = k + 1 := ⟨n' - 1, by omega⟩
    refine ⟨c, m, 0, Nat.le_refl _, fun k => ?_, fun k => ?_, gaC_rf, gaM_rf, ⟨rfl, rfl⟩, ⟨rfl, rfl⟩, rfl, rfl, ha⟩
    · simp only [L_X6_insert_2, show (nI 0 ≤ (0 : Int32)) = True by decide, ↓reduceIte]
    · simp only [L_X12_feasts_108, show (nI 0 ≤ (0 : Int32)) = True by decide, ↓reduceIte]
  | succ q ih =>
    intro n n' c m hn hn' hq hv ha
    obtain ⟨n, rfl⟩ : ∃ k, n = k + 1 := ⟨n - 1, by omega⟩
    obtain ⟨n', rfl⟩ : ∃ k, n' = k + 1 := ⟨n' - 1, by omega⟩
    have e1 : nI (q + 1) - 1 = nI q := by rw [show (1 : Int32) = nI 1 from rfl, pk_sub (by omega)]; rfl
    have e2 : nI (q + 1) + (-1 : Int32) = nI q := by rw [← e1]; exact (Int32.sub_eq_add_neg _ _).symm
    have e3 : ¬ (12 : Int32) ≤ nI (q + 1) := nI_ge (b := 12) (by omega) (by decide)
    have e4 : ¬ nI (q + 1) ≤ (0 : Int32) := nI_nle (by omega) (by omega)
    have e5 := ha q (by omega) (by omega)
    by_cases hc : c.2.1 24 q ≤ v
    · refine ⟨c, m, q + 1, Nat.le_refl _, fun k => ?_, fun k => ?_, gaC_rf, gaM_rf, ⟨rfl, rfl⟩, ⟨rfl, rfl⟩, rfl, rfl, ha⟩
      · simp only [L_X6_insert_2, e3, e4, e1, ↓reduceIte, gGx (show q < 12 by omega) (by decide), nI_clamp (show q < 2 ^ 31 by omega), hc]
      · simp only [L_X12_feasts_108, e4, e1, ↓reduceIte, gGx (show q < 12 by omega) (by decide), gGx hw (by decide), nI_clamp (show q < 2 ^ 31 by omega), nI_clamp (show wk < 2 ^ 31 by omega), hv, ← e5, hc]
    · obtain ⟨c', m', p, r1, r2, r3, r4, r5, r6, r7, r8, r9, r10⟩ := ih n n' (zA c 24 (upd (c.2.1 24) (q + 1) (c.2.1 24 q))) (zA m 23 (upd (m.2.1 23) (q + 1) (m.2.1 23 q))) (by omega) (by omega) (by omega) hv (fun i hi hi2 => by
        show upd (c.2.1 24) (q + 1) (c.2.1 24 q) i = upd (m.2.1 23) (q + 1) (m.2.1 23 q) i
        by_cases e : i = q + 1
        · rw [gU_eq e, gU_eq e, e5]
        · rw [gU_ne e, gU_ne e]; exact ha i hi e)
      refine ⟨c', m', p, by omega, fun k => ?_, fun k => ?_, gaC_tr (gaC_A gaC_rf rfl) r4, gaM_tr (gaM_A gaM_rf rfl (by decide)) r5, r6, r7, r8, r9, r10⟩
      · simp only [L_X6_insert_2, e3, e4, e1, e2, ↓reduceIte, gGx (show q < 12 by omega) (by decide), gGx (show q + 1 < 12 by omega) (by decide), nI_clamp (show q < 2 ^ 31 by omega), nI_clamp (show q + 1 < 2 ^ 31 by omega), hc]
        exact r2 k
      · simp only [L_X12_feasts_108, e4, e1, e2, ↓reduceIte, gGx (show q < 12 by omega) (by decide), gGx (show q + 1 < 12 by omega) (by decide), gGx hw (by decide), nI_clamp (show q < 2 ^ 31 by omega), nI_clamp (show q + 1 < 2 ^ 31 by omega), nI_clamp (show wk < 2 ^ 31 by omega), hv, ← e5, hc]
        rw [e5]
        exact r3 k
theorem pp_feasts : lp_feasts gRel := by
  intro c m hR p0
  obtain ⟨S, T, n, h, hr⟩ := hR
  have no : gRel c (zI m 0 0) := gNo h hr
  have h' : gCor S T c (zI m 0 0) := gCor_ag h gaC_rf gaM_0
  have hr' : gRR n c (zI m 0 0) := hr
  have hT := h.1.1.2.1
  unfold f_X11_feasts f_X6_feastWeeks f_X12_feasts
  simp only [gL_street h'.1]
  generalize zI m 0 0 = m0 at *
  rcases gS_street h.1 p0 with ⟨e0, t, x1, x2⟩ | e0
  case inr => simp only [e0, ↓reduceIte, Option.bind_some]; exact ⟨_, _, rfl, rfl, rfl, no⟩
  subst x2
  simp only [e0, gq_10, ↓reduceIte]
  obtain ⟨ra, rb, h1, h2, h3, h4⟩ := gq_lock (La := fun n (a : Zst × Int32 × Int32) => L_X6_feastWeeks_17 (fun σ6 w5 => J_X6_feastWeeks_68 σ6 w5) (nI t) n a.1 a.2.1 a.2.2)
    (Lb := fun n (a : Zst × Int32 × Int32) => L_X12_feasts_19 (fun σ9 w8 => J_X12_feasts_175 σ9 w8) (nI t) n a.1 a.2.1 a.2.2)
    (fun i a b => ∃ (c1 m1 : Zst) (k : Nat), a = (c1, nI k, nI i) ∧ b = (m1, nI k, nI i) ∧ k ≤ i ∧ gaC c c1 ∧ gaM m0 m1 ∧ gNR c c1 ∧ gNRm m0 m1 ∧ (∀ j, j < i → c1.2.1 23 j = m1.2.1 22 j) ∧ (∀ j, j < k → c1.2.1 24 j = m1.2.1 23 j))
    (fun ra rb => ra.2 = rb.2 ∧ gRel ra.1 rb.1) 12 (by decide) (a := (c, 0, 0)) (b := (m0, 0, 0))
    (fun i a b hi hI => by
      obtain ⟨c1, m1, k, rfl, rfl, hk, ac, am, nc, nm, ha, hb⟩ := hI
      have hg := gCor_ag h' ac am
      have hn : ¬ (12 : Int32) ≤ nI i := nI_ge (b := 12) hi (by decide)
      have hv : (12 : Int32) * nI t + nI i = nI (12 * t + i) := by rw [show (12 : Int32) = nI 12 from rfl, pk_mul, nI_add]
      obtain ⟨V, m2, b1, b2, b3, b4, b5, b6, b7⟩ := gBags (c := c1) (m := zA m1 22 (upd (m1.2.1 22) i (-1))) (gCor_ag hg gaC_rf (gaM_A gaM_rf rfl (by decide))) (x := nI (12 * t + i)) (j := 12 * t + i) (wk := i) rfl (by omega) hi (gU_eq rfl) (v1 := nI t) (v2 := nI k) hv
      have hb7 : m2.2.1 23 = m1.2.1 23 := b7
      have hb6 : ∀ j, ¬ j = i → m2.2.1 22 j = m1.2.1 22 j := fun j hj => (b6 j hj).trans (gU_ne hj)
      have am2 : gaM m0 m2 := gaM_tr (gaM_tr am (gaM_A gaM_rf rfl (by decide))) b3
      have nm2 : gNRm m0 m2 := ⟨b4.1.trans nm.1, b4.2.trans nm.2⟩
      have eU : ∀ x : Int32, upd (c1.2.1 23) i x i = x := fun x => gU_eq rfl
      have hj : ∀ j, j < i + 1 → (upd (c1.2.1 23) i V) j = m2.2.1 22 j := fun j hj => by
        by_cases e : j = i
        · subst e; rw [gU_eq rfl, b5]
        · rw [gU_ne e, hb6 j e]; exact ha j (by omega)
      by_cases hV : V < 0
      · refine ⟨(zA c1 23 (upd (c1.2.1 23) i V), nI k, nI (i + 1)), (m2, nI k, nI (i + 1)), fun n => ?_, fun n => ?_, _, _, k, rfl, rfl, by omega, gaC_A ac rfl, am2, nc, nm2, hj, fun j hj => ?_⟩
        · simp only [L_X6_feastWeeks_17, if_neg hn, hv, b1, Option.bind_some, gGx hi (by decide), nI_clamp (show i < 2 ^ 31 by omega), eU, if_pos hV, nI_1]
        · simp only [L_X12_feasts_19, if_neg hn, gGx hi (by decide), nI_clamp (show i < 2 ^ 31 by omega), b2, J_X12_feasts_96, b5, if_pos hV, nI_1]
        · rw [hb7]; exact hb j hj
      · obtain ⟨c3, m3, p, hp, i1, i2, i3, i4, i5, i6, i7, i8, i9⟩ := gInsB (v1 := nI t) (v2 := nI k) (v := V) (wk := i) (N := k) (by omega) hi k zFu zFu (zA c1 23 (upd (c1.2.1 23) i V)) m2 (by rw [zFu_eq]; omega) (by rw [zFu_eq]; omega) (Nat.le_refl k) b5 (fun j hj hj2 => by
          show c1.2.1 24 j = m2.2.1 23 j
          rw [hb7]; exact hb j (by omega))
        refine ⟨(zA c3 24 (upd (c3.2.1 24) p V), nI (k + 1), nI (i + 1)), (zA m3 23 (upd (m3.2.1 23) p V), nI (k + 1), nI (i + 1)), fun n => ?_, fun n => ?_, _, _, k + 1, rfl, rfl, by omega, gaC_A (gaC_tr (gaC_A ac rfl) i3) rfl, gaM_A (gaM_tr am2 i4) rfl (by decide), ⟨i5.1.trans nc.1, i5.2.trans nc.2⟩, ⟨i6.1.trans nm2.1, i6.2.trans nm2.2⟩, fun j hj' => ?_, fun j hj' => ?_⟩
        · simp only [L_X6_feastWeeks_17, if_neg hn, hv, b1, Option.bind_some, gGx hi (by decide), nI_clamp (show i < 2 ^ 31 by omega), eU, if_neg hV, f_X6_insert, i1, J_X6_insert_44, if_neg (nI_pos (show p < 2 ^ 31 by omega)), if_neg (show ¬ (12 : Int32) ≤ nI p from nI_ge (b := 12) (by omega) (by decide)), gGx (show p < 12 by omega) (by decide), nI_clamp (show p < 2 ^ 31 by omega), nI_1]
        · simp only [L_X12_feasts_19, if_neg hn, gGx hi (by decide), nI_clamp (show i < 2 ^ 31 by omega), b2, J_X12_feasts_96, b5, if_neg hV, i2, J_X12_feasts_153, gGx (show p < 12 by omega) (by decide), nI_clamp (show p < 2 ^ 31 by omega), nI_1, i8]
        · show c3.2.1 23 j = m3.2.1 22 j
          rw [i7, i8]; exact hj j hj'
        · show upd (c3.2.1 24) p V j = upd (m3.2.1 23) p V j
          by_cases e : j = p
          · rw [gU_eq e, gU_eq e]
          · rw [gU_ne e, gU_ne e]; exact i9 j (by omega) e)
    (fun a b hI => by
      obtain ⟨c1, m1, k, rfl, rfl, hk, ac, am, nc, nm, ha, hb⟩ := hI
      have hrr := gRR_nr hr' nc nm
      have hfin : gRel c1 m1 := gRel_of h' ac am hrr
      have key : ∃ x : Int32, J_X6_feastWeeks_68 c1 (nI k) = some (c1, x) ∧ J_X12_feasts_175 m1 (nI k) = some (m1, x) := by
        unfold J_X6_feastWeeks_68 J_X12_feasts_175
        by_cases e : k = 0
        · subst e
          refine ⟨0, rfl, ?_⟩
          obtain ⟨fu, hfu⟩ := gFu3
          rw [hfu]
          simp only [L_X12_feasts_180, show ((12 : Int32) ≤ 0) = False by decide, show (nI 0 ≤ (0 : Int32)) = True by decide, ↓reduceIte]
        · have e1 : (nI k - 1) / (2 : Int32) = nI ((k - 1) / 2) := by
            rw [show (1 : Int32) = nI 1 from rfl, pk_sub (by omega), show (2 : Int32) = nI 2 from rfl]
            exact pk_div (by omega) (by decide) (by decide)
          rw [if_neg (nI_ne0 (by omega) (by omega)), e1, gGx (show (k - 1) / 2 < 12 by omega) (by decide), nI_clamp (show (k - 1) / 2 < 2 ^ 31 by omega), hb ((k - 1) / 2) (by omega)]
          obtain ⟨ra, rb, f1, f2, f3⟩ := gq_lock (La := fun n (a : Int32 × Int32) => L_X6_feastWeeks_91 c1 (m1.2.1 23 ((k - 1) / 2)) n a.1 a.2)
            (Lb := fun n (a : Int32 × Int32) => L_X12_feasts_180 m1 (nI k) n a.1 a.2)
            (fun i a b => a = b ∧ a.2 = nI i) (fun ra rb => ∃ x, ra = (c1, x) ∧ rb = (m1, x)) 12 (by decide) (a := (0, 0)) (b := (0, 0))
            (fun i a b hi hI => by
              obtain ⟨rfl, hq⟩ := hI
              obtain ⟨x, q⟩ := a
              have hq : q = nI i := hq
              subst hq
              have hn : ¬ (12 : Int32) ≤ nI i := nI_ge (b := 12) hi (by decide)
              refine ⟨(x ||| (if m1.2.1 22 i ≤ 2 * (m1.2.1 23 ((k - 1) / 2)) then 0 else jShl 1 (nI i)), nI (i + 1)), (x ||| (if m1.2.1 22 i ≤ 2 * (m1.2.1 23 ((k - 1) / 2)) then 0 else jShl 1 (nI i)), nI (i + 1)), fun n => ?_, fun n => ?_, rfl, rfl⟩
              · simp only [L_X6_feastWeeks_91, if_neg hn, gGx hi (by decide), nI_clamp (show i < 2 ^ 31 by omega), ha i hi, nI_1]
              · simp only [L_X12_feasts_180, if_neg hn, if_neg (nI_nle (show 0 < k by omega) (by omega)), e1, gGx hi (by decide), gGx (show (k - 1) / 2 < 12 by omega) (by decide), nI_clamp (show i < 2 ^ 31 by omega), nI_clamp (show (k - 1) / 2 < 2 ^ 31 by omega), nI_1])
            (fun a b hI => by
              obtain ⟨rfl, hq⟩ := hI
              obtain ⟨x, q⟩ := a
              have hq : q = nI 12 := hq
              subst hq
              have hn : (12 : Int32) ≤ nI 12 := by decide
              exact ⟨(c1, x), (m1, x), fun n => by simp only [L_X6_feastWeeks_91, if_pos hn], fun n => by simp only [L_X12_feasts_180, if_pos hn], x, rfl, rfl⟩) ⟨rfl, rfl⟩
          obtain ⟨x, rfl, rfl⟩ := f3
          exact ⟨x, f1, f2⟩
      obtain ⟨x, k1, k2⟩ := key
      refine ⟨(c1, x), (m1, x), fun n => ?_, fun n => ?_, rfl, hfin⟩
      · simp only [L_X6_feastWeeks_17, show ((12 : Int32) ≤ nI 12) = True by decide, ↓reduceIte, k1]
      · simp only [L_X12_feasts_19, show ((12 : Int32) ≤ nI 12) = True by decide, ↓reduceIte, k2])
    ⟨c, m0, 0, rfl, rfl, Nat.le_refl 0, gaC_rf, gaM_rf, ⟨rfl, rfl⟩, ⟨rfl, rfl⟩, fun j hj => absurd hj (Nat.not_lt_zero j), fun j hj => absurd hj (Nat.not_lt_zero j)⟩
  obtain ⟨ca, va⟩ := ra
  obtain ⟨cb, vb⟩ := rb
  have h3 : va = vb := h3
  subst h3
  rw [show L_X6_feastWeeks_17 (fun σ6 w5 => J_X6_feastWeeks_68 σ6 w5) (nI t) zFu c 0 0 = some (ca, va) from h1]
  exact ⟨(ca, va), (cb, va), rfl, h2, rfl, h4⟩
