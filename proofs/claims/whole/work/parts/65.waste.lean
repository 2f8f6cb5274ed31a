theorem gLu {f : Nat → Int64} {k j : Nat} {x : Int64} (h : j = k) : vp_updL f k x j = x := if_pos h
theorem gLn {f : Nat → Int64} {k j : Nat} {x : Int64} (h : ¬ j = k) : vp_updL f k x j = f j := if_neg h
theorem gRem12 (i : Nat) (hi : i < 2 ^ 31) : jRem (nI i) 12 = nI (i % 12) := by
  rw [show (12 : Int32) = nI 12 from rfl]
  exact pk_rem hi (by decide) (by decide)
theorem gDiv12 (i : Nat) (hi : i < 2 ^ 31) : nI i / 12 = nI (i / 12) := by
  rw [show (12 : Int32) = nI 12 from rfl]
  exact pk_div hi (by decide) (by decide)
/-- lack, both sides -/
theorem gL_lack {S T : Nat} {c m : Zst} (h : gRA S T c m) {s w : Nat} (hs : s < S) (hw : w < 12) :
    ∃ b : Bool, f_X10_isLack c (nI s) (nI w) = some (if b then 1 else 0) ∧ m.2.1 7 (12 * s + w) = (if b then 1 else 0) := by
  have h9 := h.1.1
  refine ⟨bt (c.2.1 16 s) w, ?_, ?_⟩
  · have e1 : f_X10_hasSort c (nI s) = 1 := by
      unfold f_X10_hasSort
      rw [h.1.2.2.1, if_neg (nI_pos (by omega)), if_neg (nI_ge hs (by omega))]
    have e2 : f_X11_isWeek (nI w) = 1 := by
      unfold f_X11_isWeek f_X11_between
      rw [if_neg (nI_pos (by omega)), if_neg]
      rw [Int32.not_lt]
      exact nI_le (b := 11) (by omega) (by decide)
    unfold f_X10_isLack f_X11_hasBit
    rw [e1, e2, if_neg (by decide), if_neg (by decide), gGx (show s < 8 by omega) (by decide), nI_clamp (by omega), gb_shr _ (by omega)]
    cases bt (c.2.1 16 s) w <;> rfl
  · rw [h.2.2.2.2.2.2 s w (by omega) hw, gb_shr _ (by omega)]
theorem gAddTo {c : Zst} {k : Nat} (hk : k < 10) (u l : Int32) : f_X8_addTo c (nI k) u l = some (zL (zL c 3 (vp_updL (c.2.2.1 3) k (c.2.2.1 3 k + Int32.toInt64 u))) 4 (vp_updL (c.2.2.1 4) k (c.2.2.1 4 k + Int32.toInt64 l))) := by
  unfold f_X8_addTo
  rw [if_neg (nI_pos (by omega)), if_neg (show ¬ (10 : Int32) ≤ nI k from nI_ge (b := 10) hk (by decide)), gGx hk (by decide), gGx hk (by decide), gGx hk (by decide), gGx hk (by decide), nI_clamp (by omega)]
/-- all but two places of what is summed stay -/
def gKL (t : Nat) (c c' : Zst) : Prop := ∀ j, ¬ j = t → ¬ j = t + 1 → c'.2.2.1 3 j = c.2.2.1 3 j ∧ c'.2.2.1 4 j = c.2.2.1 4 j
theorem gKL_tr {t : Nat} {c c' c2 : Zst} (h : gKL t c c') (g : gKL t c' c2) : gKL t c c2 := fun j h1 h2 => ⟨(g j h1 h2).1.trans (h j h1 h2).1, (g j h1 h2).2.trans (h j h1 h2).2⟩
theorem gFu3 : ∃ k, zFu = k + 1 + 1 + 1 := ⟨9997, by rw [zFu_eq]⟩
theorem gClear {c : Zst} {t : Nat} (ht : t ≤ 8) : ∃ c', f_X8_clearThings c (nI t) = some c' ∧ gaC c c' ∧ gNR c c' ∧ gKL t c c' ∧ c'.2.2.1 3 t = 0 ∧ c'.2.2.1 3 (t + 1) = 0 ∧ c'.2.2.1 4 t = 0 ∧ c'.2.2.1 4 (t + 1) = 0 := by
  obtain ⟨fu, hfu⟩ := gFu3
  refine ⟨zL (zL (zL (zL c 3 (vp_updL (c.2.2.1 3) t 0)) 4 (vp_updL (c.2.2.1 4) t 0)) 3 (vp_updL (vp_updL (c.2.2.1 3) t 0) (t + 1) 0)) 4 (vp_updL (vp_updL (c.2.2.1 4) t 0) (t + 1) 0), ?_, gaC_rf, ⟨rfl, rfl⟩, fun j h1 h2 => ⟨?_, ?_⟩, ?_, ?_, ?_, ?_⟩
  · unfold f_X8_clearThings
    rw [hfu]
    have e2 : nI t + 2 = nI (t + 2) := by rw [show (2 : Int32) = nI 2 from rfl, nI_add]
    simp only [L_X8_clearThings_2, e2, nI_1, if_neg (nI_ge (show t < t + 2 by omega) (show t + 2 < 2 ^ 31 by omega)), if_neg (nI_ge (show t + 1 < t + 2 by omega) (show t + 2 < 2 ^ 31 by omega)), if_pos (nI_le (show t + 2 ≤ t + 1 + 1 by omega) (show t + 1 + 1 < 2 ^ 31 by omega)), if_neg (nI_pos (show t < 2 ^ 31 by omega)), if_neg (nI_pos (show t + 1 < 2 ^ 31 by omega)), if_neg (show ¬ (10 : Int32) ≤ nI t from nI_ge (b := 10) (by omega) (by decide)), if_neg (show ¬ (10 : Int32) ≤ nI (t + 1) from nI_ge (b := 10) (by omega) (by decide)), gGx (show t < 10 by omega) (by decide), gGx (show t + 1 < 10 by omega) (by decide), nI_clamp (show t < 2 ^ 31 by omega), nI_clamp (show t + 1 < 2 ^ 31 by omega)]
    rfl
  · show vp_updL (vp_updL (c.2.2.1 3) t 0) (t + 1) 0 j = _
    rw [gLn h2, gLn h1]
  · show vp_updL (vp_updL (c.2.2.1 4) t 0) (t + 1) 0 j = _
    rw [gLn h2, gLn h1]
  · show vp_updL (vp_updL (c.2.2.1 3) t 0) (t + 1) 0 t = 0
    rw [gLn (by omega), gLu rfl]
  · exact gLu rfl
  · show vp_updL (vp_updL (c.2.2.1 4) t 0) (t + 1) 0 t = 0
    rw [gLn (by omega), gLu rfl]
  · exact gLu rfl
/-- bounded sums -/
def gBnd (n : Nat) (u l : Int64) : Prop := -(1000 * n : Int) ≤ u.toInt ∧ u.toInt ≤ 1000 * n ∧ ∃ k : Nat, k ≤ 1000 * n ∧ l = lN k
theorem gBnd_up {n n' : Nat} {u l : Int64} (h : gBnd n u l) (hn : n ≤ n') : gBnd n' u l := by
  obtain ⟨h1, h2, k, h3, h4⟩ := h
  exact ⟨by omega, by omega, k, by omega, h4⟩
theorem gBnd_add {n : Nat} {u l : Int64} {x y : Int32} (hn : n ≤ 1000) (h : gBnd n u l) (hx1 : -1000 ≤ x.toInt) (hx2 : x.toInt ≤ 1000) {q : Nat} (hy : y = nI q) (hq : q ≤ 1000) : gBnd (n + 1) (u + Int32.toInt64 x) (l + Int32.toInt64 y) := by
  obtain ⟨h1, h2, k, h3, rfl⟩ := h
  subst hy
  have e : (u + Int32.toInt64 x).toInt = u.toInt + x.toInt := by rw [Int64.toInt_add, gl_toInt, gbm64 (by omega) (by omega)]
  refine ⟨by rw [e]; omega, by rw [e]; omega, k + q, by omega, ?_⟩
  rw [nI_l (by omega), lN_add]
theorem gWastes {S T : Nat} {c m : Zst} (h : gCor S T c m) {p0 : Int32} {s : Nat} (x2 : p0 = nI s) (x1 : s < S) :
    ∃ c' m' u0 l0 u1 l1, f_X8_measureWaste c p0 = some c' ∧ f_X12_wastes m p0 = some m' ∧ gaC c c' ∧ gaM m m' ∧ gNR c c' ∧ gNRm m m' ∧ gKL 0 c c' ∧ gBnd 96 u0 l0 ∧ gBnd 96 u1 l1 ∧
      m'.2.2.1 1 1 = u0 ∧ m'.2.2.1 2 1 = l0 ∧ m'.2.2.1 1 0 = u1 ∧ m'.2.2.1 2 0 = l1 ∧
      ((l0 = 0 ∨ l1 = 0) ∧ c'.2.2.1 4 0 = 0 ∧ c'.2.2.1 4 1 = 0 ∨ ¬ l0 = 0 ∧ ¬ l1 = 0 ∧ c'.2.2.1 3 0 = u0 ∧ c'.2.2.1 4 0 = l0 ∧ c'.2.2.1 3 1 = u1 ∧ c'.2.2.1 4 1 = l1) := by
  subst x2
  have hT := h.1.1.2.1
  have hS := h.1.1.1
  obtain ⟨cA, q1, q2, q3, q4, q5, q6, q7, q8⟩ := gClear (c := c) (t := 0) (by decide)
  have mA : ∃ mA, (∀ k : Zst → Option Zst, L_X12_wastes_2 k (nI s) zFu m 0 = k mA) ∧ gaM m mA ∧ gNRm m mA ∧ mA.2.2.1 1 0 = 0 ∧ mA.2.2.1 1 1 = 0 ∧ mA.2.2.1 2 0 = 0 ∧ mA.2.2.1 2 1 = 0 := by
    obtain ⟨fu, hfu⟩ := gFu3
    refine ⟨zL (zL (zL (zL m 1 (vp_updL (m.2.2.1 1) 0 0)) 2 (vp_updL (m.2.2.1 2) 0 0)) 1 (vp_updL (vp_updL (m.2.2.1 1) 0 0) 1 0)) 2 (vp_updL (vp_updL (m.2.2.1 2) 0 0) 1 0), fun k => ?_, gaM_rf, ⟨rfl, rfl⟩, rfl, rfl, rfl, rfl⟩
    rw [hfu]
    simp only [L_X12_wastes_2, show ((2 : Int32) ≤ 0) = False by decide, show (0 : Int32) + 1 = 1 by decide, show ((2 : Int32) ≤ 1) = False by decide, show (1 : Int32) + 1 = 2 by decide, show ((2 : Int32) ≤ 2) = True by decide, ↓reduceIte, show (0 : Int32) = nI 0 from rfl, show (1 : Int32) = nI 1 from rfl, gGx (show 0 < 2 by decide) (by decide), gGx (show 1 < 2 by decide) (by decide), nI_clamp (show 0 < 2 ^ 31 by decide), nI_clamp (show 1 < 2 ^ 31 by decide)]
    rfl
  obtain ⟨mA, r1, r2, r3, r4, r5, r6, r7⟩ := mA
  obtain ⟨l, l1', l2', l3', l4'⟩ := gL_leaves h.1 (p := nI s) rfl x1
  obtain ⟨rc, rb, h1, h2, aC, aM, nC, nM, kL, u0, l0, u1, l1, b0, b1, z1, z2, z3, z4, z5⟩ := gq_lock (La := fun n (a : Zst × Int32) => L_X8_measureWaste_7 (fun σ12 => J_X8_measureWaste_114 σ12) (nI s) n a.1 a.2)
    (Lb := fun n (a : Zst × Int32) => L_X12_wastes_29 (nI s) n a.1 a.2)
    (fun i a b => a.2 = nI i ∧ b.2 = nI i ∧ gaC c a.1 ∧ gaM m b.1 ∧ gNR c a.1 ∧ gNRm m b.1 ∧ gKL 0 c a.1 ∧ gBnd i (a.1.2.2.1 3 0) (a.1.2.2.1 4 0) ∧ gBnd i (a.1.2.2.1 3 1) (a.1.2.2.1 4 1) ∧ b.1.2.2.1 1 1 = a.1.2.2.1 3 0 ∧ b.1.2.2.1 2 1 = a.1.2.2.1 4 0 ∧ b.1.2.2.1 1 0 = a.1.2.2.1 3 1 ∧ b.1.2.2.1 2 0 = a.1.2.2.1 4 1)
    (fun c' m' => gaC c c' ∧ gaM m m' ∧ gNR c c' ∧ gNRm m m' ∧ gKL 0 c c' ∧ ∃ u0 l0 u1 l1, gBnd 96 u0 l0 ∧ gBnd 96 u1 l1 ∧
      m'.2.2.1 1 1 = u0 ∧ m'.2.2.1 2 1 = l0 ∧ m'.2.2.1 1 0 = u1 ∧ m'.2.2.1 2 0 = l1 ∧
      ((l0 = 0 ∨ l1 = 0) ∧ c'.2.2.1 4 0 = 0 ∧ c'.2.2.1 4 1 = 0 ∨ ¬ l0 = 0 ∧ ¬ l1 = 0 ∧ c'.2.2.1 3 0 = u0 ∧ c'.2.2.1 4 0 = l0 ∧ c'.2.2.1 3 1 = u1 ∧ c'.2.2.1 4 1 = l1)) (12 * T) (by omega)
    (a := (cA, 0)) (b := (mA, 0))
    (fun i a b hi hI => by
      obtain ⟨c1, qa⟩ := a
      obtain ⟨m1, qb⟩ := b
      obtain ⟨ha, hb, hac, ham, hnc, hnm, hkl, hb0, hb1, d1, d2, d3, d4⟩ := hI
      have ha : qa = nI i := ha
      have hb : qb = nI i := hb
      have hac : gaC c c1 := hac
      have ham : gaM m m1 := ham
      have hkl : gKL 0 c c1 := hkl
      have hb0 : gBnd i (c1.2.2.1 3 0) (c1.2.2.1 4 0) := hb0
      have hb1 : gBnd i (c1.2.2.1 3 1) (c1.2.2.1 4 1) := hb1
      have d1 : m1.2.2.1 1 1 = c1.2.2.1 3 0 := d1
      have d2 : m1.2.2.1 2 1 = c1.2.2.1 4 0 := d2
      have d3 : m1.2.2.1 1 0 = c1.2.2.1 3 1 := d3
      have d4 : m1.2.2.1 2 0 = c1.2.2.1 4 1 := d4
      subst ha hb
      have h' := gCor_ag h hac ham
      obtain ⟨hc, hc'⟩ := gL_cells h'.1
      have t1 := gL_has h'.2.1 (x := 0) 0 i s rfl rfl rfl (by decide) (by omega) (by omega)
      have t2 := gL_told h'.2.1 (x := 0) 0 i s rfl rfl rfl (by decide) (by omega) (by omega)
      have t3 := gL_of h'.2.1 (x := 0) 0 i s rfl rfl rfl (by decide) (by omega) (by omega)
      have t4 := gL_at (m := m1) (x := 0) 0 i s rfl rfl rfl (by decide) (by omega) (by omega)
      have w1 := gL_has h'.2.1 (x := 1) 1 i s rfl rfl rfl (by decide) (by omega) (by omega)
      have w2 := gL_told h'.2.1 (x := 1) 1 i s rfl rfl rfl (by decide) (by omega) (by omega)
      have w3 := gL_of h'.2.1 (x := 1) 1 i s rfl rfl rfl (by decide) (by omega) (by omega)
      have w4 : ∀ m2 : Zst, m2.2.1 8 = m1.2.1 8 → f_X12_at m2 1 (nI i) (nI s) = some (m1.2.1 8 (gP 1 i s) - 1) := fun m2 e => by
        rw [gL_at (m := m2) (x := 1) 1 i s rfl rfl rfl (by decide) (by omega) (by omega), e]
      obtain ⟨v, v1, v2, -⟩ := gL_val h'.2.1 (k := 0) (j := i) (s := s) (by decide) (by omega) (by omega)
      obtain ⟨q, q1, q2, -⟩ := gL_val h'.2.1 (k := 1) (j := i) (s := s) (by decide) (by omega) (by omega)
      rw [v2] at t1 t2 t3 t4
      rw [q2] at w1 w2 w3 w4
      have hn : ¬ nI (12 * T) ≤ nI i := nI_ge hi (by omega)
      rcases gtf_c (nI v) with b3 | b3
      · refine ⟨(c1, nI (i + 1)), (m1, nI (i + 1)), fun n => ?_, fun n => ?_, rfl, rfl, hac, ham, hnc, hnm, hkl, gBnd_up hb0 (Nat.le_succ i), gBnd_up hb1 (Nat.le_succ i), d1, d2, d3, d4⟩
        · simp only [L_X8_measureWaste_7, hc, if_neg hn, ↓reduceIte, nI_1, t1, b3, Option.bind_some]
        · simp only [L_X12_wastes_29, hc', if_neg hn, ↓reduceIte, nI_1, t2, b3, Option.bind_some]
      rcases gtf_c (nI q) with b4 | b4
      · refine ⟨(c1, nI (i + 1)), (m1, nI (i + 1)), fun n => ?_, fun n => ?_, rfl, rfl, hac, ham, hnc, hnm, hkl, gBnd_up hb0 (Nat.le_succ i), gBnd_up hb1 (Nat.le_succ i), d1, d2, d3, d4⟩
        · simp only [L_X8_measureWaste_7, hc, if_neg hn, ↓reduceIte, nI_1, t1, w1, b3, b4, gq_10, Option.bind_some]
        · simp only [L_X12_wastes_29, hc', if_neg hn, ↓reduceIte, nI_1, t2, w2, b3, b4, gq_10, Option.bind_some]
      · have v3 := gtf_0 v1 b3
        have q3 := gtf_0 q1 b4
        have ev : nI v - 1 = nI (v - 1) := by rw [show (1 : Int32) = nI 1 from rfl, pk_sub v3]
        have eq' : nI q - 1 = nI (q - 1) := by rw [show (1 : Int32) = nI 1 from rfl, pk_sub q3]
        have hm9 : (q - 1) * l ≤ 1000 * 100 := gMulLe (by omega) l2'
        have el : nI (q - 1) * nI l / 100 = nI ((q - 1) * l / 100) := by rw [pk_mul, show (100 : Int32) = nI 100 from rfl, pk_div (by omega) (by decide) (by decide)]
        have hd9 : (q - 1) * l / 100 ≤ 1000 := by omega
        have hle : f_X10_leavesOf c1 (nI s) = some (nI l) := by
          unfold f_X10_leavesOf f_X10_hasSort at *
          rw [hac.1 10 rfl, hac.2 10 rfl]; exact l3'
        have hlm : m1.2.1 0 s = nI l := by rw [ham.2 0 rfl]; exact l4'
        have hmod : i % 12 < 12 := Nat.mod_lt _ (by decide)
        obtain ⟨b, g1, g2⟩ := gL_lack h'.1 x1 hmod
        have hce : (12 : Int32) * nI s + nI (i % 12) = nI (12 * s + i % 12) := by rw [show (12 : Int32) = nI 12 from rfl, pk_mul, nI_add]
        have hx : -1000 ≤ (nI (v - 1) - nI ((q - 1) * l / 100)).toInt ∧ (nI (v - 1) - nI ((q - 1) * l / 100)).toInt ≤ 1000 := by
          rw [pk_sub_toInt (by omega) (by omega)]; omega
        generalize hX : nI (v - 1) - nI ((q - 1) * l / 100) = X at hx
        have aT0 : ∀ u l, f_X8_addTo c1 0 u l = _ := gAddTo (c := c1) (k := 0) (by decide)
        have aT1 : ∀ u l, f_X8_addTo c1 1 u l = _ := gAddTo (c := c1) (k := 1) (by decide)
        cases b with
        | true =>
          have g1 : f_X10_isLack c1 (nI s) (nI (i % 12)) = some 1 := g1
          have g2 : m1.2.1 7 (12 * s + i % 12) = 1 := g2
          refine ⟨(zL (zL c1 3 (vp_updL (c1.2.2.1 3) 0 (c1.2.2.1 3 0 + Int32.toInt64 X))) 4 (vp_updL (c1.2.2.1 4) 0 (c1.2.2.1 4 0 + Int32.toInt64 (nI (q - 1)))), nI (i + 1)), (zL (zL m1 1 (vp_updL (m1.2.2.1 1) 1 (m1.2.2.1 1 1 + Int32.toInt64 X))) 2 (vp_updL (m1.2.2.1 2) 1 (m1.2.2.1 2 1 + Int32.toInt64 (nI (q - 1)))), nI (i + 1)), fun n => ?_, fun n => ?_, rfl, rfl, hac, ham, hnc, hnm, ?_, ?_, ?_, ?_, ?_, ?_, ?_⟩
          · simp only [L_X8_measureWaste_7, hc, if_neg hn, ↓reduceIte, nI_1, t1, w1, t3, w3, b3, b4, gq_10, Option.bind_some, hle, gRem12 i (show i < 2 ^ 31 by omega), g1, ev, eq', el, hX, aT0]
          · simp only [L_X12_wastes_29, hc', if_neg hn, ↓reduceIte, nI_1, t2, w2, t4, b3, b4, gq_10, Option.bind_some, gRem12 i (show i < 2 ^ 31 by omega), hce, gGx (show 12 * s + i % 12 < 96 by omega) (by decide), nI_clamp (show 12 * s + i % 12 < 2 ^ 31 by omega), g2, show f_X12_flag 1 = nI 1 from rfl, gGx (show 1 < 2 by decide) (by decide), nI_clamp (show 1 < 2 ^ 31 by decide), gGx (show s < 8 by omega) (by decide), nI_clamp (show s < 2 ^ 31 by omega), hlm, w4 m1 rfl, w4 (zL m1 1 _) rfl, ev, eq', el, hX]
          · intro j hj0 hj1
            refine ⟨?_, ?_⟩
            · show vp_updL (c1.2.2.1 3) 0 _ j = _
              rw [gLn hj0]; exact (hkl j hj0 hj1).1
            · show vp_updL (c1.2.2.1 4) 0 _ j = _
              rw [gLn hj0]; exact (hkl j hj0 hj1).2
          · exact gBnd_add (by omega) hb0 hx.1 hx.2 rfl (by omega)
          · exact gBnd_up hb1 (Nat.le_succ i)
          · show m1.2.2.1 1 1 + Int32.toInt64 X = c1.2.2.1 3 0 + Int32.toInt64 X
            rw [d1]
          · show m1.2.2.1 2 1 + Int32.toInt64 (nI (q - 1)) = c1.2.2.1 4 0 + Int32.toInt64 (nI (q - 1))
            rw [d2]
          · exact d3
          · exact d4
        | false =>
          have g1 : f_X10_isLack c1 (nI s) (nI (i % 12)) = some 0 := g1
          have g2 : m1.2.1 7 (12 * s + i % 12) = 0 := g2
          refine ⟨(zL (zL c1 3 (vp_updL (c1.2.2.1 3) 1 (c1.2.2.1 3 1 + Int32.toInt64 X))) 4 (vp_updL (c1.2.2.1 4) 1 (c1.2.2.1 4 1 + Int32.toInt64 (nI (q - 1)))), nI (i + 1)), (zL (zL m1 1 (vp_updL (m1.2.2.1 1) 0 (m1.2.2.1 1 0 + Int32.toInt64 X))) 2 (vp_updL (m1.2.2.1 2) 0 (m1.2.2.1 2 0 + Int32.toInt64 (nI (q - 1)))), nI (i + 1)), fun n => ?_, fun n => ?_, rfl, rfl, hac, ham, hnc, hnm, ?_, ?_, ?_, ?_, ?_, ?_, ?_⟩
          · simp only [L_X8_measureWaste_7, hc, if_neg hn, ↓reduceIte, nI_1, t1, w1, t3, w3, b3, b4, gq_10, Option.bind_some, hle, gRem12 i (show i < 2 ^ 31 by omega), g1, ev, eq', el, hX, aT1]
          · simp only [L_X12_wastes_29, hc', if_neg hn, ↓reduceIte, nI_1, t2, w2, t4, b3, b4, gq_10, Option.bind_some, gRem12 i (show i < 2 ^ 31 by omega), hce, gGx (show 12 * s + i % 12 < 96 by omega) (by decide), nI_clamp (show 12 * s + i % 12 < 2 ^ 31 by omega), g2, show f_X12_flag 0 = nI 0 from rfl, gGx (show 0 < 2 by decide) (by decide), nI_clamp (show 0 < 2 ^ 31 by decide), gGx (show s < 8 by omega) (by decide), nI_clamp (show s < 2 ^ 31 by omega), hlm, w4 m1 rfl, w4 (zL m1 1 _) rfl, ev, eq', el, hX]
          · intro j hj0 hj1
            refine ⟨?_, ?_⟩
            · show vp_updL (c1.2.2.1 3) 1 _ j = _
              rw [gLn hj1]; exact (hkl j hj0 hj1).1
            · show vp_updL (c1.2.2.1 4) 1 _ j = _
              rw [gLn hj1]; exact (hkl j hj0 hj1).2
          · exact gBnd_up hb0 (Nat.le_succ i)
          · exact gBnd_add (by omega) hb1 hx.1 hx.2 rfl (by omega)
          · exact d1
          · exact d2
          · show m1.2.2.1 1 0 + Int32.toInt64 X = c1.2.2.1 3 1 + Int32.toInt64 X
            rw [d3]
          · show m1.2.2.1 2 0 + Int32.toInt64 (nI (q - 1)) = c1.2.2.1 4 1 + Int32.toInt64 (nI (q - 1))
            rw [d4])
    (fun a b hI => by
      obtain ⟨c1, qa⟩ := a
      obtain ⟨m1, qb⟩ := b
      obtain ⟨ha, hb, hac, ham, hnc, hnm, hkl, hb0, hb1, d1, d2, d3, d4⟩ := hI
      have ha : qa = nI (12 * T) := ha
      have hb : qb = nI (12 * T) := hb
      have hac : gaC c c1 := hac
      have ham : gaM m m1 := ham
      have hkl : gKL 0 c c1 := hkl
      have hbA : gBnd 96 (c1.2.2.1 3 0) (c1.2.2.1 4 0) := gBnd_up hb0 (by omega)
      have hbB : gBnd 96 (c1.2.2.1 3 1) (c1.2.2.1 4 1) := gBnd_up hb1 (by omega)
      subst ha hb
      have h' := gCor_ag h hac ham
      obtain ⟨hc, hc'⟩ := gL_cells h'.1
      have hn : nI (12 * T) ≤ nI (12 * T) := nI_le (Nat.le_refl _) (by omega)
      have c0 : Int32.toNatClampNeg 0 = 0 := rfl
      have c1' : Int32.toNatClampNeg 1 = 1 := rfl
      by_cases z : c1.2.2.1 4 0 = 0 ∨ c1.2.2.1 4 1 = 0
      · obtain ⟨c2, y1, y2, y3, y4, y5, y6, y7, y8⟩ := gClear (c := c1) (t := 0) (by decide)
        have y1 : f_X8_clearThings c1 0 = some c2 := y1
        refine ⟨c2, m1, fun n => ?_, fun n => ?_, gaC_tr hac y2, ham, gNR_tr hnc y3, hnm, gKL_tr hkl y4, _, _, _, _, hbA, hbB, d1, d2, d3, d4, Or.inl ⟨z, y7, y8⟩⟩
        · simp only [L_X8_measureWaste_7, hc, if_pos hn, J_X8_measureWaste_114, J_X8_measureWaste_136, y1, Option.bind_some, c0, c1']
          rcases z with z | z
          · rw [if_pos z]
          · by_cases z0 : c1.2.2.1 4 0 = 0
            · rw [if_pos z0]
            · rw [if_neg z0, if_pos z]
        · simp only [L_X12_wastes_29, hc', if_pos hn]
      · have z0 : ¬ c1.2.2.1 4 0 = 0 := fun q => z (Or.inl q)
        have z1 : ¬ c1.2.2.1 4 1 = 0 := fun q => z (Or.inr q)
        refine ⟨c1, m1, fun n => ?_, fun n => ?_, hac, ham, hnc, hnm, hkl, _, _, _, _, hbA, hbB, d1, d2, d3, d4, Or.inr ⟨z0, z1, rfl, rfl, rfl, rfl⟩⟩
        · simp only [L_X8_measureWaste_7, hc, if_pos hn, J_X8_measureWaste_114, c0, c1', if_neg z0, if_neg z1]
        · simp only [L_X12_wastes_29, hc', if_pos hn])
    ⟨rfl, rfl, q2, r2, q3, r3, q4, by rw [q5, q7]; exact ⟨by decide, by decide, 0, by decide, rfl⟩, by rw [q6, q8]; exact ⟨by decide, by decide, 0, by decide, rfl⟩, by rw [q5]; exact r5, by rw [q7]; exact r7, by rw [q6]; exact r4, by rw [q8]; exact r6⟩
  refine ⟨rc, rb, u0, l0, u1, l1, ?_, ?_, aC, aM, nC, nM, kL, b0, b1, z1, z2, z3, z4, z5⟩
  · unfold f_X8_measureWaste
    have q1 : f_X8_clearThings c 0 = some cA := q1
    rw [q1]
    exact h1
  · unfold f_X12_wastes J_X12_wastes_27
    rw [r1]
    exact h2
theorem gSgn3 (d : Int64) : (if gsg d.toInt ≤ 0 then (if 0 ≤ gsg d.toInt then (0 : Int32) else 2) else 1) = (if d ≤ 0 then (if 0 ≤ d then (0 : Int32) else 2) else 1) := by
  have z64 : (0 : Int64).toInt = 0 := rfl
  simp only [Int64.le_iff_toInt_le, z64]
  unfold gsg
  by_cases h : d.toInt < 0
  · rw [if_pos h, if_pos (by decide), if_neg (by decide), if_pos (by omega), if_neg (by omega)]
  · by_cases h2 : d.toInt = 0
    · rw [if_neg h, if_pos h2, if_pos (by decide), if_pos (by decide), if_pos (by omega), if_pos (by omega)]
    · rw [if_neg h, if_neg h2, if_neg (by decide), if_neg (by omega)]
theorem gNn0 {x : Int64} (h : 0 ≤ x.toInt) : (x ≤ 0) = (x = 0) := by
  have z64 : (0 : Int64).toInt = 0 := rfl
  rw [eq_iff_iff, Int64.le_iff_toInt_le, ← Int64.toInt_inj, z64]
  omega
/-- a thing that is had -/
theorem gHad {c : Zst} {a : Nat} (ha : a < 10) (na : 0 ≤ (c.2.2.1 4 a).toInt) : f_X8_isHad c (nI a) = some (if c.2.2.1 4 a = 0 then 0 else 1) := by
  unfold f_X8_isHad
  rw [if_neg (nI_pos (by omega)), if_neg (show ¬ (10 : Int32) ≤ nI a from nI_ge (b := 10) (by omega) (by decide)), gGx ha (by decide), nI_clamp (show a < 2 ^ 31 by omega)]
  simp only [gNn0 na]
/-- two things that are had, compared -/
theorem gCmpTh {c : Zst} {a b : Nat} (ha : a < 10) (hb : b < 10) (na : 0 ≤ (c.2.2.1 4 a).toInt) (nb : 0 ≤ (c.2.2.1 4 b).toInt) (za : ¬ c.2.2.1 4 a = 0) (zb : ¬ c.2.2.1 4 b = 0) :
    f_X8_compareThings c (nI a) (nI b) = some (f_X11_compareFractions (c.2.2.1 3 a) (c.2.2.1 4 a) (c.2.2.1 3 b) (c.2.2.1 4 b)) := by
  unfold f_X8_compareThings
  rw [gHad ha na, gHad hb nb, if_neg za, if_neg zb]
  simp only [Option.bind_some, gq_10, ↓reduceIte, gGx ha (by decide), gGx hb (by decide), nI_clamp (show a < 2 ^ 31 by omega), nI_clamp (show b < 2 ^ 31 by omega)]
theorem pp_waste : lp_waste gRel := by
  intro c m hR p0
  obtain ⟨S, T, n, h, hr⟩ := hR
  have no : gRel c (zI m 0 0) := gNo h hr
  have h' : gCor S T c (zI m 0 0) := gCor_ag h gaC_rf gaM_0
  have hr' : gRR n c (zI m 0 0) := hr
  unfold f_X11_waste f_X8_wasteInLack f_X12_waste
  simp only [gL_sort h'.1]
  generalize zI m 0 0 = m0 at *
  rcases gS_sort h.1 p0 with ⟨e0, s, x1, x2⟩ | e0
  case inr => simp only [e0, ↓reduceIte, Option.bind_some]; exact ⟨_, _, rfl, rfl, rfl, no⟩
  obtain ⟨c1, m1, u0, l0, u1, l1, f1, f2, aC, aM, nC, nM, kL, ⟨b1, b2, k0, b3, b4⟩, ⟨b5, b6, k1, b7, b8⟩, d1, d2, d3, d4, hz⟩ := gWastes h' x2 x1
  have hr1 := gRR_nr hr' nC nM
  have c0 : Int32.toNatClampNeg 0 = 0 := rfl
  have c1' : Int32.toNatClampNeg 1 = 1 := rfl
  simp only [e0, gq_10, ↓reduceIte, f1, f2, Option.bind_some, c0, c1', d4, d2]
  rcases hz with ⟨z, z0, -⟩ | ⟨z0, z1, y1, y2, y3, y4⟩
  · simp only [if_pos z0, Option.bind_some]
    refine ⟨(c1, -2), (m1, -2), rfl, ?_, rfl, gRel_of h' aC aM hr1⟩
    by_cases q : l1 = 0
    · rw [if_pos q]
    · rw [if_neg q, if_pos (z.resolve_right q)]
  · obtain ⟨w1, w2, w3, w4⟩ := gX_clear hr1
    have hk0 : 0 < k0 := by
      rcases Nat.eq_zero_or_pos k0 with q | q
      · exact absurd (by rw [b4, q]; rfl) z0
      · exact q
    have hk1 : 0 < k1 := by
      rcases Nat.eq_zero_or_pos k1 with q | q
      · exact absurd (by rw [b8, q]; rfl) z1
      · exact q
    have t0 : l0.toInt = k0 := by rw [b4, pk_lT (by omega)]
    have t1 : l1.toInt = k1 := by rw [b8, pk_lT (by omega)]
    obtain ⟨c2, m2, i1, i2, i3, i4, i5⟩ := gX_frac w2 (by decide) (x := u0) (x' := u0) (y := l0) (y' := l0) rfl rfl (by omega) (by omega) (by omega) (by omega) (by omega)
    have q1 := gOR_tr w3 i4
    have q2 := gORm_tr w4 i5
    obtain ⟨c3, m3, j1, j2, j3, j4, j5⟩ := gX_frac i3 (by decide) (x := u1) (x' := u1) (y := l1) (y' := l1) rfl rfl (by omega) (by omega) (by omega) (by omega) (by omega)
    have q3 := gOR_tr q1 j4
    have q4 := gORm_tr q2 j5
    have p1 : (zI c1 0 0).2.2.1 3 0 = u0 := y1
    have p2 : (zI c1 0 0).2.2.1 4 0 = l0 := y2
    have p3 : c2.2.2.1 3 1 = u1 := by rw [q1.2.2 3 (by decide), y3]
    have p4 : c2.2.2.1 4 1 = l1 := by rw [q1.2.2 4 (by decide), y4]
    have p5 : m2.2.2.1 1 0 = u1 := by rw [q2.2.2 1 (by decide), d3]
    have p6 : m2.2.2.1 2 0 = l1 := by rw [q2.2.2 2 (by decide), d4]
    have o1 : c3.2.2.1 3 0 = u0 := by rw [q3.2.2 3 (by decide), y1]
    have o2 : c3.2.2.1 4 0 = l0 := by rw [q3.2.2 4 (by decide), y2]
    have o3 : c3.2.2.1 3 1 = u1 := by rw [q3.2.2 3 (by decide), y3]
    have o4 : c3.2.2.1 4 1 = l1 := by rw [q3.2.2 4 (by decide), y4]
    have o5 : m3.2.2.1 1 1 = u0 := by rw [q4.2.2 1 (by decide), d1]
    have o6 : m3.2.2.1 2 1 = l0 := by rw [q4.2.2 2 (by decide), d2]
    have o7 : m3.2.2.1 1 0 = u1 := by rw [q4.2.2 1 (by decide), d3]
    have o8 : m3.2.2.1 2 0 = l1 := by rw [q4.2.2 2 (by decide), d4]
    have a1 := gMulB (x := u0) (y := l1) (A := 96000) (B := 96000) (by omega) (by omega) (by omega) (by omega) (by decide) (by decide) (by decide)
    have a2 := gMulB (x := u1) (y := l0) (A := 96000) (B := 96000) (by omega) (by omega) (by omega) (by omega) (by decide) (by decide) (by decide)
    have e : f_X11_compareFractions u0 l0 u1 l1 = gsg (u0 * l1 - u1 * l0).toInt := by
      unfold f_X11_compareFractions
      rw [gCmpS, Int64.toInt_sub, gbm64 (by omega) (by omega)]
    have hcT : f_X8_compareThings c3 0 1 = some (gsg (u0 * l1 - u1 * l0).toInt) := by
      have := gCmpTh (c := c3) (a := 0) (b := 1) (by decide) (by decide) (by rw [o2]; omega) (by rw [o4]; omega) (by rw [o2]; exact z0) (by rw [o4]; exact z1)
      rw [o1, o2, o3, o4, e] at this
      exact this
    simp only [if_neg z1, y2, if_neg z0, d1, d2, w1, Option.bind_some, p1, p2, i1, i2, p3, p4, p5, p6, j1, j2, hcT, o5, o6, o7, o8, gSgn3]
    exact ⟨(c3, _), (m3, _), rfl, rfl, rfl, gRel_of h' (gaC_tr aC (gOR_a q3)) (gaM_tr aM (gORm_a q4)) j3⟩
