theorem gMulLe {a b x y : Nat} (h1 : a ≤ x) (h2 : b ≤ y) : a * b ≤ x * y := Nat.mul_le_mul h1 h2
theorem pp_line : lp_line gRel := by
  intro c m hR p0 p1 p2
  obtain ⟨S, T, n, h, hr⟩ := hR
  have no : gRel c (zI m 0 0) := gNo h hr
  have h' : gCor S T c (zI m 0 0) := gCor_ag h gaC_rf gaM_0
  have hr' : gRR n c (zI m 0 0) := hr
  have hT := h.1.1.2.1
  have hS := h.1.1.1
  unfold f_X11_line f_X0_surely f_X12_line
  simp only [gL_way, gL_sort h'.1, gq_in_0_100]
  generalize zI m 0 0 = m0 at *
  rcases gS_sort h.1 p0 with ⟨e0, s, x1, x2⟩ | e0
  case inr => simp only [e0, ↓reduceIte, Option.bind_some]; exact ⟨_, _, rfl, rfl, rfl, no⟩
  rcases gS_way p1 with ⟨e1, y, y1, y2⟩ | e1
  case inr => simp only [e0, e1, gq_10, ↓reduceIte, Option.bind_some]; exact ⟨_, _, rfl, rfl, rfl, no⟩
  rcases gWaste p2 with ⟨e2, w, z1, z2, z3⟩ | e2
  case inr => simp only [e0, e1, e2, gq_10, ↓reduceIte, Option.bind_some]; exact ⟨_, _, rfl, rfl, rfl, no⟩
  simp only [e0, e1, e2, gq_10, ↓reduceIte]
  subst x2
  have hw2 : (2 : Int32) + p1 = nI (2 + y) := by rw [y2, show (2 : Int32) = nI 2 from rfl, nI_add]
  obtain ⟨hc, hc'⟩ := gL_cells h'.1
  obtain ⟨ra, rb, h1, h2, h3⟩ := gq_lock (La := fun n (a : Int64 × Int64 × Int32 × Int32) => L_X0_surely_42 (fun w13 w14 w15 => J_X0_surely_129 c (nI s) p2 w13 w14 w15) c (nI s) p1 p2 n a.1 a.2.1 a.2.2.1 a.2.2.2)
    (Lb := fun n (a : Int64 × Int64 × Int32 × Int32) => L_X12_line_46 (fun w10 w11 w12 => J_X12_line_121 m0 (nI s) p2 w10 w11 w12) m0 (nI s) p1 p2 n a.1 a.2.1 a.2.2.1 a.2.2.2)
    (fun i a b => ∃ x z k : Nat, x ≤ 1000 * i ∧ z ≤ 1000 * i ∧ k ≤ i ∧ a = (lN x, lN z, (if k = 0 then 0 else 1), nI i) ∧ b = (lN x, lN z, nI k, nI i))
    (fun ra rb => ra.2 = rb.2 ∧ gRel ra.1 rb.1) (12 * T) (by omega) (a := (0, 0, 0, 0)) (b := (0, 0, 0, 0))
    (fun i a b hi hI => by
      obtain ⟨x, z, k, hx, hz, hk, rfl, rfl⟩ := hI
      have t1 := gL_has h'.2.1 (x := 0) 0 i s rfl rfl rfl (by decide) (by omega) (by omega)
      have t2 := gL_told h'.2.1 (x := 0) 0 i s rfl rfl rfl (by decide) (by omega) (by omega)
      have t3 := gL_of h'.2.1 (x := 0) 0 i s rfl rfl rfl (by decide) (by omega) (by omega)
      have t4 := gL_at (m := m0) (x := 0) 0 i s rfl rfl rfl (by decide) (by omega) (by omega)
      have u1 := gL_has h'.2.1 (2 + y) i s hw2 rfl rfl (by omega) (by omega) (by omega)
      have u2 := gL_told h'.2.1 (2 + y) i s hw2 rfl rfl (by omega) (by omega) (by omega)
      have u3 := gL_of h'.2.1 (2 + y) i s hw2 rfl rfl (by omega) (by omega) (by omega)
      have u4 := gL_at (m := m0) (2 + y) i s hw2 rfl rfl (by omega) (by omega) (by omega)
      obtain ⟨v, v1, v2, -⟩ := gL_val h'.2.1 (k := 0) (j := i) (s := s) (by decide) (by omega) (by omega)
      obtain ⟨q, q1, q2, -⟩ := gL_val h'.2.1 (k := 2 + y) (j := i) (s := s) (by omega) (by omega) (by omega)
      rw [v2] at t1 t2 t3 t4
      rw [q2] at u1 u2 u3 u4
      have hn : ¬ nI (12 * T) ≤ nI i := nI_ge hi (by omega)
      rcases gtf_c (nI v) with b3 | b3
      · refine ⟨(lN x, lN z, (if k = 0 then 0 else 1), nI (i + 1)), (lN x, lN z, nI k, nI (i + 1)), fun n => ?_, fun n => ?_, x, z, k, by omega, by omega, by omega, rfl, rfl⟩
        · simp only [L_X0_surely_42, hc, if_neg hn, ↓reduceIte, nI_1, t1, b3, Option.bind_some]
        · simp only [L_X12_line_46, hc', if_neg hn, ↓reduceIte, nI_1, t2, b3, Option.bind_some]
      rcases gtf_c (nI q) with b4 | b4
      · refine ⟨(lN x, lN z, (if k = 0 then 0 else 1), nI (i + 1)), (lN x, lN z, nI k, nI (i + 1)), fun n => ?_, fun n => ?_, x, z, k, by omega, by omega, by omega, rfl, rfl⟩
        · simp only [L_X0_surely_42, hc, if_neg hn, ↓reduceIte, nI_1, t1, u1, b3, b4, gq_10, Option.bind_some]
        · simp only [L_X12_line_46, hc', if_neg hn, ↓reduceIte, nI_1, t2, u2, b3, b4, gq_10, Option.bind_some]
      · have v3 := gtf_0 v1 b3
        have q3 := gtf_0 q1 b4
        refine ⟨(lN (x + (v - 1)), lN (z + (q - 1)), (if k + 1 = 0 then 0 else 1), nI (i + 1)), (lN (x + (v - 1)), lN (z + (q - 1)), nI (k + 1), nI (i + 1)), fun n => ?_, fun n => ?_, _, _, _, ?_, ?_, ?_, rfl, rfl⟩
        · simp only [L_X0_surely_42, hc, if_neg hn, ↓reduceIte, nI_1, t1, u1, t3, u3, b3, b4, gq_10, Option.bind_some, gl_1 v3 v1, gl_1 q3 q1, lN_add, if_neg (Nat.succ_ne_zero k)]
        · simp only [L_X12_line_46, hc', if_neg hn, ↓reduceIte, nI_1, t2, u2, t4, u4, b3, b4, gq_10, Option.bind_some, gl_1 v3 v1, gl_1 q3 q1, lN_add]
        · omega
        · omega
        · omega)
    (fun a b hI => by
      obtain ⟨x, z, k, hx, hz, hk, rfl, rfl⟩ := hI
      have hn : nI (12 * T) ≤ nI (12 * T) := nI_le (Nat.le_refl _) (by omega)
      by_cases hk0 : k = 0
      · subst hk0
        refine ⟨(c, -2), (m0, -2), fun n => ?_, fun n => ?_, rfl, no⟩
        · simp only [L_X0_surely_42, hc, if_pos hn, J_X0_surely_129, ↓reduceIte]
        · simp only [L_X12_line_46, hc', if_pos hn, J_X12_line_121, show nI 0 = 0 from rfl, ↓reduceIte]
      · obtain ⟨l, l1, l2, l3, l4⟩ := gL_leaves h'.1 (p := nI s) rfl x1
        obtain ⟨g, g1, g2, -⟩ := gL_stays h'.1 (p := nI s) rfl x1
        obtain ⟨w1, w2, w3, w4⟩ := gW_clear hr'
        have q1 := gPm (x := x) (y := 100 - w) (by omega) (by omega)
        obtain ⟨c1, m1, f1, f2, f3, f4, f5⟩ := gW_frac w2 (by decide) (x := lN x * lN (100 - w)) (y := lN l) rfl rfl q1.2.1 q1.2.2 (by rw [pk_lT (by omega)]; omega) (by rw [pk_lT (by omega)]; omega) (by rw [pk_lT (by omega)]; omega)
        obtain ⟨c2, m2, i1, i2, i3, i4, i5⟩ := gW_add f3 (by decide) (x := lN z) rfl
        have aC := gaC_tr (gaC_tr w3 f4) i4
        have aM := gaM_tr (gaM_tr w4 f5) i5
        have hm2 : m2.2.1 0 s = nI l := by rw [aM.2 0 rfl]; exact l4
        obtain ⟨g', g1', g2', g3'⟩ := gL_stays (gRA_ag h'.1 aC aM) (p := nI s) rfl x1
        have hg : g' = g := by
          have e : f_X10_staysOf c2 (nI s) = f_X10_staysOf c (nI s) := by
            unfold f_X10_staysOf f_X10_hasSort
            rw [aC.1 10 rfl, aC.2 13 rfl, aC.2 14 rfl, aC.2 15 rfl]
          rw [g2', g2] at e
          have e := (nI_eq (show 100 - g' < 2 ^ 31 by omega) (show 100 - g < 2 ^ 31 by omega)).mp (Option.some.inj e)
          omega
        subst hg
        have t1 : lN x * 100 * 100 = lN (x * 10000) := by rw [show (100 : Int64) = lN 100 from rfl, lN_mul, lN_mul, Nat.mul_assoc]
        have t2 : lN x * 10000 = lN (x * 10000) := by rw [show (10000 : Int64) = lN 10000 from rfl, lN_mul]
        have t3 : (100 : Int32) - nI g' = nI (100 - g') := by rw [show (100 : Int32) = nI 100 from rfl, pk_sub g1']
        have hk1 : ¬ nI k = 0 := nI_ne0 (by omega) (by omega)
        have hC : ∀ n, L_X0_surely_42 (fun w13 w14 w15 => J_X0_surely_129 c (nI s) p2 w13 w14 w15) c (nI s) p1 p2 (n + 1) (lN x) (lN z) (if k = 0 then 0 else 1) (nI (12 * T)) = (if lN x * lN (100 - w) ≤ lN z * lN l then some (c2, (if lN (100 - g') ≤ 0 then (0 : Int32) else (if lN z * lN l * lN (100 - g') ≤ lN (x * 10000) then 0 else 2))) else some (c2, 1)) := by
          intro n
          simp only [L_X0_surely_42, hc, if_pos hn, J_X0_surely_129, if_neg hk0, gq_10, ↓reduceIte, l3, g2', w1, Option.bind_some, z3, nI_l (show l < 2 ^ 31 by omega), nI_l (show 100 - g' < 2 ^ 31 by omega), f1, i1, t1, g2]
        have hM : ∀ n, L_X12_line_46 (fun w10 w11 w12 => J_X12_line_121 m0 (nI s) p2 w10 w11 w12) m0 (nI s) p1 p2 (n + 1) (lN x) (lN z) (nI k) (nI (12 * T)) = (if lN x * lN (100 - w) ≤ lN z * lN l then (if nI (100 - g') ≤ 0 then some (m2, (0 : Int32)) else some (m2, (if lN z * lN l * lN (100 - g') ≤ lN (x * 10000) then 0 else 2))) else some (m2, 1)) := by
          intro n
          simp only [L_X12_line_46, hc', if_pos hn, J_X12_line_121, if_neg hk1, gGx (show s < 8 by omega) (by decide), nI_clamp (show s < 2 ^ 31 by omega), l4, z3, nI_l (show l < 2 ^ 31 by omega), f2, i2, Option.bind_some, hm2, g3', t3, nI_l (show 100 - g' < 2 ^ 31 by omega), t2]
        have hg0 : (lN (100 - g') ≤ 0) = (nI (100 - g') ≤ 0) := by
          rw [show (0 : Int64) = lN 0 from rfl, show (0 : Int32) = nI 0 from rfl, eq_iff_iff, pk_lLE (by omega) (by decide), nI_leI (by omega) (by decide)]
        have fin : ∀ v : Int32, ((c2, v) : Zst × Int32).2 = ((m2, v) : Zst × Int32).2 ∧ gRel ((c2, v) : Zst × Int32).1 ((m2, v) : Zst × Int32).1 := fun v => ⟨rfl, gRel_of h' aC aM i3⟩
        by_cases d1 : lN x * lN (100 - w) ≤ lN z * lN l
        · by_cases d2 : nI (100 - g') ≤ 0
          · exact ⟨(c2, 0), (m2, 0), fun n => (hC n).trans (by rw [if_pos d1, if_pos (by rw [hg0]; exact d2)]), fun n => (hM n).trans (by rw [if_pos d1, if_pos d2]), fin 0⟩
          · exact ⟨(c2, _), (m2, _), fun n => (hC n).trans (by rw [if_pos d1, if_neg (by rw [hg0]; exact d2)]), fun n => (hM n).trans (by rw [if_pos d1, if_neg d2]), fin _⟩
        · exact ⟨(c2, 1), (m2, 1), fun n => (hC n).trans (by rw [if_neg d1]), fun n => (hM n).trans (by rw [if_neg d1]), fin 1⟩)
    ⟨0, 0, 0, Nat.le_refl _, Nat.le_refl _, Nat.le_refl _, rfl, rfl⟩
  have h1 : L_X0_surely_42 (fun w13 w14 w15 => J_X0_surely_129 c (nI s) p2 w13 w14 w15) c (nI s) p1 p2 zFu 0 0 0 0 = some ra := h1
  have h2 : L_X12_line_46 (fun w10 w11 w12 => J_X12_line_121 m0 (nI s) p2 w10 w11 w12) m0 (nI s) p1 p2 zFu 0 0 0 0 = some rb := h2
  rw [h1, h2]
  exact ⟨ra, rb, rfl, rfl, h3⟩
/-- row slots untouched -/
def gNR (c c' : Zst) : Prop := c'.1 0 = c.1 0 ∧ c'.2.2.1 0 = c.2.2.1 0
def gNRm (m m' : Zst) : Prop := m'.1 1 = m.1 1 ∧ m'.2.2.1 0 = m.2.2.1 0
theorem gRR_nr {n : Nat} {c m c' m' : Zst} (h : gRR n c m) (hc : gNR c c') (hm : gNRm m m') : gRR n c' m' := by
  unfold gRR at *
  rw [hc.1, hc.2, hm.1, hm.2]
  exact h
theorem gNR_tr {c c' c2 : Zst} (h : gNR c c') (g : gNR c' c2) : gNR c c2 := ⟨g.1.trans h.1, g.2.trans h.2⟩
theorem gNRm_tr {c c' c2 : Zst} (h : gNRm c c') (g : gNRm c' c2) : gNRm c c2 := ⟨g.1.trans h.1, g.2.trans h.2⟩
/-- how far answers are off, both sides -/
def gMs (n : Nat) (c m : Zst) : Prop := n ≤ 96 ∧ c.1 12 = nI n ∧ m.1 14 = nI n ∧ c.1 13 = m.1 15 ∧ (-(1000 * n : Int) ≤ (c.1 13).toInt ∧ (c.1 13).toInt ≤ 1000 * n) ∧ c.1 14 = m.1 16 ∧ c.1 15 = m.1 17 ∧ c.1 16 = m.1 18 ∧ c.1 17 = m.1 19
theorem gbm32 {x : Int} (h1 : -2147483648 ≤ x) (h2 : x < 2147483648) : x.bmod (2 ^ 32) = x := by
  rw [Int.bmod_def]
  split <;> omega
theorem gDif {v q : Nat} (h1 : 0 < v) (h2 : v ≤ 1000) (h3 : 0 < q) (h4 : q ≤ 1000) : (nI v - 1 - (nI q - 1)).toInt = (v : Int) - q := by
  rw [Int32.toInt_sub, gq_m1 (by omega), gq_m1 (by omega), gbm32 (by omega) (by omega)]
  omega
theorem gflag_le (x : Int32) : f_X12_flag (if x ≤ (0 : Int32) then (0 : Int32) else (1 : Int32)) = (if x ≤ (0 : Int32) then (0 : Int32) else (1 : Int32)) := by
  by_cases h : x ≤ 0
  · rw [if_pos h]; rfl
  · rw [if_neg h]; rfl
theorem gflag_ge (x : Int32) : f_X12_flag (if (0 : Int32) ≤ x then (0 : Int32) else (1 : Int32)) = (if (0 : Int32) ≤ x then (0 : Int32) else (1 : Int32)) := by
  by_cases h : 0 ≤ x
  · rw [if_pos h]; rfl
  · rw [if_neg h]; rfl
theorem gflag_eq (x : Int32) : f_X12_flag (if x = (0 : Int32) then (0 : Int32) else (1 : Int32)) = (if x = (0 : Int32) then (0 : Int32) else (1 : Int32)) := by
  by_cases h : x = 0
  · rw [if_pos h]; rfl
  · rw [if_neg h]; rfl
theorem gMin (x y : Int32) : jMin x y = (if x ≤ y then x else y) := by
  unfold jMin
  by_cases h : y < x
  · rw [if_pos h, if_neg (by rw [Int32.not_le]; exact h)]
  · rw [if_neg h, if_pos (by rw [← Int32.not_lt]; exact h)]
theorem gMax (x y : Int32) : jMax x y = (if y ≤ x then x else y) := by
  unfold jMax
  by_cases h : x < y
  · rw [if_pos h, if_neg (by rw [Int32.not_le]; exact h)]
  · rw [if_neg h, if_pos (by rw [← Int32.not_lt]; exact h)]
def gMsC (c : Zst) (d : Int32) : Zst := zI (zI (zI (zI (zI (zI c 14 (if (c.1 12) = (0 : Int32) then d else (if (c.1 14) ≤ d then (c.1 14) else d))) 15 (if (c.1 12) = (0 : Int32) then d else (if d ≤ (c.1 15) then (c.1 15) else d))) 16 ((c.1 16) + (if d ≤ (0 : Int32) then (0 : Int32) else (1 : Int32)))) 17 ((c.1 17) + (if (0 : Int32) ≤ d then (0 : Int32) else (1 : Int32)))) 13 ((c.1 13) + d)) 12 ((c.1 12) + (1 : Int32))
def gMsM (m : Zst) (d : Int32) : Zst := zI (zI (zI (zI (zI (zI m 16 (if (m.1 14) = (0 : Int32) then d else (if (m.1 16) ≤ d then (m.1 16) else d))) 17 (if (m.1 14) = (0 : Int32) then d else (if d ≤ (m.1 17) then (m.1 17) else d))) 15 ((m.1 15) + d)) 18 ((m.1 18) + (if d ≤ (0 : Int32) then (0 : Int32) else (1 : Int32)))) 19 ((m.1 19) + (if (0 : Int32) ≤ d then (0 : Int32) else (1 : Int32)))) 14 ((m.1 14) + (1 : Int32))
theorem gMeasure {S T : Nat} {c m : Zst} (h : gCor S T c m) {p0 p1 : Int32} {s y : Nat} (x2 : p0 = nI s) (x1 : s < S) (y2 : p1 = nI y) (y1 : y < 4) :
    ∃ c' m' n, f_X0_measure c p0 p1 = some c' ∧ f_X12_offs m p0 p1 = some m' ∧ gaC c c' ∧ gaM m m' ∧ gNR c c' ∧ gNRm m m' ∧ gMs n c' m' := by
  subst x2
  have hT := h.1.1.2.1
  have hS := h.1.1.1
  have hw2 : (2 : Int32) + p1 = nI (2 + y) := by rw [y2, show (2 : Int32) = nI 2 from rfl, nI_add]
  obtain ⟨ra, rb, h1, h2, n, h3⟩ := gq_lock (La := fun n (a : Zst × Int32) => L_X0_measure_32 (nI s) p1 n a.1 a.2)
    (Lb := fun n (a : Zst × Int32) => L_X12_offs_32 (nI s) p1 n a.1 a.2)
    (fun i a b => a.2 = nI i ∧ b.2 = nI i ∧ gaC c a.1 ∧ gaM m b.1 ∧ gNR c a.1 ∧ gNRm m b.1 ∧ ∃ n, n ≤ i ∧ gMs n a.1 b.1)
    (fun c' m' => ∃ n, gaC c c' ∧ gaM m m' ∧ gNR c c' ∧ gNRm m m' ∧ gMs n c' m') (12 * T) (by omega)
    (a := ((zI (zI (zI (zI (zI (zI c 12 (0 : Int32)) 13 (0 : Int32)) 14 (0 : Int32)) 15 (0 : Int32)) 16 (0 : Int32)) 17 (0 : Int32)), 0))
    (b := ((zI (zI (zI (zI (zI (zI m 14 (0 : Int32)) 15 (0 : Int32)) 16 (0 : Int32)) 17 (0 : Int32)) 18 (0 : Int32)) 19 (0 : Int32)), 0))
    (fun i a b hi hI => by
      obtain ⟨c1, qa⟩ := a
      obtain ⟨m1, qb⟩ := b
      obtain ⟨ha, hb, hac, ham, hnc, hnm, k, hk, hms⟩ := hI
      have ha : qa = nI i := ha
      have hb : qb = nI i := hb
      have hac : gaC c c1 := hac
      have ham : gaM m m1 := ham
      subst ha hb
      have h' := gCor_ag h hac ham
      obtain ⟨hc, hc'⟩ := gL_cells h'.1
      have t1 := gL_has h'.2.1 (x := 1) 1 i s rfl rfl rfl (by decide) (by omega) (by omega)
      have t2 := gL_told h'.2.1 (x := 1) 1 i s rfl rfl rfl (by decide) (by omega) (by omega)
      have t3 := gL_of h'.2.1 (x := 1) 1 i s rfl rfl rfl (by decide) (by omega) (by omega)
      have t4 := gL_at (m := m1) (x := 1) 1 i s rfl rfl rfl (by decide) (by omega) (by omega)
      have u1 := gL_has h'.2.1 (2 + y) i s hw2 rfl rfl (by omega) (by omega) (by omega)
      have u2 := gL_told h'.2.1 (2 + y) i s hw2 rfl rfl (by omega) (by omega) (by omega)
      have u3 := gL_of h'.2.1 (2 + y) i s hw2 rfl rfl (by omega) (by omega) (by omega)
      have u4 := gL_at (m := m1) (2 + y) i s hw2 rfl rfl (by omega) (by omega) (by omega)
      obtain ⟨v, v1, v2, -⟩ := gL_val h'.2.1 (k := 1) (j := i) (s := s) (by decide) (by omega) (by omega)
      obtain ⟨q, q1, q2, -⟩ := gL_val h'.2.1 (k := 2 + y) (j := i) (s := s) (by omega) (by omega) (by omega)
      rw [v2] at t1 t2 t3 t4
      rw [q2] at u1 u2 u3 u4
      have hn : ¬ nI (12 * T) ≤ nI i := nI_ge hi (by omega)
      rcases gtf_c (nI v) with b3 | b3
      · refine ⟨(c1, nI (i + 1)), (m1, nI (i + 1)), fun n => ?_, fun n => ?_, rfl, rfl, hac, ham, hnc, hnm, k, by omega, hms⟩
        · simp only [L_X0_measure_32, hc, if_neg hn, ↓reduceIte, nI_1, t1, b3, Option.bind_some]
        · simp only [L_X12_offs_32, hc', if_neg hn, ↓reduceIte, nI_1, t2, b3, Option.bind_some]
      rcases gtf_c (nI q) with b4 | b4
      · refine ⟨(c1, nI (i + 1)), (m1, nI (i + 1)), fun n => ?_, fun n => ?_, rfl, rfl, hac, ham, hnc, hnm, k, by omega, hms⟩
        · simp only [L_X0_measure_32, hc, if_neg hn, ↓reduceIte, nI_1, t1, u1, b3, b4, gq_10, Option.bind_some]
        · simp only [L_X12_offs_32, hc', if_neg hn, ↓reduceIte, nI_1, t2, u2, b3, b4, gq_10, Option.bind_some]
      · have v3 := gtf_0 v1 b3
        have q3 := gtf_0 q1 b4
        obtain ⟨k1, k2, k3, k4, ⟨k5, k6⟩, k7, k8, k9, k10⟩ := hms
        have k2 : c1.1 12 = nI k := k2
        have k3 : m1.1 14 = nI k := k3
        have k4 : c1.1 13 = m1.1 15 := k4
        have k7 : c1.1 14 = m1.1 16 := k7
        have k8 : c1.1 15 = m1.1 17 := k8
        have k9 : c1.1 16 = m1.1 18 := k9
        have k10 : c1.1 17 = m1.1 19 := k10
        have k5 : -(1000 * k : Int) ≤ (c1.1 13).toInt := k5
        have k6 : (c1.1 13).toInt ≤ 1000 * k := k6
        have hd := gDif q3 q1 v3 v1
        refine ⟨(gMsC c1 (nI q - 1 - (nI v - 1)), nI (i + 1)), (gMsM m1 (nI q - 1 - (nI v - 1)), nI (i + 1)), fun n => ?_, fun n => ?_, rfl, rfl, ?_, ?_, ?_, ?_, k + 1, ?_⟩
        · simp only [L_X0_measure_32, hc, if_neg hn, ↓reduceIte, nI_1, t1, u1, t3, u3, b3, b4, gq_10, Option.bind_some, f_X0_measureOne, gMsC]
        · simp only [L_X12_offs_32, hc', if_neg hn, ↓reduceIte, nI_1, t2, u2, t4, u4, b3, b4, gq_10, Option.bind_some, gflag_le, gflag_ge, gMin, gMax, gMsM]
        · exact gaC_I (gaC_I (gaC_I (gaC_I (gaC_I (gaC_I hac rfl) rfl) rfl) rfl) rfl) rfl
        · exact gaM_I (gaM_I (gaM_I (gaM_I (gaM_I (gaM_I ham rfl) rfl) rfl) rfl) rfl) rfl
        · exact hnc
        · exact hnm
        · have e13 : (c1.1 13 + (nI q - 1 - (nI v - 1))).toInt = (c1.1 13).toInt + ((q : Int) - v) := by
            rw [Int32.toInt_add, hd, gbm32 (by omega) (by omega)]
          refine ⟨by omega, by omega, ?_, ?_, ?_, ⟨?_, ?_⟩, ?_, ?_, ?_, ?_⟩
          · show c1.1 12 + 1 = _
            rw [k2, nI_1]
          · show m1.1 14 + 1 = _
            rw [k3, nI_1]
          · show c1.1 13 + _ = m1.1 15 + _
            rw [k4]
          · show _ ≤ (c1.1 13 + (nI q - 1 - (nI v - 1))).toInt
            rw [e13]; omega
          · show (c1.1 13 + (nI q - 1 - (nI v - 1))).toInt ≤ _
            rw [e13]; omega
          · show (if (c1.1 12) = (0 : Int32) then _ else (if (c1.1 14) ≤ _ then (c1.1 14) else _)) = (if (m1.1 14) = (0 : Int32) then _ else (if (m1.1 16) ≤ _ then (m1.1 16) else _))
            rw [k2, k3, k7]
          · show (if (c1.1 12) = (0 : Int32) then _ else (if _ ≤ (c1.1 15) then (c1.1 15) else _)) = (if (m1.1 14) = (0 : Int32) then _ else (if _ ≤ (m1.1 17) then (m1.1 17) else _))
            rw [k2, k3, k8]
          · show c1.1 16 + _ = m1.1 18 + _
            rw [k9]
          · show c1.1 17 + _ = m1.1 19 + _
            rw [k10])
    (fun a b hI => by
      obtain ⟨c1, qa⟩ := a
      obtain ⟨m1, qb⟩ := b
      obtain ⟨ha, hb, hac, ham, hnc, hnm, k, hk, hms⟩ := hI
      have ha : qa = nI (12 * T) := ha
      have hb : qb = nI (12 * T) := hb
      have hac : gaC c c1 := hac
      have ham : gaM m m1 := ham
      subst ha hb
      have h' := gCor_ag h hac ham
      obtain ⟨hc, hc'⟩ := gL_cells h'.1
      have hn : nI (12 * T) ≤ nI (12 * T) := nI_le (Nat.le_refl _) (by omega)
      refine ⟨c1, m1, fun n => ?_, fun n => ?_, k, hac, ham, hnc, hnm, hms⟩
      · simp only [L_X0_measure_32, hc, if_pos hn]
      · simp only [L_X12_offs_32, hc', if_pos hn])
    ⟨rfl, rfl, gaC_I (gaC_I (gaC_I (gaC_I (gaC_I (gaC_I gaC_rf rfl) rfl) rfl) rfl) rfl) rfl, gaM_I (gaM_I (gaM_I (gaM_I (gaM_I (gaM_I gaM_rf rfl) rfl) rfl) rfl) rfl) rfl, ⟨rfl, rfl⟩, ⟨rfl, rfl⟩, 0, Nat.le_refl _, by decide, rfl, rfl, rfl, ⟨Int.le_refl _, Int.le_refl _⟩, rfl, rfl, rfl, rfl⟩
  exact ⟨ra, rb, n, h1, h2, h3⟩
