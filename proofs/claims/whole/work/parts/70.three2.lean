theorem gN_add (f g : Nat → Nat) : ∀ n, gN (fun i => f i + g i) n = gN f n + gN g n := by
  intro n
  induction n with
  | zero => rfl
  | succ n ih =>
    show gN _ n + (f n + g n) = (gN f n + f n) + (gN g n + g n)
    rw [ih]; omega
theorem gN_mul (k : Nat) (f : Nat → Nat) : ∀ n, gN (fun i => k * f i) n = k * gN f n := by
  intro n
  induction n with
  | zero => rfl
  | succ n ih =>
    show gN _ n + k * f n = k * (gN f n + f n)
    rw [ih, Nat.mul_add]
def gD (n : Nat) (Sm : Nat → Nat) (Pm : Nat → Nat → Nat) (a b : Nat) : Int := (n : Int) * (Pm a b : Int) - (Sm a : Int) * (Sm b : Int)
theorem gThree {S T : Nat} {c m : Zst} (h : gCor S T c m) {s y : Nat} {p1 : Int32} (x1 : s < S) (y2 : p1 = nI y) (y1 : y < 4) (h13 : m.2.1 13 0 = 0 ∧ m.2.1 13 1 = 1 ∧ m.2.1 13 2 = 2 + p1) :
    ∃ (n : Nat) (Sm : Nat → Nat) (Pm : Nat → Nat → Nat) (c' : Zst), n ≤ 96 ∧ f_X0_gather c (nI s) p1 = some c' ∧ gaC c c' ∧ gNR c c' ∧ gSt n Sm Pm c' ∧ f_X12_threeMany m (nI s) = some (nI n) ∧
      (∀ m' : Zst, m'.1 3 = m.1 3 → m'.2.1 = m.2.1 → ∀ a b, a < 3 → b < 3 → f_X12_together m' (nI s) (nI a) (nI b) = some (Int64.ofInt (gD n Sm Pm a b))) ∧
      (∀ a b, a < 3 → b < 3 → -2299394304 ≤ gD n Sm Pm a b ∧ gD n Sm Pm a b ≤ 2299394304) := by
  have hT := h.1.1.2.1
  have hS := h.1.1.1
  obtain ⟨hc, hc'⟩ := gL_cells h.1
  have hw2 : (2 : Int32) + p1 = nI (2 + y) := by rw [y2, show (2 : Int32) = nI 2 from rfl, nI_add]
  let kd : Nat → Nat := fun k => if k = 2 then 2 + y else k
  have hkd : ∀ k, k < 3 → kd k < 6 := by
    intro k hk
    show (if k = 2 then 2 + y else k) < 6
    split <;> omega
  have hkO : ∀ k, k < 3 → f_X0_kindOf (nI k) p1 = nI (kd k) := by
    intro k hk
    unfold f_X0_kindOf
    have hk3 : k = 0 ∨ k = 1 ∨ k = 2 := by omega
    rcases hk3 with rfl | rfl | rfl
    · rfl
    · rfl
    · exact hw2
  have hm3 : ∀ k, k < 3 → m.2.1 13 k = nI (kd k) := by
    intro k hk
    have hk3 : k = 0 ∨ k = 1 ∨ k = 2 := by omega
    rcases hk3 with rfl | rfl | rfl
    · exact h13.1
    · exact h13.2.1
    · exact h13.2.2.trans hw2
  -- a cell
  have hw : ∀ i, i < 12 * T → (f_X0_isWhole c (nI s) p1 (nI i) = some 0 ∧ f_X12_areTold m (nI i) (nI s) = some 0) ∨
      (f_X0_isWhole c (nI s) p1 (nI i) = some 1 ∧ f_X12_areTold m (nI i) (nI s) = some 1 ∧ ∀ k, k < 3 → ∃ v : Nat, 0 < v ∧ v ≤ 1000 ∧ m.2.1 8 (gP (kd k) i s) = nI v) := by
    intro i hi
    unfold f_X0_isWhole f_X12_areTold
    have k0 : Int32.toNatClampNeg 0 = 0 := rfl
    have k1 : Int32.toNatClampNeg 1 = 1 := rfl
    have k2 : Int32.toNatClampNeg 2 = 2 := rfl
    rw [k0, k1, k2, h13.1, h13.2.1, h13.2.2]
    rw [gL_has h.2.1 (x := 0) 0 i s rfl rfl rfl (by decide) (by omega) (by omega), gL_told h.2.1 (x := 0) 0 i s rfl rfl rfl (by decide) (by omega) (by omega)]
    rw [gL_has h.2.1 (x := 1) 1 i s rfl rfl rfl (by decide) (by omega) (by omega), gL_told h.2.1 (x := 1) 1 i s rfl rfl rfl (by decide) (by omega) (by omega)]
    rw [gL_has h.2.1 (2 + y) i s hw2 rfl rfl (by omega) (by omega) (by omega), gL_told h.2.1 (2 + y) i s hw2 rfl rfl (by omega) (by omega) (by omega)]
    obtain ⟨u, u1, u2, -⟩ := gL_val h.2.1 (k := 0) (j := i) (s := s) (by decide) (by omega) (by omega)
    obtain ⟨v, v1, v2, -⟩ := gL_val h.2.1 (k := 1) (j := i) (s := s) (by decide) (by omega) (by omega)
    obtain ⟨w, w1, w2, -⟩ := gL_val h.2.1 (k := 2 + y) (j := i) (s := s) (by omega) (by omega) (by omega)
    rw [u2, v2, w2]
    rcases gtf_c (nI u) with b1 | b1
    · left; simp only [b1, ↓reduceIte, Option.bind_some, and_self]
    rcases gtf_c (nI v) with b2 | b2
    · left; simp only [b1, b2, gq_10, ↓reduceIte, Option.bind_some, and_self]
    rcases gtf_c (nI w) with b3 | b3
    · left; simp only [b1, b2, b3, gq_10, ↓reduceIte, Option.bind_some, and_self]
    · right
      simp only [b1, b2, b3, gq_10, ↓reduceIte, Option.bind_some]
      refine ⟨trivial, trivial, fun k hk => ?_⟩
      have hk3 : k = 0 ∨ k = 1 ∨ k = 2 := by omega
      rcases hk3 with rfl | rfl | rfl
      · exact ⟨u, gtf_0 u1 b1, u1, u2⟩
      · exact ⟨v, gtf_0 v1 b2, v1, v2⟩
      · exact ⟨w, gtf_0 w1 b3, w1, w2⟩
  have hcell : ∃ (tl : Nat → Nat) (V : Nat → Nat → Nat), ∀ i, i < 12 * T →
      (tl i = 0 ∧ (∀ k, V k i = 0) ∧ f_X0_isWhole c (nI s) p1 (nI i) = some 0 ∧ f_X12_areTold m (nI i) (nI s) = some 0) ∨
      (tl i = 1 ∧ f_X0_isWhole c (nI s) p1 (nI i) = some 1 ∧ f_X12_areTold m (nI i) (nI s) = some 1 ∧ ∀ k, k < 3 → V k i ≤ 999 ∧ m.2.1 8 (gP (kd k) i s) - 1 = nI (V k i)) := by
    refine ⟨fun i => if f_X0_isWhole c (nI s) p1 (nI i) = some 1 then 1 else 0, fun k i => if f_X0_isWhole c (nI s) p1 (nI i) = some 1 then (m.2.1 8 (gP (kd k) i s)).toNatClampNeg - 1 else 0, fun i hi => ?_⟩
    rcases hw i hi with ⟨g1, g2⟩ | ⟨g1, g2, g3⟩
    · left
      have hne : ¬ f_X0_isWhole c (nI s) p1 (nI i) = some 1 := by rw [g1]; decide
      exact ⟨if_neg hne, fun k => if_neg hne, g1, g2⟩
    · right
      refine ⟨if_pos g1, g1, g2, fun k hk => ?_⟩
      obtain ⟨v, v0, v1, v2⟩ := g3 k hk
      have e : (if f_X0_isWhole c (nI s) p1 (nI i) = some 1 then (m.2.1 8 (gP (kd k) i s)).toNatClampNeg - 1 else 0) = v - 1 := by
        rw [if_pos g1, v2, nI_clamp (by omega)]
      show (if f_X0_isWhole c (nI s) p1 (nI i) = some 1 then (m.2.1 8 (gP (kd k) i s)).toNatClampNeg - 1 else 0) ≤ 999 ∧ _ = nI (if f_X0_isWhole c (nI s) p1 (nI i) = some 1 then (m.2.1 8 (gP (kd k) i s)).toNatClampNeg - 1 else 0)
      rw [e, v2, show (1 : Int32) = nI 1 from rfl, pk_sub v0]
      exact ⟨by omega, rfl⟩
  obtain ⟨tl, V, hcell⟩ := hcell
  -- the class
  have fills : ∃ c0, (f_J7_fill_d0a16_28 (zI c 18 (0 : Int32)) (0 : Int64)).bind (fun t3 => f_J7_fill_d0a16_29 t3 (0 : Int64)) = some c0 ∧ c0.1 = (zI c 18 0).1 ∧ c0.2.1 = c.2.1 ∧ c0.2.2.1 0 = c.2.2.1 0 ∧ (∀ a, a < 3 → c0.2.2.1 1 a = 0) ∧ (∀ a b, a < 3 → b < 3 → c0.2.2.1 2 (a * 3 + b) = 0) := by
    obtain ⟨c1, q1, q2, q3, q4, q5⟩ := gq_loop (La := fun n (x : Zst × Int32) => L_J7_fill_d0a16_28_6 0 3 n x.1 x.2)
      (fun j x => x.2 = nI j ∧ x.1.1 = (zI c 18 0).1 ∧ x.1.2.1 = c.2.1 ∧ x.1.2.2.1 0 = c.2.2.1 0 ∧ ∀ a, a < j → x.1.2.2.1 1 a = 0)
      (fun c1 => c1.1 = (zI c 18 0).1 ∧ c1.2.1 = c.2.1 ∧ c1.2.2.1 0 = c.2.2.1 0 ∧ ∀ a, a < 3 → c1.2.2.1 1 a = 0) 3 (by omega) (a := (zI c 18 0, 0))
      (fun j x hj hx => by
        obtain ⟨c1, q⟩ := x
        obtain ⟨h0, h1, h2, h3, h4⟩ := hx
        have h0 : q = nI j := h0
        subst h0
        refine ⟨(zL c1 1 (vp_updL (c1.2.2.1 1) j 0), nI (j + 1)), fun n => ?_, rfl, h1, h2, h3, fun a ha => ?_⟩
        · simp only [L_J7_fill_d0a16_28_6, if_neg (show ¬ (3 : Int32) ≤ nI j from nI_ge (b := 3) hj (by decide)), gGx hj (by decide), nI_clamp (show j < 2 ^ 31 by omega), nI_1]
        · show vp_updL (c1.2.2.1 1) j 0 a = 0
          by_cases q : a = j
          · exact gLu q
          · rw [gLn q]; exact h4 a (by omega))
      (fun x hx => by
        obtain ⟨c1, q⟩ := x
        obtain ⟨h0, h1, h2, h3, h4⟩ := hx
        have h0 : q = nI 3 := h0
        subst h0
        refine ⟨c1, fun n => ?_, h1, h2, h3, h4⟩
        simp only [L_J7_fill_d0a16_28_6, if_pos (show (3 : Int32) ≤ nI 3 by decide)])
      ⟨rfl, rfl, rfl, rfl, fun a ha => by omega⟩
    obtain ⟨c2, r1, r2, r3, r4, r5, r6⟩ := gq_loop (La := fun n (x : Zst × Int32) => L_J7_fill_d0a16_29_6 0 9 n x.1 x.2)
      (fun j x => x.2 = nI j ∧ x.1.1 = c1.1 ∧ x.1.2.1 = c1.2.1 ∧ x.1.2.2.1 0 = c1.2.2.1 0 ∧ x.1.2.2.1 1 = c1.2.2.1 1 ∧ ∀ a, a < j → x.1.2.2.1 2 a = 0)
      (fun c2 => c2.1 = c1.1 ∧ c2.2.1 = c1.2.1 ∧ c2.2.2.1 0 = c1.2.2.1 0 ∧ c2.2.2.1 1 = c1.2.2.1 1 ∧ ∀ a, a < 9 → c2.2.2.1 2 a = 0) 9 (by omega) (a := (c1, 0))
      (fun j x hj hx => by
        obtain ⟨c2, q⟩ := x
        obtain ⟨h0, h1, h2, h3, h4, h5⟩ := hx
        have h0 : q = nI j := h0
        subst h0
        refine ⟨(zL c2 2 (vp_updL (c2.2.2.1 2) j 0), nI (j + 1)), fun n => ?_, rfl, h1, h2, h3, h4, fun a ha => ?_⟩
        · simp only [L_J7_fill_d0a16_29_6, if_neg (show ¬ (9 : Int32) ≤ nI j from nI_ge (b := 9) hj (by decide)), gGx hj (by decide), nI_clamp (show j < 2 ^ 31 by omega), nI_1]
        · show vp_updL (c2.2.2.1 2) j 0 a = 0
          by_cases q : a = j
          · exact gLu q
          · rw [gLn q]; exact h5 a (by omega))
      (fun x hx => by
        obtain ⟨c2, q⟩ := x
        obtain ⟨h0, h1, h2, h3, h4, h5⟩ := hx
        have h0 : q = nI 9 := h0
        subst h0
        refine ⟨c2, fun n => ?_, h1, h2, h3, h4, h5⟩
        simp only [L_J7_fill_d0a16_29_6, if_pos (show (9 : Int32) ≤ nI 9 by decide)])
      ⟨rfl, rfl, rfl, rfl, rfl, fun a ha => by omega⟩
    refine ⟨c2, ?_, r2.trans q2, r3.trans q3, r4.trans q4, fun a ha => by rw [r5]; exact q5 a ha, fun a b ha hb => r6 _ (by omega)⟩
    have q1 : f_J7_fill_d0a16_28 (zI c 18 0) 0 = some c1 := q1
    rw [q1]
    exact r1
  obtain ⟨c0, f0, f1, f2, f3, f4, f5⟩ := fills
  have aC0 : gaC c c0 := ⟨fun j hj => by rw [f1]; exact (gaC_I (c := c) (c' := c) (k := 18) (x := 0) gaC_rf rfl).1 j hj, fun j _ => by rw [f2]⟩
  have key : ∃ c', L_X0_gather_23 (nI s) p1 zFu c0 0 = some c' ∧ gaC c c' ∧ gNR c c' ∧ gSt (gN tl (12 * T)) (fun a => gN (V a) (12 * T)) (fun a b => gN (fun i => V a i * V b i) (12 * T)) c' := by
    obtain ⟨c', g1, g2⟩ := gq_loop (La := fun n (x : Zst × Int32) => L_X0_gather_23 (nI s) p1 n x.1 x.2)
      (fun j x => x.2 = nI j ∧ gaC c x.1 ∧ gNR c x.1 ∧ gSt (gN tl j) (fun a => gN (V a) j) (fun a b => gN (fun i => V a i * V b i) j) x.1)
      (fun c' => gaC c c' ∧ gNR c c' ∧ gSt (gN tl (12 * T)) (fun a => gN (V a) (12 * T)) (fun a b => gN (fun i => V a i * V b i) (12 * T)) c') (12 * T) (by omega) (a := (c0, 0))
      (fun j x hj hx => by
        obtain ⟨c1, q⟩ := x
        obtain ⟨h0, hac, hnr, h1, h2, h3⟩ := hx
        have h0 : q = nI j := h0
        subst h0
        have hac : gaC c c1 := hac
        have h1 : c1.1 18 = nI (gN tl j) := h1
        have h2 : ∀ a, a < 3 → c1.2.2.1 1 a = lN (gN (V a) j) := h2
        have h3 : ∀ a b, a < 3 → b < 3 → c1.2.2.1 2 (a * 3 + b) = lN (gN (fun i => V a i * V b i) j) := h3
        have hcur := gCor_ag h hac gaM_rf
        have hce := (gL_cells hcur.1).1
        have hn : ¬ nI (12 * T) ≤ nI j := nI_ge hj (by omega)
        have hWh : f_X0_isWhole c1 (nI s) p1 (nI j) = f_X0_isWhole c (nI s) p1 (nI j) := by
          unfold f_X0_isWhole f_X4_has f_X4_of
          rw [hac.2 1 rfl]
        rcases hcell j hj with ⟨b1, b2, b3, b4⟩ | ⟨b1, b3, b4, b5⟩
        · refine ⟨(c1, nI (j + 1)), fun n => ?_, rfl, hac, hnr, ?_, fun a ha => ?_, fun a b ha hb => ?_⟩
          · simp only [L_X0_gather_23, hce, if_neg hn, hWh, b3, Option.bind_some, ↓reduceIte, nI_1]
          · show c1.1 18 = nI (gN tl j + tl j)
            rw [h1, b1]; rfl
          · show c1.2.2.1 1 a = lN (gN (V a) j + V a j)
            rw [h2 a ha, b2]; rfl
          · show c1.2.2.1 2 (a * 3 + b) = lN (gN (fun i => V a i * V b i) j + V a j * V b j)
            rw [h3 a b ha hb, b2, Nat.zero_mul]; rfl
        · obtain ⟨c2, r1, r2, r3, r4, r5, r6⟩ := gOneG (c1 := c1) (s := s) (i := j) (p1 := p1) (V := fun k => V k j) (fun k hk => by have := (b5 k hk).1; omega) (fun c4 e k hk => by
            have e4 : f_X4_of c4 (f_X0_kindOf (nI k) p1) (nI j) (nI s) = f_X4_of c1 (f_X0_kindOf (nI k) p1) (nI j) (nI s) := by unfold f_X4_of; rw [e]
            rw [e4, hkO k hk, gL_of hcur.2.1 (kd k) j s rfl rfl rfl (hkd k hk) (by omega) (by omega), (b5 k hk).2])
          have aC2 : gaC c1 c2 := ⟨fun j hj => by rw [r2]; exact (gaC_I (c := c1) (c' := c1) (k := 18) gaC_rf rfl).1 j hj, fun j _ => by rw [r3]⟩
          refine ⟨(c2, nI (j + 1)), fun n => ?_, rfl, gaC_tr hac aC2, gNR_tr hnr ⟨by rw [r2]; rfl, r4⟩, ?_, fun a ha => ?_, fun a b ha hb => ?_⟩
          · simp only [L_X0_gather_23, hce, if_neg hn, hWh, b3, Option.bind_some, gq_10, ↓reduceIte, r1, nI_1]
          · show c2.1 18 = nI (gN tl j + tl j)
            rw [r2, b1]
            show c1.1 18 + 1 = _
            rw [h1, nI_1]
          · show c2.2.2.1 1 a = lN (gN (V a) j + V a j)
            rw [r5 a ha, h2 a ha, lN_add]
          · show c2.2.2.1 2 (a * 3 + b) = lN (gN (fun i => V a i * V b i) j + V a j * V b j)
            rw [r6 a b ha hb, h3 a b ha hb, lN_add])
      (fun x hx => by
        obtain ⟨c1, q⟩ := x
        obtain ⟨h0, hac, hnr, h1⟩ := hx
        have h0 : q = nI (12 * T) := h0
        subst h0
        have hcur := gCor_ag h hac gaM_rf
        have hce := (gL_cells hcur.1).1
        refine ⟨c1, fun n => ?_, hac, hnr, h1⟩
        simp only [L_X0_gather_23, hce, if_pos (nI_le (Nat.le_refl (12 * T)) (show 12 * T < 2 ^ 31 by omega))])
      ⟨rfl, aC0, ⟨by show c0.1 0 = c.1 0; rw [f1]; rfl, f3⟩, by show c0.1 18 = nI 0; rw [f1]; rfl, fun a ha => f4 a ha, fun a b ha hb => f5 a b ha hb⟩
    exact ⟨c', g1, g2⟩
  obtain ⟨c', k1, k2, k3, k4⟩ := key
  have tlb : ∀ i, i < 12 * T → tl i ≤ 1 := fun i hi => by
    rcases hcell i hi with ⟨b1, -⟩ | ⟨b1, -⟩ <;> omega
  have Vb : ∀ a i, a < 3 → i < 12 * T → V a i ≤ 999 * tl i := fun a i ha hi => by
    rcases hcell i hi with ⟨b1, b2, -⟩ | ⟨b1, -, -, b2⟩
    · rw [b2 a]; exact Nat.zero_le _
    · rw [b1]; exact (b2 a ha).1
  have gone : ∀ k, gN (fun _ => 1) k = k := by
    intro k
    induction k with
    | zero => rfl
    | succ k ih => show gN _ k + 1 = k + 1; rw [ih]
  have hn : gN tl (12 * T) ≤ 12 * T := by
    have := gN_le (f := tl) (g := fun _ => 1) (12 * T) tlb
    rw [gone] at this
    exact this
  refine ⟨gN tl (12 * T), fun a => gN (V a) (12 * T), fun a b => gN (fun i => V a i * V b i) (12 * T), c', by omega, ?_, k2, k3, k4, ?_, fun m' e3 e21 a b ha hb => ?_, fun a b ha hb => ?_⟩
  · unfold f_X0_gather
    rw [← Option.bind_assoc, f0]
    exact k1
  · unfold f_X12_threeMany
    obtain ⟨r, q1, q2⟩ := gq_loop (La := fun n (x : Int32 × Int32) => L_X12_threeMany_4 m (nI s) n x.1 x.2) (fun j x => x = (nI (gN tl j), nI j)) (fun r => r = nI (gN tl (12 * T))) (12 * T) (by omega) (a := (0, 0))
      (fun j x hj hx => by
        subst hx
        refine ⟨(nI (gN tl j + tl j), nI (j + 1)), fun n => ?_, rfl⟩
        rcases hcell j hj with ⟨b1, b2, b3, b4⟩ | ⟨b1, b3, b4, b5⟩
        · simp only [L_X12_threeMany_4, hc', if_neg (nI_ge hj (show 12 * T < 2 ^ 31 by omega)), b4, Option.bind_some, show f_X12_flag 0 = nI 0 from rfl, nI_add, nI_1, b1]
        · simp only [L_X12_threeMany_4, hc', if_neg (nI_ge hj (show 12 * T < 2 ^ 31 by omega)), b4, Option.bind_some, show f_X12_flag 1 = nI 1 from rfl, nI_add, nI_1, b1])
      (fun x hx => by
        subst hx
        refine ⟨_, fun n => ?_, rfl⟩
        simp only [L_X12_threeMany_4, hc', if_pos (nI_le (Nat.le_refl (12 * T)) (show 12 * T < 2 ^ 31 by omega))])
      rfl
    rw [q2] at q1
    exact q1
  · unfold f_X12_together
    have hce2 : (12 : Int32) * m'.1 3 = nI (12 * T) := by rw [e3]; exact hc'
    have hTo : ∀ j, f_X12_areTold m' (nI j) (nI s) = f_X12_areTold m (nI j) (nI s) := fun j => by unfold f_X12_areTold f_X12_isTold; rw [e21]
    have hAt : ∀ k j, k < 3 → j < 12 * T → (m.2.1 8 (gP (kd k) j s) - 1 = nI (V k j)) → f_X12_at m' (m'.2.1 13 k) (nI j) (nI s) = some (nI (V k j)) := fun k j hk hj e => by
      rw [e21, hm3 k hk, gL_at (m := m') (kd k) j s rfl rfl rfl (hkd k hk) (by omega) (by omega), e21, e]
    obtain ⟨r, q1, q2⟩ := gq_loop (La := fun n (x : Int64 × Int64 × Int64 × Int64 × Int32) => L_X12_together_15 m' (nI s) (nI a) (nI b) n x.1 x.2.1 x.2.2.1 x.2.2.2.1 x.2.2.2.2) (fun j x => x = (lN (gN tl j), lN (gN (V a) j), lN (gN (V b) j), lN (gN (fun i => V a i * V b i) j), nI j)) (fun r => r = Int64.ofInt (gD (gN tl (12 * T)) (fun a => gN (V a) (12 * T)) (fun a b => gN (fun i => V a i * V b i) (12 * T)) a b)) (12 * T) (by omega) (a := (0, 0, 0, 0, 0))
      (fun j x hj hx => by
        subst hx
        refine ⟨(lN (gN tl j + tl j), lN (gN (V a) j + V a j), lN (gN (V b) j + V b j), lN (gN (fun i => V a i * V b i) j + V a j * V b j), nI (j + 1)), fun n => ?_, rfl⟩
        rcases hcell j hj with ⟨b1, b2, b3, b4⟩ | ⟨b1, b3, b4, b5⟩
        · simp only [L_X12_together_15, hce2, if_neg (nI_ge hj (show 12 * T < 2 ^ 31 by omega)), hTo, b4, Option.bind_some, ↓reduceIte, b1, b2, Nat.zero_mul, Nat.add_zero, nI_1]
        · simp only [L_X12_together_15, hce2, if_neg (nI_ge hj (show 12 * T < 2 ^ 31 by omega)), hTo, b4, Option.bind_some, gq_10, ↓reduceIte, gGx ha (by decide), gGx hb (by decide), nI_clamp (show a < 2 ^ 31 by omega), nI_clamp (show b < 2 ^ 31 by omega), hAt a j ha hj (b5 a ha).2, hAt b j hb hj (b5 b hb).2, nI_l (show V a j < 2 ^ 31 by have := (b5 a ha).1; omega), nI_l (show V b j < 2 ^ 31 by have := (b5 b hb).1; omega), lN_mul, lN_add, lN_1, b1, nI_1])
      (fun x hx => by
        subst hx
        refine ⟨_, fun n => ?_, rfl⟩
        simp only [L_X12_together_15, hce2, if_pos (nI_le (Nat.le_refl (12 * T)) (show 12 * T < 2 ^ 31 by omega)), gOI_nat, gOI_mul, gOI_sub]
        rfl)
      rfl
    rw [q2] at q1
    exact q1
  · show -2299394304 ≤ ((gN tl (12 * T) : Nat) : Int) * ((gN (fun i => V a i * V b i) (12 * T) : Nat) : Int) - ((gN (V a) (12 * T) : Nat) : Int) * ((gN (V b) (12 * T) : Nat) : Int) ∧ ((gN tl (12 * T) : Nat) : Int) * ((gN (fun i => V a i * V b i) (12 * T) : Nat) : Int) - ((gN (V a) (12 * T) : Nat) : Int) * ((gN (V b) (12 * T) : Nat) : Int) ≤ 2299394304
    have ma : ∀ a, a < 3 → gN (V a) (12 * T) ≤ 999 * gN tl (12 * T) := fun a ha => by
      have := gN_le (f := V a) (g := fun i => 999 * tl i) (12 * T) (fun i hi => Vb a i ha hi)
      rw [gN_mul] at this
      exact this
    have V9 : ∀ a i, a < 3 → i < 12 * T → V a i ≤ 999 := fun a i ha hi => by
      have := Vb a i ha hi
      have := tlb i hi
      omega
    have mp : gN (fun i => V a i * V b i) (12 * T) ≤ 999 * gN (V a) (12 * T) := by
      have := gN_le (f := fun i => V a i * V b i) (g := fun i => 999 * V a i) (12 * T) (fun i hi => by
        show V a i * V b i ≤ 999 * V a i
        rw [Nat.mul_comm]
        exact Nat.mul_le_mul_right _ (V9 b i hb hi))
      rw [gN_mul] at this
      exact this
    have mq : gN (fun i => V a i * V b i) (12 * T) ≤ 999 * gN (V b) (12 * T) := by
      have := gN_le (f := fun i => V a i * V b i) (g := fun i => 999 * V b i) (12 * T) (fun i hi => Nat.mul_le_mul_right _ (V9 a i ha hi))
      rw [gN_mul] at this
      exact this
    have mr : 999 * gN (V a) (12 * T) + 999 * gN (V b) (12 * T) ≤ gN (fun i => V a i * V b i) (12 * T) + 998001 * gN tl (12 * T) := by
      have := gN_le (f := fun i => 999 * V a i + 999 * V b i) (g := fun i => V a i * V b i + 998001 * tl i) (12 * T) (fun i hi => by
        show 999 * V a i + 999 * V b i ≤ V a i * V b i + 998001 * tl i
        have h1 := Vb a i ha hi
        have h2 := Vb b i hb hi
        rcases hcell i hi with ⟨b1, -⟩ | ⟨b1, -⟩
        · omega
        · rw [b1] at h1 h2 ⊢
          generalize V a i = x at *
          generalize V b i = z at *
          have e : (999 - x) * (999 - z) + 999 * x + 999 * z = x * z + 998001 := by
            obtain ⟨u, hu⟩ : ∃ u, x + u = 999 := ⟨999 - x, by omega⟩
            obtain ⟨w, hw⟩ : ∃ w, z + w = 999 := ⟨999 - z, by omega⟩
            have hu2 : 999 - x = u := by omega
            have hw2 : 999 - z = w := by omega
            rw [hu2, hw2]
            have hx : x = 999 - u := by omega
            have : (x + u) * (z + w) = 998001 := by rw [hu, hw]
            grind
          omega)
      rw [gN_add, gN_add, gN_mul, gN_mul, gN_mul] at this
      exact this
    have m1 := ma a ha
    have m2 := ma b hb
    generalize gN (fun i => V a i * V b i) (12 * T) = p at *
    generalize gN (V a) (12 * T) = A at *
    generalize gN (V b) (12 * T) = B at *
    generalize gN tl (12 * T) = N at *
    exact gCov (n := N) (a := A) (b := B) (p := p) (by omega) (by omega) (by omega) (by omega) (by omega) (by omega) (by omega) (by omega) (by omega) (by omega)
theorem gL_spread {n : Nat} {Sm : Nat → Nat} {Pm : Nat → Nat → Nat} {c : Zst} (h : gSt n Sm Pm c) (hn : n ≤ 96) {a b : Nat} (ha : a < 3) (hb : b < 3) : f_X0_spread c (nI a) (nI b) = some (Int64.ofInt (gD n Sm Pm a b)) := by
  have bt3 : ∀ k, k < 3 → f_X11_between (nI k) 0 2 = 1 := by decide
  have e : nI a * (3 : Int32) + nI b = nI (a * 3 + b) := by rw [show (3 : Int32) = nI 3 from rfl, pk_mul, nI_add]
  unfold f_X0_spread
  rw [bt3 a ha, bt3 b hb, if_neg (by decide), e, gGx (show a * 3 + b < 9 by omega) (by decide), gGx ha (by decide), gGx hb (by decide), nI_clamp (by omega), nI_clamp (by omega), nI_clamp (by omega), h.1, h.2.1 a ha, h.2.1 b hb, h.2.2 a b ha hb, nI_l (by omega), gOI_nat, gOI_nat, gOI_nat, gOI_nat, gOI_mul, gOI_mul, gOI_sub]
  rfl
theorem gSt_or {n : Nat} {Sm : Nat → Nat} {Pm : Nat → Nat → Nat} {c c' : Zst} (h : gSt n Sm Pm c) (o : gOR c c') : gSt n Sm Pm c' :=
  ⟨(o.1 18 (by decide)).trans h.1, fun a ha => by rw [o.2.2 1 (by decide)]; exact h.2.1 a ha, fun a b ha hb => by rw [o.2.2 2 (by decide)]; exact h.2.2 a b ha hb⟩
/-- the three kinds, set -/
theorem gKind3 {S T : Nat} {c m : Zst} (h : gCor S T c m) (p1 : Int32) : gaM m (zA m 13 (upd (m.2.1 13) (Int32.toNatClampNeg 2) (2 + p1))) ∧
    (zA m 13 (upd (m.2.1 13) (Int32.toNatClampNeg 2) (2 + p1))).2.1 13 0 = 0 ∧ (zA m 13 (upd (m.2.1 13) (Int32.toNatClampNeg 2) (2 + p1))).2.1 13 1 = 1 ∧ (zA m 13 (upd (m.2.1 13) (Int32.toNatClampNeg 2) (2 + p1))).2.1 13 2 = 2 + p1 :=
  ⟨gaM_13 gaM_rf rfl rfl, h.2.2.2.2.2.2.2.1, h.2.2.2.2.2.2.2.2, rfl⟩
theorem gD_toInt {n : Nat} {Sm : Nat → Nat} {Pm : Nat → Nat → Nat} (hD : ∀ a b, a < 3 → b < 3 → -2299394304 ≤ gD n Sm Pm a b ∧ gD n Sm Pm a b ≤ 2299394304) {a b : Nat} (ha : a < 3) (hb : b < 3) : (Int64.ofInt (gD n Sm Pm a b)).toInt = gD n Sm Pm a b := by
  have := hD a b ha hb
  rw [Int64.toInt_ofInt_of_le (by omega) (by omega)]
theorem pp_slope : lp_slope gRel := by
  intro c m hR p0 p1
  obtain ⟨S, T, n, h, hr⟩ := hR
  have no : gRel c (zI m 0 0) := gNo h hr
  have h' : gCor S T c (zI m 0 0) := gCor_ag h gaC_rf gaM_0
  have hr' : gRR n c (zI m 0 0) := hr
  have hA : m.2.1 13 = (zI m 0 0).2.1 13 := rfl
  unfold f_X11_slope f_X0_saidByShop f_X12_slope
  simp only [gL_way, gL_sort h'.1, hA]
  generalize zI m 0 0 = m0 at *
  rcases gS_sort h.1 p0 with ⟨e0, s, x1, x2⟩ | e0
  case inr => simp only [e0, ↓reduceIte, Option.bind_some]; exact ⟨_, _, rfl, rfl, rfl, no⟩
  rcases gS_way p1 with ⟨e1, y, y1, y2⟩ | e1
  case inr => simp only [e0, e1, gq_10, ↓reduceIte, Option.bind_some]; exact ⟨_, _, rfl, rfl, rfl, no⟩
  subst x2
  obtain ⟨g1, g2⟩ := gKind3 h' p1
  have hr2 : gRR n c (zA m0 13 (upd (m0.2.1 13) (Int32.toNatClampNeg 2) (2 + p1))) := hr'
  generalize zA m0 13 (upd (m0.2.1 13) (Int32.toNatClampNeg 2) (2 + p1)) = m1 at *
  have h2 := gCor_ag h' gaC_rf g1
  obtain ⟨N, Sm, Pm, c1, hN, f1, aC, nC, hst, f2, f3, hD⟩ := gThree h2 x1 y2 y1 g2
  have hr1 : gRR n c1 m1 := gRR_nr hr2 nC ⟨rfl, rfl⟩
  have sp := fun a b ha hb => gL_spread hst hN (a := a) (b := b) ha hb
  have sp01 : f_X0_spread c1 0 1 = _ := sp 0 1 (by decide) (by decide)
  have t01 : f_X12_together m1 (nI s) 0 1 = _ := f3 m1 rfl rfl 0 1 (by decide) (by decide)
  have c2e : (nI N < 2) = (N < 2) := propext (nI_ltI (b := 2) (by omega) (by decide))
  have hz : (Int64.ofInt (gD N Sm Pm 0 1) = 0) = (gD N Sm Pm 0 1 = 0) := by
    rw [eq_iff_iff, ← Int64.toInt_inj, gD_toInt hD (by decide) (by decide)]; rfl
  have fin2 : gRel ((c1, (-2 : Int32)) : Zst × Int32).1 ((m1, (-2 : Int32)) : Zst × Int32).1 := gRel_of h' aC g1 hr1
  simp only [e0, e1, gq_10, ↓reduceIte, f1, f2, Option.bind_some, hst.1, c2e, sp01, t01, hz]
  by_cases q : N < 2
  · simp only [if_pos q, Option.bind_some]
    exact ⟨(c1, -2), (m1, -2), rfl, rfl, rfl, fin2⟩
  by_cases q2 : gD N Sm Pm 0 1 = 0
  · simp only [if_neg q, if_pos q2, Option.bind_some]
    exact ⟨(c1, -2), (m1, -2), rfl, rfl, rfl, fin2⟩
  obtain ⟨w1, w2, w3, w4⟩ := gX_clear hr1
  have hst2 := gSt_or hst w3
  have sp02' : f_X0_spread (zI c1 0 0) 0 2 = _ := gL_spread hst2 hN (a := 0) (b := 2) (by decide) (by decide)
  have sp01' : f_X0_spread (zI c1 0 0) 0 1 = _ := gL_spread hst2 hN (a := 0) (b := 1) (by decide) (by decide)
  have t01' : f_X12_together (zI m1 1 0) (nI s) 0 1 = _ := f3 (zI m1 1 0) rfl rfl 0 1 (by decide) (by decide)
  have t02' : f_X12_together (zI m1 1 0) (nI s) 0 2 = _ := f3 (zI m1 1 0) rfl rfl 0 2 (by decide) (by decide)
  have d1 := hD 0 1 (by decide) (by decide)
  have d2 := hD 0 2 (by decide) (by decide)
  have i1 := gD_toInt hD (a := 0) (b := 1) (by decide) (by decide)
  have i2 := gD_toInt hD (a := 0) (b := 2) (by decide) (by decide)
  obtain ⟨c3, m3, j1, j2, j3, j4, j5⟩ := gX_frac w2 (by decide) (x := Int64.ofInt (gD N Sm Pm 0 2)) (x' := Int64.ofInt (gD N Sm Pm 0 2)) (y := Int64.ofInt (gD N Sm Pm 0 1)) (y' := Int64.ofInt (gD N Sm Pm 0 1)) rfl rfl (by rw [i2]; exact Int.le_trans (by decide) d2.1) (by rw [i2]; exact Int.le_trans d2.2 (by decide)) (by rw [i1]; exact Int.lt_of_lt_of_le (by decide) d1.1) (by rw [i1]; exact Int.lt_of_le_of_lt d1.2 (by decide)) (by rw [i1]; exact q2)
  rw [if_neg q, if_neg q, if_neg q2, if_neg q2, w1, Option.bind_some, sp02', Option.bind_some, sp01', Option.bind_some, j1, t02', t01']
  show ∃ oc om, _ = some oc ∧ (f_X12_entersFraction (zI m1 1 0) (Int64.ofInt (gD N Sm Pm 0 2)) (Int64.ofInt (gD N Sm Pm 0 1))).bind (fun t5 => some (t5, (0 : Int32))) = some om ∧ _
  rw [j2]
  exact ⟨(c3, 0), (m3, 0), rfl, rfl, rfl, gRel_of h' (gaC_tr aC (gOR_a (gOR_tr w3 j4))) (gaM_tr g1 (gORm_a (gORm_tr w4 j5))) j3⟩
