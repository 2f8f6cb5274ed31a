theorem gOI_add (a b : Int) : Int64.ofInt a + Int64.ofInt b = Int64.ofInt (a + b) := (Int64.ofInt_add a b).symm
theorem gOI_sub (a b : Int) : Int64.ofInt a - Int64.ofInt b = Int64.ofInt (a - b) := (Int64.ofInt_sub a b).symm
theorem gOI_mul (a b : Int) : Int64.ofInt a * Int64.ofInt b = Int64.ofInt (a * b) := (Int64.ofInt_mul a b).symm
theorem gOI_32 (x : Int32) : Int32.toInt64 x = Int64.ofInt x.toInt := by
  apply Int64.toInt_inj.mp
  have h1 := x.le_toInt
  have h2 := x.toInt_lt
  rw [gl_toInt, Int64.toInt_ofInt_of_le (by omega) (by omega)]
/-- what a cell adds -/
def gSq (A B C s : Int) : Int := A * s * s + 2 * B * s + C
theorem gSq_add (A B C s d o : Int) : gSq (A + d * d) (B + d * o) (C + o * o) s = gSq A B C s + (s * d + o) * (s * d + o) := by
  unfold gSq
  grind
theorem gOI_nat (n : Nat) : lN n = Int64.ofInt (n : Int) := rfl
theorem gShare {v w u s : Nat} (hs : s ≤ 100) (hv0 : 0 < v) (hv : v ≤ 1000) (hw0 : 0 < w) (hw : w ≤ 1000) (hu0 : 0 < u) (hu : u ≤ 1000) :
    Int32.toInt64 (nI s * (nI w - 1) + (100 - nI s) * (nI v - 1) - 100 * (nI u - 1)) = Int64.ofInt ((s : Int) * ((w : Int) - v) + 100 * ((v : Int) - u)) := by
  rw [gOI_32]
  congr 1
  have ew : nI w - 1 = nI (w - 1) := by rw [show (1 : Int32) = nI 1 from rfl, pk_sub hw0]
  have ev : nI v - 1 = nI (v - 1) := by rw [show (1 : Int32) = nI 1 from rfl, pk_sub hv0]
  have eu : nI u - 1 = nI (u - 1) := by rw [show (1 : Int32) = nI 1 from rfl, pk_sub hu0]
  have e1 : s * (w - 1) ≤ 100 * 1000 := gMulLe hs (by omega)
  have e2 : (100 - s) * (v - 1) ≤ 100 * 1000 := gMulLe (by omega) (by omega)
  rw [ew, ev, eu, show (100 : Int32) = nI 100 from rfl, pk_sub hs, pk_mul, pk_mul, pk_mul, nI_add, pk_sub_toInt (by omega) (by omega)]
  have h1 : ((s * (w - 1) : Nat) : Int) = (s : Int) * ((w : Int) - 1) := by
    rw [Int.natCast_mul, Int.natCast_sub (by omega)]; rfl
  have h2 : (((100 - s) * (v - 1) : Nat) : Int) = (100 - (s : Int)) * ((v : Int) - 1) := by
    rw [Int.natCast_mul, Int.natCast_sub (by omega), Int.natCast_sub (by omega)]; rfl
  have h3 : ((100 * (u - 1) : Nat) : Int) = 100 * ((u : Int) - 1) := by
    rw [Int.natCast_mul, Int.natCast_sub (by omega)]; rfl
  rw [Int.natCast_add, h1, h2, h3]
  grind
def gZ (f : Nat → Int) : Nat → Int
  | 0 => 0
  | n + 1 => gZ f n + f n
theorem gSq_sum (d o : Nat → Int) (s : Int) : ∀ n, gSq (gZ (fun i => d i * d i) n) (gZ (fun i => d i * o i) n) (gZ (fun i => o i * o i) n) s = gZ (fun i => (s * d i + o i) * (s * d i + o i)) n := by
  intro n
  induction n with
  | zero => unfold gSq gZ; omega
  | succ n ih =>
    show gSq (gZ (fun i => d i * d i) n + d n * d n) (gZ (fun i => d i * o i) n + d n * o n) (gZ (fun i => o i * o i) n + o n * o n) s = gZ (fun i => (s * d i + o i) * (s * d i + o i)) n + (s * d n + o n) * (s * d n + o n)
    rw [gSq_add, ih]
theorem pp_worth : lp_worth gRel := by
  intro c m hR p0 p1
  obtain ⟨S, T, n, h, hr⟩ := hR
  have no : gRel c (zI m 0 0) := gNo h hr
  have h' : gCor S T c (zI m 0 0) := gCor_ag h gaC_rf gaM_0
  have hr' : gRR n c (zI m 0 0) := hr
  have hT := h.1.1.2.1
  have hS := h.1.1.1
  unfold f_X11_worth f_X0_bestShare f_X12_worth
  simp only [gL_sort h'.1, gq_in_0_2]
  generalize zI m 0 0 = m0 at *
  rcases gS_sort h.1 p0 with ⟨e0, s, x1, x2⟩ | e0
  case inr => simp only [e0, ↓reduceIte, Option.bind_some]; exact ⟨_, _, rfl, rfl, rfl, no⟩
  rcases gS_btw (p := p1) (a := 0) (b := 2) 0 2 rfl rfl (by decide) (by decide) with ⟨e1, y, -, y1, y2⟩ | e1
  case inr => simp only [e0, e1, gq_10, ↓reduceIte, Option.bind_some]; exact ⟨_, _, rfl, rfl, rfl, no⟩
  simp only [e0, e1, gq_10, ↓reduceIte]
  subst x2
  have hw2 : (2 : Int32) + p1 = nI (2 + y) := by rw [y2, show (2 : Int32) = nI 2 from rfl, nI_add]
  obtain ⟨hc, hc'⟩ := gL_cells h'.1
  -- what each cell adds
  have hcell : ∃ (tl : Nat → Nat) (d o : Nat → Int), ∀ i, i < 12 * T →
      (tl i = 0 ∧ d i = 0 ∧ o i = 0 ∧ f_X0_hasNeighbours c (nI s) p1 (nI i) = some 0 ∧ f_X12_areNeighbours m0 (nI i) (nI s) p1 = some 0) ∨
      (tl i = 1 ∧ f_X0_hasNeighbours c (nI s) p1 (nI i) = some 1 ∧ f_X12_areNeighbours m0 (nI i) (nI s) p1 = some 1 ∧ ∃ u v w : Nat, 0 < u ∧ u ≤ 1000 ∧ 0 < v ∧ v ≤ 1000 ∧ 0 < w ∧ w ≤ 1000 ∧ m0.2.1 8 (gP 1 i s) = nI u ∧ m0.2.1 8 (gP (2 + y) i s) = nI v ∧ m0.2.1 8 (gP 5 i s) = nI w ∧ d i = (w : Int) - v ∧ o i = 100 * ((v : Int) - u)) := by
    refine ⟨fun i => if f_X0_hasNeighbours c (nI s) p1 (nI i) = some 1 then 1 else 0, fun i => if f_X0_hasNeighbours c (nI s) p1 (nI i) = some 1 then (m0.2.1 8 (gP 5 i s)).toInt - (m0.2.1 8 (gP (2 + y) i s)).toInt else 0, fun i => if f_X0_hasNeighbours c (nI s) p1 (nI i) = some 1 then 100 * ((m0.2.1 8 (gP (2 + y) i s)).toInt - (m0.2.1 8 (gP 1 i s)).toInt) else 0, fun i hi => ?_⟩
    rcases gL_nb h' x1 y2 (by omega) hi with ⟨g1, g2⟩ | ⟨g1, g2, u, v, w, a1, a2, a3, a4, a5, a6, a7, a8, a9⟩
    · left
      have hne : ¬ f_X0_hasNeighbours c (nI s) p1 (nI i) = some 1 := by rw [g1]; decide
      exact ⟨if_neg hne, if_neg hne, if_neg hne, g1, g2⟩
    · right
      refine ⟨if_pos g1, g1, g2, u, v, w, a1, a2, a3, a4, a5, a6, a7, a8, a9, ?_, ?_⟩
      · show (if f_X0_hasNeighbours c (nI s) p1 (nI i) = some 1 then _ else (0 : Int)) = _
        rw [if_pos g1, a9, a8, nI_toInt (by omega), nI_toInt (by omega)]
      · show (if f_X0_hasNeighbours c (nI s) p1 (nI i) = some 1 then _ else (0 : Int)) = _
        rw [if_pos g1, a8, a7, nI_toInt (by omega), nI_toInt (by omega)]
  obtain ⟨tl, d, o, hcell⟩ := hcell
  have hoi : ∀ v : Nat, 0 < v → v ≤ 1000 → Int32.toInt64 (nI v - 1) = Int64.ofInt ((v : Int) - 1) := by
    intro v h0 h1
    rw [gl_1 h0 h1, gOI_nat, Int.natCast_sub h0]; rfl
  -- the class' sums
  obtain ⟨ra, g1, g2⟩ := gq_run1 (La := fun (k : Int32 × Int64 × Int64 × Int64 → Option (Zst × Int32)) n (a : Int32 × Int64 × Int64 × Int64 × Int32) => L_X0_bestShare_36 (fun w6 w7 w8 w9 => k (w6, w7, w8, w9)) c (nI s) p1 n a.1 a.2.1 a.2.2.1 a.2.2.2.1 a.2.2.2.2)
    (fun i a => a = ((if gN tl i = 0 then 0 else 1), Int64.ofInt (gZ (fun i => d i * d i) i), Int64.ofInt (gZ (fun i => d i * o i) i), Int64.ofInt (gZ (fun i => o i * o i) i), nI i))
    (fun r => r = ((if gN tl (12 * T) = 0 then 0 else 1), Int64.ofInt (gZ (fun i => d i * d i) (12 * T)), Int64.ofInt (gZ (fun i => d i * o i) (12 * T)), Int64.ofInt (gZ (fun i => o i * o i) (12 * T)))) 0 (12 * T) (Nat.zero_le _) (by omega) (a := (0, 0, 0, 0, 0))
    (fun i a hi ha => by
      subst ha
      have hn : ¬ nI (12 * T) ≤ nI i := nI_ge hi (by omega)
      refine ⟨((if gN tl (i + 1) = 0 then 0 else 1), Int64.ofInt (gZ (fun i => d i * d i) (i + 1)), Int64.ofInt (gZ (fun i => d i * o i) (i + 1)), Int64.ofInt (gZ (fun i => o i * o i) (i + 1)), nI (i + 1)), fun k n => ?_, rfl⟩
      have a0 : gN tl (i + 1) = gN tl i + tl i := rfl
      have a1 : gZ (fun i => d i * d i) (i + 1) = gZ (fun i => d i * d i) i + d i * d i := rfl
      have a2 : gZ (fun i => d i * o i) (i + 1) = gZ (fun i => d i * o i) i + d i * o i := rfl
      have a3 : gZ (fun i => o i * o i) (i + 1) = gZ (fun i => o i * o i) i + o i * o i := rfl
      rw [a0, a1, a2, a3]
      rcases hcell i hi with ⟨b1, b2, b3, b4, b5⟩ | ⟨b1, b4, b5, u, v, w, u0, u1, v0, v1, w0, w1, q1, q2, q3, q4, q5⟩
      · simp only [L_X0_bestShare_36, hc, if_neg hn, b4, Option.bind_some, ↓reduceIte, nI_1, b1, b2, b3, Int.mul_zero, Int.add_zero, Nat.add_zero]
      · have t3 := gL_of h'.2.1 (x := 1) 1 i s rfl rfl rfl (by decide) (by omega) (by omega)
        have u3 := gL_of h'.2.1 (2 + y) i s hw2 rfl rfl (by omega) (by omega) (by omega)
        have w3 := gL_of h'.2.1 (x := 5) 5 i s rfl rfl rfl (by decide) (by omega) (by omega)
        rw [q1] at t3
        rw [q2] at u3
        rw [q3] at w3
        have f1 : (w : Int) - 1 - ((v : Int) - 1) = (w : Int) - v := by omega
        have f2 : (v : Int) - 1 - ((u : Int) - 1) = (v : Int) - u := by omega
        simp only [L_X0_bestShare_36, hc, if_neg hn, b4, Option.bind_some, gq_10, ↓reduceIte, nI_1, t3, u3, w3, hoi u u0 u1, hoi v v0 v1, hoi w w0 w1, gOI_sub, show (100 : Int64) = Int64.ofInt 100 from rfl, gOI_mul, gOI_add, f1, f2, ← q4, ← q5, b1, if_neg (Nat.succ_ne_zero (gN tl i))])
    (fun a ha => by
      subst ha
      have hn : nI (12 * T) ≤ nI (12 * T) := nI_le (Nat.le_refl _) (by omega)
      refine ⟨_, fun k n => ?_, rfl⟩
      simp only [L_X0_bestShare_36, hc, if_pos hn])
    rfl
  subst g2
  have g1' : L_X0_bestShare_36 (fun w6 w7 w8 w9 => J_X0_bestShare_151 c w6 w7 w8 w9) c (nI s) p1 zFu 0 0 0 0 0 = _ := g1 (fun r => J_X0_bestShare_151 c r.1 r.2.1 r.2.2.1 r.2.2.2)
  rw [g1']
  -- the reference's sums
  have hM : ∀ (sh : Nat) (v3 : Int32) (v4 : Int64), sh ≤ 100 → ∀ k : Int64 × Int32 → Option (Zst × Int32), L_X12_worth_52 (fun w5 w6 => k (w5, w6)) m0 (nI s) p1 v3 v4 (nI sh) zFu 0 0 0 = k (Int64.ofInt (gZ (fun i => ((sh : Int) * d i + o i) * ((sh : Int) * d i + o i)) (12 * T)), nI (gN tl (12 * T))) := by
    intro sh v3 v4 hsh
    obtain ⟨rb, g3, g4⟩ := gq_run1 (La := fun (k : Int64 × Int32 → Option (Zst × Int32)) n (a : Int64 × Int32 × Int32) => L_X12_worth_52 (fun w5 w6 => k (w5, w6)) m0 (nI s) p1 v3 v4 (nI sh) n a.1 a.2.1 a.2.2)
      (fun i a => a = (Int64.ofInt (gZ (fun i => ((sh : Int) * d i + o i) * ((sh : Int) * d i + o i)) i), nI (gN tl i), nI i))
      (fun r => r = (Int64.ofInt (gZ (fun i => ((sh : Int) * d i + o i) * ((sh : Int) * d i + o i)) (12 * T)), nI (gN tl (12 * T)))) 0 (12 * T) (Nat.zero_le _) (by omega) (a := (0, 0, 0))
      (fun i a hi ha => by
        subst ha
        have hn : ¬ nI (12 * T) ≤ nI i := nI_ge hi (by omega)
        refine ⟨(Int64.ofInt (gZ (fun i => ((sh : Int) * d i + o i) * ((sh : Int) * d i + o i)) (i + 1)), nI (gN tl (i + 1)), nI (i + 1)), fun k n => ?_, rfl⟩
        have a0 : gN tl (i + 1) = gN tl i + tl i := rfl
        have a1 : gZ (fun i => ((sh : Int) * d i + o i) * ((sh : Int) * d i + o i)) (i + 1) = gZ (fun i => ((sh : Int) * d i + o i) * ((sh : Int) * d i + o i)) i + ((sh : Int) * d i + o i) * ((sh : Int) * d i + o i) := rfl
        rw [a0, a1]
        rcases hcell i hi with ⟨b1, b2, b3, b4, b5⟩ | ⟨b1, b4, b5, u, v, w, u0, u1, v0, v1, w0, w1, q1, q2, q3, q4, q5⟩
        · simp only [L_X12_worth_52, hc', if_neg hn, b5, Option.bind_some, ↓reduceIte, nI_1, b1, b2, b3, Int.mul_zero, Int.add_zero, Nat.add_zero]
        · have t3 := gL_at (m := m0) (x := 1) 1 i s rfl rfl rfl (by decide) (by omega) (by omega)
          have u3 := gL_at (m := m0) (2 + y) i s hw2 rfl rfl (by omega) (by omega) (by omega)
          have w3 := gL_at (m := m0) (x := 5) 5 i s rfl rfl rfl (by decide) (by omega) (by omega)
          rw [q1] at t3
          rw [q2] at u3
          rw [q3] at w3
          simp only [L_X12_worth_52, hc', if_neg hn, b5, Option.bind_some, gq_10, ↓reduceIte, nI_1, t3, u3, w3, gShare hsh v0 v1 w0 w1 u0 u1, gOI_mul, gOI_add, ← q4, ← q5, b1])
      (fun a ha => by
        subst ha
        have hn : nI (12 * T) ≤ nI (12 * T) := nI_le (Nat.le_refl _) (by omega)
        refine ⟨_, fun k n => ?_, rfl⟩
        simp only [L_X12_worth_52, hc', if_pos hn])
      rfl
    subst g4
    exact g3
  have hN : gN tl (12 * T) ≤ 12 * T := by
    have e2 : ∀ k, k ≤ 12 * T → gN tl k ≤ k := by
      intro k
      induction k with
      | zero => intro _; exact Nat.le_refl _
      | succ k ih =>
        intro hk
        have h1 := ih (by omega)
        show gN tl k + tl k ≤ k + 1
        rcases hcell k (by omega) with ⟨b1, -⟩ | ⟨b1, -⟩ <;> omega
    exact e2 _ (Nat.le_refl _)
  have hQ : ∀ sh : Nat, Int64.ofInt (gZ (fun i => ((sh : Int) * d i + o i) * ((sh : Int) * d i + o i)) (12 * T)) = Int64.ofInt (gSq (gZ (fun i => d i * d i) (12 * T)) (gZ (fun i => d i * o i) (12 * T)) (gZ (fun i => o i * o i) (12 * T)) sh) := fun sh => by rw [gSq_sum]
  generalize gN tl (12 * T) = cnt at *
  generalize gZ (fun i => d i * d i) (12 * T) = A at *
  generalize gZ (fun i => d i * o i) (12 * T) = B at *
  generalize gZ (fun i => o i * o i) (12 * T) = C at *
  have hsq : ∀ sh : Nat, sh ≤ 100 → ((Int64.ofInt A * Int32.toInt64 (nI sh)) * Int32.toInt64 (nI sh)) + ((2 : Int64) * Int64.ofInt B * Int32.toInt64 (nI sh)) + Int64.ofInt C = Int64.ofInt (gSq A B C sh) := by
    intro sh hsh
    rw [nI_l (by omega), gOI_nat, show (2 : Int64) = Int64.ofInt 2 from rfl, gOI_mul, gOI_mul, gOI_mul, gOI_mul, gOI_add, gOI_add]
    rfl
  have hs0 : Int64.ofInt (gSq A B C ((0 : Nat) : Int)) = Int64.ofInt C := by
    congr 1
    unfold gSq
    show A * 0 * 0 + 2 * B * 0 + C = C
    omega
  by_cases hcnt : cnt = 0
  · -- no cell
    subst hcnt
    have hmm : ∀ k (v3 : Int32) (v4 : Int64) (sh : Nat), sh ≤ 101 → 101 - sh < k → v3 = -2 → L_X12_worth_36 (fun w8 w9 => J_X12_worth_167 m0 w8 w9) m0 (nI s) p1 k v3 v4 (nI sh) = some (m0, -2) := by
      intro k
      induction k with
      | zero => intro v3 v4 sh h1 h2; omega
      | succ k ih =>
        intro v3 v4 sh h1 h2 h3
        subst h3
        by_cases hl : sh = 101
        · subst hl
          simp only [L_X12_worth_36, if_pos (show (100 : Int32) < nI 101 by decide), J_X12_worth_167, if_pos (show (-2 : Int32) < 0 by decide)]
        · have e := hM sh (-2) v4 (by omega) (fun r => J_X12_worth_137 (fun w3 w4 w6 => L_X12_worth_36 (fun w8 w9 => J_X12_worth_167 m0 w8 w9) m0 (nI s) p1 k w3 w4 w6) m0 (nI s) p1 (-2) v4 (nI sh) r.1 r.2)
          simp only [L_X12_worth_36, if_neg (show ¬ (100 : Int32) < nI sh from nI_nlt (a := 100) (b := sh) (by omega) (by decide))]
          refine e.trans ?_
          simp only [J_X12_worth_137, if_pos (show nI 0 ≤ 0 by decide), nI_1]
          exact ih _ _ _ (by omega) (by omega) rfl
    have e := hmm zFu (-2) 0 0 (by omega) (by rw [zFu_eq]; omega) rfl
    have e : L_X12_worth_36 (fun w8 w9 => J_X12_worth_167 m0 w8 w9) m0 (nI s) p1 zFu (-2) 0 0 = some (m0, -2) := e
    rw [e]
    exact ⟨(c, -2), (m0, -2), rfl, rfl, rfl, no⟩
  · have hcn : ¬ nI cnt ≤ 0 := nI_nle (by omega) (by omega)
    have hfirst : ∃ fu, zFu = fu + 1 ∧ 200 < fu := ⟨9999, by rw [zFu_eq], by decide⟩
    obtain ⟨fu, hfu, hfu2⟩ := hfirst
    -- the first share
    have hm1 : L_X12_worth_36 (fun w8 w9 => J_X12_worth_167 m0 w8 w9) m0 (nI s) p1 zFu (-2) 0 0 = L_X12_worth_36 (fun w8 w9 => J_X12_worth_167 m0 w8 w9) m0 (nI s) p1 fu 0 (Int64.ofInt C) (nI 1) := by
      rw [hfu]
      have e := hM 0 (-2) 0 (by omega) (fun r => J_X12_worth_137 (fun w3 w4 w6 => L_X12_worth_36 (fun w8 w9 => J_X12_worth_167 m0 w8 w9) m0 (nI s) p1 fu w3 w4 w6) m0 (nI s) p1 (-2) 0 (nI 0) r.1 r.2)
      simp only [L_X12_worth_36, if_neg (show ¬ (100 : Int32) < 0 by decide)]
      refine e.trans ?_
      simp only [J_X12_worth_137, if_neg hcn, if_pos (show (-2 : Int32) < 0 by decide)]
      rw [hQ 0, hs0]; rfl
    rw [hm1]
    have key : ∀ r (sh best : Nat) (q : Int64) (n1 n2 : Nat), sh + r = 101 → 1 ≤ sh → best ≤ 100 → r < n1 → r < n2 → ∃ (b2 : Nat) (q2 : Int64), b2 ≤ 100 ∧
        L_X0_leastShare_10 (fun w3 w4 => J_X0_leastShare_63 c w3 w4) c (Int64.ofInt A) (Int64.ofInt B) (Int64.ofInt C) n1 (nI best) q (nI sh) = J_X0_leastShare_63 c (nI b2) q2 ∧
        L_X12_worth_36 (fun w8 w9 => J_X12_worth_167 m0 w8 w9) m0 (nI s) p1 n2 (nI best) q (nI sh) = J_X12_worth_167 m0 (nI b2) q2 := by
      intro r
      induction r with
      | zero =>
        intro sh best q n1 n2 h1 h2 h3 h4 h5
        obtain ⟨n1, rfl⟩ : ∃ k, n1 = k + 1 := ⟨n1 - 1, by omega⟩
        obtain ⟨n2, rfl⟩ : ∃ k, n2 = k + 1 := ⟨n2 - 1, by omega⟩
        have hsh : sh = 101 := by omega
        subst hsh
        refine ⟨best, q, h3, ?_, ?_⟩
        · simp only [L_X0_leastShare_10, if_pos (show (100 : Int32) < nI 101 by decide)]
        · simp only [L_X12_worth_36, if_pos (show (100 : Int32) < nI 101 by decide)]
      | succ r ih =>
        intro sh best q n1 n2 h1 h2 h3 h4 h5
        obtain ⟨n1, rfl⟩ : ∃ k, n1 = k + 1 := ⟨n1 - 1, by omega⟩
        obtain ⟨n2, rfl⟩ : ∃ k, n2 = k + 1 := ⟨n2 - 1, by omega⟩
        have hsh : ¬ (100 : Int32) < nI sh := nI_nlt (a := 100) (b := sh) (by omega) (by decide)
        have e := hM sh (nI best) q (by omega) (fun r => J_X12_worth_137 (fun w3 w4 w6 => L_X12_worth_36 (fun w8 w9 => J_X12_worth_167 m0 w8 w9) m0 (nI s) p1 n2 w3 w4 w6) m0 (nI s) p1 (nI best) q (nI sh) r.1 r.2)
        have eC : L_X0_leastShare_10 (fun w3 w4 => J_X0_leastShare_63 c w3 w4) c (Int64.ofInt A) (Int64.ofInt B) (Int64.ofInt C) (n1 + 1) (nI best) q (nI sh) = (if q ≤ Int64.ofInt (gSq A B C sh) then L_X0_leastShare_10 (fun w3 w4 => J_X0_leastShare_63 c w3 w4) c (Int64.ofInt A) (Int64.ofInt B) (Int64.ofInt C) n1 (nI best) q (nI (sh + 1)) else L_X0_leastShare_10 (fun w3 w4 => J_X0_leastShare_63 c w3 w4) c (Int64.ofInt A) (Int64.ofInt B) (Int64.ofInt C) n1 (nI sh) (Int64.ofInt (gSq A B C sh)) (nI (sh + 1))) := by
          simp only [L_X0_leastShare_10, if_neg hsh, hsq sh (by omega), nI_1]
        have eM : L_X12_worth_36 (fun w8 w9 => J_X12_worth_167 m0 w8 w9) m0 (nI s) p1 (n2 + 1) (nI best) q (nI sh) = (if q ≤ Int64.ofInt (gSq A B C sh) then L_X12_worth_36 (fun w8 w9 => J_X12_worth_167 m0 w8 w9) m0 (nI s) p1 n2 (nI best) q (nI (sh + 1)) else L_X12_worth_36 (fun w8 w9 => J_X12_worth_167 m0 w8 w9) m0 (nI s) p1 n2 (nI sh) (Int64.ofInt (gSq A B C sh)) (nI (sh + 1))) := by
          simp only [L_X12_worth_36, if_neg hsh]
          refine e.trans ?_
          simp only [J_X12_worth_137, if_neg hcn, if_neg (nI_pos (show best < 2 ^ 31 by omega)), hQ sh, nI_1]
        rw [eC, eM]
        by_cases hq : q ≤ Int64.ofInt (gSq A B C sh)
        · rw [if_pos hq, if_pos hq]
          exact ih (sh + 1) best q n1 n2 (by omega) (by omega) h3 (by omega) (by omega)
        · rw [if_neg hq, if_neg hq]
          exact ih (sh + 1) sh _ n1 n2 (by omega) (by omega) (by omega) (by omega) (by omega)
    obtain ⟨b2, q2, hb2, k1, k2⟩ := key 100 1 0 (Int64.ofInt C) zFu fu (by omega) (by omega) (by omega) (by rw [zFu_eq]; omega) (by omega)
    have k2 : L_X12_worth_36 (fun w8 w9 => J_X12_worth_167 m0 w8 w9) m0 (nI s) p1 fu 0 (Int64.ofInt C) (nI 1) = J_X12_worth_167 m0 (nI b2) q2 := k2
    have k1 : f_X0_leastShare c (Int64.ofInt A) (Int64.ofInt B) (Int64.ofInt C) = J_X0_leastShare_63 c (nI b2) q2 := k1
    obtain ⟨w1, w2, w3, w4⟩ := gX_clear hr'
    obtain ⟨c3, m3, j1, j2, j3, j4, j5⟩ := gX_add w2 (by decide) (x := q2) rfl
    rw [k2]
    unfold J_X0_bestShare_151
    simp only [if_neg hcnt, gq_10, ↓reduceIte, k1, J_X0_leastShare_63, J_X12_worth_167, if_neg (nI_pos (show b2 < 2 ^ 31 by omega)), w1, j1, j2, Option.bind_some]
    exact ⟨(c3, nI b2), (m3, nI b2), rfl, rfl, rfl, gRel_of h' (gOR_a (gOR_tr w3 j4)) (gORm_a (gORm_tr w4 j5)) j3⟩
