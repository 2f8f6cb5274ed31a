theorem gzAA (c : Zst) (k : Nat) (f g : Nat → Int32) : zA (zA c k f) k g = zA c k g := by
  unfold zA
  simp only
  congr 2
  funext j
  by_cases h : j = k
  · rw [if_pos h, if_pos h]
  · rw [if_neg h, if_neg h, if_neg h]
/-- one paper is above the other and older -/
theorem gClash {c : Zst} {i j : Nat} (hi : i < 12) (hj : j < 12) : f_X3_clash c (nI i) (nI j) = some (if c.2.1 27 i ≤ c.2.1 27 j ∧ c.2.1 29 i < c.2.1 28 j then 1 else 0) := by
  have b : ∀ k, k < 12 → f_X11_between (nI k) 0 11 = 1 := fun k hk => by
    unfold f_X11_between
    rw [if_neg (nI_pos (by omega)), if_neg]
    rw [Int32.not_lt]
    exact nI_le (b := 11) (by omega) (by decide)
  unfold f_X3_clash
  rw [b i hi, b j hj]
  simp only [gq_10, ↓reduceIte, gGx hi (by decide), gGx hj (by decide), nI_clamp (show i < 2 ^ 31 by omega), nI_clamp (show j < 2 ^ 31 by omega)]
  by_cases h1 : c.2.1 27 j < c.2.1 27 i
  · rw [if_pos h1, if_neg]
    intro q
    exact absurd h1 (Int32.not_lt.mpr q.1)
  · rw [if_neg h1]
    by_cases h2 : c.2.1 28 j ≤ c.2.1 29 i
    · rw [if_pos h2, if_neg]
      intro q
      exact absurd q.2 (Int32.not_lt.mpr h2)
    · rw [if_neg h2, if_pos ⟨Int32.not_lt.mp h1, Int32.not_le.mp h2⟩]
theorem gShl1 {w : Nat} (hw : w < 31) : jShl 1 (nI w) = nI (2 ^ w) := by
  apply b_ext
  intro i hi
  rw [gb_shl (by omega) hi]
  show _ = (nI (2 ^ w)).toBitVec.getLsbD i
  rw [show (nI (2 ^ w)).toBitVec = BitVec.ofNat 32 (2 ^ w) from rfl, BitVec.getLsbD_ofNat, Nat.testBit_two_pow]
  simp [hi, eq_comm]
theorem pp_paper : lp_paper gRel := by
  intro c m hR p0 p1 p2
  obtain ⟨S, T, n, h, hr⟩ := hR
  have no : gRel c (zI m 0 0) := gNo h hr
  obtain ⟨hA, hN, hX, hK, ⟨P, d0, d1, d2, d3, d4, d5, d6, d7⟩, hL, hT⟩ := id h
  unfold f_X11_paper f_X3_addPaper f_X3_isLayer f_X12_paper
  simp only [gq_in_0_9, gL_year]
  rcases gS_btw (p := p0) (a := 0) (b := 9) 0 9 rfl rfl (by decide) (by decide) with ⟨e0, l, -, l1, l2⟩ | e0
  case inr => simp only [e0, ↓reduceIte, Option.bind_some]; exact ⟨_, _, rfl, rfl, rfl, no⟩
  simp only [e0, gq_10, ↓reduceIte]
  have t0 : (1900 : Int32).toInt = 1900 := rfl
  have t1 : (2100 : Int32).toInt = 2100 := rfl
  rcases gS_btw (p := p1) (a := 1900) (b := 2100) 1900 2100 rfl rfl (by decide) (by decide) with ⟨e1, u, u0, u1, u2⟩ | e1
  case inr =>
    have : (if p1 < (1900 : Int32) then (0 : Int32) else (if p2 < p1 then (0 : Int32) else (if (2100 : Int32) < p2 then (0 : Int32) else (1 : Int32)))) = 0 := by
      unfold f_X11_between at e1
      by_cases a : p1 < 1900
      · rw [if_pos a]
      · rw [if_neg a] at e1 ⊢
        by_cases b : 2100 < p1
        · by_cases d : p2 < p1
          · rw [if_pos d]
          · rw [if_neg d, if_pos]
            rw [Int32.lt_iff_toInt_lt] at *
            omega
        · rw [if_neg b] at e1; cases e1
    simp only [e1, this, ↓reduceIte, Option.bind_some]; exact ⟨_, _, rfl, rfl, rfl, no⟩
  rcases gS_btw (p := p2) (a := 1900) (b := 2100) 1900 2100 rfl rfl (by decide) (by decide) with ⟨e2, v, v0, v1, v2⟩ | e2
  case inr =>
    have : (if p1 < (1900 : Int32) then (0 : Int32) else (if p2 < p1 then (0 : Int32) else (if (2100 : Int32) < p2 then (0 : Int32) else (1 : Int32)))) = 0 := by
      unfold f_X11_between at e2
      by_cases a : p1 < 1900
      · rw [if_pos a]
      · rw [if_neg a]
        by_cases d : p2 < p1
        · rw [if_pos d]
        · rw [if_neg d]
          by_cases b : 2100 < p2
          · rw [if_pos b]
          · rw [if_neg b] at e2
            rw [if_neg] at e2
            · cases e2
            · rw [Int32.lt_iff_toInt_lt] at *
              omega
    simp only [e1, e2, this, ↓reduceIte, gq_10, Option.bind_some]; exact ⟨_, _, rfl, rfl, rfl, no⟩
  subst l2 u2 v2
  have hb : (if nI u < (1900 : Int32) then (0 : Int32) else (if nI v < nI u then (0 : Int32) else (if (2100 : Int32) < nI v then (0 : Int32) else (1 : Int32)))) = (if nI v < nI u then (0 : Int32) else 1) := by
    rw [if_neg]
    · by_cases d : nI v < nI u
      · rw [if_pos d, if_pos d]
      · rw [if_neg d, if_neg d, if_neg]
        rw [Int32.not_lt]; exact nI_le (b := 2100) v1 (by decide)
    · rw [Int32.not_lt]; exact nI_le (a := 1900) u0 (by omega)
  simp only [e1, e2, hb, gq_10, ↓reduceIte]
  by_cases d : nI v < nI u
  · simp only [if_pos d, ↓reduceIte, Option.bind_some]; exact ⟨_, _, rfl, rfl, rfl, no⟩
  have hd : u ≤ v := by
    rw [nI_ltI (by omega) (by omega)] at d; omega
  simp only [if_neg d, gq_10, ↓reduceIte, d1, d2]
  by_cases hP : P = 12
  · subst hP
    simp only [show (nI 12 < (12 : Int32)) = False by decide, show (nI 12 = (12 : Int32)) = True by decide, ↓reduceIte, Option.bind_some]; exact ⟨_, _, rfl, rfl, rfl, no⟩
  have hP : P < 12 := by omega
  have f1 : (nI P < (12 : Int32)) = True := by rw [show (nI P < (12 : Int32)) = (P < 12) from propext (nI_ltI (b := 12) (by omega) (by decide))]; exact eq_true hP
  have f2 : (nI P = (12 : Int32)) = False := by
    rw [show (nI P = (12 : Int32)) = (P = 12) from propext (nI_eq (b := 12) (by omega) (by decide))]; exact eq_false (by omega)
  simp only [f1, f2, ↓reduceIte, gGx hP (by decide), nI_clamp (show P < 2 ^ 31 by omega), nI_1]
  generalize hcA : zA (zA (zA c 27 (upd (c.2.1 27) P (nI l))) 28 (upd (c.2.1 28) P (nI u))) 29 (upd (c.2.1 29) P (nI v)) = cA
  have g23 : cA.1 23 = nI P := by rw [← hcA]; exact d1
  have g27 : cA.2.1 27 = upd (c.2.1 27) P (nI l) := by rw [← hcA]; rfl
  have g28 : cA.2.1 28 = upd (c.2.1 28) P (nI u) := by rw [← hcA]; rfl
  have g29 : cA.2.1 29 = upd (c.2.1 29) P (nI v) := by rw [← hcA]; rfl
  obtain ⟨ra, h1, f, hf, w, hw, hw2, hbits, hra⟩ := gq_loop (La := fun n (a : Zst × Int32) => L_X3_addPaper_92 (fun σ7 => J_X3_addPaper_149 σ7) n a.1 a.2)
    (fun i a => ∃ f : Nat → Int32, a = (zA cA 30 f, nI i) ∧ (∀ j, ¬ j = P → f j = c.2.1 30 j) ∧ ∃ w : Nat, w < 2 ^ i ∧ f P = nI w ∧ ∀ j, j < i → (w.testBit j = true ↔ ((cA.2.1 27 j ≤ cA.2.1 27 P ∧ cA.2.1 29 j < cA.2.1 28 P) ∨ (cA.2.1 27 P ≤ cA.2.1 27 j ∧ cA.2.1 29 P < cA.2.1 28 j))))
    (fun r => ∃ f : Nat → Int32, (∀ j, ¬ j = P → f j = c.2.1 30 j) ∧ ∃ w : Nat, w < 2 ^ P ∧ f P = nI w ∧ (∀ j, j < P → (w.testBit j = true ↔ ((cA.2.1 27 j ≤ cA.2.1 27 P ∧ cA.2.1 29 j < cA.2.1 28 P) ∨ (cA.2.1 27 P ≤ cA.2.1 27 j ∧ cA.2.1 29 P < cA.2.1 28 j)))) ∧ r = (zI (zA cA 30 f) 23 (nI (P + 1)), nI (P + 1))) P (by omega)
    (a := (zA cA 30 (upd (c.2.1 30) P 0), 0))
    (fun i a hi hI => by
      obtain ⟨f, rfl, hf, w, hw, hw2, hbits⟩ := hI
      have hn : ¬ nI P ≤ nI i := nI_ge hi (by omega)
      have g23' : (zA cA 30 f).1 23 = nI P := g23
      have k1 := gClash (c := zA cA 30 f) (i := i) (j := P) (by omega) hP
      have k2 := gClash (c := zA cA 30 f) (i := P) (j := i) hP (by omega)
      have k1 : f_X3_clash (zA cA 30 f) (nI i) (nI P) = some (if cA.2.1 27 i ≤ cA.2.1 27 P ∧ cA.2.1 29 i < cA.2.1 28 P then 1 else 0) := k1
      have k2 : f_X3_clash (zA cA 30 f) (nI P) (nI i) = some (if cA.2.1 27 P ≤ cA.2.1 27 i ∧ cA.2.1 29 P < cA.2.1 28 i then 1 else 0) := k2
      have lo : w < 2 ^ (i + 1) := Nat.lt_of_lt_of_le hw (Nat.pow_le_pow_right (by decide) (Nat.le_succ i))
      have set : ((cA.2.1 27 i ≤ cA.2.1 27 P ∧ cA.2.1 29 i < cA.2.1 28 P) ∨ (cA.2.1 27 P ≤ cA.2.1 27 i ∧ cA.2.1 29 P < cA.2.1 28 i)) → ∃ f' : Nat → Int32, (∀ n, J_X3_addPaper_127 (fun σ w5 => L_X3_addPaper_92 (fun σ7 => J_X3_addPaper_149 σ7) n σ w5) (zA cA 30 f) (nI i) = L_X3_addPaper_92 (fun σ7 => J_X3_addPaper_149 σ7) n (zA cA 30 f') (nI (i + 1))) ∧ (∀ j, ¬ j = P → f' j = c.2.1 30 j) ∧ ∃ w : Nat, w < 2 ^ (i + 1) ∧ f' P = nI w ∧ ∀ j, j < i + 1 → (w.testBit j = true ↔ ((cA.2.1 27 j ≤ cA.2.1 27 P ∧ cA.2.1 29 j < cA.2.1 28 P) ∨ (cA.2.1 27 P ≤ cA.2.1 27 j ∧ cA.2.1 29 P < cA.2.1 28 j))) := fun hor => by
        refine ⟨upd f P (f P ||| jShl 1 (nI i)), fun n => ?_, fun j hj => (gU_ne hj).trans (hf j hj), w ||| 2 ^ i, ?_, ?_, fun j hj => ?_⟩
        · unfold J_X3_addPaper_127
          rw [g23', gGx hP (by decide), gGx hP (by decide), nI_clamp (show P < 2 ^ 31 by omega), gzAA, nI_1]
          rfl
        · exact Nat.or_lt_two_pow lo (Nat.pow_lt_pow_right (by decide) (Nat.lt_succ_self i))
        · rw [gU_eq rfl, hw2, gShl1 (by omega), nx_or]
        · rw [Nat.testBit_or, Nat.testBit_two_pow]
          by_cases e : j = i
          · subst e
            simp only [decide_true, Bool.or_true, true_iff]
            exact hor
          · have : decide (i = j) = false := decide_eq_false (fun q => e q.symm)
            rw [this, Bool.or_false]
            exact hbits j (by omega)
      by_cases q1 : cA.2.1 27 i ≤ cA.2.1 27 P ∧ cA.2.1 29 i < cA.2.1 28 P
      · obtain ⟨f', s1, s2, s3⟩ := set (Or.inl q1)
        refine ⟨(zA cA 30 f', nI (i + 1)), fun n => ?_, f', rfl, s2, s3⟩
        simp only [L_X3_addPaper_92, if_neg hn, g23', k1, Option.bind_some, if_pos q1, gq_10, ↓reduceIte]
        exact s1 n
      · by_cases q2 : cA.2.1 27 P ≤ cA.2.1 27 i ∧ cA.2.1 29 P < cA.2.1 28 i
        · obtain ⟨f', s1, s2, s3⟩ := set (Or.inr q2)
          refine ⟨(zA cA 30 f', nI (i + 1)), fun n => ?_, f', rfl, s2, s3⟩
          simp only [L_X3_addPaper_92, if_neg hn, g23', k1, k2, Option.bind_some, if_neg q1, if_pos q2, gq_10, ↓reduceIte]
          exact s1 n
        · refine ⟨(zA cA 30 f, nI (i + 1)), fun n => ?_, f, rfl, hf, w, lo, hw2, fun j hj => ?_⟩
          · simp only [L_X3_addPaper_92, if_neg hn, g23', k1, k2, Option.bind_some, if_neg q1, if_neg q2, ↓reduceIte, nI_1]
          · by_cases e : j = i
            · subst e
              rw [Nat.testBit_lt_two_pow hw]
              constructor
              · intro q; cases q
              · intro q; rcases q with q | q
                · exact absurd q q1
                · exact absurd q q2
            · exact hbits j (by omega))
    (fun a hI => by
      obtain ⟨f, rfl, hf, w, hw, hw2, hbits⟩ := hI
      have hn : nI P ≤ nI P := Int32.le_refl _
      refine ⟨_, fun n => by simp only [L_X3_addPaper_92, if_pos hn, J_X3_addPaper_149, show (zA cA 30 f).1 23 = nI P from g23, nI_1], f, hf, w, hw, hw2, hbits, rfl⟩)
    ⟨_, rfl, fun j hj => gU_ne hj, 0, by decide, gU_eq rfl, fun j hj => absurd hj (Nat.not_lt_zero j)⟩
  subst hra
  subst hcA
  have h1 : L_X3_addPaper_92 (fun σ7 => J_X3_addPaper_149 σ7) zFu (zA (zA (zA (zA c 27 (upd (c.2.1 27) P (nI l))) 28 (upd (c.2.1 28) P (nI u))) 29 (upd (c.2.1 29) P (nI v))) 30 (upd (c.2.1 30) P 0)) 0 = _ := h1
  rw [h1]
  refine ⟨_, _, rfl, rfl, rfl, S, T, n, ⟨hA, hN, hX, hK, ⟨P + 1, by omega, rfl, rfl, ?_, ?_, ?_, fun i hi => ?_, fun i hi => ?_⟩, hL, hT⟩, hr⟩
  · show upd (m.2.1 24) P (nI l) = upd (c.2.1 27) P (nI l)
    rw [d3]
  · show upd (m.2.1 25) P (nI u) = upd (c.2.1 28) P (nI u)
    rw [d4]
  · show upd (m.2.1 26) P (nI v) = upd (c.2.1 29) P (nI v)
    rw [d5]
  · show ∃ x a b : Nat, x < 10 ∧ 1900 ≤ a ∧ a ≤ b ∧ b ≤ 2100 ∧ upd (c.2.1 27) P (nI l) i = nI x ∧ upd (c.2.1 28) P (nI u) i = nI a ∧ upd (c.2.1 29) P (nI v) i = nI b
    by_cases e : i = P
    · exact ⟨l, u, v, by omega, u0, hd, v1, gU_eq e, gU_eq e, gU_eq e⟩
    · rw [gU_ne e, gU_ne e, gU_ne e]; exact d6 i (by omega)
  · show ∃ w : Nat, w < 2 ^ i ∧ f i = nI w ∧ ∀ j, j < i → (w.testBit j = true ↔ ((upd (c.2.1 27) P (nI l) j ≤ upd (c.2.1 27) P (nI l) i ∧ upd (c.2.1 29) P (nI v) j < upd (c.2.1 28) P (nI u) i) ∨ (upd (c.2.1 27) P (nI l) i ≤ upd (c.2.1 27) P (nI l) j ∧ upd (c.2.1 29) P (nI v) i < upd (c.2.1 28) P (nI u) j)))
    by_cases e : i = P
    · subst e
      exact ⟨w, hw, hw2, hbits⟩
    · obtain ⟨w', z1, z2, z3⟩ := d7 i (by omega)
      refine ⟨w', z1, (hf i e).trans z2, fun j hj => ?_⟩
      rw [gU_ne e, gU_ne e, gU_ne e, gU_ne (show ¬ j = P by omega), gU_ne (show ¬ j = P by omega), gU_ne (show ¬ j = P by omega)]
      exact z3 j hj
