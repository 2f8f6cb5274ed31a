theorem gFault {m : Zst} {N W e : Nat} {b : Bool} (hN : N ≤ 60) (he : e = min N 40) (hW : W ≤ e) (h6 : m.1 6 = nI W) (h7 : m.1 7 = nI e) :
    f_X12_fault m (nI N) (if b = true then 1 else 0) = (if W < e then -1 - nI W else if N ≤ 40 then (if b = true then 0 else -1 - nI W) else -41) := by
  unfold f_X12_fault J_X12_fault_43
  rw [h6, h7]
  simp only [show (nI W = nI e) = (W = e) from propext (nI_eq (by omega) (by omega)), show (nI N ≤ (40 : Int32)) = (N ≤ 40) from propext (nI_leI (b := 40) (by omega) (by decide)), show (nI W < (40 : Int32)) = (W < 40) from propext (nI_ltI (b := 40) (by omega) (by decide))]
  by_cases h1 : W < e
  · have h2 : ¬ W = e := by omega
    have h3 : W < 40 := by omega
    rw [if_pos h1]
    simp only [h2, h3, ↓reduceIte, ite_self]
  · have h2 : W = e := by omega
    rw [if_neg h1]
    simp only [h2, ↓reduceIte]
    by_cases h4 : N ≤ 40
    · rw [if_pos h4, if_pos h4]
      cases b
      · simp only [Bool.false_eq_true, ↓reduceIte]
      · simp only [↓reduceIte, gq_10]
    · rw [if_neg h4, if_neg h4]
      have h5 : ¬ e < 40 := by omega
      cases b
      · simp only [Bool.false_eq_true, ↓reduceIte, h5]
      · simp only [↓reduceIte, gq_10]
theorem gzA3 (m : Zst) (a b d a' b' d' : Nat → Int32) : zA (zA (zA (zA (zA (zA m 15 a) 16 b) 17 d) 15 a') 16 b') 17 d' = zA (zA (zA m 15 a') 16 b') 17 d' := by
  unfold zA
  simp only
  congr 2
  funext j
  by_cases h : j = 17
  · rw [if_pos h, if_pos h]
  · rw [if_neg h, if_neg h]
    by_cases h2 : j = 16
    · rw [if_pos h2, if_pos h2, if_neg h]
    · rw [if_neg h2, if_neg h2]
      by_cases h3 : j = 15
      · rw [if_pos h3, if_pos h3, if_neg h, if_neg h2]
      · rw [if_neg h3, if_neg h3, if_neg h, if_neg h2, if_neg h3]
/-- the class keeps a story -/
theorem gWriteC {c : Zst} {N Q : Nat} {v : Nat → Nat} (hQ : Q < 6) (hN : N ≤ 40) (h1 : c.1 1 = nI N) (ht : ∀ i, c.2.1 0 i = nI (v i)) : ∃ f : Nat → Int32, (∀ j, j < N → f (40 * Q + j) = nI (v j)) ∧ (∀ j, j < 40 * Q → f j = c.2.1 19 j) ∧ (∀ K : Zst → Option (Zst × Int32), L_X1_write_S_25 K (nI Q) zFu c 0 = K (zA c 19 f)) := by
  obtain ⟨r, g1, f, rfl, g2, g3⟩ := gq_run1 (La := fun (K : Zst → Option (Zst × Int32)) n (a : Zst × Int32) => L_X1_write_S_25 K (nI Q) n a.1 a.2)
    (fun i a => ∃ f : Nat → Int32, a = (zA c 19 f, nI i) ∧ (∀ j, j < i → f (40 * Q + j) = nI (v j)) ∧ (∀ j, j < 40 * Q → f j = c.2.1 19 j))
    (fun r => ∃ f : Nat → Int32, r = zA c 19 f ∧ (∀ j, j < N → f (40 * Q + j) = nI (v j)) ∧ (∀ j, j < 40 * Q → f j = c.2.1 19 j)) 0 N (Nat.zero_le N) (by omega) (a := (zA c 19 (c.2.1 19), 0))
    (fun i a hi hI => by
      obtain ⟨f, rfl, g2, g3⟩ := hI
      have e1 : ¬ nI N ≤ nI i := nI_ge hi (by omega)
      have hs : f_X9_size (zA c 19 f) = nI N := h1
      have ha : f_X9_at (zA c 19 f) (nI i) = some (nI (v i)) := by
        unfold f_X9_at
        rw [show (zA c 19 f).1 1 = nI N from h1, if_neg (nI_pos (by omega)), if_neg e1, gGx (show i < 60 by omega) (by decide), nI_clamp (by omega), ← ht i]; rfl
      have hx : nI Q * (40 : Int32) + nI i = nI (40 * Q + i) := by rw [show (40 : Int32) = nI 40 from rfl, pk_mul, nI_add, Nat.mul_comm]
      refine ⟨(zA c 19 (upd f (40 * Q + i) (nI (v i))), nI (i + 1)), fun K n => ?_, _, rfl, fun j hj => ?_, fun j hj => ?_⟩
      · simp only [L_X1_write_S_25, hs, if_neg e1, if_neg (show ¬ (40 : Int32) ≤ nI i from nI_ge (b := 40) (by omega) (by decide)), ha, Option.bind_some, hx, gGx (show 40 * Q + i < 240 by omega) (by decide), nI_clamp (show 40 * Q + i < 2 ^ 31 by omega), gzAA, nI_1]
        rfl
      · by_cases e : j = i
        · rw [e]; exact gU_eq rfl
        · rw [gU_ne (by omega)]; exact g2 j (by omega)
      · rw [gU_ne (by omega)]; exact g3 j hj)
    (fun a hI => by
      obtain ⟨f, rfl, g2, g3⟩ := hI
      have hs : f_X9_size (zA c 19 f) = nI N := h1
      exact ⟨_, fun K n => by simp only [L_X1_write_S_25, hs, if_pos (show nI N ≤ nI N from Int32.le_refl _)], f, rfl, g2, g3⟩)
    ⟨c.2.1 19, rfl, fun j hj => absurd hj (Nat.not_lt_zero j), fun j hj => rfl⟩
  refine ⟨f, g2, g3, fun K => ?_⟩
  rw [← g1 K]
  have e0 : zA c 19 (c.2.1 19) = c := by
    unfold zA
    obtain ⟨c1, c2, c3⟩ := c
    simp only
    congr 2
    funext j
    by_cases h : j = 19
    · rw [if_pos h, h]
    · rw [if_neg h]
  show L_X1_write_S_25 K (nI Q) zFu c 0 = L_X1_write_S_25 K (nI Q) zFu (zA c 19 (c.2.1 19)) 0
  rw [e0]
/-- the reference keeps a story -/
theorem gWriteM {m : Zst} {cl Q : Nat} (hQ : Q < 6) (hcl : cl < 12) (h20 : m.1 20 = nI Q) : ∃ f g h : Nat → Int32, (∀ j, j < cl → f (12 * Q + j) = m.2.1 18 j ∧ g (12 * Q + j) = m.2.1 19 j ∧ h (12 * Q + j) = m.2.1 20 j) ∧ (∀ j, j < 12 * Q → f j = m.2.1 15 j ∧ g j = m.2.1 16 j ∧ h j = m.2.1 17 j) ∧ L_X12_story_122 (fun σ5 => J_X12_story_200 σ5) (nI cl) zFu m 0 = J_X12_story_200 (zA (zA (zA m 15 f) 16 g) 17 h) := by
  obtain ⟨r, g1, f, g, h, rfl, g2, g3⟩ := gq_run1 (La := fun (K : Zst → Option (Zst × Int32)) n (a : Zst × Int32) => L_X12_story_122 K (nI cl) n a.1 a.2)
    (fun i a => ∃ f g h : Nat → Int32, a = (zA (zA (zA m 15 f) 16 g) 17 h, nI i) ∧ (∀ j, j < i → f (12 * Q + j) = m.2.1 18 j ∧ g (12 * Q + j) = m.2.1 19 j ∧ h (12 * Q + j) = m.2.1 20 j) ∧ (∀ j, j < 12 * Q → f j = m.2.1 15 j ∧ g j = m.2.1 16 j ∧ h j = m.2.1 17 j))
    (fun r => ∃ f g h : Nat → Int32, r = zA (zA (zA m 15 f) 16 g) 17 h ∧ (∀ j, j < cl → f (12 * Q + j) = m.2.1 18 j ∧ g (12 * Q + j) = m.2.1 19 j ∧ h (12 * Q + j) = m.2.1 20 j) ∧ (∀ j, j < 12 * Q → f j = m.2.1 15 j ∧ g j = m.2.1 16 j ∧ h j = m.2.1 17 j)) 0 cl (Nat.zero_le cl) (by omega) (a := (zA (zA (zA m 15 (m.2.1 15)) 16 (m.2.1 16)) 17 (m.2.1 17), 0))
    (fun i a hi hI => by
      obtain ⟨f, g, h, rfl, g2, g3⟩ := hI
      have e1 : ¬ nI cl ≤ nI i := nI_ge hi (by omega)
      have hx : (12 : Int32) * nI Q + nI i = nI (12 * Q + i) := by rw [show (12 : Int32) = nI 12 from rfl, pk_mul, nI_add]
      have h20' : (zA (zA (zA m 15 f) 16 g) 17 h).1 20 = nI Q := h20
      refine ⟨(zA (zA (zA m 15 (upd f (12 * Q + i) (m.2.1 18 i))) 16 (upd g (12 * Q + i) (m.2.1 19 i))) 17 (upd h (12 * Q + i) (m.2.1 20 i)), nI (i + 1)), fun K n => ?_, _, _, _, rfl, fun j hj => ?_, fun j hj => ?_⟩
      · simp only [L_X12_story_122, if_neg e1, h20', hx, gGx (show i < 12 by omega) (by decide), gGx (show 12 * Q + i < 72 by omega) (by decide), nI_clamp (show i < 2 ^ 31 by omega), nI_clamp (show 12 * Q + i < 2 ^ 31 by omega), gzA3, nI_1]
        rfl
      · by_cases e : j = i
        · subst e; exact ⟨gU_eq rfl, gU_eq rfl, gU_eq rfl⟩
        · rw [gU_ne (by omega), gU_ne (by omega), gU_ne (by omega)]; exact g2 j (by omega)
      · rw [gU_ne (by omega), gU_ne (by omega), gU_ne (by omega)]; exact g3 j hj)
    (fun a hI => by
      obtain ⟨f, g, h, rfl, g2, g3⟩ := hI
      exact ⟨_, fun K n => by simp only [L_X12_story_122, if_pos (show nI cl ≤ nI cl from Int32.le_refl _)], f, g, h, rfl, g2, g3⟩)
    ⟨_, _, _, rfl, fun j hj => absurd hj (Nat.not_lt_zero j), fun j hj => ⟨rfl, rfl, rfl⟩⟩
  refine ⟨f, g, h, g2, g3, ?_⟩
  rw [← g1 (fun σ5 => J_X12_story_200 σ5)]
  have e0 : zA (zA (zA m 15 (m.2.1 15)) 16 (m.2.1 16)) 17 (m.2.1 17) = m := by
    unfold zA
    obtain ⟨c1, c2, c3⟩ := m
    simp only
    congr 2
    funext j
    by_cases h : j = 17
    · rw [if_pos h, h]
    · rw [if_neg h]
      by_cases h2 : j = 16
      · rw [if_pos h2, h2]
      · rw [if_neg h2]
        by_cases h3 : j = 15
        · rw [if_pos h3, h3]
        · rw [if_neg h3]
  show L_X12_story_122 _ (nI cl) zFu m 0 = L_X12_story_122 _ (nI cl) zFu (zA (zA (zA m 15 (m.2.1 15)) 16 (m.2.1 16)) 17 (m.2.1 17)) 0
  rw [e0]
theorem gaC_sw {c c' : Zst} {x : Int32} (h : gaC c c') : gaC (zI c 1 x) (zI c' 1 x) := ⟨fun j hj => by
    show (if j = 1 then x else c'.1 j) = (if j = 1 then x else c.1 j)
    by_cases e : j = 1
    · rw [if_pos e, if_pos e]
    · rw [if_neg e, if_neg e]; exact h.1 j hj, h.2⟩
theorem gCut {c : Zst} {N : Nat} (hN : N ≤ 60) (h1 : c.1 1 = nI N) : f_X9_cut c 0 = some (zI c 1 0, 1) := by
  unfold f_X9_cut
  rw [if_neg (by decide), h1, if_pos (show (0 : Int32) ≤ nI N from nI_le (a := 0) (Nat.zero_le N) (by omega))]
