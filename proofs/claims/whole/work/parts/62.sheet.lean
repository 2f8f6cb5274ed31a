theorem gStep (f st : Int32) (i : Nat) : f + nI i * st + st = f + nI (i + 1) * st := by
  rw [nI_succ, Int32.add_mul, Int32.one_mul, Int32.add_assoc]
theorem pp_sheet : lp_sheet gRel := by
  intro c m hR p0 p1 p2 p3 p4
  obtain ⟨S, T, n, h, hr⟩ := hR
  have no : gRel c (zI m 0 0) := gNo h hr
  have h' : gCor S T c (zI m 0 0) := gCor_ag h gaC_rf gaM_0
  have hr' : gRR n c (zI m 0 0) := hr
  have hT := h.1.1.2.1
  have hS := h.1.1.1
  unfold f_X11_sheet f_X10_readSheet f_X12_sheet J_X10_readSheet_37
  simp only [gL_sort h'.1, gq_in_0_3]
  generalize zI m 0 0 = m0 at *
  rcases gS_sort h.1 p0 with ⟨e0, s, x1, x2⟩ | e0
  case inr => simp only [e0, ↓reduceIte, Option.bind_some]; exact ⟨_, _, rfl, rfl, rfl, no⟩
  rcases gS_btw (p := p1) (a := 0) (b := 3) 0 3 rfl rfl (by decide) (by decide) with ⟨e1, k, -, y1, y2⟩ | e1
  case inr => simp only [e0, e1, gq_10, ↓reduceIte, Option.bind_some]; exact ⟨_, _, rfl, rfl, rfl, no⟩
  simp only [e0, e1, gq_10, ↓reduceIte]
  subst x2
  by_cases h96 : p2 ≤ 96
  case neg => simp only [if_neg h96, Option.bind_some]; exact ⟨_, _, rfl, rfl, rfl, no⟩
  simp only [if_pos h96]
  -- the entries
  have hent : ∀ i : Nat, ∃ v : Nat, v ≤ 1000 ∧ f_X11_within (if p1 = (3 : Int32) then (-1 : Int32) else f_X10_entryOf p1 (p3 + nI i * p4)) (-1) 999 = nI v - 1 ∧
      (if (0 : Int32) ≤ (if p1 = (3 : Int32) then (-1 : Int32) else (if p1 = (0 : Int32) then (Int8.toInt32 (Int32.toInt8 (p3 + nI i * p4))) else (if p1 = (1 : Int32) then (Int16.toInt32 (Int32.toInt16 (p3 + nI i * p4))) else (p3 + nI i * p4)))) then (jMin (999 : Int32) (if p1 = (3 : Int32) then (-1 : Int32) else (if p1 = (0 : Int32) then (Int8.toInt32 (Int32.toInt8 (p3 + nI i * p4))) else (if p1 = (1 : Int32) then (Int16.toInt32 (Int32.toInt16 (p3 + nI i * p4))) else (p3 + nI i * p4))))) else (-1 : Int32)) = nI v - 1 := fun i => gEntry (if p1 = (3 : Int32) then (-1 : Int32) else f_X10_entryOf p1 (p3 + nI i * p4))
  have main : ∀ N : Nat, N ≤ 12 * T → (if p1 = (3 : Int32) then (f_X10_cellCount c) else (if p2 ≤ (f_X10_cellCount c) then p2 else (f_X10_cellCount c))) = nI N →
      (∀ m1 : Zst, m1.1 3 = m0.1 3 → (if p1 = (3 : Int32) then ((12 : Int32) * (m1.1 3)) else (jMin p2 ((12 : Int32) * (m1.1 3)))) = nI N) →
      (N < 12 * T → ¬ p1 = 3 ∧ p2 = nI N) → (∀ i, i < N → ¬ p1 = 3 → ¬ p2 ≤ nI i) →
      ∃ oc om, (L_X10_readSheet_63 (nI s) p1 p3 p4 (if p1 = (3 : Int32) then (f_X10_cellCount c) else (if p2 ≤ (f_X10_cellCount c) then p2 else (f_X10_cellCount c))) zFu c 0).bind (fun t1 => some (t1.1, t1.2)) = some oc ∧ L_X12_sheet_52 (fun σ10 => J_X12_sheet_147 σ10 p1 p2) (nI s) p1 p2 p4 zFu m0 p3 0 = some om ∧ oc.2 = om.2 ∧ gRel oc.1 om.1 := by
    intro N hN hc1 hm1 hend hgo
    obtain ⟨ra, rb, h1, h2, h3⟩ := gq_lock (La := fun n (a : Zst × Int32) => L_X10_readSheet_63 (nI s) p1 p3 p4 (nI N) n a.1 a.2)
      (Lb := fun n (a : Zst × Int32 × Int32) => L_X12_sheet_52 (fun σ10 => J_X12_sheet_147 σ10 p1 p2) (nI s) p1 p2 p4 n a.1 a.2.1 a.2.2)
      (fun i a b => ∃ c1 m1, a = (c1, nI i) ∧ b = (m1, p3 + nI i * p4, nI i) ∧ gCor S T c1 m1 ∧ gNR c c1 ∧ gNRm m0 m1 ∧ m1.1 3 = m0.1 3)
      (fun ra rb => ra.2 = rb.2 ∧ gRel ra.1 rb.1) N (by omega) (a := (c, 0)) (b := (m0, p3, 0))
      (fun i a b hi hI => by
        obtain ⟨c1, m1, rfl, rfl, hcur, nC, nM, h3⟩ := hI
        obtain ⟨hc, hc'⟩ := gL_cells hcur.1
        have hn : ¬ nI N ≤ nI i := nI_ge hi (by omega)
        have hn2 : ¬ nI (12 * T) ≤ nI i := nI_ge (by omega) (by omega)
        obtain ⟨v, v1, v2, v3⟩ := hent i
        obtain ⟨s1, s2, s3⟩ := gL_set hcur (x := 0) 0 i s rfl (y := nI i) rfl (z := nI s) rfl (by decide) (by omega) (by omega) v1 (w := nI v - 1) rfl
        refine ⟨(zA c1 1 (upd (c1.2.1 1) (gP 0 i s) (nI v - 1)), nI (i + 1)), (zA m1 8 (upd (m1.2.1 8) (gP 0 i s) (nI v)), p3 + nI (i + 1) * p4, nI (i + 1)), fun n => ?_, fun n => ?_, _, _, rfl, rfl, s3, nC, nM, h3⟩
        · simp only [L_X10_readSheet_63, if_neg hn, v2, s1, Option.bind_some, nI_1]
        · simp only [L_X12_sheet_52, hc', if_neg hn2, J_X12_sheet_75, v3, s2, Option.bind_some, gStep, nI_1]
          by_cases q : p1 = 3
          · rw [if_pos q]
          · rw [if_neg q, if_neg (hgo i hi q)])
      (fun a b hI => by
        obtain ⟨c1, m1, rfl, rfl, hcur, nC, nM, h3⟩ := hI
        obtain ⟨hc, hc'⟩ := gL_cells hcur.1
        have hn : nI N ≤ nI N := nI_le (Nat.le_refl _) (by omega)
        refine ⟨(c1, nI N), (m1, nI N), fun n => ?_, fun n => ?_, rfl, S, T, n, hcur, gRR_nr hr' nC nM⟩
        · simp only [L_X10_readSheet_63, if_pos hn]
        · have e := hm1 m1 h3
          simp only [L_X12_sheet_52, J_X12_sheet_147, e]
          by_cases hq : N < 12 * T
          · obtain ⟨q1, q2⟩ := hend hq
            rw [hc', if_neg (show ¬ nI (12 * T) ≤ nI N from nI_ge hq (by omega)), if_neg q1, q2, if_pos hn]
          · rw [hc', if_pos (nI_le (by omega) (by omega))])
      ⟨c, m0, rfl, by rw [show nI 0 = (0 : Int32) from rfl, Int32.zero_mul, Int32.add_zero], h', ⟨rfl, rfl⟩, ⟨rfl, rfl⟩, rfl⟩
    have h1 : L_X10_readSheet_63 (nI s) p1 p3 p4 (nI N) zFu c 0 = some ra := h1
    have h2 : L_X12_sheet_52 (fun σ10 => J_X12_sheet_147 σ10 p1 p2) (nI s) p1 p2 p4 zFu m0 p3 0 = some rb := h2
    rw [hc1, h1, h2]
    exact ⟨ra, rb, rfl, rfl, h3⟩
  obtain ⟨hc, hc'⟩ := gL_cells h'.1
  by_cases q : p1 = 3
  · simp only [if_pos q]
    have := main (12 * T) (Nat.le_refl _) (by rw [if_pos q]; exact hc) (fun m1 hm => by rw [if_pos q, hm]; exact hc') (fun hlt => absurd hlt (Nat.lt_irrefl _)) (fun i hi hq => absurd q hq)
    simp only [if_pos q] at this
    exact this
  · simp only [if_neg q]
    by_cases h0 : (0 : Int32) ≤ p2
    case neg => simp only [if_neg h0, Option.bind_some]; exact ⟨_, _, rfl, rfl, rfl, no⟩
    simp only [if_pos h0]
    obtain ⟨k2, hk2, rfl⟩ := gq_nat (p := p2) (n := 96) (Int32.le_iff_toInt_le.mp h0) (Int32.le_iff_toInt_le.mp h96)
    by_cases hlt : k2 ≤ 12 * T
    · have := main k2 hlt (by rw [if_neg q, hc, if_pos (nI_le hlt (by omega))]) (fun m1 hm => by rw [if_neg q, hm, hc', gMin, if_pos (nI_le hlt (by omega))]) (fun _ => ⟨q, rfl⟩) (fun i hi _ => nI_ge hi (by omega))
      simp only [if_neg q] at this
      exact this
    · have := main (12 * T) (Nat.le_refl _) (by rw [if_neg q, hc, if_neg (nI_ge (by omega) (by omega))]) (fun m1 hm => by rw [if_neg q, hm, hc', gMin, if_neg (nI_ge (by omega) (by omega))]) (fun hlt => absurd hlt (Nat.lt_irrefl _)) (fun i hi _ => nI_ge (by omega) (by omega))
      simp only [if_neg q] at this
      exact this
