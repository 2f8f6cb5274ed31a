theorem gL228 (K : Zst → Option (Zst × Int32)) (v3 v4 v5 v5' v6 : Int32) : ∀ (n : Nat) (σ : Zst) (x : Int32), L_X12_live_228 K v3 v4 v5 v6 n σ x = L_X12_live_228 K v3 v4 v5' v6 n σ x := by
  intro n
  induction n with
  | zero => intro σ x; rfl
  | succ n ih => intro σ x; simp only [L_X12_live_228, ih]
/-- a sort's part of a week -/
theorem gLiveStep {S T : Nat} {c m : Zst} (h : gCor S T c m) {t w s : Nat} (ht : t < T) (hw : w < 12) (hs : s < S) (hb7 : c.2.1 9 7 = m.2.1 6 t) (hb19 : c.2.1 9 19 = nI t) (hb22 : c.2.1 9 22 = nI w) (h9 : m.1 9 = nI t) (h10 : m.1 10 = nI w) :
    ∃ (c' m' : Zst) (L : Int32), f_X10_liveSort c (nI t) (nI w) (nI s) = some (c', L) ∧ (∀ n y, L_X12_live_60 (nI (12 * t + w)) (nI (12 * ((t + 1) % T) + w)) (n + 1) m y (nI s) = L_X12_live_60 (nI (12 * t + w)) (nI (12 * ((t + 1) % T) + w)) n m' (y + L) (nI (s + 1))) ∧ gCor S T c' m' ∧ gNR c c' ∧ gNRm m m' ∧ (c'.2.1 9 7 = m'.2.1 6 t ∧ c'.2.1 9 19 = nI t ∧ c'.2.1 9 22 = nI w) ∧ m'.1 9 = nI t ∧ m'.1 10 = nI w := by
  have hS8 := h.1.1.1
  have hT8 := h.1.1.2.1
  obtain ⟨lv, lv1, lv2, lv3, lv4⟩ := gL_leaves h.1 (p := nI s) rfl hs
  obtain ⟨bq, bq1, bq2⟩ := gL_lack h.1 hs hw
  obtain ⟨si, ba, cr, hg, v13, v14, v15⟩ := h.1.2.2.2.1 s (by omega)
  have hA := h.1.2.1
  -- what signs stand for
  have l1 : f_X2_let c 107 (nI s) = some (zA c 9 (upd (c.2.1 9) 10 (nI s))) := gLetN c (nI s) (k := 10) (by decide)
  have l2 : ∀ K, f_X10_rightOf (zA c 9 K) (nI s) = some (m.2.1 1 s) := fun K => by
    unfold f_X10_rightOf
    rw [gHasSort (c := zA c 9 K) h.1 hs, if_neg (show ¬ (1 : Int32) = 0 by decide), gGx (show s < 8 by omega) (by decide), nI_clamp (by omega), hA.2.1]
    rfl
  have l3 : ∀ K x, f_X2_let (zA c 9 K) 114 x = some (zA c 9 (upd K 17 x)) := fun K x => gLetK c K x (k := 17) (by decide)
  have l4 : ∀ K, f_X10_leavesOf (zA c 9 K) (nI s) = some (nI lv) := fun K => lv3
  have l5 : ∀ K x, f_X2_let (zA c 9 K) 108 x = some (zA c 9 (upd K 11 x)) := fun K x => gLetK c K x (k := 11) (by decide)
  have l6 : ∀ K, f_X10_isLack (zA c 9 K) (nI s) (nI w) = some (if bq then 1 else 0) := fun K => bq1
  have l7 : ∀ K x, f_X2_let (zA c 9 K) 113 x = some (zA c 9 (upd K 16 x)) := fun K x => gLetK c K x (k := 16) (by decide)
  have l8 : (if (if bq then (1 : Int32) else 0) = 0 then (0 : Int32) else 1) = (if bq then 1 else 0) := by cases bq <;> rfl
  have l9 : f_X12_flag (m.2.1 7 (12 * s + w)) = (if bq then 1 else 0) := by rw [bq2]; cases bq <;> rfl
  generalize hK1 : upd (upd (upd (upd (c.2.1 9) 10 (nI s)) 17 (m.2.1 1 s)) 11 (nI lv)) 16 (if bq then (1 : Int32) else 0) = K1
  have hg1 : gCor S T (zA c 9 K1) (zI m 11 (nI s)) := gCor_ag h (gaC_A gaC_rf rfl) (gaM_I gaM_rf rfl)
  have hev1 : gEv (zA c 9 K1) (zI m 11 (nI s)) t w s 8 := by
    subst hK1
    refine ⟨⟨by omega, hw, by omega, h9, h10, rfl⟩, ⟨?_, ?_, ?_, ?_, ?_, ?_, ?_⟩, fun q => by omega, fun q => by omega⟩
    · show upd (upd (upd (upd (c.2.1 9) 10 (nI s)) 17 (m.2.1 1 s)) 11 (nI lv)) 16 (if bq then (1 : Int32) else 0) 7 = m.2.1 6 t
      rw [gU_ne (by decide), gU_ne (by decide), gU_ne (by decide), gU_ne (by decide)]; exact hb7
    · show upd (upd (upd (upd (c.2.1 9) 10 (nI s)) 17 (m.2.1 1 s)) 11 (nI lv)) 16 (if bq then (1 : Int32) else 0) 19 = nI t
      rw [gU_ne (by decide), gU_ne (by decide), gU_ne (by decide), gU_ne (by decide)]; exact hb19
    · show upd (upd (upd (upd (c.2.1 9) 10 (nI s)) 17 (m.2.1 1 s)) 11 (nI lv)) 16 (if bq then (1 : Int32) else 0) 22 = nI w
      rw [gU_ne (by decide), gU_ne (by decide), gU_ne (by decide), gU_ne (by decide)]; exact hb22
    · show upd (upd (upd (upd (c.2.1 9) 10 (nI s)) 17 (m.2.1 1 s)) 11 (nI lv)) 16 (if bq then (1 : Int32) else 0) 10 = nI s
      rw [gU_ne (by decide), gU_ne (by decide), gU_ne (by decide), gU_eq rfl]
    · show upd (upd (upd (upd (c.2.1 9) 10 (nI s)) 17 (m.2.1 1 s)) 11 (nI lv)) 16 (if bq then (1 : Int32) else 0) 17 = m.2.1 1 s
      rw [gU_ne (by decide), gU_ne (by decide), gU_eq rfl]
    · show upd (upd (upd (upd (c.2.1 9) 10 (nI s)) 17 (m.2.1 1 s)) 11 (nI lv)) 16 (if bq then (1 : Int32) else 0) 11 = m.2.1 0 s
      rw [gU_ne (by decide), gU_eq rfl]; exact lv4.symm
    · show upd (upd (upd (upd (c.2.1 9) 10 (nI s)) 17 (m.2.1 1 s)) 11 (nI lv)) 16 (if bq then (1 : Int32) else 0) 16 = f_X12_flag (m.2.1 7 (12 * s + w))
      rw [gU_eq rfl]; exact l9.symm
  -- what is BOUGHT
  obtain ⟨R1, a1, c2, m2, r1, r2, r3, r4⟩ := gReck (i := 0) (t := t) (w := w) (s := s) (by decide) hg1.2.2.2.2.2.1 hg1.2.1.1.1 hev1 0 999
  have r1 : f_X2_reckon (zA c 9 K1) 0 0 = some (c2, a1) := r1
  have r2 : f_X12_lawed (zI m 11 (nI s)) 0 0 999 = some (m2, jMax 0 (jMin 999 a1)) := r2
  obtain ⟨B, B1, B2, B3⟩ := gWi a1 (M := 999) (by decide)
  have B2 : f_X11_within a1 0 999 = nI B := B2
  have B3 : jMax 0 (jMin 999 a1) = nI B := B3
  rw [B3] at r2
  have c29 : c2.2.1 9 = K1 := by rw [r3.2.2]; rfl
  have l10 : f_X2_let c2 98 (nI B) = some (zA c2 9 (upd K1 1 (nI B))) := by
    have := gLetN c2 (nI B) (k := 1) (by decide)
    rw [c29] at this
    exact this
  have hg2 := gCor_rk hg1 r3 r4
  have hg3 : gCor S T (zA c2 9 (upd K1 1 (nI B))) (zI m2 12 (nI B)) := gCor_ag hg2 (gaC_A gaC_rf rfl) (gaM_I gaM_rf rfl)
  have m2I : ∀ j, 9 ≤ j → m2.1 j = (zI m 11 (nI s)).1 j := fun j hj => r4.1 j (by omega)
  have m2A : ∀ j, j ≤ 8 → m2.2.1 j = m.2.1 j := fun j hj => r4.2.2.1 j (by omega)
  have hev3 : gEv (zA c2 9 (upd K1 1 (nI B))) (zI m2 12 (nI B)) t w s 9 := by
    obtain ⟨⟨q1, q2, q3, q4, q5, q6⟩, ⟨k0, k1, k2, k3, k4, k5, k6⟩, -⟩ := hev1
    refine ⟨⟨q1, q2, q3, (m2I 9 (by decide)).trans q4, (m2I 10 (by decide)).trans q5, (m2I 11 (by decide)).trans q6⟩, ⟨?_, ?_, ?_, ?_, ?_, ?_, ?_⟩, fun _ => ?_, fun q => by omega⟩
    · show upd K1 1 (nI B) 7 = m2.2.1 6 t
      rw [gU_ne (by decide), m2A 6 (by decide)]; exact k0
    · show upd K1 1 (nI B) 19 = nI t
      rw [gU_ne (by decide)]; exact k1
    · show upd K1 1 (nI B) 22 = nI w
      rw [gU_ne (by decide)]; exact k2
    · show upd K1 1 (nI B) 10 = nI s
      rw [gU_ne (by decide)]; exact k3
    · show upd K1 1 (nI B) 17 = m2.2.1 1 s
      rw [gU_ne (by decide), m2A 1 (by decide)]; exact k4
    · show upd K1 1 (nI B) 11 = m2.2.1 0 s
      rw [gU_ne (by decide), m2A 0 (by decide)]; exact k5
    · show upd K1 1 (nI B) 16 = f_X12_flag (m2.2.1 7 (12 * s + w))
      rw [gU_ne (by decide), m2A 7 (by decide)]; exact k6
    · show upd K1 1 (nI B) 1 = nI B
      exact gU_eq rfl
  -- what is EATEN
  obtain ⟨R2, a2, c4, m4, s1, s2, s3, s4⟩ := gReck (i := 1) (t := t) (w := w) (s := s) (by decide) hg3.2.2.2.2.2.1 hg3.2.1.1.1 hev3 (nI B) (nI B)
  have s1 : f_X2_reckon (zA c2 9 (upd K1 1 (nI B))) 1 (nI B) = some (c4, a2) := s1
  have s2 : f_X12_lawed (zI m2 12 (nI B)) 1 (nI B) (nI B) = some (m4, jMax 0 (jMin (nI B) a2)) := s2
  obtain ⟨E, E1, E2, E3⟩ := gWi a2 (M := B) B1
  rw [E3] at s2
  have c49 : c4.2.1 9 = upd K1 1 (nI B) := by rw [s3.2.2]; rfl
  have l11 : f_X2_let c4 101 (nI E) = some (zA c4 9 (upd (upd K1 1 (nI B)) 4 (nI E))) := by
    have := gLetN c4 (nI E) (k := 4) (by decide)
    rw [c49] at this
    exact this
  have hg4 := gCor_rk hg3 s3 s4
  have hg5 : gCor S T (zA c4 9 (upd (upd K1 1 (nI B)) 4 (nI E))) (zI m4 13 (nI E)) := gCor_ag hg4 (gaC_A gaC_rf rfl) (gaM_I gaM_rf rfl)
  have m4I : ∀ j, 9 ≤ j → m4.1 j = (zI m2 12 (nI B)).1 j := fun j hj => s4.1 j (by omega)
  have m4A : ∀ j, j ≤ 8 → m4.2.1 j = m2.2.1 j := fun j hj => s4.2.2.1 j (by omega)
  have hev5 : gEv (zA c4 9 (upd (upd K1 1 (nI B)) 4 (nI E))) (zI m4 13 (nI E)) t w s 10 := by
    obtain ⟨⟨q1, q2, q3, q4, q5, q6⟩, ⟨k0, k1, k2, k3, k4, k5, k6⟩, k8, -⟩ := hev3
    have k8 := k8 (by decide)
    refine ⟨⟨q1, q2, q3, (m4I 9 (by decide)).trans q4, (m4I 10 (by decide)).trans q5, (m4I 11 (by decide)).trans q6⟩, ⟨?_, ?_, ?_, ?_, ?_, ?_, ?_⟩, fun _ => ?_, fun _ => ?_⟩
    · show upd (upd K1 1 (nI B)) 4 (nI E) 7 = m4.2.1 6 t
      rw [gU_ne (by decide), m4A 6 (by decide)]; exact k0
    · show upd (upd K1 1 (nI B)) 4 (nI E) 19 = nI t
      rw [gU_ne (by decide)]; exact k1
    · show upd (upd K1 1 (nI B)) 4 (nI E) 22 = nI w
      rw [gU_ne (by decide)]; exact k2
    · show upd (upd K1 1 (nI B)) 4 (nI E) 10 = nI s
      rw [gU_ne (by decide)]; exact k3
    · show upd (upd K1 1 (nI B)) 4 (nI E) 17 = m4.2.1 1 s
      rw [gU_ne (by decide), m4A 1 (by decide)]; exact k4
    · show upd (upd K1 1 (nI B)) 4 (nI E) 11 = m4.2.1 0 s
      rw [gU_ne (by decide), m4A 0 (by decide)]; exact k5
    · show upd (upd K1 1 (nI B)) 4 (nI E) 16 = f_X12_flag (m4.2.1 7 (12 * s + w))
      rw [gU_ne (by decide), m4A 7 (by decide)]; exact k6
    · show upd (upd K1 1 (nI B)) 4 (nI E) 1 = m4.1 12
      rw [gU_ne (by decide), m4I 12 (by decide)]; exact gU_eq rfl
    · show upd (upd K1 1 (nI B)) 4 (nI E) 4 = nI E
      exact gU_eq rfl
  generalize hK5 : upd (upd K1 1 (nI B)) 4 (nI E) = K5 at hg5 hev5 l11
  generalize hc5 : zA c4 9 K5 = c5 at hg5 hev5 l11
  have e1 : E * lv / 100 ≤ E := by
    have : E * lv ≤ E * 100 := Nat.mul_le_mul_left E lv2
    omega
  generalize hTH : E * lv / 100 + B - E = TH
  have hT999 : TH ≤ 999 := by omega
  have hth : ((nI E * nI lv) / (100 : Int32)) + nI B - nI E = nI TH := by
    have : E * lv ≤ 999 * 100 := Nat.mul_le_mul (by omega) lv2
    rw [pk_mul, show (100 : Int32) = nI 100 from rfl, pk_div (by omega) (by decide) (by decide), nI_add, pk_sub (by omega), hTH]
  have hm4A : ∀ j, j ≤ 8 → m4.2.1 j = m.2.1 j := fun j hj => (m4A j hj).trans (m2A j hj)
  have q0 : m4.2.1 0 s = nI lv := by rw [hm4A 0 (by decide)]; exact lv4
  have q3 : m4.2.1 3 s = nI si := by rw [hm4A 3 (by decide), hA.2.2.2.1]; exact v13
  have q4 : m4.2.1 4 s = nI ba := by rw [hm4A 4 (by decide), hA.2.2.2.2.1]; exact v14
  have q5 : m4.2.1 5 s = nI cr := by rw [hm4A 5 (by decide), hA.2.2.2.2.2.1]; exact v15
  have q12 : m4.1 12 = nI B := by rw [m4I 12 (by decide)]; rfl
  have w13 : c5.2.1 13 s = nI si := by
    have := hg5.1.2.1.2.2.2.1
    rw [← this]; exact q3
  have w14 : c5.2.1 14 s = nI ba := by
    have := hg5.1.2.1.2.2.2.2.1
    rw [← this]; exact q4
  have w15 : c5.2.1 15 s = nI cr := by
    have := hg5.1.2.1.2.2.2.2.2.1
    rw [← this]; exact q5
  obtain ⟨m6, b0, t1, t2, t3, t4, t5, t6, t7⟩ := gBagsL hg5 ht hw hs hT999 hg w13 w14 w15
  have hj1 : 12 * t + w < 96 := by omega
  have hB9 : B ≤ 999 := B1
  have hvt0 : gVt S T (c5.2.1 1) b0 b0 c5 m6 := ⟨t2, t3, fun j _ => ⟨rfl, rfl⟩⟩
  have hvt := gVt_set hvt0 (k := 1) (j := 12 * t + w) (s := s) (b := B) (by decide) (by decide) hj1 (by omega) hB9
  have hev6 : gEv c5 m6 t w s 10 := gEv_kp hev5 rfl (fun j _ _ => by rw [t4]) (fun j hj => t5 j (by omega))
  have hev7 : gEv (zA c5 1 (upd (c5.2.1 1) (gP 1 (12 * t + w) s) (nI B))) (zA m6 8 (upd (m6.2.1 8) (gP 1 (12 * t + w) s) (nI B + 1))) t w s 10 := gEv_kp hev6 rfl (fun j _ _ => rfl) (fun j hj => if_neg (show ¬ j = 8 by omega))
  have h13 : m6.1 13 = nI E := by rw [t4]; rfl
  obtain ⟨c8, m8, A8, u1, u2, u3, u4, u5, u6, u7, u8, u9⟩ := gSaid (t := t) (w := w) (s := s) (E := E) (j := 12 * t + w) hj1 (by omega) (by omega) (nI t) (nI w) (nI TH) (nI (12 * ((t + 1) % T) + w)) 0 hvt hev7 h13
  have x13 : c8.2.1 13 s = nI si := by
    have h1 : m8.2.1 3 = c8.2.1 13 := u3.1.1.2.1.2.2.2.1
    rw [← h1, u9 3 (by decide)]
    show m6.2.1 3 s = _
    rw [t5 3 (by decide)]; exact q3
  have x14 : c8.2.1 14 s = nI ba := by
    have h1 : m8.2.1 4 = c8.2.1 14 := u3.1.1.2.1.2.2.2.2.1
    rw [← h1, u9 4 (by decide)]
    show m6.2.1 4 s = _
    rw [t5 4 (by decide)]; exact q4
  have x15 : c8.2.1 15 s = nI cr := by
    have h1 : m8.2.1 5 = c8.2.1 15 := u3.1.1.2.1.2.2.2.2.2.1
    rw [← h1, u9 5 (by decide)]
    show m6.2.1 5 s = _
    rw [t5 5 (by decide)]; exact q5
  have hTA := t7 c8 m8 A8 u3.2.1 u3.2.2 u3.1.1 x13 x14 x15
  generalize hLe : TH - TH * si / 100 - TH * ba / 100 - TH * cr / 100 = Le at t1 hTA
  have hd1 : ∀ z, z ≤ 100 → nI TH * nI z / (100 : Int32) = nI (TH * z / 100) := fun z hz => by
    have : TH * z ≤ 999 * 100 := Nat.mul_le_mul hT999 hz
    rw [pk_mul, show (100 : Int32) = nI 100 from rfl, pk_div (by omega) (by decide) (by decide)]
  have hH := gHun (a := TH) hg
  have eL : nI TH - nI (TH * si / 100) - nI (TH * ba / 100) - nI (TH * cr / 100) = nI Le := by
    rw [pk_sub (by omega), pk_sub (by omega), pk_sub (by omega), hLe]
  have ec : (12 : Int32) * nI t + nI w = nI (12 * t + w) := by rw [show (12 : Int32) = nI 12 from rfl, pk_mul, nI_add]
  have l12 : f_X10_leavesOf c5 (nI s) = some (nI lv) := by
    obtain ⟨x, -, -, hx, hx'⟩ := gL_leaves hg5.1 (p := nI s) rfl hs
    rw [hx, ← hx']
    exact congrArg some q0
  have hs8 : s < 8 := by omega
  have l13 := gChC (c := c5) (k := 1) (j := 12 * t + w) (s := s) (by decide) hj1 hs8 (nI B)
  have l13 : f_X4_change c5 1 (nI (12 * t + w)) (nI s) (nI B) = some (zA c5 1 (upd (c5.2.1 1) (gP 1 (12 * t + w) s) (nI B))) := l13
  have l14 := gSetM (m := m6) (k := 1) (j := 12 * t + w) (s := s) (by decide) hj1 hs8 (nI B)
  have l14 : f_X12_sets m6 1 (nI (12 * t + w)) (nI s) (nI B) = some (zA m6 8 (upd (m6.2.1 8) (gP 1 (12 * t + w) s) (nI B + 1))) := l14
  have m612 : m6.1 12 = nI B := by rw [t4]; exact q12
  have hSm : m.1 2 = nI S := h.1.1.2.2.2.1
  refine ⟨zA c8 1 A8, m8, nI Le, ?_, fun n y => ?_, u3.1, ?_, ?_, ⟨u4.2.1.1, u4.2.1.2.1, u4.2.1.2.2.1⟩, u4.1.2.2.2.1, u4.1.2.2.2.2.1⟩
  · unfold f_X10_liveSort
    rw [l1, Option.bind_some, l2, Option.bind_some, l3, Option.bind_some, l4, Option.bind_some, l5, Option.bind_some, l6, Option.bind_some, l8, l7, Option.bind_some, hK1, r1, Option.bind_some]
    simp only [B2, l10, Option.bind_some, s1, E2, l11, l12, hth, ec, l13]
    rw [u1]
    unfold J_X10_liveSort_212
    rw [hTA]
    rfl
  · have n2 : ¬ m.1 2 ≤ nI s := by rw [hSm]; exact nI_ge hs (by omega)
    simp only [L_X12_live_60, if_neg n2, r2, Option.bind_some, s2, gGx hs8 (by decide : 8 < 2 ^ 31), nI_clamp (show s < 2 ^ 31 by omega), q0, q3, q4, q5, q12, hth, hd1 si (by omega), hd1 ba (by omega), hd1 cr (by omega), eL]
    rw [t1 (fun t7 => J_X12_live_206 _ t7 (nI (12 * t + w)) (nI (12 * ((t + 1) % T) + w)) y (nI s) (nI Le))]
    unfold J_X12_live_206
    rw [m612, l14, Option.bind_some, gL228 _ _ _ (y + nI Le) 0, u2]
    unfold J_X12_live_266
    rw [nI_1]
  · refine ⟨u5.1.trans ?_, u5.2.trans ?_⟩
    · subst hc5
      exact (s3.1 0 (by decide)).trans (r3.1 0 (by decide))
    · subst hc5
      show c4.2.2.1 0 = _
      rw [s3.2.2]
      show c2.2.2.1 0 = _
      rw [r3.2.2]; rfl
  · refine ⟨u6.1.trans ?_, u6.2.trans ?_⟩
    · show m6.1 1 = m.1 1
      rw [t4]
      show m4.1 1 = m.1 1
      exact (s4.1 1 (by decide)).trans (r4.1 1 (by decide))
    · show m6.2.2.1 0 = m.2.2.1 0
      rw [t6]
      show m4.2.2.1 0 = m.2.2.1 0
      rw [s4.2.2.2]
      show m2.2.2.1 0 = m.2.2.1 0
      rw [r4.2.2.2]; rfl
theorem pp_live : lp_live gRel := by
  intro c m hR p0 p1
  obtain ⟨S, T, n, h, hr⟩ := hR
  have no : gRel c (zI m 0 0) := gNo h hr
  have h' : gCor S T c (zI m 0 0) := gCor_ag h gaC_rf gaM_0
  have hr' : gRR n c (zI m 0 0) := hr
  have hS8 := h.1.1.1
  have hT8 := h.1.1.2.1
  have h17 : m.2.1 6 = c.2.1 17 := h.1.2.1.2.2.2.2.2.2
  have hTm : m.1 3 = nI T := h.1.1.2.2.2.2.2
  unfold f_X11_live f_X10_liveWeek f_X12_live
  rw [gL_street h'.1, gL_week]
  rcases gS_street h.1 p0 with ⟨e0, t, ht, rfl⟩ | e0
  case inr => simp only [e0, ↓reduceIte, Option.bind_some]; exact ⟨_, _, rfl, rfl, rfl, no⟩
  rcases gS_week p1 with ⟨e1, w, hw, rfl⟩ | e1
  case inr => simp only [e0, e1, gq_10, ↓reduceIte, Option.bind_some]; exact ⟨_, _, rfl, rfl, rfl, no⟩
  have ec : (12 : Int32) * nI t + nI w = nI (12 * t + w) := by rw [show (12 : Int32) = nI 12 from rfl, pk_mul, nI_add]
  have er : (12 : Int32) * jRem (nI t + 1) (m.1 3) + nI w = nI (12 * ((t + 1) % T) + w) := by
    have hj : jRem (nI (t + 1)) (nI T) = nI ((t + 1) % T) := pk_rem (by omega) (by omega) (by omega)
    rw [hTm, nI_1, hj, show (12 : Int32) = nI 12 from rfl, pk_mul, nI_add]
  have hnz : ∀ {α : Type} (k : Option α), gNz (m.1 3) k = k := fun k => by
    unfold gNz
    rw [hTm, if_neg]
    intro e
    have e2 := congrArg Int32.toInt e
    rw [nI_toInt (by omega)] at e2
    have e3 : (0 : Int32).toInt = 0 := rfl
    omega
  have g1 : f_X2_let c 104 (c.2.1 17 t) = some (zA c 9 (upd (c.2.1 9) 7 (c.2.1 17 t))) := gLetN c _ (k := 7) (by decide)
  have g2 : ∀ K x, f_X2_let (zA c 9 K) 116 x = some (zA c 9 (upd K 19 x)) := fun K x => gLetK c K x (k := 19) (by decide)
  have g3 : ∀ K x, f_X2_let (zA c 9 K) 119 x = some (zA c 9 (upd K 22 x)) := fun K x => gLetK c K x (k := 22) (by decide)
  simp only [e0, e1, gq_10, ↓reduceIte, gGx (show t < 8 by omega) (by decide : 8 < 2 ^ 31), nI_clamp (show t < 2 ^ 31 by omega), g1, g2, g3, Option.bind_some, ec, er, hnz]
  generalize hK : upd (upd (upd (c.2.1 9) 7 (c.2.1 17 t)) 19 (nI t)) 22 (nI w) = K
  have k7 : K 7 = m.2.1 6 t := by subst hK; rw [gU_ne (by decide), gU_ne (by decide), gU_eq rfl, h17]
  have k19 : K 19 = nI t := by subst hK; rw [gU_ne (by decide), gU_eq rfl]
  have k22 : K 22 = nI w := by subst hK; rw [gU_eq rfl]
  have hg0 : gCor S T (zA c 9 K) (zI (zI (zI m 0 0) 9 (nI t)) 10 (nI w)) := gCor_ag h (gaC_A gaC_rf rfl) (gaM_I (gaM_I gaM_0 rfl) rfl)
  obtain ⟨ra, rb, f1, f2, f3⟩ := gq_lock (La := fun n (a : Zst × Int32 × Int32) => L_X10_liveWeek_57 (nI t) (nI w) n a.1 a.2.1 a.2.2) (Lb := fun n (a : Zst × Int32 × Int32) => L_X12_live_60 (nI (12 * t + w)) (nI (12 * ((t + 1) % T) + w)) n a.1 a.2.1 a.2.2)
    (fun i a b => a.2.1 = b.2.1 ∧ a.2.2 = nI i ∧ b.2.2 = nI i ∧ gCor S T a.1 b.1 ∧ gRR n a.1 b.1 ∧ (a.1.2.1 9 7 = b.1.2.1 6 t ∧ a.1.2.1 9 19 = nI t ∧ a.1.2.1 9 22 = nI w) ∧ b.1.1 9 = nI t ∧ b.1.1 10 = nI w)
    (fun ra rb => ra.2 = rb.2 ∧ gRel ra.1 rb.1) S (by omega) (a := (zA c 9 K, 0, 0)) (b := (zI (zI (zI m 0 0) 9 (nI t)) 10 (nI w), 0, 0))
    (fun i a b hi hI => by
      obtain ⟨c1, y, q⟩ := a
      obtain ⟨m1, y', q'⟩ := b
      obtain ⟨i1, i2, i3, i4, i5, i6, i7, i8⟩ := hI
      have i1 : y = y' := i1
      have i2 : q = nI i := i2
      have i3 : q' = nI i := i3
      subst i1 i2 i3
      obtain ⟨c2, m2, L, j1, j2, j3, j4, j5, j6, j7, j8⟩ := gLiveStep i4 ht hw hi i6.1 i6.2.1 i6.2.2 i7 i8
      have n1 : ¬ c1.1 10 ≤ nI i := by rw [i4.1.1.2.2.1]; exact nI_ge hi (by omega)
      refine ⟨(c2, y + L, nI (i + 1)), (m2, y + L, nI (i + 1)), fun n => ?_, fun n => j2 n y, rfl, rfl, rfl, j3, gRR_nr i5 j4 j5, j6, j7, j8⟩
      simp only [L_X10_liveWeek_57, if_neg n1, j1, Option.bind_some, nI_1])
    (fun a b hI => by
      obtain ⟨c1, y, q⟩ := a
      obtain ⟨m1, y', q'⟩ := b
      obtain ⟨i1, i2, i3, i4, i5, i6, i7, i8⟩ := hI
      have i1 : y = y' := i1
      have i2 : q = nI S := i2
      have i3 : q' = nI S := i3
      subst i1 i2 i3
      have n1 : c1.1 10 ≤ nI S := by rw [i4.1.1.2.2.1]; exact nI_le (Nat.le_refl _) (by omega)
      have n2 : m1.1 2 ≤ nI S := by rw [i4.1.1.2.2.2.1]; exact nI_le (Nat.le_refl _) (by omega)
      exact ⟨(c1, y), (m1, y), fun n => by simp only [L_X10_liveWeek_57, if_pos n1], fun n => by simp only [L_X12_live_60, if_pos n2], rfl, S, T, n, i4, i5⟩)
    ⟨rfl, rfl, rfl, hg0, hr, ⟨k7, k19, k22⟩, rfl, rfl⟩
  have f1 : L_X10_liveWeek_57 (nI t) (nI w) zFu (zA c 9 K) 0 0 = some ra := f1
  have f2 : L_X12_live_60 (nI (12 * t + w)) (nI (12 * ((t + 1) % T) + w)) zFu (zI (zI (zI m 0 0) 9 (nI t)) 10 (nI w)) 0 0 = some rb := f2
  rw [f1, f2, Option.bind_some]
  exact ⟨_, _, rfl, rfl, f3⟩
