/-- the things that stories speak of, measured on both sides -/
def gTg (n : Nat) (c m : Zst) : Prop := ∀ a, a < 2 * n → c.2.2.1 4 a = m.2.2.1 4 (gPi5 a) ∧ (¬ c.2.2.1 4 a = 0 → c.2.2.1 3 a = m.2.2.1 3 (gPi5 a)) ∧ gBnd 96 (m.2.2.1 3 (gPi5 a)) (m.2.2.1 4 (gPi5 a))
theorem gTg_step {k : Nat} {c m c' m' : Zst} (hk : k < 5) (h : gTg k c m) (kl : gKL (2 * k) c c') (ml : ∀ j, ¬ j = k → ¬ j = 5 + k → m'.2.2.1 3 j = m.2.2.1 3 j ∧ m'.2.2.1 4 j = m.2.2.1 4 j)
    (d1 : c'.2.2.1 3 (2 * k) = m'.2.2.1 3 k) (d2 : c'.2.2.1 4 (2 * k) = m'.2.2.1 4 k) (d3 : c'.2.2.1 3 (2 * k + 1) = m'.2.2.1 3 (5 + k)) (d4 : c'.2.2.1 4 (2 * k + 1) = m'.2.2.1 4 (5 + k))
    (b1 : gBnd 96 (c'.2.2.1 3 (2 * k)) (c'.2.2.1 4 (2 * k))) (b2 : gBnd 96 (c'.2.2.1 3 (2 * k + 1)) (c'.2.2.1 4 (2 * k + 1))) : gTg (k + 1) c' m' := fun a ha => by
  by_cases e1 : a = 2 * k
  · have hp : gPi5 a = k := by unfold gPi5; omega
    rw [hp, e1, d1, d2]
    rw [d1, d2] at b1
    exact ⟨rfl, fun _ => rfl, b1⟩
  · by_cases e2 : a = 2 * k + 1
    · have hp : gPi5 a = 5 + k := by unfold gPi5; omega
      rw [hp, e2, d3, d4]
      rw [d3, d4] at b2
      exact ⟨rfl, fun _ => rfl, b2⟩
    · obtain ⟨k1, k2⟩ := kl a e1 e2
      obtain ⟨l1, l2⟩ := ml (gPi5 a) (by unfold gPi5; omega) (by unfold gPi5; omega)
      rw [k1, k2, l1, l2]
      exact h a (by omega)
theorem gFu6 : ∃ k, zFu = k + 1 + 1 + 1 + 1 + 1 + 1 := ⟨9994, by rw [zFu_eq]⟩
theorem gMeasures {S T : Nat} {c m : Zst} (h : gCor S T c m) {s : Nat} (hs : s < S) : ∃ c' m', (∀ K : Zst → Option (Zst × Int32), ((f_X8_measureWaste c (nI s)).bind fun t2 => (f_X8_measureMeans t2 (nI s) (1 : Int32) (2 : Int32)).bind fun t3 => (f_X8_measureMeans t3 (nI s) (0 : Int32) (4 : Int32)).bind fun t4 => (f_X8_measureMeans t4 (nI s) (5 : Int32) (6 : Int32)).bind fun t5 => (f_X8_measureMeans t5 (nI s) (2 : Int32) (8 : Int32)).bind K) = K c') ∧ f_X12_means m (nI s) = some m' ∧ gaC c c' ∧ gaM m m' ∧ gNR c c' ∧ gNRm m m' ∧ gTg 5 c' m' := by
  obtain ⟨c0, m0, u0, l0, u1, l1, g1, g2, g3, g4, g5, g6, g7, g8, g9, g10, g11, g12, g13, g14⟩ := gWastes h (p0 := nI s) rfl hs
  -- the reference's first two things
  have first : ∃ m1, (∀ K : Zst → Option Zst, L_X12_means_35 K (nI s) (if (m0.2.2.1 2 (Int32.toNatClampNeg 0)) = 0 then (0 : Int32) else (if (m0.2.2.1 2 (Int32.toNatClampNeg 1)) = 0 then (0 : Int32) else 1)) zFu m0 0 = K m1) ∧ gaM m0 m1 ∧ gNRm m0 m1 ∧ gTg 1 c0 m1 := by
    have z0 : Int32.toNatClampNeg 0 = 0 := rfl
    have z1 : Int32.toNatClampNeg 1 = 1 := rfl
    have z5 : Int32.toNatClampNeg 5 = 5 := rfl
    have a0 : (5 : Int32) * 0 = 0 := by decide
    have a1 : (5 : Int32) * 1 = 5 := by decide
    have s0 : (1 : Int32) - 0 = 1 := by decide
    have s1 : (1 : Int32) - 1 = 0 := by decide
    have i0 : ∀ (k : Option Zst), gIx 0 2 k = k := fun k => gGx (j := 0) (by decide) (by decide) k
    have i1 : ∀ (k : Option Zst), gIx 1 2 k = k := fun k => gGx (j := 1) (by decide) (by decide) k
    have i2 : ∀ (k : Option Zst), gIx 0 10 k = k := fun k => gGx (j := 0) (by decide) (by decide) k
    have i3 : ∀ (k : Option Zst), gIx 5 10 k = k := fun k => gGx (j := 5) (by decide) (by decide) k
    obtain ⟨fu, hfu⟩ := gFu3
    rw [z0, z1, g13, g11]
    by_cases hz : l0 = 0 ∨ l1 = 0
    · have hv : (if l1 = 0 then (0 : Int32) else (if l0 = 0 then (0 : Int32) else 1)) = 0 := by
        by_cases q : l1 = 0
        · rw [if_pos q]
        · rw [if_neg q, if_pos (hz.resolve_right q)]
      have hc : c0.2.2.1 4 0 = 0 ∧ c0.2.2.1 4 1 = 0 := by
        rcases g14 with q | q
        · exact q.2
        · exact absurd hz (by intro r; rcases r with r | r; exact q.1 r; exact q.2.1 r)
      rw [hv]
      refine ⟨zL (zL (zL (zL m0 3 (vp_updL (m0.2.2.1 3) 0 u0)) 4 (vp_updL (m0.2.2.1 4) 0 0)) 3 (vp_updL (vp_updL (m0.2.2.1 3) 0 u0) 5 u1)) 4 (vp_updL (vp_updL (m0.2.2.1 4) 0 0) 5 0), fun K => ?_, gaM_rf, ⟨rfl, rfl⟩, fun a ha => ?_⟩
      · rw [hfu]
        simp only [L_X12_means_35, show ((2 : Int32) ≤ 0) = False by decide, show (0 : Int32) + 1 = 1 by decide, show ((2 : Int32) ≤ 1) = False by decide, show (1 : Int32) + 1 = 2 by decide, show ((2 : Int32) ≤ 2) = True by decide, ↓reduceIte, a0, a1, s0, s1, i0, i1, i2, i3, z0, z1, z5, g10]
        have e1 : (zL (zL m0 3 (vp_updL (m0.2.2.1 3) 0 u0)) 4 (vp_updL (m0.2.2.1 4) 0 0)).2.2.1 1 0 = u1 := g12
        rw [e1]
        rfl
      · have hb : gBnd 96 u0 0 ∧ gBnd 96 u1 0 := ⟨⟨g8.1, g8.2.1, 0, by decide, rfl⟩, ⟨g9.1, g9.2.1, 0, by decide, rfl⟩⟩
        rcases (show a = 0 ∨ a = 1 by omega) with rfl | rfl
        · show c0.2.2.1 4 0 = 0 ∧ (¬ c0.2.2.1 4 0 = 0 → c0.2.2.1 3 0 = u0) ∧ gBnd 96 u0 0
          exact ⟨hc.1, fun q => absurd hc.1 q, hb.1⟩
        · show c0.2.2.1 4 1 = 0 ∧ (¬ c0.2.2.1 4 1 = 0 → c0.2.2.1 3 1 = u1) ∧ gBnd 96 u1 0
          exact ⟨hc.2, fun q => absurd hc.2 q, hb.2⟩
    · have hl0 : ¬ l0 = 0 := fun q => hz (Or.inl q)
      have hl1 : ¬ l1 = 0 := fun q => hz (Or.inr q)
      rw [if_neg hl1, if_neg hl0]
      obtain ⟨-, -, c1, c2, c3, c4⟩ : ¬ l0 = 0 ∧ ¬ l1 = 0 ∧ c0.2.2.1 3 0 = u0 ∧ c0.2.2.1 4 0 = l0 ∧ c0.2.2.1 3 1 = u1 ∧ c0.2.2.1 4 1 = l1 := by
        rcases g14 with q | q
        · exact absurd q.1 hz
        · exact q
      refine ⟨zL (zL (zL (zL m0 3 (vp_updL (m0.2.2.1 3) 0 u0)) 4 (vp_updL (m0.2.2.1 4) 0 l0)) 3 (vp_updL (vp_updL (m0.2.2.1 3) 0 u0) 5 u1)) 4 (vp_updL (vp_updL (m0.2.2.1 4) 0 l0) 5 l1), fun K => ?_, gaM_rf, ⟨rfl, rfl⟩, fun a ha => ?_⟩
      · rw [hfu]
        simp only [L_X12_means_35, show ((2 : Int32) ≤ 0) = False by decide, show (0 : Int32) + 1 = 1 by decide, show ((2 : Int32) ≤ 1) = False by decide, show (1 : Int32) + 1 = 2 by decide, show ((2 : Int32) ≤ 2) = True by decide, ↓reduceIte, gq_10, a0, a1, s0, s1, i0, i1, i2, i3, z0, z1, z5, g10, g11]
        have e1 : (zL (zL m0 3 (vp_updL (m0.2.2.1 3) 0 u0)) 4 (vp_updL (m0.2.2.1 4) 0 l0)).2.2.1 1 0 = u1 := g12
        have e2 : (zL (zL m0 3 (vp_updL (m0.2.2.1 3) 0 u0)) 4 (vp_updL (m0.2.2.1 4) 0 l0)).2.2.1 2 0 = l1 := g13
        rw [e1, e2]
        rfl
      · rcases (show a = 0 ∨ a = 1 by omega) with rfl | rfl
        · show c0.2.2.1 4 0 = l0 ∧ (¬ c0.2.2.1 4 0 = 0 → c0.2.2.1 3 0 = u0) ∧ gBnd 96 u0 l0
          exact ⟨c2, fun _ => c1, g8⟩
        · show c0.2.2.1 4 1 = l1 ∧ (¬ c0.2.2.1 4 1 = 0 → c0.2.2.1 3 1 = u1) ∧ gBnd 96 u1 l1
          exact ⟨c4, fun _ => c3, g9⟩
  obtain ⟨m1, f1, f2, f3, f4⟩ := first
  have C0 := gCor_ag h g3 (gaM_tr g4 f2)
  obtain ⟨c1, n1, p1, p2, p3, p4, p5, p6, p7, p8, p9, p10, p11, p12, p13, p14⟩ := gMn C0 (kd := 1) (k := 1) hs (by decide) (by decide) (by decide)
  have T1 := gTg_step (k := 1) (by decide) f4 p7 p8 p9 p10 p11 p12 p13 p14
  have C1 := gCor_ag C0 p3 p4
  obtain ⟨c2, n2, r1, r2, r3, r4, r5, r6, r7, r8, r9, r10, r11, r12, r13, r14⟩ := gMn C1 (kd := 0) (k := 2) hs (by decide) (by decide) (by decide)
  have T2 := gTg_step (k := 2) (by decide) T1 r7 r8 r9 r10 r11 r12 r13 r14
  have C2 := gCor_ag C1 r3 r4
  obtain ⟨c3, n3, s1, s2, s3, s4, s5, s6, s7, s8, s9, s10, s11, s12, s13, s14⟩ := gMn C2 (kd := 5) (k := 3) hs (by decide) (by decide) (by decide)
  have T3 := gTg_step (k := 3) (by decide) T2 s7 s8 s9 s10 s11 s12 s13 s14
  have C3 := gCor_ag C2 s3 s4
  obtain ⟨c4, n4, t1, t2, t3, t4, t5, t6, t7, t8, t9, t10, t11, t12, t13, t14⟩ := gMn C3 (kd := 2) (k := 4) hs (by decide) (by decide) (by decide)
  have T4 := gTg_step (k := 4) (by decide) T3 t7 t8 t9 t10 t11 t12 t13 t14
  refine ⟨c4, n4, fun K => ?_, ?_, gaC_tr g3 (gaC_tr p3 (gaC_tr r3 (gaC_tr s3 t3))), gaM_tr (gaM_tr g4 f2) (gaM_tr p4 (gaM_tr r4 (gaM_tr s4 t4))), ?_, ?_, T4⟩
  · rw [g1, Option.bind_some, show f_X8_measureMeans c0 (nI s) 1 2 = some c1 from p1, Option.bind_some, show f_X8_measureMeans c1 (nI s) 0 4 = some c2 from r1, Option.bind_some, show f_X8_measureMeans c2 (nI s) 5 6 = some c3 from s1, Option.bind_some, show f_X8_measureMeans c3 (nI s) 2 8 = some c4 from t1, Option.bind_some]
  · unfold f_X12_means
    rw [g2, Option.bind_some, f1]
    unfold J_X12_means_86
    obtain ⟨fu, hfu⟩ := gFu6
    rw [hfu]
    have k1 : ∀ n, L_X12_means_88 (nI s) (n + 1) m1 1 = L_X12_means_88 (nI s) n n1 2 := fun n => p2 (fun σ w3 => L_X12_means_88 (nI s) n σ w3)
    have k2 : ∀ n, L_X12_means_88 (nI s) (n + 1) n1 2 = L_X12_means_88 (nI s) n n2 3 := fun n => r2 (fun σ w3 => L_X12_means_88 (nI s) n σ w3)
    have k3 : ∀ n, L_X12_means_88 (nI s) (n + 1) n2 3 = L_X12_means_88 (nI s) n n3 4 := fun n => s2 (fun σ w3 => L_X12_means_88 (nI s) n σ w3)
    have k4 : ∀ n, L_X12_means_88 (nI s) (n + 1) n3 4 = L_X12_means_88 (nI s) n n4 5 := fun n => t2 (fun σ w3 => L_X12_means_88 (nI s) n σ w3)
    rw [k1, k2, k3, k4]
    rfl
  · exact ⟨t5.1.trans (s5.1.trans (r5.1.trans (p5.1.trans g5.1))), t5.2.trans (s5.2.trans (r5.2.trans (p5.2.trans g5.2)))⟩
  · exact ⟨t6.1.trans (s6.1.trans (r6.1.trans (p6.1.trans (f3.1.trans g6.1)))), t6.2.trans (s6.2.trans (r6.2.trans (p6.2.trans (f3.2.trans g6.2))))⟩
