theorem pp_law : lp_law gRel := by
  intro c m hR p0
  obtain ⟨S, T, n, h, hr⟩ := hR
  obtain ⟨hA, hN, ⟨N, hN0, x1, x2, x3, x4⟩, hK, hM, hL, hT⟩ := id h
  obtain ⟨v, hv⟩ := Classical.skolem.mp x4
  have hv1 : ∀ i, v i < 256 := fun i => (hv i).1
  have hv2 : ∀ i, c.2.1 0 i = nI (v i) := fun i => (hv i).2
  have hv3 : ∀ i, m.2.1 12 i = nI (v i) := fun i => by rw [← x3]; exact hv2 i
  unfold f_X11_law f_X12_law f_X12_begins
  have e40 : jMin (nI N) 40 = nI (min N 40) := gJmin (b := 40) (by omega) (by decide)
  simp only [Option.bind_some]
  rw [show (zI m 0 0).1 5 = nI N from x2, e40]
  generalize hmb : zI (zI (zI (zI (zI m 0 0) 5 0) 6 0) 8 0) 7 (nI (min N 40)) = mb
  have hcb : gCor S T (zI c 1 0) mb := by
    subst hmb
    exact ⟨hA, hN, ⟨0, by decide, rfl, rfl, x3, x4⟩, hK, hM, hL, hT⟩
  have hrb : gRR n (zI c 1 0) mb := by
    subst hmb; exact hr
  rw [gq_in_0_5]
  have hcutc : f_X9_cut c 0 = some (zI c 1 0, 1) := gCut hN0 x1
  rcases gS_kind p0 with ⟨hk, i, hi, rfl⟩ | hk
  case inr =>
    have hk : f_X11_between p0 0 5 = 0 := hk
    have hl : f_X2_isLaw p0 = 0 := by
      unfold f_X2_isLaw f_X1_isText_L
      unfold f_X11_between at hk
      by_cases a : p0 < 0
      · rw [if_pos a]
      · rw [if_neg a] at hk ⊢
        by_cases b : (5 : Int32) < p0
        · rw [if_pos]
          rw [Int32.lt_iff_toInt_lt] at b
          rw [Int32.le_iff_toInt_le]
          have : (5 : Int32).toInt = 5 := rfl
          have : (6 : Int32).toInt = 6 := rfl
          omega
        · rw [if_neg b] at hk
          exact absurd hk (by decide)
    rw [hk, if_pos rfl, hl, if_pos rfl]
    unfold J_X11_law_28
    rw [hcutc, Option.bind_some]
    exact ⟨_, _, rfl, rfl, rfl, S, T, n, hcb, hrb⟩
  have hk : f_X11_between (nI i) 0 5 = 1 := hk
  have hist : ¬ f_X1_isText_L (nI i) = 0 := by
    unfold f_X1_isText_L
    rw [if_neg (nI_pos (by omega)), if_neg (show ¬ (6 : Int32) ≤ nI i from nI_ge (b := 6) hi (by decide))]
    decide
  have hcst : (if nI i = (0 : Int32) then J_X12_law_47 mb (nI i) (nI N) 1 else if nI i = (1 : Int32) then J_X12_law_47 mb (nI i) (nI N) 2 else J_X12_law_47 mb (nI i) (nI N) 3) = J_X12_law_47 mb (nI i) (nI N) (min i 2 + 1) := by
    rcases (show i = 0 ∨ i = 1 ∨ 2 ≤ i by omega) with rfl | rfl | w
    · rw [if_pos (by decide)]; rfl
    · rw [if_neg (by decide), if_pos (by decide)]; rfl
    · rw [if_neg (nI_ne0 (by omega) (by omega)), if_neg (fun e => by have := (nI_eq (b := 1) (by omega) (by decide)).mp e; omega), show min i 2 = 2 by omega]
  rw [hk, if_neg (show ¬ (1 : Int32) = 0 by decide), hcst]
  rw [show f_X2_isLaw (nI i) = f_X1_isText_L (nI i) from rfl, if_neg hist]
  -- the reading
  have hb6 : mb.1 6 = nI 0 := by rw [← hmb]; rfl
  have hb8 : mb.1 8 = nI 0 := by rw [← hmb]; rfl
  have hb7 : mb.1 7 = nI (min N 40) := by rw [← hmb]; rfl
  have hbt : ∀ i, mb.2.1 12 i = nI (v i) := by rw [← hmb]; exact hv3
  generalize hm0 : zN mb 0 (min i 2 + 1 + 1) = m0
  have h0I : ∀ j, m0.1 j = mb.1 j := fun j => by rw [← hm0]; rfl
  have h0A : ∀ j, m0.2.1 j = mb.2.1 j := fun j => by rw [← hm0]; rfl
  have hEP : gEP m0 (min N 40) (min i 2) v := ⟨by omega, by omega, hv1, by rw [h0I]; exact hb7, fun j => by rw [h0A]; exact hbt j, by rw [← hm0]; rfl⟩
  have hgx : zA m0 10 (upd (mb.2.1 10) (Int32.toNatClampNeg 6) 0) = gx m0 0 0 (m0.2.1 9) 0 := by
    unfold gx
    rw [gzI_id (k := 6) (by rw [h0I]; exact hb6), gzI_id (k := 8) (by rw [h0I]; exact hb8), gzA_id (k := 9) rfl, h0A]
    rfl
  have hres := (gPR_all hEP rfl zDp).1 0 0 0 0 0 0 (m0.2.1 9) (by decide) (Nat.zero_le _) (by decide) (Nat.le_refl _) (by decide) rfl (fun _ => b_0 0) (by rw [zDp_eq]; omega)
  have hres : gRes m0 (8 + min i 2) v (min N 40) 0 0 0 0 (m0.2.1 9) 0 0 (f_X12rec zDp 0 (gx m0 0 0 (m0.2.1 9) 0) 0) := hres
  have hbase : ∀ (c' : Zst) (p o : Nat), gaC (zI c 1 0) c' → gCor S T c' (zI (zI m0 6 (nI p)) 8 (nI o)) := fun c' p o hc => gCor_ag hcb hc (gaM_I (gaM_I (by rw [← hm0]; exact gaM_N gaM_rf) rfl) rfl)
  have hrbase : ∀ (c' m' : Zst), gNR (zI c 1 0) c' → gNRm mb m' → gRR n c' m' := fun c' m' h1 h2 => gRR_nr hrb h1 h2
  have hrej : ∀ (a b d e : Int32) (p o k : Nat) (C' : Nat → Int32), (∀ j, j < 288 → C' j = m0.2.1 9 j) → gRel (zI (gqq (zI c 3 (nI i)) a b d e) 1 0) (gx m0 p o C' k) := by
    intro a b d e p o k C' hC'
    have hac : gaC (zI c 1 0) (zI (gqq (zI c 3 (nI i)) a b d e) 1 0) := gaC_sw (gaC_I (gaC_I (gaC_I (gaC_I (gaC_I gaC_rf rfl) rfl) rfl) rfl) rfl)
    have hb := hbase _ p o hac
    refine ⟨S, T, n, ⟨hb.1, hb.2.1, hb.2.2.1, hb.2.2.2.1, hb.2.2.2.2.1, gRL_up hb.2.2.2.2.2.1 rfl rfl hC' (fun i hi => gU_ne (show ¬ i = 6 by omega)), hb.2.2.2.2.2.2⟩, hrbase _ _ ⟨rfl, rfl⟩ (by rw [← hm0]; exact ⟨rfl, rfl⟩)⟩
  unfold J_X12_law_47 J_X11_law_28
  rw [hm0, hgx]
  have h3 : (zI c 3 (nI i)).1 3 = nI i := rfl
  have x1' : (zI c 3 (nI i)).1 1 = nI N := x1
  have hv2' : ∀ j, (zI c 3 (nI i)).2.1 0 j = nI (v j) := hv2
  have hcutq : ∀ a b d e, f_X9_cut (gqq (zI c 3 (nI i)) a b d e) 0 = some (zI (gqq (zI c 3 (nI i)) a b d e) 1 0, 1) := fun a b d e => gCut hN0 x1
  -- a place that is wrong
  have hrejW : ∀ (p o k : Nat) (C' : Nat → Int32) (y : Int32) (a b d e : Int32) (y0 : Int32), (∀ j, j < 288 → C' j = m0.2.1 9 j) → f_X1_wrongPlace_L (zI c 3 (nI i)) = some (gqq (zI c 3 (nI i)) a b d e, y0) → ¬ y0 < 0 → -1 - y0 = y → ¬ 0 ≤ y →
      ∃ oc om, ((f_X2_enact c (nI i)).bind fun t2 => (f_X9_cut t2.1 0).bind fun t1 => some (t1.1, t2.2)) = some oc ∧ (if 0 ≤ y then gIx (nI i) 7 (L_X12_law_91 (nI i) zFu (zA (gx m0 p o C' k) 10 (upd ((gx m0 p o C' k).2.1 10) (Int32.toNatClampNeg (nI i)) ((gx m0 p o C' k).2.1 10 (Int32.toNatClampNeg 6)))) 0) else some (gx m0 p o C' k, y)) = some om ∧ oc.2 = om.2 ∧ gRel oc.1 om.1 := by
    intro p o k C' y a b d e y0 hC' hw hy0 hyy hy
    rw [gStL hw hy0, Option.bind_some, hcutq, Option.bind_some, if_neg hy]
    exact ⟨_, _, rfl, rfl, hyy, hrej a b d e p o k C' hC'⟩
  rcases hres with ⟨P, C', K, d2, Cc, hout, i1, i2, i3, i4, i5, i6, i7, i8⟩ | ⟨P, o', C', k', hout, i1, i2, sP, i3, i4, i5⟩
  · rw [hout, Option.bind_some]
    have hst : P < min N 40 → gMk (8 + min i 2) (false, 0, d2, Cc) (v P) = none := fun w => gPo_stuck i8 w (Or.inr rfl)
    obtain ⟨a, b, d, e, hw⟩ := yWrongC hi h3 hN0 x1' hv1 hv2' i2 i7 hst
    have hC' : ∀ j, j < 288 → C' j = m0.2.1 9 j := fun j hj => i5 j (by omega)
    have hf : f_X12_fault (gx m0 P 0 C' (0 + K.length)) (nI N) 1 = (if P < min N 40 then -1 - nI P else if N ≤ 40 then 0 else -41) := gFault (b := true) hN0 rfl i2 rfl hEP.2.2.2.1
    rw [hf]
    by_cases hPe : P < min N 40
    · rw [if_pos hPe] at hw
      rw [if_pos hPe]
      have hy := gNeg1 (show P < 2 ^ 30 by omega)
      have hw0 := nI_pos (show P < 2 ^ 31 by omega)
      generalize hyy : (-1 : Int32) - nI P = y at hy ⊢
      have hy : ¬ (0 : Int32) ≤ y := by rw [hy]; exact id
      exact hrejW P 0 (0 + K.length) C' y a b d e (nI P) hC' hw hw0 hyy hy
    rw [if_neg hPe] at hw
    rw [if_neg hPe]
    by_cases h40 : N ≤ 40
    case neg =>
      rw [if_neg h40] at hw
      rw [if_neg h40]
      exact hrejW P 0 (0 + K.length) C' (-41) a b d e 40 hC' hw (by decide) (by decide) (by decide)
    rw [if_pos h40, if_pos ⟨rfl, rfl⟩] at hw
    rw [if_pos h40, if_pos (show (0 : Int32) ≤ 0 by decide)]
    have hPN : P = N := by omega
    subst hPN
    have hmin : min P 40 = P := by omega
    -- it is kept
    obtain ⟨f, f1, f2, f3⟩ := yWriteC (c := gqq (zI c 3 (nI i)) a b d e) hi h40 x1 hv2
    have hs : f_X9_size (zA (gqq (zI c 3 (nI i)) a b d e) 7 f) = nI P := x1
    have hwr : L_X1_write_L_25 (fun σ3 => J_X1_write_L_65 σ3 (nI i)) (nI i) zFu (gqq (zI c 3 (nI i)) a b d e) 0 = some (zA (zA (gqq (zI c 3 (nI i)) a b d e) 7 f) 8 (upd (c.2.1 8) i (nI P)), 0) := by
      rw [f3]
      unfold J_X1_write_L_65
      rw [gGx hi (by decide), nI_clamp (show i < 2 ^ 31 by omega), hs]
      rfl
    have hcut2 : f_X9_cut (zA (zA (gqq (zI c 3 (nI i)) a b d e) 7 f) 8 (upd (c.2.1 8) i (nI P))) 0 = some (zI (zA (zA (gqq (zI c 3 (nI i)) a b d e) 7 f) 8 (upd (c.2.1 8) i (nI P))) 1 0, 1) := gCut hN0 x1
    rw [gStLA hw hist hwr, Option.bind_some, hcut2, Option.bind_some, gGx (show i < 7 by omega) (by decide), nI_clamp (show i < 2 ^ 31 by omega)]
    have hcd : (gx m0 P 0 C' (0 + K.length)).2.1 10 = upd (m0.2.1 10) 6 (nI (0 + K.length)) := rfl
    have hc6 : (gx m0 P 0 C' (0 + K.length)).2.1 10 (Int32.toNatClampNeg 6) = nI K.length := by
      rw [hcd]; show upd (m0.2.1 10) 6 (nI (0 + K.length)) 6 = _
      rw [gU_eq rfl, Nat.zero_add]
    rw [hc6]
    obtain ⟨g, g1, g2, g3⟩ := yWriteM (m := zA (gx m0 P 0 C' (0 + K.length)) 10 (upd ((gx m0 P 0 C' (0 + K.length)).2.1 10) i (nI K.length))) hi
    rw [g3]
    have hac : gaC (zI c 1 0) (zI (gqq (zI c 3 (nI i)) a b d e) 1 0) := gaC_sw (gaC_I (gaC_I (gaC_I (gaC_I (gaC_I gaC_rf rfl) rfl) rfl) rfl) rfl)
    have hb := hbase _ P 0 hac
    have hbL : gLawN (c.2.1 8) (mb.2.1 10) ∧ gLawD (c.2.1 7) (c.2.1 8) (mb.2.1 9) (mb.2.1 10) := hcb.2.2.2.2.2.1
    have hm9 : m0.2.1 9 = mb.2.1 9 := h0A 9
    have hm10 : m0.2.1 10 = mb.2.1 10 := h0A 10
    have hKl : K.length ≤ 40 := by omega
    refine ⟨_, _, rfl, rfl, rfl, S, T, n, ⟨hb.1, hb.2.1, hb.2.2.1, hb.2.2.2.1, hb.2.2.2.2.1, ?_, hb.2.2.2.2.2.2⟩, hrbase _ _ ⟨rfl, rfl⟩ (by rw [← hm0]; exact ⟨rfl, rfl⟩)⟩
    show gLawN (upd (c.2.1 8) i (nI P)) (upd (upd (m0.2.1 10) 6 (nI (0 + K.length))) i (nI K.length)) ∧ gLawD f (upd (c.2.1 8) i (nI P)) g (upd (upd (m0.2.1 10) 6 (nI (0 + K.length))) i (nI K.length))
    have hK1 : 0 < K.length := by
      have := i4 (fun kind o p p' K => 0 < K.length) ⟨fun _ _ _ _ _ _ _ => Nat.one_pos, fun _ _ _ _ => Nat.one_pos, fun _ _ _ _ _ _ _ w _ _ => w, fun _ _ _ _ _ _ _ w => w, fun _ _ _ _ _ _ w => by show 0 < (_ ++ [_]).length; rw [List.length_append, List.length_singleton]; exact Nat.succ_pos _, fun _ _ _ _ _ _ w => w, fun _ _ _ _ _ _ _ _ _ w _ _ _ => by show 0 < (_ ++ [_]).length; rw [List.length_append, List.length_singleton]; exact Nat.succ_pos _, fun _ _ _ _ _ _ _ w _ => w, fun _ _ _ _ w _ => w, fun _ _ _ _ _ _ w _ _ _ => by show 0 < (_ ++ [_]).length; rw [List.length_append, List.length_singleton]; exact Nat.succ_pos _⟩
      exact this
    refine ⟨fun i' hi' => ?_, fun i' hi' n' k' hn' hk' e1 e2 h0 => ?_⟩
    · by_cases w : i' = i
      · exact ⟨P, K.length, h40, by omega, gU_eq w, gU_eq w, by omega⟩
      · rw [gU_ne w, gU_ne w, gU_ne (show ¬ i' = 6 by omega), hm10]
        exact hbL.1 i' hi'
    · by_cases w : i' = i
      · subst w
        rw [gU_eq rfl] at e1 e2
        have en : P = n' := (nI_eq (by omega) (by omega)).mp e1
        have ek : K.length = k' := (nI_eq (by omega) (by omega)).mp e2
        subst en
        subst ek
        rw [hmin] at i4
        refine ⟨v, K, hv1, f1, i4, rfl, fun j hj => ?_⟩
        rw [g1 j (by omega)]
        exact i6 j hj
      · rw [gU_ne w] at e1 e2
        rw [gU_ne (show ¬ i' = 6 by omega), hm10] at e2
        obtain ⟨v', K', b1, b2, b3, b4, b5⟩ := hbL.2 i' hi' n' k' hn' hk' e1 e2 h0
        refine ⟨v', K', b1, fun j hj => by rw [f2 _ (by omega)]; exact b2 j hj, b3, b4, fun j hj => ?_⟩
        rw [g2 _ (by omega)]
        show C' (48 * i' + j) = _
        rw [hC' _ (by omega), hm9]
        exact b5 j hj
  · rw [hout, Option.bind_some]
    obtain ⟨a, b, d, e, hw⟩ := yWrongC hi h3 hN0 x1' hv1 hv2' i1 i3 i4
    have hf : f_X12_fault (gx m0 P o' C' k') (nI N) 0 = (if P < min N 40 then -1 - nI P else if N ≤ 40 then -1 - nI P else -41) := gFault (b := false) hN0 rfl i1 rfl hEP.2.2.2.1
    rw [hf]
    rw [if_neg i5] at hw
    by_cases hPe : P < min N 40
    · rw [if_pos hPe] at hw
      rw [if_pos hPe]
      have hy := gNeg1 (show P < 2 ^ 30 by omega)
      have hw0 := nI_pos (show P < 2 ^ 31 by omega)
      generalize hyy : (-1 : Int32) - nI P = y at hy ⊢
      have hy : ¬ (0 : Int32) ≤ y := by rw [hy]; exact id
      exact hrejW P o' k' C' y a b d e (nI P) i2 hw hw0 hyy hy
    rw [if_neg hPe] at hw
    rw [if_neg hPe]
    by_cases h40 : N ≤ 40
    · rw [if_pos h40] at hw
      rw [if_pos h40]
      have hPN : P = N := by omega
      subst hPN
      have hy := gNeg1 (show P < 2 ^ 30 by omega)
      have hw0 := nI_pos (show P < 2 ^ 31 by omega)
      generalize hyy : (-1 : Int32) - nI P = y at hy ⊢
      have hy : ¬ (0 : Int32) ≤ y := by rw [hy]; exact id
      exact hrejW P o' k' C' y a b d e (nI P) i2 hw hw0 hyy hy
    · rw [if_neg h40] at hw
      rw [if_neg h40]
      exact hrejW P o' k' C' (-41) a b d e 40 i2 hw (by decide) (by decide) (by decide)
