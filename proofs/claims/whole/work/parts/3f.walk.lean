section ZWK
variable {l : Launch} {D : va_G} {A : Nat → Prop} {ad : (Nat → Nat) × (Nat → Nat)} {a : Nat → Nat} {cy : ClassId × (ClassId × (ClassId × ClassId))} {own : String} {cc : ByteArray} {nL : Nat} {rt : Option FieldType} {σo : Zst} {ov : Option Value} {G : Zst → List (Nat × Value) → Nat → List Value → Prop}
variable {σ σ0 : Zst} {lv : List (Nat × Value)} {pc : Nat} {st : List Value} {zcl0 : List vw_C} {tys : List (ClassId × FieldType)} {wf : Zst → va_W}
set_option maxHeartbeats 4000000 in
set_option maxRecDepth 100000 in
theorem m_X11_need (hD : ∀ σ, va_D A (cW a cy σ)) {σ : Zst} {p0 : Int32} {p1 : Int32} {p2 : Int32} {p3 : Int32} {o : (Zst × Int32)} (h : f_X11_need σ p0 p1 p2 p3 = some o) : zT l D zcl (zty cy) A ad (cW a cy) yX11_need cX11_need 5 (some .int) 6 [.ref (a 0), .int p0, .int p1, .int p2, .int p3] σ o.1 (some (.int o.2)) := by
  refine z_met pn_X11 hD (Nat.le_of_ble_eq_true rfl) rfl (fun G M => ?_)
  refine z_aload_n M dt_X11_need_0.1.1.1.1 rfl 0 rfl ?_
  refine gf_X11_samples M u438 dt_X11_need_0.1.1.1.2 ?_
  refine z_iload_n M dt_X11_need_0.1.1.2 rfl 1 rfl ?_
  refine z_iload_n M dt_X11_need_0.1.2.1 rfl 2 rfl ?_
  refine z_iload_n M dt_X11_need_0.1.2.2 rfl 3 rfl ?_
  refine z_iload M dt_X11_need_0.2.1.1 4 rfl ?_
  refine z_iconst M dt_X11_need_0.2.1.2 ki_0 ?_
  obtain ⟨t1, hc, h⟩ := gBd h
  refine k_X6_fewest M hc u1240 (Nat.le_of_ble_eq_true rfl) (Nat.le_of_ble_eq_true rfl) dt_X11_need_0.2.2.1 ?_
  obtain rfl := Option.some.inj h
  exact z_iret M dt_X11_need_0.2.2.2
set_option maxHeartbeats 4000000 in
set_option maxRecDepth 100000 in
theorem m_X11_weeks (hD : ∀ σ, va_D A (cW a cy σ)) {σ : Zst} {p0 : Int32} {p1 : Int32} {p2 : Int32} {p3 : Int32} {o : (Zst × Int32)} (h : f_X11_weeks σ p0 p1 p2 p3 = some o) : zT l D zcl (zty cy) A ad (cW a cy) yX11_weeks cX11_weeks 5 (some .int) 6 [.ref (a 0), .int p0, .int p1, .int p2, .int p3] σ o.1 (some (.int o.2)) := by
  refine z_met pn_X11 hD (Nat.le_of_ble_eq_true rfl) rfl (fun G M => ?_)
  refine z_aload_n M dt_X11_weeks_0.1.1.1.1 rfl 0 rfl ?_
  refine gf_X11_samples M u438 dt_X11_weeks_0.1.1.1.2 ?_
  refine z_iload_n M dt_X11_weeks_0.1.1.2 rfl 1 rfl ?_
  refine z_iload_n M dt_X11_weeks_0.1.2.1 rfl 2 rfl ?_
  refine z_iload_n M dt_X11_weeks_0.1.2.2 rfl 3 rfl ?_
  refine z_iload M dt_X11_weeks_0.2.1.1 4 rfl ?_
  refine z_iconst M dt_X11_weeks_0.2.1.2 ki_1 ?_
  obtain ⟨t1, hc, h⟩ := gBd h
  refine k_X6_fewest M hc u1240 (Nat.le_of_ble_eq_true rfl) (Nat.le_of_ble_eq_true rfl) dt_X11_weeks_0.2.2.1 ?_
  obtain rfl := Option.some.inj h
  exact z_iret M dt_X11_weeks_0.2.2.2
set_option maxHeartbeats 4000000 in
set_option maxRecDepth 100000 in
theorem m_X3_isLayer (hD : ∀ σ, va_D A (wf σ)) (σ0 : Zst) (p0 : Int32) : zT l D zcl0 tys A ad wf yX3_isLayer cX3_isLayer 1 (some .boolean) 2 [.int p0] σ0 σ0 (some (.int (f_X3_isLayer p0))) := by
  obtain ⟨o, h⟩ : ∃ o, f_X3_isLayer p0 = o := ⟨_, rfl⟩
  rw [h]
  refine z_met pn_X3 hD (Nat.le_of_ble_eq_true rfl) rfl (fun G M => ?_)
  refine z_iload_n M dt_X3_isLayer_0.1.1.1 rfl 0 rfl ?_
  refine z_iconst M dt_X3_isLayer_0.1.1.2 ki_0 ?_
  refine z_bipush M dt_X3_isLayer_0.1.2 kb_9 ?_
  refine kn_X11_between M u1280 (Nat.le_of_ble_eq_true rfl) (Nat.le_of_ble_eq_true rfl) dt_X3_isLayer_0.2.1 ?_
  subst h
  exact z_zret M (nBo (bo_X11_between p0 (0 : Int32) (9 : Int32))) dt_X3_isLayer_0.2.2
theorem k_X3_isLayer {n : Nat} (M : zM l D zcl0 tys A ad (zR n) wf own cc nL rt σo ov G) {p0 : Int32} {index : Nat} (hl : Cond.methodLink own index yX3_isLayer ∈ uw) (hR : 3 ≤ n) (hW : (st.map fun v => v.category).sum ≤ 8) (d : decode cc pc = .ok (.invokestatic index, 3)) (kk : G σ lv (pc + 3) (.int (f_X3_isLayer p0) :: st)) : G σ lv pc (.int p0 :: st) := z_callS M [.int p0] (m_X3_isLayer (zM_hD M) σ p0) hl u98 u1279 u1278 hd_X3_isLayer hR (by decide) rfl hW d kk
set_option maxHeartbeats 4000000 in
set_option maxRecDepth 100000 in
theorem m_X3_clash (hD : ∀ σ, va_D A (cW a cy σ)) {σ0 : Zst} {p0 : Int32} {p1 : Int32} {o : Int32} (h : f_X3_clash σ0 p0 p1 = some o) : zT l D zcl (zty cy) A ad (cW a cy) yX3_clash cX3_clash 4 (some .boolean) 2 [.ref (a 46), .int p0, .int p1] σ0 σ0 (some (.int o)) := by
  refine z_met pn_X3 hD (Nat.le_of_ble_eq_true rfl) rfl (fun G M => ?_)
  refine z_iload_n M dt_X3_clash_0.1.1.1.1 rfl 1 rfl ?_
  refine z_iconst M dt_X3_clash_0.1.1.1.2 ki_0 ?_
  refine z_bipush M dt_X3_clash_0.1.1.2.1 kb_11 ?_
  refine kn_X11_between M u1280 (Nat.le_of_ble_eq_true rfl) (Nat.le_of_ble_eq_true rfl) dt_X3_clash_0.1.1.2.2 ?_
  have hJ3 : G σ0 [(0, .ref (a 46)), (1, .int p0), (2, .int p1)] 25 [.int (if (f_X11_between p0 (0 : Int32) (11 : Int32)) = (0 : Int32) then (0 : Int32) else (if (f_X11_between p1 (0 : Int32) (11 : Int32)) = (0 : Int32) then (0 : Int32) else (1 : Int32)))] := by
    refine z_istore_n (lv' := [(3, .int (if (f_X11_between p0 (0 : Int32) (11 : Int32)) = (0 : Int32) then (0 : Int32) else (if (f_X11_between p1 (0 : Int32) (11 : Int32)) = (0 : Int32) then (0 : Int32) else (1 : Int32)))), (0, .ref (a 46)), (1, .int p0), (2, .int p1)]) M dt_X3_clash_0.2.2.1.2 rfl (by decide) rfl ?_
    refine z_iload_n M dt_X3_clash_0.2.2.2.1 rfl 0 rfl ?_
    refine z_if_eq (tgt := 64) M dt_X3_clash_0.2.2.2.2 (by decide) (fun hc => ?_) (fun hc => ?_)
    · have h := gIt hc h
      refine z_iconst M dt_X3_clash_2.2.1.2 ki_0 ?_
      obtain rfl := Option.some.inj h
      exact z_zret M (nBo (Or.inl rfl)) dt_X3_clash_2.2.2
    · have h := gIf hc h
      refine z_aload_n M dt_X3_clash_1.1.1.1.1 rfl 1 rfl ?_
      refine gf_X3_layers M u410 dt_X3_clash_1.1.1.1.2 ?_
      refine z_iload_n M dt_X3_clash_1.1.1.2.1 rfl 2 rfl ?_
      have ⟨hg, h⟩ := gIx_s h
      refine al_C47 (σ := σ0) M (f := (σ0.2.1 27)) rfl hg dt_X3_clash_1.1.1.2.2 ?_
      refine z_aload_n M dt_X3_clash_1.1.2.1.1 rfl 1 rfl ?_
      refine gf_X3_layers M u410 dt_X3_clash_1.1.2.1.2 ?_
      refine z_iload_n M dt_X3_clash_1.1.2.2.1 rfl 3 rfl ?_
      have ⟨hg, h⟩ := gIx_s h
      refine al_C47 (σ := σ0) M (f := (σ0.2.1 27)) rfl hg dt_X3_clash_1.1.2.2.2 ?_
      refine z_icmp_gt (tgt := 64) M dt_X3_clash_1.2.1.1.1 (by decide) (fun hc => ?_) (fun hc => ?_)
      · have h := gIt hc h
        refine z_iconst M dt_X3_clash_2.2.1.2 ki_0 ?_
        obtain rfl := Option.some.inj h
        exact z_zret M (nBo (Or.inl rfl)) dt_X3_clash_2.2.2
      · have h := gIf hc h
        refine z_aload_n M dt_X3_clash_1.2.1.1.2 rfl 1 rfl ?_
        refine gf_X3_firsts M u411 dt_X3_clash_1.2.1.2.1 ?_
        refine z_iload_n M dt_X3_clash_1.2.1.2.2 rfl 3 rfl ?_
        have ⟨hg, h⟩ := gIx_s h
        refine al_C48 (σ := σ0) M (f := (σ0.2.1 28)) rfl hg dt_X3_clash_1.2.2.1.1 ?_
        refine z_aload_n M dt_X3_clash_1.2.2.1.2 rfl 1 rfl ?_
        refine gf_X3_lasts M u412 dt_X3_clash_1.2.2.2.1 ?_
        refine z_iload_n M dt_X3_clash_1.2.2.2.2 rfl 2 rfl ?_
        have ⟨hg, h⟩ := gIx_s h
        refine al_C49 (σ := σ0) M (f := (σ0.2.1 29)) rfl hg dt_X3_clash_2.1.1.1 ?_
        have hJ5 : G σ0 [(3, .int (if (f_X11_between p0 (0 : Int32) (11 : Int32)) = (0 : Int32) then (0 : Int32) else (if (f_X11_between p1 (0 : Int32) (11 : Int32)) = (0 : Int32) then (0 : Int32) else (1 : Int32)))), (0, .ref (a 46)), (1, .int p0), (2, .int p1)] 65 [.int (if ((σ0.2.1 28) (Int32.toNatClampNeg p1)) ≤ ((σ0.2.1 29) (Int32.toNatClampNeg p0)) then (0 : Int32) else (1 : Int32))] := by
          obtain rfl := Option.some.inj h
          exact z_zret M (nBo (boIte (Or.inl rfl) (Or.inr rfl))) dt_X3_clash_2.2.2
        refine z_icmp_le (tgt := 64) M dt_X3_clash_2.1.1.2 (by decide) (fun hc4 => ?_) (fun hc4 => ?_)
        · refine z_iconst M dt_X3_clash_2.2.1.2 ki_0 ?_
          exact (zTt hc4 hJ5)
        · refine z_iconst M dt_X3_clash_2.1.2 ki_1 ?_
          refine z_goto (tgt := 65) M dt_X3_clash_2.2.1.1 (by decide) ?_
          exact (zTf hc4 hJ5)
  refine z_if_eq (tgt := 24) M dt_X3_clash_0.1.2.1.1 (by decide) (fun hc1 => ?_) (fun hc1 => ?_)
  · refine z_iconst M dt_X3_clash_0.2.2.1.1 ki_0 ?_
    exact (zTt hc1 hJ3)
  · refine z_iload_n M dt_X3_clash_0.1.2.1.2 rfl 2 rfl ?_
    refine z_iconst M dt_X3_clash_0.1.2.2.1 ki_0 ?_
    refine z_bipush M dt_X3_clash_0.1.2.2.2 kb_11 ?_
    refine kn_X11_between M u1280 (Nat.le_of_ble_eq_true rfl) (Nat.le_of_ble_eq_true rfl) dt_X3_clash_0.2.1.1.1 ?_
    refine z_if_eq (tgt := 24) M dt_X3_clash_0.2.1.1.2 (by decide) (fun hc2 => ?_) (fun hc2 => ?_)
    · refine z_iconst M dt_X3_clash_0.2.2.1.1 ki_0 ?_
      exact (zTt hc2 (zTf hc1 hJ3))
    · refine z_iconst M dt_X3_clash_0.2.1.2.1 ki_1 ?_
      refine z_goto (tgt := 25) M dt_X3_clash_0.2.1.2.2 (by decide) ?_
      exact (zTf hc2 (zTf hc1 hJ3))
theorem k_X3_clash {n : Nat} (M : zM l D zcl (zty cy) A ad (zR n) (cW a cy) own cc nL rt σo ov G) {p0 : Int32} {p1 : Int32} {o : Int32} (h : f_X3_clash σ p0 p1 = some o) {index : Nat} (hl : Cond.methodLink own index yX3_clash ∈ uw) (hR : 3 ≤ n) (hW : (st.map fun v => v.category).sum ≤ 8) (d : decode cc pc = .ok (.invokevirtual index, 3)) (kk : G σ lv (pc + 3) (.int o :: st)) : G σ lv pc (.int p1 :: .int p0 :: .ref (a 46) :: st) := z_callV M [.int p0, .int p1] (m_X3_clash (zM_hD M) h) (hC46 σ) rfl hl u98 u1284 u1283 u39 hd_X3_clash hR (by decide) rfl hW d kk
set_option maxHeartbeats 4000000 in
set_option maxRecDepth 100000 in
theorem wJ_X3_addPaper_127 {o : (Zst × Int32)} (M : zM l D zcl (zty cy) A ad (zR 3) (cW a cy) RX3 cX3_addPaper 6 (some .int) o.1 (some (.int o.2)) G) {k92 : Zst → Int32 → Option (Zst × Int32)} (σ : Zst) (v5 : Int32) (Hk92 : ∀ (σ : Zst) (w5 : Int32), k92 σ w5 = some o → G σ [(0, .ref (a 46)), (5, .int w5)] 92 []) (h : J_X3_addPaper_127 k92 σ v5 = some o) : G σ [(0, .ref (a 46)), (5, .int v5)] 127 [] := by
  refine z_aload_n M dt_X3_addPaper_4.1.1.2.1 rfl 0 rfl ?_
  refine gf_X3_clashes M u413 dt_X3_addPaper_4.1.1.2.2 ?_
  refine z_aload_n M dt_X3_addPaper_4.1.2.1.1 rfl 0 rfl ?_
  refine gf_X3_papers (σ := σ) M u414 dt_X3_addPaper_4.1.2.1.2 (v := (σ.1 23)) rfl ?_
  refine z_dup2_11 M dt_X3_addPaper_4.1.2.2.1 rfl rfl ?_
  have ⟨hg, h⟩ := gIx_s h
  refine al_C50 (σ := σ) M (f := (σ.2.1 30)) rfl hg dt_X3_addPaper_4.1.2.2.2 ?_
  refine z_iconst M dt_X3_addPaper_4.2.1.1.1 ki_1 ?_
  refine z_iload M dt_X3_addPaper_4.2.1.1.2 1 rfl ?_
  refine z_ishl M dt_X3_addPaper_4.2.1.2.1 ?_
  refine z_ior M dt_X3_addPaper_4.2.1.2.2 ?_
  have ⟨hg, h⟩ := gIx_s h
  refine as_C50 (σ := σ) M (f := (σ.2.1 30)) rfl hg dt_X3_addPaper_4.2.2.1.1 ?_
  refine z_iinc (v := (v5 + (1 : Int32))) (lv' := [(5, .int (v5 + (1 : Int32))), (0, .ref (a 46))]) M dt_X3_addPaper_4.2.2.1.2 (k := 1) rfl (congrArg (fun q => v5 + q) ki_1) (by decide) rfl ?_
  refine z_goto (tgt := 92) M dt_X3_addPaper_4.2.2.2.1 (by decide) ?_
  refine z_sub M [1, 0] (lv' := [(0, .ref (a 46)), (5, .int (v5 + (1 : Int32)))]) rfl ?_
  exact Hk92 (zA σ 30 (upd (σ.2.1 30) (Int32.toNatClampNeg (σ.1 23)) (((σ.2.1 30) (Int32.toNatClampNeg (σ.1 23))) ||| (jShl (1 : Int32) v5)))) (v5 + (1 : Int32)) h
set_option maxHeartbeats 4000000 in
set_option maxRecDepth 100000 in
theorem wL_X3_addPaper_92 {o : (Zst × Int32)} (M : zM l D zcl (zty cy) A ad (zR 3) (cW a cy) RX3 cX3_addPaper 6 (some .int) o.1 (some (.int o.2)) G) {k149 : Zst → Option (Zst × Int32)}   (Hk149 : ∀ (σ : Zst), k149 σ = some o → G σ [(0, .ref (a 46))] 149 []) :
    ∀ (n92 : Nat) (σ : Zst) (v5 : Int32), L_X3_addPaper_92 k149 n92 σ v5 = some o → G σ [(0, .ref (a 46)), (5, .int v5)] 92 [] := by
  intro n92
  induction n92 with
  | zero => intro σ v5 h; exact nomatch (show (none : Option (Zst × Int32)) = some _ from h)
  | succ n92 ih =>
    intro σ v5 h
    refine z_iload M dt_X3_addPaper_3.1.1.2.1 1 rfl ?_
    refine z_aload_n M dt_X3_addPaper_3.1.1.2.2 rfl 0 rfl ?_
    refine gf_X3_papers (σ := σ) M u414 dt_X3_addPaper_3.1.2.1.1 (v := (σ.1 23)) rfl ?_
    refine z_icmp_ge (tgt := 149) M dt_X3_addPaper_3.1.2.1.2 (by decide) (fun hc => ?_) (fun hc => ?_)
    · have h := gIt hc h
      refine z_sub M [0] (lv' := [(0, .ref (a 46))]) rfl ?_
      exact Hk149 σ h
    · have h := gIf hc h
      refine z_aload_n M dt_X3_addPaper_3.1.2.2.1 rfl 0 rfl ?_
      refine z_iload M dt_X3_addPaper_3.1.2.2.2 1 rfl ?_
      refine z_aload_n M dt_X3_addPaper_3.2.1.1.1 rfl 0 rfl ?_
      refine gf_X3_papers (σ := σ) M u414 dt_X3_addPaper_3.2.1.1.2 (v := (σ.1 23)) rfl ?_
      obtain ⟨t1, hc, h⟩ := gBd h
      refine k_X3_clash M hc u1281 (Nat.le_of_ble_eq_true rfl) (Nat.le_of_ble_eq_true rfl) dt_X3_addPaper_3.2.1.2.1 ?_
      refine z_if_ne (tgt := 127) M dt_X3_addPaper_3.2.1.2.2 (by decide) (fun hc => ?_) (fun hc => ?_)
      · have h := gIf hc h
        exact wJ_X3_addPaper_127 M (k92 := (fun σ w5 => L_X3_addPaper_92 k149 n92 σ w5)) σ v5 ih h
      · have h := gIt hc h
        refine z_aload_n M dt_X3_addPaper_3.2.2.1.1 rfl 0 rfl ?_
        refine z_aload_n M dt_X3_addPaper_3.2.2.1.2 rfl 0 rfl ?_
        refine gf_X3_papers (σ := σ) M u414 dt_X3_addPaper_3.2.2.2.1 (v := (σ.1 23)) rfl ?_
        refine z_iload M dt_X3_addPaper_3.2.2.2.2 1 rfl ?_
        obtain ⟨t2, hc, h⟩ := gBd h
        refine k_X3_clash M hc u1281 (Nat.le_of_ble_eq_true rfl) (Nat.le_of_ble_eq_true rfl) dt_X3_addPaper_4.1.1.1.1 ?_
        refine z_if_eq (tgt := 143) M dt_X3_addPaper_4.1.1.1.2 (by decide) (fun hc => ?_) (fun hc => ?_)
        · have h := gIt hc h
          refine z_iinc (v := (v5 + (1 : Int32))) (lv' := [(5, .int (v5 + (1 : Int32))), (0, .ref (a 46))]) M dt_X3_addPaper_4.2.2.1.2 (k := 1) rfl (congrArg (fun q => v5 + q) ki_1) (by decide) rfl ?_
          refine z_goto (tgt := 92) M dt_X3_addPaper_4.2.2.2.1 (by decide) ?_
          refine z_sub M [1, 0] (lv' := [(0, .ref (a 46)), (5, .int (v5 + (1 : Int32)))]) rfl ?_
          exact ih σ (v5 + (1 : Int32)) h
        · have h := gIf hc h
          exact wJ_X3_addPaper_127 M (k92 := (fun σ w5 => L_X3_addPaper_92 k149 n92 σ w5)) σ v5 ih h
set_option maxHeartbeats 4000000 in
set_option maxRecDepth 100000 in
theorem wJ_X3_addPaper_149 {o : (Zst × Int32)} (M : zM l D zcl (zty cy) A ad (zR 3) (cW a cy) RX3 cX3_addPaper 6 (some .int) o.1 (some (.int o.2)) G) (σ : Zst)   (h : J_X3_addPaper_149 σ = some o) : G σ [(0, .ref (a 46))] 149 [] := by
  refine z_aload_n M dt_X3_addPaper_4.2.2.2.2 rfl 0 rfl ?_
  refine z_dup M dt_X3_addPaper_5.1.1.1 rfl ?_
  refine gf_X3_papers (σ := σ) M u414 dt_X3_addPaper_5.1.1.2 (v := (σ.1 23)) rfl ?_
  refine z_iconst M dt_X3_addPaper_5.1.2.1 ki_1 ?_
  refine z_iadd M dt_X3_addPaper_5.1.2.2 ?_
  refine pf_X3_papers M u414 dt_X3_addPaper_5.2.1.1 ?_
  refine z_aload_n M dt_X3_addPaper_5.2.1.2 rfl 0 rfl ?_
  refine gf_X3_papers (σ := (zI σ 23 ((σ.1 23) + (1 : Int32)))) M u414 dt_X3_addPaper_5.2.2.1 (v := ((σ.1 23) + (1 : Int32))) rfl ?_
  obtain rfl := Option.some.inj h
  exact z_iret M dt_X3_addPaper_5.2.2.2
set_option maxHeartbeats 4000000 in
set_option maxRecDepth 100000 in
theorem m_X3_addPaper (hD : ∀ σ, va_D A (cW a cy σ)) {σ : Zst} {p0 : Int32} {p1 : Int32} {p2 : Int32} {o : (Zst × Int32)} (h : f_X3_addPaper σ p0 p1 p2 = some o) : zT l D zcl (zty cy) A ad (cW a cy) yX3_addPaper cX3_addPaper 6 (some .int) 3 [.ref (a 46), .int p0, .int p1, .int p2] σ o.1 (some (.int o.2)) := by
  refine z_met pn_X3 hD (Nat.le_of_ble_eq_true rfl) rfl (fun G M => ?_)
  refine z_iload_n M dt_X3_addPaper_0.1.1.1.1 rfl 2 rfl ?_
  refine z_sipush M dt_X3_addPaper_0.1.1.1.2 ks_1900 ?_
  have hJ6 : G σ [(0, .ref (a 46)), (1, .int p0), (2, .int p1), (3, .int p2)] 24 [.int (if p1 < (1900 : Int32) then (0 : Int32) else (if p2 < p1 then (0 : Int32) else (if (2100 : Int32) < p2 then (0 : Int32) else (1 : Int32))))] := by
    refine z_istore (lv' := [(4, .int (if p1 < (1900 : Int32) then (0 : Int32) else (if p2 < p1 then (0 : Int32) else (if (2100 : Int32) < p2 then (0 : Int32) else (1 : Int32))))), (0, .ref (a 46)), (1, .int p0), (2, .int p1), (3, .int p2)]) M dt_X3_addPaper_0.2.2.1.1 (by decide) rfl ?_
    refine z_iload_n M dt_X3_addPaper_0.2.2.1.2 rfl 2 rfl ?_
    refine k_X3_isLayer M u1277 (Nat.le_of_ble_eq_true rfl) (Nat.le_of_ble_eq_true rfl) dt_X3_addPaper_0.2.2.2.1 ?_
    refine z_if_eq (tgt := 47) M dt_X3_addPaper_0.2.2.2.2 (by decide) (fun hc => ?_) (fun hc => ?_)
    · have h := gIt hc h
      refine z_iconst M dt_X3_addPaper_1.1.2.2.1 ki_m1 ?_
      obtain rfl := Option.some.inj h
      exact z_iret M dt_X3_addPaper_1.1.2.2.2
    · have h := gIf hc h
      refine z_iload M dt_X3_addPaper_1.1.1.1.1 0 rfl ?_
      refine z_if_eq (tgt := 47) M dt_X3_addPaper_1.1.1.1.2 (by decide) (fun hc => ?_) (fun hc => ?_)
      · have h := gIt hc h
        refine z_iconst M dt_X3_addPaper_1.1.2.2.1 ki_m1 ?_
        obtain rfl := Option.some.inj h
        exact z_iret M dt_X3_addPaper_1.1.2.2.2
      · have h := gIf hc h
        refine z_aload_n M dt_X3_addPaper_1.1.1.2.1 rfl 1 rfl ?_
        refine gf_X3_papers (σ := σ) M u414 dt_X3_addPaper_1.1.1.2.2 (v := (σ.1 23)) rfl ?_
        refine z_bipush M dt_X3_addPaper_1.1.2.1.1 kb_12 ?_
        refine z_icmp_lt (tgt := 49) M dt_X3_addPaper_1.1.2.1.2 (by decide) (fun hc => ?_) (fun hc => ?_)
        · have h := gIt hc h
          refine z_aload_n M dt_X3_addPaper_1.2.1.1.1 rfl 1 rfl ?_
          refine gf_X3_layers M u410 dt_X3_addPaper_1.2.1.1.2 ?_
          refine z_aload_n M dt_X3_addPaper_1.2.1.2.1 rfl 1 rfl ?_
          refine gf_X3_papers (σ := σ) M u414 dt_X3_addPaper_1.2.1.2.2 (v := (σ.1 23)) rfl ?_
          refine z_iload_n M dt_X3_addPaper_1.2.2.1.1 rfl 2 rfl ?_
          have ⟨hg, h⟩ := gIx_s h
          refine as_C47 (σ := σ) M (f := (σ.2.1 27)) rfl hg dt_X3_addPaper_1.2.2.1.2 ?_
          refine z_aload_n M dt_X3_addPaper_1.2.2.2.1 rfl 1 rfl ?_
          refine gf_X3_firsts M u411 dt_X3_addPaper_1.2.2.2.2 ?_
          refine z_aload_n M dt_X3_addPaper_2.1.1.1.1 rfl 1 rfl ?_
          refine gf_X3_papers (σ := (zA σ 27 (upd (σ.2.1 27) (Int32.toNatClampNeg (σ.1 23)) p0))) M u414 dt_X3_addPaper_2.1.1.1.2 (v := (σ.1 23)) rfl ?_
          refine z_iload_n M dt_X3_addPaper_2.1.1.2.1 rfl 3 rfl ?_
          have ⟨hg, h⟩ := gIx_s h
          refine as_C48 (σ := (zA σ 27 (upd (σ.2.1 27) (Int32.toNatClampNeg (σ.1 23)) p0))) M (f := (σ.2.1 28)) rfl hg dt_X3_addPaper_2.1.1.2.2 ?_
          refine z_aload_n M dt_X3_addPaper_2.1.2.1.1 rfl 1 rfl ?_
          refine gf_X3_lasts M u412 dt_X3_addPaper_2.1.2.1.2 ?_
          refine z_aload_n M dt_X3_addPaper_2.1.2.2.1 rfl 1 rfl ?_
          refine gf_X3_papers (σ := (zA (zA σ 27 (upd (σ.2.1 27) (Int32.toNatClampNeg (σ.1 23)) p0)) 28 (upd (σ.2.1 28) (Int32.toNatClampNeg (σ.1 23)) p1))) M u414 dt_X3_addPaper_2.1.2.2.2 (v := (σ.1 23)) rfl ?_
          refine z_iload_n M dt_X3_addPaper_2.2.1.1.1 rfl 4 rfl ?_
          have ⟨hg, h⟩ := gIx_s h
          refine as_C49 (σ := (zA (zA σ 27 (upd (σ.2.1 27) (Int32.toNatClampNeg (σ.1 23)) p0)) 28 (upd (σ.2.1 28) (Int32.toNatClampNeg (σ.1 23)) p1))) M (f := (σ.2.1 29)) rfl hg dt_X3_addPaper_2.2.1.1.2 ?_
          refine z_aload_n M dt_X3_addPaper_2.2.1.2.1 rfl 1 rfl ?_
          refine gf_X3_clashes M u413 dt_X3_addPaper_2.2.1.2.2 ?_
          refine z_aload_n M dt_X3_addPaper_2.2.2.1.1 rfl 1 rfl ?_
          refine gf_X3_papers (σ := (zA (zA (zA σ 27 (upd (σ.2.1 27) (Int32.toNatClampNeg (σ.1 23)) p0)) 28 (upd (σ.2.1 28) (Int32.toNatClampNeg (σ.1 23)) p1)) 29 (upd (σ.2.1 29) (Int32.toNatClampNeg (σ.1 23)) p2))) M u414 dt_X3_addPaper_2.2.2.1.2 (v := (σ.1 23)) rfl ?_
          refine z_iconst M dt_X3_addPaper_2.2.2.2.1 ki_0 ?_
          have ⟨hg, h⟩ := gIx_s h
          refine as_C50 (σ := (zA (zA (zA σ 27 (upd (σ.2.1 27) (Int32.toNatClampNeg (σ.1 23)) p0)) 28 (upd (σ.2.1 28) (Int32.toNatClampNeg (σ.1 23)) p1)) 29 (upd (σ.2.1 29) (Int32.toNatClampNeg (σ.1 23)) p2))) M (f := (σ.2.1 30)) rfl hg dt_X3_addPaper_2.2.2.2.2 ?_
          refine z_iconst M dt_X3_addPaper_3.1.1.1.1 ki_0 ?_
          refine z_istore (lv' := [(5, .int (0 : Int32)), (4, .int (if p1 < (1900 : Int32) then (0 : Int32) else (if p2 < p1 then (0 : Int32) else (if (2100 : Int32) < p2 then (0 : Int32) else (1 : Int32))))), (0, .ref (a 46)), (1, .int p0), (2, .int p1), (3, .int p2)]) M dt_X3_addPaper_3.1.1.1.2 (by decide) rfl ?_
          refine z_sub M [2, 0] (lv' := [(0, .ref (a 46)), (5, .int (0 : Int32))]) rfl ?_
          exact wL_X3_addPaper_92 M (k149 := (fun σ7 => J_X3_addPaper_149 σ7)) (fun σ7 h => by
              exact wJ_X3_addPaper_149 M  σ7 h) zFu (zA (zA (zA (zA σ 27 (upd (σ.2.1 27) (Int32.toNatClampNeg (σ.1 23)) p0)) 28 (upd (σ.2.1 28) (Int32.toNatClampNeg (σ.1 23)) p1)) 29 (upd (σ.2.1 29) (Int32.toNatClampNeg (σ.1 23)) p2)) 30 (upd (σ.2.1 30) (Int32.toNatClampNeg (σ.1 23)) (0 : Int32))) (0 : Int32) h
        · have h := gIf hc h
          refine z_iconst M dt_X3_addPaper_1.1.2.2.1 ki_m1 ?_
          obtain rfl := Option.some.inj h
          exact z_iret M dt_X3_addPaper_1.1.2.2.2
  refine z_icmp_lt (tgt := 23) M dt_X3_addPaper_0.1.1.2.1 (by decide) (fun hc3 => ?_) (fun hc3 => ?_)
  · refine z_iconst M dt_X3_addPaper_0.2.1.2.2 ki_0 ?_
    exact (zTt hc3 hJ6)
  · refine z_iload_n M dt_X3_addPaper_0.1.1.2.2 rfl 2 rfl ?_
    refine z_iload_n M dt_X3_addPaper_0.1.2.1.1 rfl 3 rfl ?_
    refine z_icmp_gt (tgt := 23) M dt_X3_addPaper_0.1.2.1.2 (by decide) (fun hc4 => ?_) (fun hc4 => ?_)
    · refine z_iconst M dt_X3_addPaper_0.2.1.2.2 ki_0 ?_
      exact (zTt hc4 (zTf hc3 hJ6))
    · refine z_iload_n M dt_X3_addPaper_0.1.2.2.1 rfl 3 rfl ?_
      refine z_sipush M dt_X3_addPaper_0.1.2.2.2 ks_2100 ?_
      refine z_icmp_gt (tgt := 23) M dt_X3_addPaper_0.2.1.1.1 (by decide) (fun hc5 => ?_) (fun hc5 => ?_)
      · refine z_iconst M dt_X3_addPaper_0.2.1.2.2 ki_0 ?_
        exact (zTt hc5 (zTf hc4 (zTf hc3 hJ6)))
      · refine z_iconst M dt_X3_addPaper_0.2.1.1.2 ki_1 ?_
        refine z_goto (tgt := 24) M dt_X3_addPaper_0.2.1.2.1 (by decide) ?_
        exact (zTf hc5 (zTf hc4 (zTf hc3 hJ6)))
theorem k_X3_addPaper {n : Nat} (M : zM l D zcl (zty cy) A ad (zR n) (cW a cy) own cc nL rt σo ov G) {p0 : Int32} {p1 : Int32} {p2 : Int32} {o : (Zst × Int32)} (h : f_X3_addPaper σ p0 p1 p2 = some o) {index : Nat} (hl : Cond.methodLink own index yX3_addPaper ∈ uw) (hR : 4 ≤ n) (hW : (st.map fun v => v.category).sum ≤ 8) (d : decode cc pc = .ok (.invokevirtual index, 3)) (kk : G o.1 lv (pc + 3) (.int o.2 :: st)) : G σ lv pc (.int p2 :: .int p1 :: .int p0 :: .ref (a 46) :: st) := z_callV M [.int p0, .int p1, .int p2] (m_X3_addPaper (zM_hD M) h) (hC46 σ) rfl hl u98 u1276 u1274 u1275 hd_X3_addPaper hR (by decide) rfl hW d kk
set_option maxHeartbeats 4000000 in
set_option maxRecDepth 100000 in
theorem m_X11_paper (hD : ∀ σ, va_D A (cW a cy σ)) {σ : Zst} {p0 : Int32} {p1 : Int32} {p2 : Int32} {o : (Zst × Int32)} (h : f_X11_paper σ p0 p1 p2 = some o) : zT l D zcl (zty cy) A ad (cW a cy) yX11_paper cX11_paper 4 (some .int) 4 [.ref (a 0), .int p0, .int p1, .int p2] σ o.1 (some (.int o.2)) := by
  refine z_met pn_X11 hD (Nat.le_of_ble_eq_true rfl) rfl (fun G M => ?_)
  refine z_aload_n M dt_X11_paper_0.1.1.1 rfl 0 rfl ?_
  refine gf_X11_mound M u439 dt_X11_paper_0.1.1.2 ?_
  refine z_iload_n M dt_X11_paper_0.1.2.1 rfl 1 rfl ?_
  refine z_iload_n M dt_X11_paper_0.1.2.2 rfl 2 rfl ?_
  refine z_iload_n M dt_X11_paper_0.2.1.1 rfl 3 rfl ?_
  obtain ⟨t1, hc, h⟩ := gBd h
  refine k_X3_addPaper M hc u1273 (Nat.le_of_ble_eq_true rfl) (Nat.le_of_ble_eq_true rfl) dt_X11_paper_0.2.1.2 ?_
  obtain rfl := Option.some.inj h
  exact z_iret M dt_X11_paper_0.2.2
set_option maxHeartbeats 4000000 in
set_option maxRecDepth 100000 in
theorem m_X3_allPapers (hD : ∀ σ, va_D A (cW a cy σ)) (σ0 : Zst) : zT l D zcl (zty cy) A ad (cW a cy) yX3_allPapers cX3_allPapers 1 (some .int) 1 [.ref (a 46)] σ0 σ0 (some (.int (f_X3_allPapers σ0))) := by
  obtain ⟨o, h⟩ : ∃ o, f_X3_allPapers σ0 = o := ⟨_, rfl⟩
  rw [h]
  refine z_met pn_X3 hD (Nat.le_of_ble_eq_true rfl) rfl (fun G M => ?_)
  refine z_iconst M dt_X3_allPapers_0.1.1.1 ki_1 ?_
  refine z_aload_n M dt_X3_allPapers_0.1.1.2 rfl 0 rfl ?_
  refine gf_X3_papers (σ := σ0) M u414 dt_X3_allPapers_0.1.2.1 (v := (σ0.1 23)) rfl ?_
  refine z_ishl M dt_X3_allPapers_0.1.2.2 ?_
  refine z_iconst M dt_X3_allPapers_0.2.1.1 ki_1 ?_
  refine z_isub M dt_X3_allPapers_0.2.1.2 ?_
  subst h
  exact z_iret M dt_X3_allPapers_0.2.2
theorem k_X3_allPapers {n : Nat} (M : zM l D zcl (zty cy) A ad (zR n) (cW a cy) own cc nL rt σo ov G)  {index : Nat} (hl : Cond.methodLink own index yX3_allPapers ∈ uw) (hR : 2 ≤ n) (hW : (st.map fun v => v.category).sum ≤ 8) (d : decode cc pc = .ok (.invokevirtual index, 3)) (kk : G σ lv (pc + 3) (.int (f_X3_allPapers σ) :: st)) : G σ lv pc (.ref (a 46) :: st) := z_callV M [] (m_X3_allPapers (zM_hD M) σ ) (hC46 σ) rfl hl u98 u1296 u1295 u40 hd_X3_allPapers hR (by decide) rfl hW d kk
set_option maxHeartbeats 4000000 in
set_option maxRecDepth 100000 in
theorem wL_X3_goTogether_2 {o : Int32} (M : zM l D zcl (zty cy) A ad (zR 2) (cW a cy) RX3 cX3_goTogether 3 (some .boolean) σ0 (some (.int o)) G)  (v1 : Int32)  :
    ∀ (n2 : Nat) (v2 : Int32), L_X3_goTogether_2 σ0 v1 n2 v2 = some o → G σ0 [(0, .ref (a 46)), (1, .int v1), (2, .int v2)] 2 [] := by
  intro n2
  induction n2 with
  | zero => intro v2 h; exact nomatch (show (none : Option Int32) = some _ from h)
  | succ n2 ih =>
    intro v2 h
    refine z_iload_n M dt_X3_goTogether_0.1.1.2.1 rfl 2 rfl ?_
    refine z_aload_n M dt_X3_goTogether_0.1.1.2.2 rfl 0 rfl ?_
    refine gf_X3_papers (σ := σ0) M u414 dt_X3_goTogether_0.1.2.1.1 (v := (σ0.1 23)) rfl ?_
    refine z_icmp_ge (tgt := 43) M dt_X3_goTogether_0.1.2.1.2 (by decide) (fun hc => ?_) (fun hc => ?_)
    · have h := gIt hc h
      refine z_iconst M dt_X3_goTogether_1.2.2.1 ki_1 ?_
      obtain rfl := Option.some.inj h
      exact z_zret M (nBo (Or.inr rfl)) dt_X3_goTogether_1.2.2.2
    · have h := gIf hc h
      refine z_iload_n M dt_X3_goTogether_0.1.2.2.1 rfl 2 rfl ?_
      refine z_bipush M dt_X3_goTogether_0.1.2.2.2 kb_12 ?_
      refine z_icmp_ge (tgt := 43) M dt_X3_goTogether_0.2.1.1.1 (by decide) (fun hc => ?_) (fun hc => ?_)
      · have h := gIt hc h
        refine z_iconst M dt_X3_goTogether_1.2.2.1 ki_1 ?_
        obtain rfl := Option.some.inj h
        exact z_zret M (nBo (Or.inr rfl)) dt_X3_goTogether_1.2.2.2
      · have h := gIf hc h
        refine z_iload_n M dt_X3_goTogether_0.2.1.1.2 rfl 1 rfl ?_
        refine z_iload_n M dt_X3_goTogether_0.2.1.2.1 rfl 2 rfl ?_
        refine kn_X11_hasBit M u1301 (Nat.le_of_ble_eq_true rfl) (Nat.le_of_ble_eq_true rfl) dt_X3_goTogether_0.2.1.2.2 ?_
        refine z_if_eq (tgt := 37) M dt_X3_goTogether_0.2.2.1.1 (by decide) (fun hc => ?_) (fun hc => ?_)
        · have h := gIt hc h
          refine z_iinc (v := (v2 + (1 : Int32))) (lv' := [(2, .int (v2 + (1 : Int32))), (0, .ref (a 46)), (1, .int v1)]) M dt_X3_goTogether_1.2.1.1.2 (k := 2) rfl (congrArg (fun q => v2 + q) ki_1) (by decide) rfl ?_
          refine z_goto (tgt := 2) M dt_X3_goTogether_1.2.1.2 (by decide) ?_
          refine z_sub M [1, 2, 0] (lv' := [(0, .ref (a 46)), (1, .int v1), (2, .int (v2 + (1 : Int32)))]) rfl ?_
          exact ih (v2 + (1 : Int32)) h
        · have h := gIf hc h
          refine z_aload_n M dt_X3_goTogether_0.2.2.1.2 rfl 0 rfl ?_
          refine gf_X3_clashes M u413 dt_X3_goTogether_0.2.2.2.1 ?_
          refine z_iload_n M dt_X3_goTogether_0.2.2.2.2 rfl 2 rfl ?_
          have ⟨hg, h⟩ := gIx_s h
          refine al_C50 (σ := σ0) M (f := (σ0.2.1 30)) rfl hg dt_X3_goTogether_1.1.1.1.1 ?_
          refine z_iload_n M dt_X3_goTogether_1.1.1.1.2 rfl 1 rfl ?_
          refine z_iand M dt_X3_goTogether_1.1.1.2 ?_
          refine z_if_eq (tgt := 37) M dt_X3_goTogether_1.1.2.1 (by decide) (fun hc => ?_) (fun hc => ?_)
          · have h := gIt hc h
            refine z_iinc (v := (v2 + (1 : Int32))) (lv' := [(2, .int (v2 + (1 : Int32))), (0, .ref (a 46)), (1, .int v1)]) M dt_X3_goTogether_1.2.1.1.2 (k := 2) rfl (congrArg (fun q => v2 + q) ki_1) (by decide) rfl ?_
            refine z_goto (tgt := 2) M dt_X3_goTogether_1.2.1.2 (by decide) ?_
            refine z_sub M [1, 2, 0] (lv' := [(0, .ref (a 46)), (1, .int v1), (2, .int (v2 + (1 : Int32)))]) rfl ?_
            exact ih (v2 + (1 : Int32)) h
          · have h := gIf hc h
            refine z_iconst M dt_X3_goTogether_1.1.2.2 ki_0 ?_
            obtain rfl := Option.some.inj h
            exact z_zret M (nBo (Or.inl rfl)) dt_X3_goTogether_1.2.1.1.1
set_option maxHeartbeats 4000000 in
set_option maxRecDepth 100000 in
theorem m_X3_goTogether (hD : ∀ σ, va_D A (cW a cy σ)) {σ0 : Zst} {p0 : Int32} {o : Int32} (h : f_X3_goTogether σ0 p0 = some o) : zT l D zcl (zty cy) A ad (cW a cy) yX3_goTogether cX3_goTogether 3 (some .boolean) 2 [.ref (a 46), .int p0] σ0 σ0 (some (.int o)) := by
  refine z_met pn_X3 hD (Nat.le_of_ble_eq_true rfl) rfl (fun G M => ?_)
  refine z_iconst M dt_X3_goTogether_0.1.1.1.1 ki_0 ?_
  refine z_istore_n (lv' := [(2, .int (0 : Int32)), (0, .ref (a 46)), (1, .int p0)]) M dt_X3_goTogether_0.1.1.1.2 rfl (by decide) rfl ?_
  refine z_sub M [1, 2, 0] (lv' := [(0, .ref (a 46)), (1, .int p0), (2, .int (0 : Int32))]) rfl ?_
  exact wL_X3_goTogether_2 M  p0 zFu (0 : Int32) h
theorem k_X3_goTogether {n : Nat} (M : zM l D zcl (zty cy) A ad (zR n) (cW a cy) own cc nL rt σo ov G) {p0 : Int32} {o : Int32} (h : f_X3_goTogether σ p0 = some o) {index : Nat} (hl : Cond.methodLink own index yX3_goTogether ∈ uw) (hR : 3 ≤ n) (hW : (st.map fun v => v.category).sum ≤ 8) (d : decode cc pc = .ok (.invokevirtual index, 3)) (kk : G σ lv (pc + 3) (.int o :: st)) : G σ lv pc (.int p0 :: .ref (a 46) :: st) := z_callV M [.int p0] (m_X3_goTogether (zM_hD M) h) (hC46 σ) rfl hl u98 u1300 u1299 u41 hd_X3_goTogether hR (by decide) rfl hW d kk
set_option maxHeartbeats 4000000 in
set_option maxRecDepth 100000 in
theorem wL_X3_firstYearOf_6 {o : Int32} (M : zM l D zcl (zty cy) A ad (zR 2) (cW a cy) RX3 cX3_firstYearOf 4 (some .int) σ0 (some (.int o)) G)  (v1 : Int32)  :
    ∀ (n6 : Nat) (v2 : Int32) (v3 : Int32), L_X3_firstYearOf_6 σ0 v1 n6 v2 v3 = some o → G σ0 [(0, .ref (a 46)), (1, .int v1), (2, .int v2), (3, .int v3)] 6 [] := by
  intro n6
  induction n6 with
  | zero => intro v2 v3 h; exact nomatch (show (none : Option Int32) = some _ from h)
  | succ n6 ih =>
    intro v2 v3 h
    refine z_iload_n M dt_X3_firstYearOf_0.1.2.1.1 rfl 3 rfl ?_
    refine z_aload_n M dt_X3_firstYearOf_0.1.2.1.2 rfl 0 rfl ?_
    refine gf_X3_papers (σ := σ0) M u414 dt_X3_firstYearOf_0.1.2.2.1 (v := (σ0.1 23)) rfl ?_
    refine z_icmp_ge (tgt := 51) M dt_X3_firstYearOf_0.1.2.2.2 (by decide) (fun hc => ?_) (fun hc => ?_)
    · have h := gIt hc h
      refine z_iload_n M dt_X3_firstYearOf_1.2.2.1.2 rfl 2 rfl ?_
      obtain rfl := Option.some.inj h
      exact z_iret M dt_X3_firstYearOf_1.2.2.2
    · have h := gIf hc h
      refine z_iload_n M dt_X3_firstYearOf_0.2.1.1.1 rfl 3 rfl ?_
      refine z_bipush M dt_X3_firstYearOf_0.2.1.1.2 kb_12 ?_
      refine z_icmp_ge (tgt := 51) M dt_X3_firstYearOf_0.2.1.2.1 (by decide) (fun hc => ?_) (fun hc => ?_)
      · have h := gIt hc h
        refine z_iload_n M dt_X3_firstYearOf_1.2.2.1.2 rfl 2 rfl ?_
        obtain rfl := Option.some.inj h
        exact z_iret M dt_X3_firstYearOf_1.2.2.2
      · have h := gIf hc h
        refine z_aload_n M dt_X3_firstYearOf_0.2.1.2.2 rfl 0 rfl ?_
        refine gf_X3_layers M u410 dt_X3_firstYearOf_0.2.2.1.1 ?_
        refine z_iload_n M dt_X3_firstYearOf_0.2.2.1.2 rfl 3 rfl ?_
        have ⟨hg, h⟩ := gIx_s h
        refine al_C47 (σ := σ0) M (f := (σ0.2.1 27)) rfl hg dt_X3_firstYearOf_0.2.2.2.1 ?_
        refine z_iload_n M dt_X3_firstYearOf_0.2.2.2.2 rfl 1 rfl ?_
        refine z_icmp_lt (tgt := 43) M dt_X3_firstYearOf_1.1.1.1.1 (by decide) (fun hc => ?_) (fun hc => ?_)
        · have h := gIt hc h
          refine z_iload_n M dt_X3_firstYearOf_1.2.1.1.2 rfl 2 rfl ?_
          refine z_istore_n (lv' := [(2, .int v2), (0, .ref (a 46)), (1, .int v1), (3, .int v3)]) M dt_X3_firstYearOf_1.2.1.2.1 rfl (by decide) rfl ?_
          refine z_iinc (v := (v3 + (1 : Int32))) (lv' := [(3, .int (v3 + (1 : Int32))), (2, .int v2), (0, .ref (a 46)), (1, .int v1)]) M dt_X3_firstYearOf_1.2.1.2.2 (k := 3) rfl (congrArg (fun q => v3 + q) ki_1) (by decide) rfl ?_
          refine z_goto (tgt := 6) M dt_X3_firstYearOf_1.2.2.1.1 (by decide) ?_
          refine z_sub M [2, 3, 1, 0] (lv' := [(0, .ref (a 46)), (1, .int v1), (2, .int v2), (3, .int (v3 + (1 : Int32)))]) rfl ?_
          exact ih v2 (v3 + (1 : Int32)) h
        · have h := gIf hc h
          refine z_iload_n M dt_X3_firstYearOf_1.1.1.1.2 rfl 2 rfl ?_
          refine z_aload_n M dt_X3_firstYearOf_1.1.1.2.1 rfl 0 rfl ?_
          refine gf_X3_firsts M u411 dt_X3_firstYearOf_1.1.1.2.2 ?_
          refine z_iload_n M dt_X3_firstYearOf_1.1.2.1.1 rfl 3 rfl ?_
          have ⟨hg, h⟩ := gIx_s h
          refine al_C48 (σ := σ0) M (f := (σ0.2.1 28)) rfl hg dt_X3_firstYearOf_1.1.2.1.2 ?_
          refine z_mmax M u1306 u677 u100 u678 (Nat.le_of_ble_eq_true rfl) (Nat.le_of_ble_eq_true rfl) dt_X3_firstYearOf_1.1.2.2 ?_
          refine z_goto (tgt := 44) M dt_X3_firstYearOf_1.2.1.1.1 (by decide) ?_
          refine z_istore_n (lv' := [(2, .int (jMax v2 ((σ0.2.1 28) (Int32.toNatClampNeg v3)))), (0, .ref (a 46)), (1, .int v1), (3, .int v3)]) M dt_X3_firstYearOf_1.2.1.2.1 rfl (by decide) rfl ?_
          refine z_iinc (v := (v3 + (1 : Int32))) (lv' := [(3, .int (v3 + (1 : Int32))), (2, .int (jMax v2 ((σ0.2.1 28) (Int32.toNatClampNeg v3)))), (0, .ref (a 46)), (1, .int v1)]) M dt_X3_firstYearOf_1.2.1.2.2 (k := 3) rfl (congrArg (fun q => v3 + q) ki_1) (by decide) rfl ?_
          refine z_goto (tgt := 6) M dt_X3_firstYearOf_1.2.2.1.1 (by decide) ?_
          refine z_sub M [2, 3, 1, 0] (lv' := [(0, .ref (a 46)), (1, .int v1), (2, .int (jMax v2 ((σ0.2.1 28) (Int32.toNatClampNeg v3)))), (3, .int (v3 + (1 : Int32)))]) rfl ?_
          exact ih (jMax v2 ((σ0.2.1 28) (Int32.toNatClampNeg v3))) (v3 + (1 : Int32)) h
set_option maxHeartbeats 4000000 in
set_option maxRecDepth 100000 in
theorem m_X3_firstYearOf (hD : ∀ σ, va_D A (cW a cy σ)) {σ0 : Zst} {p0 : Int32} {o : Int32} (h : f_X3_firstYearOf σ0 p0 = some o) : zT l D zcl (zty cy) A ad (cW a cy) yX3_firstYearOf cX3_firstYearOf 4 (some .int) 2 [.ref (a 46), .int p0] σ0 σ0 (some (.int o)) := by
  refine z_met pn_X3 hD (Nat.le_of_ble_eq_true rfl) rfl (fun G M => ?_)
  refine z_sipush M dt_X3_firstYearOf_0.1.1.1.1 ks_1900 ?_
  refine z_istore_n (lv' := [(2, .int (1900 : Int32)), (0, .ref (a 46)), (1, .int p0)]) M dt_X3_firstYearOf_0.1.1.1.2 rfl (by decide) rfl ?_
  refine z_iconst M dt_X3_firstYearOf_0.1.1.2.1 ki_0 ?_
  refine z_istore_n (lv' := [(3, .int (0 : Int32)), (2, .int (1900 : Int32)), (0, .ref (a 46)), (1, .int p0)]) M dt_X3_firstYearOf_0.1.1.2.2 rfl (by decide) rfl ?_
  refine z_sub M [2, 3, 1, 0] (lv' := [(0, .ref (a 46)), (1, .int p0), (2, .int (1900 : Int32)), (3, .int (0 : Int32))]) rfl ?_
  exact wL_X3_firstYearOf_6 M  p0 zFu (1900 : Int32) (0 : Int32) h
theorem k_X3_firstYearOf {n : Nat} (M : zM l D zcl (zty cy) A ad (zR n) (cW a cy) own cc nL rt σo ov G) {p0 : Int32} {o : Int32} (h : f_X3_firstYearOf σ p0 = some o) {index : Nat} (hl : Cond.methodLink own index yX3_firstYearOf ∈ uw) (hR : 3 ≤ n) (hW : (st.map fun v => v.category).sum ≤ 8) (d : decode cc pc = .ok (.invokevirtual index, 3)) (kk : G σ lv (pc + 3) (.int o :: st)) : G σ lv pc (.int p0 :: .ref (a 46) :: st) := z_callV M [.int p0] (m_X3_firstYearOf (zM_hD M) h) (hC46 σ) rfl hl u98 u1305 u1304 u42 hd_X3_firstYearOf hR (by decide) rfl hW d kk
set_option maxHeartbeats 4000000 in
set_option maxRecDepth 100000 in
theorem wL_X3_lastYearOf_6 {o : Int32} (M : zM l D zcl (zty cy) A ad (zR 2) (cW a cy) RX3 cX3_lastYearOf 4 (some .int) σ0 (some (.int o)) G)  (v1 : Int32)  :
    ∀ (n6 : Nat) (v2 : Int32) (v3 : Int32), L_X3_lastYearOf_6 σ0 v1 n6 v2 v3 = some o → G σ0 [(0, .ref (a 46)), (1, .int v1), (2, .int v2), (3, .int v3)] 6 [] := by
  intro n6
  induction n6 with
  | zero => intro v2 v3 h; exact nomatch (show (none : Option Int32) = some _ from h)
  | succ n6 ih =>
    intro v2 v3 h
    refine z_iload_n M dt_X3_lastYearOf_0.1.2.1.1 rfl 3 rfl ?_
    refine z_aload_n M dt_X3_lastYearOf_0.1.2.1.2 rfl 0 rfl ?_
    refine gf_X3_papers (σ := σ0) M u414 dt_X3_lastYearOf_0.1.2.2.1 (v := (σ0.1 23)) rfl ?_
    refine z_icmp_ge (tgt := 51) M dt_X3_lastYearOf_0.1.2.2.2 (by decide) (fun hc => ?_) (fun hc => ?_)
    · have h := gIt hc h
      refine z_iload_n M dt_X3_lastYearOf_1.2.2.1.2 rfl 2 rfl ?_
      obtain rfl := Option.some.inj h
      exact z_iret M dt_X3_lastYearOf_1.2.2.2
    · have h := gIf hc h
      refine z_iload_n M dt_X3_lastYearOf_0.2.1.1.1 rfl 3 rfl ?_
      refine z_bipush M dt_X3_lastYearOf_0.2.1.1.2 kb_12 ?_
      refine z_icmp_ge (tgt := 51) M dt_X3_lastYearOf_0.2.1.2.1 (by decide) (fun hc => ?_) (fun hc => ?_)
      · have h := gIt hc h
        refine z_iload_n M dt_X3_lastYearOf_1.2.2.1.2 rfl 2 rfl ?_
        obtain rfl := Option.some.inj h
        exact z_iret M dt_X3_lastYearOf_1.2.2.2
      · have h := gIf hc h
        refine z_aload_n M dt_X3_lastYearOf_0.2.1.2.2 rfl 0 rfl ?_
        refine gf_X3_layers M u410 dt_X3_lastYearOf_0.2.2.1.1 ?_
        refine z_iload_n M dt_X3_lastYearOf_0.2.2.1.2 rfl 3 rfl ?_
        have ⟨hg, h⟩ := gIx_s h
        refine al_C47 (σ := σ0) M (f := (σ0.2.1 27)) rfl hg dt_X3_lastYearOf_0.2.2.2.1 ?_
        refine z_iload_n M dt_X3_lastYearOf_0.2.2.2.2 rfl 1 rfl ?_
        refine z_icmp_gt (tgt := 43) M dt_X3_lastYearOf_1.1.1.1.1 (by decide) (fun hc => ?_) (fun hc => ?_)
        · have h := gIt hc h
          refine z_iload_n M dt_X3_lastYearOf_1.2.1.1.2 rfl 2 rfl ?_
          refine z_istore_n (lv' := [(2, .int v2), (0, .ref (a 46)), (1, .int v1), (3, .int v3)]) M dt_X3_lastYearOf_1.2.1.2.1 rfl (by decide) rfl ?_
          refine z_iinc (v := (v3 + (1 : Int32))) (lv' := [(3, .int (v3 + (1 : Int32))), (2, .int v2), (0, .ref (a 46)), (1, .int v1)]) M dt_X3_lastYearOf_1.2.1.2.2 (k := 3) rfl (congrArg (fun q => v3 + q) ki_1) (by decide) rfl ?_
          refine z_goto (tgt := 6) M dt_X3_lastYearOf_1.2.2.1.1 (by decide) ?_
          refine z_sub M [2, 3, 1, 0] (lv' := [(0, .ref (a 46)), (1, .int v1), (2, .int v2), (3, .int (v3 + (1 : Int32)))]) rfl ?_
          exact ih v2 (v3 + (1 : Int32)) h
        · have h := gIf hc h
          refine z_iload_n M dt_X3_lastYearOf_1.1.1.1.2 rfl 2 rfl ?_
          refine z_aload_n M dt_X3_lastYearOf_1.1.1.2.1 rfl 0 rfl ?_
          refine gf_X3_lasts M u412 dt_X3_lastYearOf_1.1.1.2.2 ?_
          refine z_iload_n M dt_X3_lastYearOf_1.1.2.1.1 rfl 3 rfl ?_
          have ⟨hg, h⟩ := gIx_s h
          refine al_C49 (σ := σ0) M (f := (σ0.2.1 29)) rfl hg dt_X3_lastYearOf_1.1.2.1.2 ?_
          refine z_mmin M u1311 u680 u100 u681 (Nat.le_of_ble_eq_true rfl) (Nat.le_of_ble_eq_true rfl) dt_X3_lastYearOf_1.1.2.2 ?_
          refine z_goto (tgt := 44) M dt_X3_lastYearOf_1.2.1.1.1 (by decide) ?_
          refine z_istore_n (lv' := [(2, .int (jMin v2 ((σ0.2.1 29) (Int32.toNatClampNeg v3)))), (0, .ref (a 46)), (1, .int v1), (3, .int v3)]) M dt_X3_lastYearOf_1.2.1.2.1 rfl (by decide) rfl ?_
          refine z_iinc (v := (v3 + (1 : Int32))) (lv' := [(3, .int (v3 + (1 : Int32))), (2, .int (jMin v2 ((σ0.2.1 29) (Int32.toNatClampNeg v3)))), (0, .ref (a 46)), (1, .int v1)]) M dt_X3_lastYearOf_1.2.1.2.2 (k := 3) rfl (congrArg (fun q => v3 + q) ki_1) (by decide) rfl ?_
          refine z_goto (tgt := 6) M dt_X3_lastYearOf_1.2.2.1.1 (by decide) ?_
          refine z_sub M [2, 3, 1, 0] (lv' := [(0, .ref (a 46)), (1, .int v1), (2, .int (jMin v2 ((σ0.2.1 29) (Int32.toNatClampNeg v3)))), (3, .int (v3 + (1 : Int32)))]) rfl ?_
          exact ih (jMin v2 ((σ0.2.1 29) (Int32.toNatClampNeg v3))) (v3 + (1 : Int32)) h
set_option maxHeartbeats 4000000 in
set_option maxRecDepth 100000 in
theorem m_X3_lastYearOf (hD : ∀ σ, va_D A (cW a cy σ)) {σ0 : Zst} {p0 : Int32} {o : Int32} (h : f_X3_lastYearOf σ0 p0 = some o) : zT l D zcl (zty cy) A ad (cW a cy) yX3_lastYearOf cX3_lastYearOf 4 (some .int) 2 [.ref (a 46), .int p0] σ0 σ0 (some (.int o)) := by
  refine z_met pn_X3 hD (Nat.le_of_ble_eq_true rfl) rfl (fun G M => ?_)
  refine z_sipush M dt_X3_lastYearOf_0.1.1.1.1 ks_2100 ?_
  refine z_istore_n (lv' := [(2, .int (2100 : Int32)), (0, .ref (a 46)), (1, .int p0)]) M dt_X3_lastYearOf_0.1.1.1.2 rfl (by decide) rfl ?_
  refine z_iconst M dt_X3_lastYearOf_0.1.1.2.1 ki_0 ?_
  refine z_istore_n (lv' := [(3, .int (0 : Int32)), (2, .int (2100 : Int32)), (0, .ref (a 46)), (1, .int p0)]) M dt_X3_lastYearOf_0.1.1.2.2 rfl (by decide) rfl ?_
  refine z_sub M [2, 3, 1, 0] (lv' := [(0, .ref (a 46)), (1, .int p0), (2, .int (2100 : Int32)), (3, .int (0 : Int32))]) rfl ?_
  exact wL_X3_lastYearOf_6 M  p0 zFu (2100 : Int32) (0 : Int32) h
theorem k_X3_lastYearOf {n : Nat} (M : zM l D zcl (zty cy) A ad (zR n) (cW a cy) own cc nL rt σo ov G) {p0 : Int32} {o : Int32} (h : f_X3_lastYearOf σ p0 = some o) {index : Nat} (hl : Cond.methodLink own index yX3_lastYearOf ∈ uw) (hR : 3 ≤ n) (hW : (st.map fun v => v.category).sum ≤ 8) (d : decode cc pc = .ok (.invokevirtual index, 3)) (kk : G σ lv (pc + 3) (.int o :: st)) : G σ lv pc (.int p0 :: .ref (a 46) :: st) := z_callV M [.int p0] (m_X3_lastYearOf (zM_hD M) h) (hC46 σ) rfl hl u98 u1310 u1309 u43 hd_X3_lastYearOf hR (by decide) rfl hW d kk
set_option maxHeartbeats 4000000 in
set_option maxRecDepth 100000 in
theorem m_X3_yearsOf (hD : ∀ σ, va_D A (cW a cy σ)) {σ : Zst} {p0 : Int32} {o : (Zst × Int32)} (h : f_X3_yearsOf σ p0 = some o) : zT l D zcl (zty cy) A ad (cW a cy) yX3_yearsOf cX3_yearsOf 4 (some .int) 3 [.ref (a 46), .int p0] σ o.1 (some (.int o.2)) := by
  refine z_met pn_X3 hD (Nat.le_of_ble_eq_true rfl) rfl (fun G M => ?_)
  refine z_iload_n M dt_X3_yearsOf_0.1.1.1.1 rfl 1 rfl ?_
  refine k_X3_isLayer M u1277 (Nat.le_of_ble_eq_true rfl) (Nat.le_of_ble_eq_true rfl) dt_X3_yearsOf_0.1.1.1.2 ?_
  refine z_if_ne (tgt := 9) M dt_X3_yearsOf_0.1.1.2.1 (by decide) (fun hc => ?_) (fun hc => ?_)
  · have h := gIf hc h
    refine z_aload_n M dt_X3_yearsOf_0.1.2.1.2 rfl 0 rfl ?_
    refine z_aload_n M dt_X3_yearsOf_0.1.2.2.1 rfl 0 rfl ?_
    refine k_X3_allPapers M u1293 (Nat.le_of_ble_eq_true rfl) (Nat.le_of_ble_eq_true rfl) dt_X3_yearsOf_0.1.2.2.2 ?_
    obtain ⟨t1, hc, h⟩ := gBd h
    refine k_X3_goTogether M hc u1297 (Nat.le_of_ble_eq_true rfl) (Nat.le_of_ble_eq_true rfl) dt_X3_yearsOf_0.2.1.1.1 ?_
    refine z_if_ne (tgt := 23) M dt_X3_yearsOf_0.2.1.1.2 (by decide) (fun hc => ?_) (fun hc => ?_)
    · have h := gIf hc h
      refine z_aload_n M dt_X3_yearsOf_0.2.2.1.1 rfl 0 rfl ?_
      refine z_iload_n M dt_X3_yearsOf_0.2.2.1.2 rfl 1 rfl ?_
      obtain ⟨t2, hc, h⟩ := gBd h
      refine k_X3_firstYearOf M hc u1302 (Nat.le_of_ble_eq_true rfl) (Nat.le_of_ble_eq_true rfl) dt_X3_yearsOf_0.2.2.2.1 ?_
      refine z_istore_n (lv' := [(2, .int t2), (0, .ref (a 46)), (1, .int p0)]) M dt_X3_yearsOf_0.2.2.2.2 rfl (by decide) rfl ?_
      refine z_aload_n M dt_X3_yearsOf_1.1.1.1.1 rfl 1 rfl ?_
      refine z_iload_n M dt_X3_yearsOf_1.1.1.1.2 rfl 2 rfl ?_
      obtain ⟨t3, hc, h⟩ := gBd h
      refine k_X3_lastYearOf M hc u1307 (Nat.le_of_ble_eq_true rfl) (Nat.le_of_ble_eq_true rfl) dt_X3_yearsOf_1.1.1.2.1 ?_
      refine z_istore_n (lv' := [(3, .int t3), (2, .int t2), (0, .ref (a 46)), (1, .int p0)]) M dt_X3_yearsOf_1.1.1.2.2 rfl (by decide) rfl ?_
      refine z_aload_n M dt_X3_yearsOf_1.1.2.1.1 rfl 2 rfl ?_
      refine gf_X3_row M u409 dt_X3_yearsOf_1.1.2.1.2 ?_
      obtain ⟨t4, hc, h⟩ := gBd h
      refine k_X5_clear M hc u1312 (Nat.le_of_ble_eq_true rfl) (Nat.le_of_ble_eq_true rfl) dt_X3_yearsOf_1.1.2.2.1 ?_
      refine z_iload_n M dt_X3_yearsOf_1.1.2.2.2 rfl 1 rfl ?_
      refine z_i2l M dt_X3_yearsOf_1.2.1.1.1 ?_
      obtain ⟨t5, hc, h⟩ := gBd h
      refine k_X5_add M hc u1313 (Nat.le_of_ble_eq_true rfl) (Nat.le_of_ble_eq_true rfl) dt_X3_yearsOf_1.2.1.1.2 ?_
      refine z_iload_n M dt_X3_yearsOf_1.2.1.2.1 rfl 0 rfl ?_
      refine z_i2l M dt_X3_yearsOf_1.2.1.2.2 ?_
      obtain ⟨t6, hc, h⟩ := gBd h
      refine k_X5_add M hc u1313 (Nat.le_of_ble_eq_true rfl) (Nat.le_of_ble_eq_true rfl) dt_X3_yearsOf_1.2.2.1.1 ?_
      refine z_pop M dt_X3_yearsOf_1.2.2.1.2 rfl ?_
      refine z_iload_n M dt_X3_yearsOf_1.2.2.2.1 rfl 0 rfl ?_
      refine z_iload_n M dt_X3_yearsOf_1.2.2.2.2 rfl 1 rfl ?_
      refine z_isub M dt_X3_yearsOf_2.1.1 ?_
      refine z_iconst M dt_X3_yearsOf_2.1.2 ki_1 ?_
      refine z_iadd M dt_X3_yearsOf_2.2.1 ?_
      obtain rfl := Option.some.inj h
      exact z_iret M dt_X3_yearsOf_2.2.2
    · have h := gIt hc h
      refine z_bipush M dt_X3_yearsOf_0.2.1.2.1 kb_m2 ?_
      obtain rfl := Option.some.inj h
      exact z_iret M dt_X3_yearsOf_0.2.1.2.2
  · have h := gIt hc h
    refine z_iconst M dt_X3_yearsOf_0.1.1.2.2 ki_m1 ?_
    obtain rfl := Option.some.inj h
    exact z_iret M dt_X3_yearsOf_0.1.2.1.1
theorem k_X3_yearsOf {n : Nat} (M : zM l D zcl (zty cy) A ad (zR n) (cW a cy) own cc nL rt σo ov G) {p0 : Int32} {o : (Zst × Int32)} (h : f_X3_yearsOf σ p0 = some o) {index : Nat} (hl : Cond.methodLink own index yX3_yearsOf ∈ uw) (hR : 4 ≤ n) (hW : (st.map fun v => v.category).sum ≤ 8) (d : decode cc pc = .ok (.invokevirtual index, 3)) (kk : G o.1 lv (pc + 3) (.int o.2 :: st)) : G σ lv pc (.int p0 :: .ref (a 46) :: st) := z_callV M [.int p0] (m_X3_yearsOf (zM_hD M) h) (hC46 σ) rfl hl u98 u1292 u1290 u1291 hd_X3_yearsOf hR (by decide) rfl hW d kk
set_option maxHeartbeats 4000000 in
set_option maxRecDepth 100000 in
theorem m_X11_year (hD : ∀ σ, va_D A (cW a cy σ)) {σ : Zst} {p0 : Int32} {o : (Zst × Int32)} (h : f_X11_year σ p0 = some o) : zT l D zcl (zty cy) A ad (cW a cy) yX11_year cX11_year 2 (some .int) 4 [.ref (a 0), .int p0] σ o.1 (some (.int o.2)) := by
  refine z_met pn_X11 hD (Nat.le_of_ble_eq_true rfl) rfl (fun G M => ?_)
  refine z_aload_n M dt_X11_year_0.1.1.1 rfl 0 rfl ?_
  refine gf_X11_mound M u439 dt_X11_year_0.1.1.2 ?_
  refine z_iload_n M dt_X11_year_0.1.2 rfl 1 rfl ?_
  obtain ⟨t1, hc, h⟩ := gBd h
  refine k_X3_yearsOf M hc u1289 (Nat.le_of_ble_eq_true rfl) (Nat.le_of_ble_eq_true rfl) dt_X11_year_0.2.1 ?_
  obtain rfl := Option.some.inj h
  exact z_iret M dt_X11_year_0.2.2
set_option maxHeartbeats 4000000 in
set_option maxRecDepth 100000 in
theorem wL_X3_fewestOut_7 {o : (Zst × Int32)} (M : zM l D zcl (zty cy) A ad (zR 3) (cW a cy) RX3 cX3_fewestOut 3 (some .int) o.1 (some (.int o.2)) G) {k49 : Int32 → Option (Zst × Int32)} (σ : Zst)  (Hk49 : ∀ (w1 : Int32), k49 w1 = some o → G σ [(0, .ref (a 46)), (1, .int w1)] 49 []) :
    ∀ (n7 : Nat) (v1 : Int32) (v2 : Int32), L_X3_fewestOut_7 k49 σ n7 v1 v2 = some o → G σ [(0, .ref (a 46)), (1, .int v1), (2, .int v2)] 7 [] := by
  intro n7
  induction n7 with
  | zero => intro v1 v2 h; exact nomatch (show (none : Option (Zst × Int32)) = some _ from h)
  | succ n7 ih =>
    intro v1 v2 h
    refine z_iload_n M dt_X3_fewestOut_0.1.2.1.2 rfl 2 rfl ?_
    refine z_aload_n M dt_X3_fewestOut_0.1.2.2.1 rfl 0 rfl ?_
    refine k_X3_allPapers M u1293 (Nat.le_of_ble_eq_true rfl) (Nat.le_of_ble_eq_true rfl) dt_X3_fewestOut_0.1.2.2.2 ?_
    refine z_icmp_gt (tgt := 49) M dt_X3_fewestOut_0.2.1.1.1 (by decide) (fun hc => ?_) (fun hc => ?_)
    · have h := gIt hc h
      refine z_sub M [0, 1] (lv' := [(0, .ref (a 46)), (1, .int v1)]) rfl ?_
      exact Hk49 v1 h
    · have h := gIf hc h
      refine z_iload_n M dt_X3_fewestOut_0.2.1.1.2 rfl 2 rfl ?_
      refine k_J6_bitCount_0f7a4 M u1322 (Nat.le_of_ble_eq_true rfl) (Nat.le_of_ble_eq_true rfl) dt_X3_fewestOut_0.2.1.2.1 ?_
      refine z_iload_n M dt_X3_fewestOut_0.2.1.2.2 rfl 1 rfl ?_
      refine k_J6_bitCount_0f7a4 M u1322 (Nat.le_of_ble_eq_true rfl) (Nat.le_of_ble_eq_true rfl) dt_X3_fewestOut_0.2.2.1.1 ?_
      refine z_icmp_ge (tgt := 43) M dt_X3_fewestOut_0.2.2.1.2 (by decide) (fun hc => ?_) (fun hc => ?_)
      · have h := gIt hc h
        refine z_iinc (v := (v2 + (1 : Int32))) (lv' := [(2, .int (v2 + (1 : Int32))), (0, .ref (a 46)), (1, .int v1)]) M dt_X3_fewestOut_1.2.1.1.2 (k := 2) rfl (congrArg (fun q => v2 + q) ki_1) (by decide) rfl ?_
        refine z_goto (tgt := 7) M dt_X3_fewestOut_1.2.1.2.1 (by decide) ?_
        refine z_sub M [1, 2, 0] (lv' := [(0, .ref (a 46)), (1, .int v1), (2, .int (v2 + (1 : Int32)))]) rfl ?_
        exact ih v1 (v2 + (1 : Int32)) h
      · have h := gIf hc h
        refine z_aload_n M dt_X3_fewestOut_0.2.2.2.1 rfl 0 rfl ?_
        refine z_aload_n M dt_X3_fewestOut_0.2.2.2.2 rfl 0 rfl ?_
        refine k_X3_allPapers M u1293 (Nat.le_of_ble_eq_true rfl) (Nat.le_of_ble_eq_true rfl) dt_X3_fewestOut_1.1.1.1.1 ?_
        refine z_iload_n M dt_X3_fewestOut_1.1.1.1.2 rfl 2 rfl ?_
        refine z_iconst M dt_X3_fewestOut_1.1.1.2.1 ki_m1 ?_
        refine z_ixor M dt_X3_fewestOut_1.1.1.2.2 ?_
        refine z_iand M dt_X3_fewestOut_1.1.2.1.1 ?_
        obtain ⟨t1, hc, h⟩ := gBd h
        refine k_X3_goTogether M hc u1297 (Nat.le_of_ble_eq_true rfl) (Nat.le_of_ble_eq_true rfl) dt_X3_fewestOut_1.1.2.1.2 ?_
        refine z_if_eq (tgt := 43) M dt_X3_fewestOut_1.1.2.2.1 (by decide) (fun hc => ?_) (fun hc => ?_)
        · have h := gIt hc h
          refine z_iinc (v := (v2 + (1 : Int32))) (lv' := [(2, .int (v2 + (1 : Int32))), (0, .ref (a 46)), (1, .int v1)]) M dt_X3_fewestOut_1.2.1.1.2 (k := 2) rfl (congrArg (fun q => v2 + q) ki_1) (by decide) rfl ?_
          refine z_goto (tgt := 7) M dt_X3_fewestOut_1.2.1.2.1 (by decide) ?_
          refine z_sub M [1, 2, 0] (lv' := [(0, .ref (a 46)), (1, .int v1), (2, .int (v2 + (1 : Int32)))]) rfl ?_
          exact ih v1 (v2 + (1 : Int32)) h
        · have h := gIf hc h
          refine z_iload_n M dt_X3_fewestOut_1.1.2.2.2 rfl 2 rfl ?_
          refine z_istore_n (lv' := [(1, .int v2), (0, .ref (a 46)), (2, .int v2)]) M dt_X3_fewestOut_1.2.1.1.1 rfl (by decide) rfl ?_
          refine z_iinc (v := (v2 + (1 : Int32))) (lv' := [(2, .int (v2 + (1 : Int32))), (1, .int v2), (0, .ref (a 46))]) M dt_X3_fewestOut_1.2.1.1.2 (k := 2) rfl (congrArg (fun q => v2 + q) ki_1) (by decide) rfl ?_
          refine z_goto (tgt := 7) M dt_X3_fewestOut_1.2.1.2.1 (by decide) ?_
          refine z_sub M [2, 1, 0] (lv' := [(0, .ref (a 46)), (1, .int v2), (2, .int (v2 + (1 : Int32)))]) rfl ?_
          exact ih v2 (v2 + (1 : Int32)) h
set_option maxHeartbeats 4000000 in
set_option maxRecDepth 100000 in
theorem wJ_X3_fewestOut_49 {o : (Zst × Int32)} (M : zM l D zcl (zty cy) A ad (zR 3) (cW a cy) RX3 cX3_fewestOut 3 (some .int) o.1 (some (.int o.2)) G) (σ : Zst) (v1 : Int32)  (h : J_X3_fewestOut_49 σ v1 = some o) : G σ [(0, .ref (a 46)), (1, .int v1)] 49 [] := by
  refine z_aload_n M dt_X3_fewestOut_1.2.1.2.2 rfl 0 rfl ?_
  refine gf_X3_row M u409 dt_X3_fewestOut_1.2.2.1.1 ?_
  obtain ⟨t2, hc, h⟩ := gBd h
  refine k_X5_clear M hc u1312 (Nat.le_of_ble_eq_true rfl) (Nat.le_of_ble_eq_true rfl) dt_X3_fewestOut_1.2.2.1.2 ?_
  refine z_iload_n M dt_X3_fewestOut_1.2.2.2.1 rfl 1 rfl ?_
  refine z_i2l M dt_X3_fewestOut_1.2.2.2.2 ?_
  obtain ⟨t3, hc, h⟩ := gBd h
  refine k_X5_add M hc u1313 (Nat.le_of_ble_eq_true rfl) (Nat.le_of_ble_eq_true rfl) dt_X3_fewestOut_2.1.1.1 ?_
  refine z_pop M dt_X3_fewestOut_2.1.1.2 rfl ?_
  refine z_iload_n M dt_X3_fewestOut_2.1.2 rfl 1 rfl ?_
  refine k_J6_bitCount_0f7a4 M u1322 (Nat.le_of_ble_eq_true rfl) (Nat.le_of_ble_eq_true rfl) dt_X3_fewestOut_2.2.1 ?_
  obtain rfl := Option.some.inj h
  exact z_iret M dt_X3_fewestOut_2.2.2
set_option maxHeartbeats 4000000 in
set_option maxRecDepth 100000 in
theorem m_X3_fewestOut (hD : ∀ σ, va_D A (cW a cy σ)) {σ : Zst}  {o : (Zst × Int32)} (h : f_X3_fewestOut σ = some o) : zT l D zcl (zty cy) A ad (cW a cy) yX3_fewestOut cX3_fewestOut 3 (some .int) 3 [.ref (a 46)] σ o.1 (some (.int o.2)) := by
  refine z_met pn_X3 hD (Nat.le_of_ble_eq_true rfl) rfl (fun G M => ?_)
  refine z_aload_n M dt_X3_fewestOut_0.1.1.1.1 rfl 0 rfl ?_
  refine k_X3_allPapers M u1293 (Nat.le_of_ble_eq_true rfl) (Nat.le_of_ble_eq_true rfl) dt_X3_fewestOut_0.1.1.1.2 ?_
  refine z_istore_n (lv' := [(1, .int (f_X3_allPapers σ)), (0, .ref (a 46))]) M dt_X3_fewestOut_0.1.1.2.1 rfl (by decide) rfl ?_
  refine z_iconst M dt_X3_fewestOut_0.1.1.2.2 ki_0 ?_
  refine z_istore_n (lv' := [(2, .int (0 : Int32)), (1, .int (f_X3_allPapers σ)), (0, .ref (a 46))]) M dt_X3_fewestOut_0.1.2.1.1 rfl (by decide) rfl ?_
  refine z_sub M [2, 1, 0] (lv' := [(0, .ref (a 46)), (1, .int (f_X3_allPapers σ)), (2, .int (0 : Int32))]) rfl ?_
  exact wL_X3_fewestOut_7 M (k49 := (fun w4 => J_X3_fewestOut_49 σ w4)) σ (fun w4 h => by
      exact wJ_X3_fewestOut_49 M  σ w4 h) zFu (f_X3_allPapers σ) (0 : Int32) h
theorem k_X3_fewestOut {n : Nat} (M : zM l D zcl (zty cy) A ad (zR n) (cW a cy) own cc nL rt σo ov G)  {o : (Zst × Int32)} (h : f_X3_fewestOut σ = some o) {index : Nat} (hl : Cond.methodLink own index yX3_fewestOut ∈ uw) (hR : 4 ≤ n) (hW : (st.map fun v => v.category).sum ≤ 8) (d : decode cc pc = .ok (.invokevirtual index, 3)) (kk : G o.1 lv (pc + 3) (.int o.2 :: st)) : G σ lv pc (.ref (a 46) :: st) := z_callV M [] (m_X3_fewestOut (zM_hD M) h) (hC46 σ) rfl hl u98 u1321 u1319 u1320 hd_X3_fewestOut hR (by decide) rfl hW d kk
set_option maxHeartbeats 4000000 in
set_option maxRecDepth 100000 in
theorem m_X11_stray (hD : ∀ σ, va_D A (cW a cy σ)) {σ : Zst}  {o : (Zst × Int32)} (h : f_X11_stray σ = some o) : zT l D zcl (zty cy) A ad (cW a cy) yX11_stray cX11_stray 1 (some .int) 4 [.ref (a 0)] σ o.1 (some (.int o.2)) := by
  refine z_met pn_X11 hD (Nat.le_of_ble_eq_true rfl) rfl (fun G M => ?_)
  refine z_aload_n M dt_X11_stray_0.1.1 rfl 0 rfl ?_
  refine gf_X11_mound M u439 dt_X11_stray_0.1.2 ?_
  obtain ⟨t1, hc, h⟩ := gBd h
  refine k_X3_fewestOut M hc u1318 (Nat.le_of_ble_eq_true rfl) (Nat.le_of_ble_eq_true rfl) dt_X11_stray_0.2.1 ?_
  obtain rfl := Option.some.inj h
  exact z_iret M dt_X11_stray_0.2.2
set_option maxHeartbeats 4000000 in
set_option maxRecDepth 100000 in
theorem m_X10_lastsOf (hD : ∀ σ, va_D A (cW a cy σ)) {σ0 : Zst} {p0 : Int32} {o : Int32} (h : f_X10_lastsOf σ0 p0 = some o) : zT l D zcl (zty cy) A ad (cW a cy) yX10_lastsOf cX10_lastsOf 2 (some .int) 2 [.ref (a 17), .int p0] σ0 σ0 (some (.int o)) := by
  refine z_met pn_X10 hD (Nat.le_of_ble_eq_true rfl) rfl (fun G M => ?_)
  refine z_aload_n M dt_X10_lastsOf_0.1.1.1.1 rfl 0 rfl ?_
  refine z_iload_n M dt_X10_lastsOf_0.1.1.1.2 rfl 1 rfl ?_
  refine k_X10_hasSort M u480 (Nat.le_of_ble_eq_true rfl) (Nat.le_of_ble_eq_true rfl) dt_X10_lastsOf_0.1.1.2 ?_
  refine z_if_eq (tgt := 17) M dt_X10_lastsOf_0.1.2.1.1 (by decide) (fun hc => ?_) (fun hc => ?_)
  · have h := gIt hc h
    refine z_iconst M dt_X10_lastsOf_0.2.2.1 ki_1 ?_
    obtain rfl := Option.some.inj h
    exact z_iret M dt_X10_lastsOf_0.2.2.2
  · have h := gIf hc h
    refine z_aload_n M dt_X10_lastsOf_0.1.2.1.2 rfl 0 rfl ?_
    refine gf_X10_lasts M u228 dt_X10_lastsOf_0.1.2.2 ?_
    refine z_iload_n M dt_X10_lastsOf_0.2.1.1.1 rfl 1 rfl ?_
    have ⟨hg, h⟩ := gIx_s h
    refine al_C20 (σ := σ0) M (f := (σ0.2.1 12)) rfl hg dt_X10_lastsOf_0.2.1.1.2 ?_
    refine z_goto (tgt := 18) M dt_X10_lastsOf_0.2.1.2 (by decide) ?_
    obtain rfl := Option.some.inj h
    exact z_iret M dt_X10_lastsOf_0.2.2.2
theorem k_X10_lastsOf {n : Nat} (M : zM l D zcl (zty cy) A ad (zR n) (cW a cy) own cc nL rt σo ov G) {p0 : Int32} {o : Int32} (h : f_X10_lastsOf σ p0 = some o) {index : Nat} (hl : Cond.methodLink own index yX10_lastsOf ∈ uw) (hR : 3 ≤ n) (hW : (st.map fun v => v.category).sum ≤ 8) (d : decode cc pc = .ok (.invokevirtual index, 3)) (kk : G σ lv (pc + 3) (.int o :: st)) : G σ lv pc (.int p0 :: .ref (a 17) :: st) := z_callV M [.int p0] (m_X10_lastsOf (zM_hD M) h) (hC17 σ) rfl hl u93 u1335 u1333 u1334 hd_X10_lastsOf hR (by decide) rfl hW d kk
set_option maxHeartbeats 4000000 in
set_option maxRecDepth 100000 in
theorem wL_X3_grown_20 {o : Int64} (M : zM l D zcl0 tys A ad (zR 2) wf RX3 cX3_grown 9 (some .long) σ0 (some (.long o)) G) {k47 : Int64 → Int64 → Option Int64}  (v1 : Int32) (v3 : Int32) (Hk47 : ∀ (w4 : Int64) (w6 : Int64), k47 w4 w6 = some o → G σ0 [(4, .long w4), (6, .long w6)] 47 []) :
    ∀ (n20 : Nat) (v4 : Int64) (v6 : Int64) (v8 : Int32), L_X3_grown_20 k47 v1 v3 n20 v4 v6 v8 = some o → G σ0 [(1, .int v1), (3, .int v3), (4, .long v4), (6, .long v6), (8, .int v8)] 20 [] := by
  intro n20
  induction n20 with
  | zero => intro v4 v6 v8 h; exact nomatch (show (none : Option Int64) = some _ from h)
  | succ n20 ih =>
    intro v4 v6 v8 h
    refine z_iload M dt_X3_grown_0.2.2.2.1 4 rfl ?_
    refine z_iload_n M dt_X3_grown_0.2.2.2.2 rfl 1 rfl ?_
    refine z_icmp_ge (tgt := 47) M dt_X3_grown_1.1.1.1.1 (by decide) (fun hc => ?_) (fun hc => ?_)
    · have h := gIt hc h
      refine z_sub M [2, 3] (lv' := [(4, .long v4), (6, .long v6)]) rfl ?_
      exact Hk47 v4 v6 h
    · have h := gIf hc h
      refine z_lload M dt_X3_grown_1.1.1.1.2 2 rfl ?_
      refine z_ldc2 M dt_X3_grown_1.1.1.2.1 u1340 ?_
      refine z_lmul M dt_X3_grown_1.1.1.2.2 ?_
      refine z_lstore (lv' := [(4, .long (v4 * (100 : Int64))), (1, .int v1), (3, .int v3), (6, .long v6), (8, .int v8)]) M dt_X3_grown_1.1.2.1.1 (by decide) rfl ?_
      refine z_lload M dt_X3_grown_1.1.2.1.2 3 rfl ?_
      refine z_iload_n M dt_X3_grown_1.1.2.2.1 rfl 1 rfl ?_
      refine z_i2l M dt_X3_grown_1.1.2.2.2 ?_
      refine z_lmul M dt_X3_grown_1.2.1.1.1 ?_
      refine z_lstore (lv' := [(6, .long (v6 * (Int32.toInt64 v1))), (4, .long (v4 * (100 : Int64))), (1, .int v1), (3, .int v3), (8, .int v8)]) M dt_X3_grown_1.2.1.1.2 (by decide) rfl ?_
      refine z_iinc (v := (v8 + (1 : Int32))) (lv' := [(8, .int (v8 + (1 : Int32))), (6, .long (v6 * (Int32.toInt64 v1))), (4, .long (v4 * (100 : Int64))), (1, .int v1), (3, .int v3)]) M dt_X3_grown_1.2.1.2.1 (k := 4) rfl (congrArg (fun q => v8 + q) ki_1) (by decide) rfl ?_
      refine z_goto (tgt := 20) M dt_X3_grown_1.2.1.2.2 (by decide) ?_
      refine z_sub M [3, 4, 2, 1, 0] (lv' := [(1, .int v1), (3, .int v3), (4, .long (v4 * (100 : Int64))), (6, .long (v6 * (Int32.toInt64 v1))), (8, .int (v8 + (1 : Int32)))]) rfl ?_
      exact ih (v4 * (100 : Int64)) (v6 * (Int32.toInt64 v1)) (v8 + (1 : Int32)) h
set_option maxHeartbeats 4000000 in
set_option maxRecDepth 100000 in
theorem wJ_X3_grown_47 {o : Int64} (M : zM l D zcl0 tys A ad (zR 2) wf RX3 cX3_grown 9 (some .long) σ0 (some (.long o)) G)  (v4 : Int64) (v6 : Int64)  (h : J_X3_grown_47 v4 v6 = some o) : G σ0 [(4, .long v4), (6, .long v6)] 47 [] := by
  refine z_lload M dt_X3_grown_1.2.2.1.1 1 rfl ?_
  refine z_lconst (v := 0) M dt_X3_grown_1.2.2.1.2 (by decide) ?_
  refine z_lcmp_le (tgt := 62) M dt_X3_grown_1.2.2.2.1 dt_X3_grown_1.2.2.2.2 (by decide) (fun hc => ?_) (fun hc => ?_)
  · have h := gIt hc h
    refine z_lconst (v := 0) M dt_X3_grown_2.2.1.2 (by decide) ?_
    obtain rfl := Option.some.inj h
    exact z_lret M dt_X3_grown_2.2.2
  · have h := gIf hc h
    refine z_lload M dt_X3_grown_2.1.1.1 0 rfl ?_
    refine z_lload M dt_X3_grown_2.1.1.2 1 rfl ?_
    have ⟨hg, h⟩ := gNzL_s h
    refine z_ldiv M dt_X3_grown_2.1.2 hg ?_
    refine z_goto (tgt := 63) M dt_X3_grown_2.2.1.1 (by decide) ?_
    obtain rfl := Option.some.inj h
    exact z_lret M dt_X3_grown_2.2.2
set_option maxHeartbeats 4000000 in
set_option maxRecDepth 100000 in
theorem m_X3_grown (hD : ∀ σ, va_D A (wf σ)) {σ0 : Zst} {p0 : Int32} {p1 : Int32} {p2 : Int32} {o : Int64} (h : f_X3_grown p0 p1 p2 = some o) : zT l D zcl0 tys A ad wf yX3_grown cX3_grown 9 (some .long) 2 [.int p0, .int p1, .int p2] σ0 σ0 (some (.long o)) := by
  refine z_met pn_X3 hD (Nat.le_of_ble_eq_true rfl) rfl (fun G M => ?_)
  refine z_iload_n M dt_X3_grown_0.1.1.1.1 rfl 2 rfl ?_
  refine z_bipush M dt_X3_grown_0.1.1.1.2 kb_10 ?_
  refine z_idiv M dt_X3_grown_0.1.1.2.1 (by decide) ?_
  refine z_iconst M dt_X3_grown_0.1.1.2.2 ki_0 ?_
  refine z_iconst M dt_X3_grown_0.1.2.1.1 ki_4 ?_
  refine kn_X11_within M u1339 (Nat.le_of_ble_eq_true rfl) (Nat.le_of_ble_eq_true rfl) dt_X3_grown_0.1.2.1.2 ?_
  refine z_istore_n (lv' := [(3, .int (f_X11_within (p2 / (10 : Int32)) (0 : Int32) (4 : Int32))), (0, .int p0), (1, .int p1), (2, .int p2)]) M dt_X3_grown_0.1.2.2.1 rfl (by decide) rfl ?_
  refine z_iload_n M dt_X3_grown_0.1.2.2.2 rfl 1 rfl ?_
  refine z_i2l M dt_X3_grown_0.2.1.1.1 ?_
  refine z_lstore (lv' := [(4, .long (Int32.toInt64 p0)), (3, .int (f_X11_within (p2 / (10 : Int32)) (0 : Int32) (4 : Int32))), (0, .int p0), (1, .int p1), (2, .int p2)]) M dt_X3_grown_0.2.1.1.2 (by decide) rfl ?_
  refine z_lconst (v := 1) M dt_X3_grown_0.2.1.2.1 (by decide) ?_
  refine z_lstore (lv' := [(6, .long (1 : Int64)), (4, .long (Int32.toInt64 p0)), (3, .int (f_X11_within (p2 / (10 : Int32)) (0 : Int32) (4 : Int32))), (0, .int p0), (1, .int p1), (2, .int p2)]) M dt_X3_grown_0.2.1.2.2 (by decide) rfl ?_
  refine z_iconst M dt_X3_grown_0.2.2.1.1 ki_0 ?_
  refine z_istore (lv' := [(8, .int (0 : Int32)), (6, .long (1 : Int64)), (4, .long (Int32.toInt64 p0)), (3, .int (f_X11_within (p2 / (10 : Int32)) (0 : Int32) (4 : Int32))), (0, .int p0), (1, .int p1), (2, .int p2)]) M dt_X3_grown_0.2.2.1.2 (by decide) rfl ?_
  refine z_sub M [5, 3, 2, 1, 0] (lv' := [(1, .int p1), (3, .int (f_X11_within (p2 / (10 : Int32)) (0 : Int32) (4 : Int32))), (4, .long (Int32.toInt64 p0)), (6, .long (1 : Int64)), (8, .int (0 : Int32))]) rfl ?_
  exact wL_X3_grown_20 M (k47 := (fun w1 w2 => J_X3_grown_47 w1 w2)) p1 (f_X11_within (p2 / (10 : Int32)) (0 : Int32) (4 : Int32)) (fun w1 w2 h => by
      exact wJ_X3_grown_47 M  w1 w2 h) zFu (Int32.toInt64 p0) (1 : Int64) (0 : Int32) h
theorem k_X3_grown {n : Nat} (M : zM l D zcl0 tys A ad (zR n) wf own cc nL rt σo ov G) {p0 : Int32} {p1 : Int32} {p2 : Int32} {o : Int64} (h : f_X3_grown p0 p1 p2 = some o) {index : Nat} (hl : Cond.methodLink own index yX3_grown ∈ uw) (hR : 3 ≤ n) (hW : (st.map fun v => v.category).sum ≤ 8) (d : decode cc pc = .ok (.invokestatic index, 3)) (kk : G σ lv (pc + 3) (.long o :: st)) : G σ lv pc (.int p2 :: .int p1 :: .int p0 :: st) := z_callS M [.int p0, .int p1, .int p2] (m_X3_grown (zM_hD M) h) hl u98 u1338 u1337 hd_X3_grown hR (by decide) rfl hW d kk
set_option maxHeartbeats 4000000 in
set_option maxRecDepth 100000 in
theorem m_X3_thrownOnce (hD : ∀ σ, va_D A (cW a cy σ)) {σ : Zst} {p0 : Int32} {p1 : Int32} {p2 : Int32} {p3 : Int32} {o : (Zst × Int32)} (h : f_X3_thrownOnce σ p0 p1 p2 p3 = some o) : zT l D zcl (zty cy) A ad (cW a cy) yX3_thrownOnce cX3_thrownOnce 7 (some .int) 3 [.ref (a 46), .int p0, .int p1, .int p2, .int p3] σ o.1 (some (.int o.2)) := by
  refine z_met pn_X3 hD (Nat.le_of_ble_eq_true rfl) rfl (fun G M => ?_)
  refine z_iload_n M dt_X3_thrownOnce_0.1.1.1.1 rfl 3 rfl ?_
  refine z_iconst M dt_X3_thrownOnce_0.1.1.1.2 ki_0 ?_
  refine z_sipush M dt_X3_thrownOnce_0.1.1.2.1 ks_9999 ?_
  refine kn_X11_between M u1280 (Nat.le_of_ble_eq_true rfl) (Nat.le_of_ble_eq_true rfl) dt_X3_thrownOnce_0.1.1.2.2 ?_
  have hJ3 : G σ [(0, .ref (a 46)), (1, .int p0), (2, .int p1), (3, .int p2), (4, .int p3)] 30 [.int (if (f_X11_between p2 (0 : Int32) (9999 : Int32)) = (0 : Int32) then (0 : Int32) else (if (f_X11_between p3 (1900 : Int32) (2100 : Int32)) = (0 : Int32) then (0 : Int32) else (1 : Int32)))] := by
    refine z_istore (lv' := [(5, .int (if (f_X11_between p2 (0 : Int32) (9999 : Int32)) = (0 : Int32) then (0 : Int32) else (if (f_X11_between p3 (1900 : Int32) (2100 : Int32)) = (0 : Int32) then (0 : Int32) else (1 : Int32)))), (0, .ref (a 46)), (1, .int p0), (2, .int p1), (3, .int p2), (4, .int p3)]) M dt_X3_thrownOnce_0.2.2.1.2 (by decide) rfl ?_
    refine z_iload_n M dt_X3_thrownOnce_0.2.2.2.1 rfl 2 rfl ?_
    refine k_X3_isLayer M u1277 (Nat.le_of_ble_eq_true rfl) (Nat.le_of_ble_eq_true rfl) dt_X3_thrownOnce_0.2.2.2.2 ?_
    refine z_if_eq (tgt := 55) M dt_X3_thrownOnce_1.1.1.1.1 (by decide) (fun hc => ?_) (fun hc => ?_)
    · have h := gIt hc h
      refine z_iconst M dt_X3_thrownOnce_1.2.1.1.1 ki_m1 ?_
      obtain rfl := Option.some.inj h
      exact z_iret M dt_X3_thrownOnce_1.2.1.1.2
    · have h := gIf hc h
      refine z_aload_n M dt_X3_thrownOnce_1.1.1.1.2 rfl 1 rfl ?_
      refine gf_X3_town M u408 dt_X3_thrownOnce_1.1.1.2.1 ?_
      refine z_iload_n M dt_X3_thrownOnce_1.1.1.2.2 rfl 3 rfl ?_
      refine k_X10_hasSort M u1331 (Nat.le_of_ble_eq_true rfl) (Nat.le_of_ble_eq_true rfl) dt_X3_thrownOnce_1.1.2.1.1 ?_
      refine z_if_eq (tgt := 55) M dt_X3_thrownOnce_1.1.2.1.2 (by decide) (fun hc => ?_) (fun hc => ?_)
      · have h := gIt hc h
        refine z_iconst M dt_X3_thrownOnce_1.2.1.1.1 ki_m1 ?_
        obtain rfl := Option.some.inj h
        exact z_iret M dt_X3_thrownOnce_1.2.1.1.2
      · have h := gIf hc h
        refine z_iload M dt_X3_thrownOnce_1.1.2.2.1 0 rfl ?_
        refine z_if_ne (tgt := 57) M dt_X3_thrownOnce_1.1.2.2.2 (by decide) (fun hc => ?_) (fun hc => ?_)
        · have h := gIf hc h
          refine z_aload_n M dt_X3_thrownOnce_1.2.1.2.1 rfl 1 rfl ?_
          refine z_aload_n M dt_X3_thrownOnce_1.2.1.2.2 rfl 1 rfl ?_
          refine k_X3_allPapers M u1293 (Nat.le_of_ble_eq_true rfl) (Nat.le_of_ble_eq_true rfl) dt_X3_thrownOnce_1.2.2.1.1 ?_
          obtain ⟨t4, hc, h⟩ := gBd h
          refine k_X3_goTogether M hc u1297 (Nat.le_of_ble_eq_true rfl) (Nat.le_of_ble_eq_true rfl) dt_X3_thrownOnce_1.2.2.1.2 ?_
          refine z_if_ne (tgt := 71) M dt_X3_thrownOnce_1.2.2.2.1 (by decide) (fun hc => ?_) (fun hc => ?_)
          · have h := gIf hc h
            refine z_aload_n M dt_X3_thrownOnce_2.1.1.1.2 rfl 1 rfl ?_
            refine gf_X3_town M u408 dt_X3_thrownOnce_2.1.1.2.1 ?_
            refine z_iload_n M dt_X3_thrownOnce_2.1.1.2.2 rfl 3 rfl ?_
            obtain ⟨t5, hc, h⟩ := gBd h
            refine k_X10_lastsOf M hc u1332 (Nat.le_of_ble_eq_true rfl) (Nat.le_of_ble_eq_true rfl) dt_X3_thrownOnce_2.1.2.1.1 ?_
            refine z_istore (lv' := [(6, .int t5), (5, .int (if (f_X11_between p2 (0 : Int32) (9999 : Int32)) = (0 : Int32) then (0 : Int32) else (if (f_X11_between p3 (1900 : Int32) (2100 : Int32)) = (0 : Int32) then (0 : Int32) else (1 : Int32)))), (0, .ref (a 46)), (1, .int p0), (2, .int p1), (3, .int p2), (4, .int p3)]) M dt_X3_thrownOnce_2.1.2.1.2 (by decide) rfl ?_
            refine z_aload_n M dt_X3_thrownOnce_2.1.2.2.1 rfl 2 rfl ?_
            refine gf_X3_row M u409 dt_X3_thrownOnce_2.1.2.2.2 ?_
            obtain ⟨t6, hc, h⟩ := gBd h
            refine k_X5_clear M hc u1312 (Nat.le_of_ble_eq_true rfl) (Nat.le_of_ble_eq_true rfl) dt_X3_thrownOnce_2.2.1.1.1 ?_
            refine z_pop M dt_X3_thrownOnce_2.2.1.1.2 rfl ?_
            refine z_aload_n M dt_X3_thrownOnce_2.2.1.2.1 rfl 2 rfl ?_
            refine gf_X3_row M u409 dt_X3_thrownOnce_2.2.1.2.2 ?_
            refine z_iload_n M dt_X3_thrownOnce_2.2.2.1.1 rfl 5 rfl ?_
            refine z_iload M dt_X3_thrownOnce_2.2.2.1.2 0 rfl ?_
            refine z_iload M dt_X3_thrownOnce_2.2.2.2.1 6 rfl ?_
            refine z_aload_n M dt_X3_thrownOnce_2.2.2.2.2 rfl 2 rfl ?_
            refine z_iload_n M dt_X3_thrownOnce_3.1.1.1.1 rfl 3 rfl ?_
            obtain ⟨t7, hc, h⟩ := gBd h
            refine k_X3_lastYearOf M hc u1307 (Nat.le_of_ble_eq_true rfl) (Nat.le_of_ble_eq_true rfl) dt_X3_thrownOnce_3.1.1.1.2 ?_
            refine z_isub M dt_X3_thrownOnce_3.1.1.2.1 ?_
            obtain ⟨t8, hc, h⟩ := gBd h
            refine k_X3_grown M hc u1336 (Nat.le_of_ble_eq_true rfl) (Nat.le_of_ble_eq_true rfl) dt_X3_thrownOnce_3.1.1.2.2 ?_
            obtain ⟨t9, hc, h⟩ := gBd h
            refine k_X5_add M hc u1313 (Nat.le_of_ble_eq_true rfl) (Nat.le_of_ble_eq_true rfl) dt_X3_thrownOnce_3.1.2.1.1 ?_
            refine z_pop M dt_X3_thrownOnce_3.1.2.1.2 rfl ?_
            refine z_aload_n M dt_X3_thrownOnce_3.1.2.2.1 rfl 2 rfl ?_
            refine gf_X3_row M u409 dt_X3_thrownOnce_3.1.2.2.2 ?_
            refine z_iload_n M dt_X3_thrownOnce_3.2.1.1.1 rfl 5 rfl ?_
            refine z_iload M dt_X3_thrownOnce_3.2.1.1.2 0 rfl ?_
            refine z_iload M dt_X3_thrownOnce_3.2.1.2.1 6 rfl ?_
            refine z_aload_n M dt_X3_thrownOnce_3.2.1.2.2 rfl 2 rfl ?_
            refine z_iload_n M dt_X3_thrownOnce_3.2.2.1.1 rfl 3 rfl ?_
            obtain ⟨t10, hc, h⟩ := gBd h
            refine k_X3_firstYearOf M hc u1302 (Nat.le_of_ble_eq_true rfl) (Nat.le_of_ble_eq_true rfl) dt_X3_thrownOnce_3.2.2.1.2 ?_
            refine z_isub M dt_X3_thrownOnce_3.2.2.2.1 ?_
            obtain ⟨t11, hc, h⟩ := gBd h
            refine k_X3_grown M hc u1336 (Nat.le_of_ble_eq_true rfl) (Nat.le_of_ble_eq_true rfl) dt_X3_thrownOnce_3.2.2.2.2 ?_
            obtain ⟨t12, hc, h⟩ := gBd h
            refine k_X5_add M hc u1313 (Nat.le_of_ble_eq_true rfl) (Nat.le_of_ble_eq_true rfl) dt_X3_thrownOnce_4.1.1 ?_
            refine z_pop M dt_X3_thrownOnce_4.1.2 rfl ?_
            refine z_iconst M dt_X3_thrownOnce_4.2.1 ki_0 ?_
            obtain rfl := Option.some.inj h
            exact z_iret M dt_X3_thrownOnce_4.2.2
          · have h := gIt hc h
            refine z_bipush M dt_X3_thrownOnce_1.2.2.2.2 kb_m2 ?_
            obtain rfl := Option.some.inj h
            exact z_iret M dt_X3_thrownOnce_2.1.1.1.1
        · have h := gIt hc h
          refine z_iconst M dt_X3_thrownOnce_1.2.1.1.1 ki_m1 ?_
          obtain rfl := Option.some.inj h
          exact z_iret M dt_X3_thrownOnce_1.2.1.1.2
  refine z_if_eq (tgt := 29) M dt_X3_thrownOnce_0.1.2.1.1 (by decide) (fun hc1 => ?_) (fun hc1 => ?_)
  · refine z_iconst M dt_X3_thrownOnce_0.2.2.1.1 ki_0 ?_
    exact (zTt hc1 hJ3)
  · refine z_iload M dt_X3_thrownOnce_0.1.2.1.2 4 rfl ?_
    refine z_sipush M dt_X3_thrownOnce_0.1.2.2.1 ks_1900 ?_
    refine z_sipush M dt_X3_thrownOnce_0.1.2.2.2 ks_2100 ?_
    refine kn_X11_between M u1280 (Nat.le_of_ble_eq_true rfl) (Nat.le_of_ble_eq_true rfl) dt_X3_thrownOnce_0.2.1.1.1 ?_
    refine z_if_eq (tgt := 29) M dt_X3_thrownOnce_0.2.1.1.2 (by decide) (fun hc2 => ?_) (fun hc2 => ?_)
    · refine z_iconst M dt_X3_thrownOnce_0.2.2.1.1 ki_0 ?_
      exact (zTt hc2 (zTf hc1 hJ3))
    · refine z_iconst M dt_X3_thrownOnce_0.2.1.2.1 ki_1 ?_
      refine z_goto (tgt := 30) M dt_X3_thrownOnce_0.2.1.2.2 (by decide) ?_
      exact (zTf hc2 (zTf hc1 hJ3))
theorem k_X3_thrownOnce {n : Nat} (M : zM l D zcl (zty cy) A ad (zR n) (cW a cy) own cc nL rt σo ov G) {p0 : Int32} {p1 : Int32} {p2 : Int32} {p3 : Int32} {o : (Zst × Int32)} (h : f_X3_thrownOnce σ p0 p1 p2 p3 = some o) {index : Nat} (hl : Cond.methodLink own index yX3_thrownOnce ∈ uw) (hR : 4 ≤ n) (hW : (st.map fun v => v.category).sum ≤ 8) (d : decode cc pc = .ok (.invokevirtual index, 3)) (kk : G o.1 lv (pc + 3) (.int o.2 :: st)) : G σ lv pc (.int p3 :: .int p2 :: .int p1 :: .int p0 :: .ref (a 46) :: st) := z_callV M [.int p0, .int p1, .int p2, .int p3] (m_X3_thrownOnce (zM_hD M) h) (hC46 σ) rfl hl u98 u1330 u1328 u1329 hd_X3_thrownOnce hR (by decide) rfl hW d kk
set_option maxHeartbeats 4000000 in
set_option maxRecDepth 100000 in
theorem m_X11_was (hD : ∀ σ, va_D A (cW a cy σ)) {σ : Zst} {p0 : Int32} {p1 : Int32} {p2 : Int32} {p3 : Int32} {o : (Zst × Int32)} (h : f_X11_was σ p0 p1 p2 p3 = some o) : zT l D zcl (zty cy) A ad (cW a cy) yX11_was cX11_was 5 (some .int) 4 [.ref (a 0), .int p0, .int p1, .int p2, .int p3] σ o.1 (some (.int o.2)) := by
  refine z_met pn_X11 hD (Nat.le_of_ble_eq_true rfl) rfl (fun G M => ?_)
  refine z_aload_n M dt_X11_was_0.1.1.1 rfl 0 rfl ?_
  refine gf_X11_mound M u439 dt_X11_was_0.1.1.2 ?_
  refine z_iload_n M dt_X11_was_0.1.2.1 rfl 1 rfl ?_
  refine z_iload_n M dt_X11_was_0.1.2.2 rfl 2 rfl ?_
  refine z_iload_n M dt_X11_was_0.2.1.1 rfl 3 rfl ?_
  refine z_iload M dt_X11_was_0.2.1.2 4 rfl ?_
  obtain ⟨t1, hc, h⟩ := gBd h
  refine k_X3_thrownOnce M hc u1327 (Nat.le_of_ble_eq_true rfl) (Nat.le_of_ble_eq_true rfl) dt_X11_was_0.2.2.1 ?_
  obtain rfl := Option.some.inj h
  exact z_iret M dt_X11_was_0.2.2.2
set_option maxHeartbeats 4000000 in
set_option maxRecDepth 100000 in
theorem m_X10_setTold (hD : ∀ σ, va_D A (cW a cy σ)) {σ : Zst} {p0 : Int32} {p1 : Int32} {o : (Zst × Int32)} (h : f_X10_setTold σ p0 p1 = some o) : zT l D zcl (zty cy) A ad (cW a cy) yX10_setTold cX10_setTold 3 (some .boolean) 3 [.ref (a 17), .int p0, .int p1] σ o.1 (some (.int o.2)) := by
  refine z_met pn_X10 hD (Nat.le_of_ble_eq_true rfl) rfl (fun G M => ?_)
  refine z_aload_n M dt_X10_setTold_0.1.1.1.1 rfl 0 rfl ?_
  refine z_iload_n M dt_X10_setTold_0.1.1.1.2 rfl 1 rfl ?_
  refine k_X10_hasStreet M u753 (Nat.le_of_ble_eq_true rfl) (Nat.le_of_ble_eq_true rfl) dt_X10_setTold_0.1.1.2.1 ?_
  refine z_if_eq (tgt := 20) M dt_X10_setTold_0.1.1.2.2 (by decide) (fun hc => ?_) (fun hc => ?_)
  · have h := gIt hc h
    refine z_iconst M dt_X10_setTold_0.2.1.2.1 ki_0 ?_
    obtain rfl := Option.some.inj h
    exact z_zret M (nBo (Or.inl rfl)) dt_X10_setTold_0.2.1.2.2
  · have h := gIf hc h
    refine z_iload_n M dt_X10_setTold_0.1.2.1.1 rfl 2 rfl ?_
    refine z_iconst M dt_X10_setTold_0.1.2.1.2 ki_m1 ?_
    refine z_icmp_eq (tgt := 22) M dt_X10_setTold_0.1.2.2.1 (by decide) (fun hc => ?_) (fun hc => ?_)
    · have h := gIt hc h
      refine z_aload_n M dt_X10_setTold_0.2.2.1.1 rfl 0 rfl ?_
      refine gf_X10_toldFrom M u234 dt_X10_setTold_0.2.2.1.2 ?_
      refine z_iload_n M dt_X10_setTold_0.2.2.2.1 rfl 1 rfl ?_
      refine z_iload_n M dt_X10_setTold_0.2.2.2.2 rfl 2 rfl ?_
      have ⟨hg, h⟩ := gIx_s h
      refine as_C26 (σ := σ) M (f := (σ.2.1 18)) rfl hg dt_X10_setTold_1.1.1 ?_
      refine z_iconst M dt_X10_setTold_1.1.2 ki_1 ?_
      obtain rfl := Option.some.inj h
      exact z_zret M (nBo (Or.inr rfl)) dt_X10_setTold_1.2
    · have h := gIf hc h
      refine z_iload_n M dt_X10_setTold_0.1.2.2.2 rfl 2 rfl ?_
      refine kn_X11_isWeek M u500 (Nat.le_of_ble_eq_true rfl) (Nat.le_of_ble_eq_true rfl) dt_X10_setTold_0.2.1.1.1 ?_
      refine z_if_ne (tgt := 22) M dt_X10_setTold_0.2.1.1.2 (by decide) (fun hc => ?_) (fun hc => ?_)
      · have h := gIf hc h
        refine z_aload_n M dt_X10_setTold_0.2.2.1.1 rfl 0 rfl ?_
        refine gf_X10_toldFrom M u234 dt_X10_setTold_0.2.2.1.2 ?_
        refine z_iload_n M dt_X10_setTold_0.2.2.2.1 rfl 1 rfl ?_
        refine z_iload_n M dt_X10_setTold_0.2.2.2.2 rfl 2 rfl ?_
        have ⟨hg, h⟩ := gIx_s h
        refine as_C26 (σ := σ) M (f := (σ.2.1 18)) rfl hg dt_X10_setTold_1.1.1 ?_
        refine z_iconst M dt_X10_setTold_1.1.2 ki_1 ?_
        obtain rfl := Option.some.inj h
        exact z_zret M (nBo (Or.inr rfl)) dt_X10_setTold_1.2
      · have h := gIt hc h
        refine z_iconst M dt_X10_setTold_0.2.1.2.1 ki_0 ?_
        obtain rfl := Option.some.inj h
        exact z_zret M (nBo (Or.inl rfl)) dt_X10_setTold_0.2.1.2.2
theorem k_X10_setTold {n : Nat} (M : zM l D zcl (zty cy) A ad (zR n) (cW a cy) own cc nL rt σo ov G) {p0 : Int32} {p1 : Int32} {o : (Zst × Int32)} (h : f_X10_setTold σ p0 p1 = some o) {index : Nat} (hl : Cond.methodLink own index yX10_setTold ∈ uw) (hR : 4 ≤ n) (hW : (st.map fun v => v.category).sum ≤ 8) (d : decode cc pc = .ok (.invokevirtual index, 3)) (kk : G o.1 lv (pc + 3) (.int o.2 :: st)) : G σ lv pc (.int p1 :: .int p0 :: .ref (a 17) :: st) := z_callV M [.int p0, .int p1] (m_X10_setTold (zM_hD M) h) (hC17 σ) rfl hl u93 u1348 u1346 u1347 hd_X10_setTold hR (by decide) rfl hW d kk
set_option maxHeartbeats 4000000 in
set_option maxRecDepth 100000 in
theorem m_X11_told (hD : ∀ σ, va_D A (cW a cy σ)) {σ : Zst} {p0 : Int32} {p1 : Int32} {o : (Zst × Int32)} (h : f_X11_told σ p0 p1 = some o) : zT l D zcl (zty cy) A ad (cW a cy) yX11_told cX11_told 3 (some .boolean) 4 [.ref (a 0), .int p0, .int p1] σ o.1 (some (.int o.2)) := by
  refine z_met pn_X11 hD (Nat.le_of_ble_eq_true rfl) rfl (fun G M => ?_)
  refine z_aload_n M dt_X11_told_0.1.1.1 rfl 0 rfl ?_
  refine gf_X11_town M u434 dt_X11_told_0.1.1.2 ?_
  refine z_iload_n M dt_X11_told_0.1.2 rfl 1 rfl ?_
  refine z_iload_n M dt_X11_told_0.2.1.1 rfl 2 rfl ?_
  obtain ⟨t1, hc, h⟩ := gBd h
  refine k_X10_setTold M hc u1345 (Nat.le_of_ble_eq_true rfl) (Nat.le_of_ble_eq_true rfl) dt_X11_told_0.2.1.2 ?_
  have ⟨hg, h⟩ := gBo_s h
  obtain rfl := Option.some.inj h
  exact z_zret M (nBo hg) dt_X11_told_0.2.2
set_option maxHeartbeats 4000000 in
set_option maxRecDepth 100000 in
theorem wL_J7_fill_d0a16_44_6 {o : Zst} (M : zM l D zcl (zty cy) A ad (zR 1) (cW a cy) RJ7 cJ7_fill_d0a16 5 none o none G)  (v1 : Int64) (v4 : Int32)  :
    ∀ (n6 : Nat) (σ : Zst) (v3 : Int32), L_J7_fill_d0a16_44_6 v1 v4 n6 σ v3 = some o → G σ [(0, .ref (a 44)), (1, .long v1), (3, .int v3), (4, .int v4)] 6 [] := by
  intro n6
  induction n6 with
  | zero => intro σ v3 h; exact nomatch (show (none : Option Zst) = some _ from h)
  | succ n6 ih =>
    intro σ v3 h
    refine z_iload_n M dt_J7_fill_d0a16_0.1.2.1.2 rfl 2 rfl ?_
    refine z_iload M dt_J7_fill_d0a16_0.1.2.2.1 3 rfl ?_
    refine z_icmp_ge (tgt := 22) M dt_J7_fill_d0a16_0.1.2.2.2 (by decide) (fun hc => ?_) (fun hc => ?_)
    · have h := gIt hc h
      obtain rfl := Option.some.inj h
      exact z_vret M dt_J7_fill_d0a16_0.2.2.2
    · have h := gIf hc h
      refine z_aload_n M dt_J7_fill_d0a16_0.2.1.1.1 rfl 0 rfl ?_
      refine z_iload_n M dt_J7_fill_d0a16_0.2.1.1.2 rfl 2 rfl ?_
      refine z_lload_n M dt_J7_fill_d0a16_0.2.1.2.1 rfl 1 rfl ?_
      have ⟨hg, h⟩ := gIx_s h
      refine as_C44 (σ := σ) M (f := (σ.2.2.1 6)) rfl hg dt_J7_fill_d0a16_0.2.1.2.2 ?_
      refine z_iinc (v := (v3 + (1 : Int32))) (lv' := [(3, .int (v3 + (1 : Int32))), (0, .ref (a 44)), (1, .long v1), (4, .int v4)]) M dt_J7_fill_d0a16_0.2.2.1.1 (k := 2) rfl (congrArg (fun q => v3 + q) ki_1) (by decide) rfl ?_
      refine z_goto (tgt := 6) M dt_J7_fill_d0a16_0.2.2.1.2 (by decide) ?_
      refine z_sub M [1, 2, 0, 3] (lv' := [(0, .ref (a 44)), (1, .long v1), (3, .int (v3 + (1 : Int32))), (4, .int v4)]) rfl ?_
      exact ih (zL σ 6 (vp_updL (σ.2.2.1 6) (Int32.toNatClampNeg v3) v1)) (v3 + (1 : Int32)) h
set_option maxHeartbeats 4000000 in
set_option maxRecDepth 100000 in
theorem m_J7_fill_d0a16_44 (hD : ∀ σ, va_D A (cW a cy σ)) {σ : Zst} {p0 : Int64} {o : Zst} (h : f_J7_fill_d0a16_44 σ p0 = some o) : zT l D zcl (zty cy) A ad (cW a cy) yJ7_fill_d0a16 cJ7_fill_d0a16 5 none 1 [.ref (a 44), .long p0] σ o none := by
  refine z_met pn_J7 hD (Nat.le_of_ble_eq_true rfl) rfl (fun G M => ?_)
  refine z_iconst M dt_J7_fill_d0a16_0.1.1.1.1 ki_0 ?_
  refine z_istore_n (lv' := [(3, .int (0 : Int32)), (0, .ref (a 44)), (1, .long p0)]) M dt_J7_fill_d0a16_0.1.1.1.2 rfl (by decide) rfl ?_
  refine z_aload_n M dt_J7_fill_d0a16_0.1.1.2.1 rfl 1 rfl ?_
  refine ln_C44 M dt_J7_fill_d0a16_0.1.1.2.2 ?_
  refine z_istore (lv' := [(4, .int (4 : Int32)), (3, .int (0 : Int32)), (0, .ref (a 44)), (1, .long p0)]) M dt_J7_fill_d0a16_0.1.2.1.1 (by decide) rfl ?_
  refine z_sub M [2, 3, 1, 0] (lv' := [(0, .ref (a 44)), (1, .long p0), (3, .int (0 : Int32)), (4, .int (4 : Int32))]) rfl ?_
  exact wL_J7_fill_d0a16_44_6 M  p0 (4 : Int32) zFu σ (0 : Int32) h
theorem k_J7_fill_d0a16_44 {n : Nat} (M : zM l D zcl (zty cy) A ad (zR n) (cW a cy) own cc nL rt σo ov G) {p0 : Int64} {o : Zst} (h : f_J7_fill_d0a16_44 σ p0 = some o) {index : Nat} (hl : Cond.methodLink own index yJ7_fill_d0a16 ∈ uw) (hR : 2 ≤ n) (hW : (st.map fun v => v.category).sum ≤ 8) (d : decode cc pc = .ok (.invokestatic index, 3)) (kk : G o lv (pc + 3) (st)) : G σ lv pc (.long p0 :: .ref (a 44) :: st) := z_callS M [.ref (a 44), .long p0] (m_J7_fill_d0a16_44 (zM_hD M) h) hl u108 u989 u988 hd_J7_fill_d0a16 hR (by decide) rfl hW d kk
set_option maxHeartbeats 4000000 in
set_option maxRecDepth 100000 in
theorem wL_J7_fill_d0a16_45_6 {o : Zst} (M : zM l D zcl (zty cy) A ad (zR 1) (cW a cy) RJ7 cJ7_fill_d0a16 5 none o none G)  (v1 : Int64) (v4 : Int32)  :
    ∀ (n6 : Nat) (σ : Zst) (v3 : Int32), L_J7_fill_d0a16_45_6 v1 v4 n6 σ v3 = some o → G σ [(0, .ref (a 45)), (1, .long v1), (3, .int v3), (4, .int v4)] 6 [] := by
  intro n6
  induction n6 with
  | zero => intro σ v3 h; exact nomatch (show (none : Option Zst) = some _ from h)
  | succ n6 ih =>
    intro σ v3 h
    refine z_iload_n M dt_J7_fill_d0a16_0.1.2.1.2 rfl 2 rfl ?_
    refine z_iload M dt_J7_fill_d0a16_0.1.2.2.1 3 rfl ?_
    refine z_icmp_ge (tgt := 22) M dt_J7_fill_d0a16_0.1.2.2.2 (by decide) (fun hc => ?_) (fun hc => ?_)
    · have h := gIt hc h
      obtain rfl := Option.some.inj h
      exact z_vret M dt_J7_fill_d0a16_0.2.2.2
    · have h := gIf hc h
      refine z_aload_n M dt_J7_fill_d0a16_0.2.1.1.1 rfl 0 rfl ?_
      refine z_iload_n M dt_J7_fill_d0a16_0.2.1.1.2 rfl 2 rfl ?_
      refine z_lload_n M dt_J7_fill_d0a16_0.2.1.2.1 rfl 1 rfl ?_
      have ⟨hg, h⟩ := gIx_s h
      refine as_C45 (σ := σ) M (f := (σ.2.2.1 7)) rfl hg dt_J7_fill_d0a16_0.2.1.2.2 ?_
      refine z_iinc (v := (v3 + (1 : Int32))) (lv' := [(3, .int (v3 + (1 : Int32))), (0, .ref (a 45)), (1, .long v1), (4, .int v4)]) M dt_J7_fill_d0a16_0.2.2.1.1 (k := 2) rfl (congrArg (fun q => v3 + q) ki_1) (by decide) rfl ?_
      refine z_goto (tgt := 6) M dt_J7_fill_d0a16_0.2.2.1.2 (by decide) ?_
      refine z_sub M [1, 2, 0, 3] (lv' := [(0, .ref (a 45)), (1, .long v1), (3, .int (v3 + (1 : Int32))), (4, .int v4)]) rfl ?_
      exact ih (zL σ 7 (vp_updL (σ.2.2.1 7) (Int32.toNatClampNeg v3) v1)) (v3 + (1 : Int32)) h
set_option maxHeartbeats 4000000 in
set_option maxRecDepth 100000 in
theorem m_J7_fill_d0a16_45 (hD : ∀ σ, va_D A (cW a cy σ)) {σ : Zst} {p0 : Int64} {o : Zst} (h : f_J7_fill_d0a16_45 σ p0 = some o) : zT l D zcl (zty cy) A ad (cW a cy) yJ7_fill_d0a16 cJ7_fill_d0a16 5 none 1 [.ref (a 45), .long p0] σ o none := by
  refine z_met pn_J7 hD (Nat.le_of_ble_eq_true rfl) rfl (fun G M => ?_)
  refine z_iconst M dt_J7_fill_d0a16_0.1.1.1.1 ki_0 ?_
  refine z_istore_n (lv' := [(3, .int (0 : Int32)), (0, .ref (a 45)), (1, .long p0)]) M dt_J7_fill_d0a16_0.1.1.1.2 rfl (by decide) rfl ?_
  refine z_aload_n M dt_J7_fill_d0a16_0.1.1.2.1 rfl 1 rfl ?_
  refine ln_C45 M dt_J7_fill_d0a16_0.1.1.2.2 ?_
  refine z_istore (lv' := [(4, .int (4 : Int32)), (3, .int (0 : Int32)), (0, .ref (a 45)), (1, .long p0)]) M dt_J7_fill_d0a16_0.1.2.1.1 (by decide) rfl ?_
  refine z_sub M [2, 3, 1, 0] (lv' := [(0, .ref (a 45)), (1, .long p0), (3, .int (0 : Int32)), (4, .int (4 : Int32))]) rfl ?_
  exact wL_J7_fill_d0a16_45_6 M  p0 (4 : Int32) zFu σ (0 : Int32) h
theorem k_J7_fill_d0a16_45 {n : Nat} (M : zM l D zcl (zty cy) A ad (zR n) (cW a cy) own cc nL rt σo ov G) {p0 : Int64} {o : Zst} (h : f_J7_fill_d0a16_45 σ p0 = some o) {index : Nat} (hl : Cond.methodLink own index yJ7_fill_d0a16 ∈ uw) (hR : 2 ≤ n) (hW : (st.map fun v => v.category).sum ≤ 8) (d : decode cc pc = .ok (.invokestatic index, 3)) (kk : G o lv (pc + 3) (st)) : G σ lv pc (.long p0 :: .ref (a 45) :: st) := z_callS M [.ref (a 45), .long p0] (m_J7_fill_d0a16_45 (zM_hD M) h) hl u108 u989 u988 hd_J7_fill_d0a16 hR (by decide) rfl hW d kk
set_option maxHeartbeats 4000000 in
set_option maxRecDepth 100000 in
theorem m_X10_toldFromOf (hD : ∀ σ, va_D A (cW a cy σ)) {σ0 : Zst} {p0 : Int32} {o : Int32} (h : f_X10_toldFromOf σ0 p0 = some o) : zT l D zcl (zty cy) A ad (cW a cy) yX10_toldFromOf cX10_toldFromOf 2 (some .int) 2 [.ref (a 17), .int p0] σ0 σ0 (some (.int o)) := by
  refine z_met pn_X10 hD (Nat.le_of_ble_eq_true rfl) rfl (fun G M => ?_)
  refine z_aload_n M dt_X10_toldFromOf_0.1.1.1.1 rfl 0 rfl ?_
  refine z_iload_n M dt_X10_toldFromOf_0.1.1.1.2 rfl 1 rfl ?_
  refine k_X10_hasStreet M u753 (Nat.le_of_ble_eq_true rfl) (Nat.le_of_ble_eq_true rfl) dt_X10_toldFromOf_0.1.1.2 ?_
  refine z_if_eq (tgt := 17) M dt_X10_toldFromOf_0.1.2.1.1 (by decide) (fun hc => ?_) (fun hc => ?_)
  · have h := gIt hc h
    refine z_iconst M dt_X10_toldFromOf_0.2.2.1 ki_m1 ?_
    obtain rfl := Option.some.inj h
    exact z_iret M dt_X10_toldFromOf_0.2.2.2
  · have h := gIf hc h
    refine z_aload_n M dt_X10_toldFromOf_0.1.2.1.2 rfl 0 rfl ?_
    refine gf_X10_toldFrom M u234 dt_X10_toldFromOf_0.1.2.2 ?_
    refine z_iload_n M dt_X10_toldFromOf_0.2.1.1.1 rfl 1 rfl ?_
    have ⟨hg, h⟩ := gIx_s h
    refine al_C26 (σ := σ0) M (f := (σ0.2.1 18)) rfl hg dt_X10_toldFromOf_0.2.1.1.2 ?_
    refine z_goto (tgt := 18) M dt_X10_toldFromOf_0.2.1.2 (by decide) ?_
    obtain rfl := Option.some.inj h
    exact z_iret M dt_X10_toldFromOf_0.2.2.2
theorem k_X10_toldFromOf {n : Nat} (M : zM l D zcl (zty cy) A ad (zR n) (cW a cy) own cc nL rt σo ov G) {p0 : Int32} {o : Int32} (h : f_X10_toldFromOf σ p0 = some o) {index : Nat} (hl : Cond.methodLink own index yX10_toldFromOf ∈ uw) (hR : 3 ≤ n) (hW : (st.map fun v => v.category).sum ≤ 8) (d : decode cc pc = .ok (.invokevirtual index, 3)) (kk : G σ lv (pc + 3) (.int o :: st)) : G σ lv pc (.int p0 :: .ref (a 17) :: st) := z_callV M [.int p0] (m_X10_toldFromOf (zM_hD M) h) (hC17 σ) rfl hl u93 u1366 u1364 u1365 hd_X10_toldFromOf hR (by decide) rfl hW d kk
set_option maxHeartbeats 4000000 in
set_option maxRecDepth 100000 in
theorem wL_X6_gatherGroups_19 {o : Zst} (M : zM l D zcl (zty cy) A ad (zR 4) (cW a cy) RX6 cX6_gatherGroups 10 none o none G)  (v1 : Int32) (v2 : Int32) (v3 : Int32)  :
    ∀ (n19 : Nat) (σ : Zst) (v4 : Int32), L_X6_gatherGroups_19 v1 v2 v3 n19 σ v4 = some o → G σ [(0, .ref (a 38)), (1, .int v1), (2, .int v2), (3, .int v3), (4, .int v4)] 19 [] := by
  intro n19
  induction n19 with
  | zero => intro σ v4 h; exact nomatch (show (none : Option Zst) = some _ from h)
  | succ n19 ih =>
    intro σ v4 h
    refine z_iload M dt_X6_gatherGroups_0.2.1.2.1 4 rfl ?_
    refine z_aload_n M dt_X6_gatherGroups_0.2.1.2.2 rfl 0 rfl ?_
    refine gf_X6_town M u368 dt_X6_gatherGroups_0.2.2.1.1 ?_
    refine k_X10_cellCount M u1362 (Nat.le_of_ble_eq_true rfl) (Nat.le_of_ble_eq_true rfl) dt_X6_gatherGroups_0.2.2.1.2 ?_
    refine z_icmp_ge (tgt := 159) M dt_X6_gatherGroups_0.2.2.2.1 (by decide) (fun hc => ?_) (fun hc => ?_)
    · have h := gIt hc h
      obtain rfl := Option.some.inj h
      exact z_vret M dt_X6_gatherGroups_5.2.2
    · have h := gIf hc h
      refine z_aload_n M dt_X6_gatherGroups_0.2.2.2.2 rfl 0 rfl ?_
      refine gf_X6_town M u368 dt_X6_gatherGroups_1.1.1.1.1 ?_
      refine z_iload M dt_X6_gatherGroups_1.1.1.1.2 4 rfl ?_
      refine z_bipush M dt_X6_gatherGroups_1.1.1.2.1 kb_12 ?_
      refine z_idiv M dt_X6_gatherGroups_1.1.1.2.2 (by decide) ?_
      obtain ⟨t1, hc, h⟩ := gBd h
      refine k_X10_toldFromOf M hc u1363 (Nat.le_of_ble_eq_true rfl) (Nat.le_of_ble_eq_true rfl) dt_X6_gatherGroups_1.1.2.1.1 ?_
      refine z_istore (lv' := [(5, .int t1), (0, .ref (a 38)), (1, .int v1), (2, .int v2), (3, .int v3), (4, .int v4)]) M dt_X6_gatherGroups_1.1.2.1.2 (by decide) rfl ?_
      refine z_iload M dt_X6_gatherGroups_1.1.2.2.1 0 rfl ?_
      refine z_iload_n M dt_X6_gatherGroups_1.1.2.2.2 rfl 4 rfl ?_
      refine z_icmp_gt (tgt := 153) M dt_X6_gatherGroups_1.2.1.1.1 (by decide) (fun hc => ?_) (fun hc => ?_)
      · have h := gIt hc h
        refine z_iinc (v := (v4 + (1 : Int32))) (lv' := [(4, .int (v4 + (1 : Int32))), (5, .int t1), (0, .ref (a 38)), (1, .int v1), (2, .int v2), (3, .int v3)]) M dt_X6_gatherGroups_5.1.2 (k := 5) rfl (congrArg (fun q => v4 + q) ki_1) (by decide) rfl ?_
        refine z_goto (tgt := 19) M dt_X6_gatherGroups_5.2.1 (by decide) ?_
        refine z_sub M [2, 3, 4, 5, 0] (lv' := [(0, .ref (a 38)), (1, .int v1), (2, .int v2), (3, .int v3), (4, .int (v4 + (1 : Int32)))]) rfl ?_
        exact ih σ (v4 + (1 : Int32)) h
      · have h := gIf hc h
        refine z_aload_n M dt_X6_gatherGroups_1.2.1.1.2 rfl 1 rfl ?_
        refine gf_X6_numbers M u369 dt_X6_gatherGroups_1.2.1.2.1 ?_
        refine z_iload_n M dt_X6_gatherGroups_1.2.1.2.2 rfl 2 rfl ?_
        refine z_iload M dt_X6_gatherGroups_1.2.2.1.1 5 rfl ?_
        refine z_iload_n M dt_X6_gatherGroups_1.2.2.1.2 rfl 3 rfl ?_
        obtain ⟨t2, hc, h⟩ := gBd h
        refine k_X4_has M hc u1213 (Nat.le_of_ble_eq_true rfl) (Nat.le_of_ble_eq_true rfl) dt_X6_gatherGroups_1.2.2.2.1 ?_
        refine z_if_eq (tgt := 153) M dt_X6_gatherGroups_1.2.2.2.2 (by decide) (fun hc => ?_) (fun hc => ?_)
        · have h := gIt hc h
          refine z_iinc (v := (v4 + (1 : Int32))) (lv' := [(4, .int (v4 + (1 : Int32))), (5, .int t1), (0, .ref (a 38)), (1, .int v1), (2, .int v2), (3, .int v3)]) M dt_X6_gatherGroups_5.1.2 (k := 5) rfl (congrArg (fun q => v4 + q) ki_1) (by decide) rfl ?_
          refine z_goto (tgt := 19) M dt_X6_gatherGroups_5.2.1 (by decide) ?_
          refine z_sub M [2, 3, 4, 5, 0] (lv' := [(0, .ref (a 38)), (1, .int v1), (2, .int v2), (3, .int v3), (4, .int (v4 + (1 : Int32)))]) rfl ?_
          exact ih σ (v4 + (1 : Int32)) h
        · have h := gIf hc h
          refine z_iload M dt_X6_gatherGroups_2.1.1.1.1 5 rfl ?_
          refine z_bipush M dt_X6_gatherGroups_2.1.1.1.2 kb_12 ?_
          refine z_irem M dt_X6_gatherGroups_2.1.1.2.1 (by decide) ?_
          refine z_iload_n M dt_X6_gatherGroups_2.1.1.2.2 rfl 4 rfl ?_
          have hJ4 : G σ [(5, .int t1), (0, .ref (a 38)), (1, .int v1), (2, .int v2), (3, .int v3), (4, .int v4)] 79 [.int (if v3 ≤ (jRem v4 (12 : Int32)) then (0 : Int32) else (1 : Int32))] := by
            refine z_istore (lv' := [(6, .int (if v3 ≤ (jRem v4 (12 : Int32)) then (0 : Int32) else (1 : Int32))), (5, .int t1), (0, .ref (a 38)), (1, .int v1), (2, .int v2), (3, .int v3), (4, .int v4)]) M dt_X6_gatherGroups_2.2.1.1.1 (by decide) rfl ?_
            refine z_iload M dt_X6_gatherGroups_2.2.1.1.2 0 rfl ?_
            have hJ6 : G σ [(6, .int (if v3 ≤ (jRem v4 (12 : Int32)) then (0 : Int32) else (1 : Int32))), (5, .int t1), (0, .ref (a 38)), (1, .int v1), (2, .int v2), (3, .int v3), (4, .int v4)] 91 [.int (if (if v3 ≤ (jRem v4 (12 : Int32)) then (0 : Int32) else (1 : Int32)) = (0 : Int32) then (1 : Int32) else (0 : Int32))] := by
              refine z_istore (lv' := [(7, .int (if (if v3 ≤ (jRem v4 (12 : Int32)) then (0 : Int32) else (1 : Int32)) = (0 : Int32) then (1 : Int32) else (0 : Int32))), (6, .int (if v3 ≤ (jRem v4 (12 : Int32)) then (0 : Int32) else (1 : Int32))), (5, .int t1), (0, .ref (a 38)), (1, .int v1), (2, .int v2), (3, .int v3), (4, .int v4)]) M dt_X6_gatherGroups_2.2.2.2.1 (by decide) rfl ?_
              refine z_iload M dt_X6_gatherGroups_2.2.2.2.2 1 rfl ?_
              have hJ8 : G σ [(7, .int (if (if v3 ≤ (jRem v4 (12 : Int32)) then (0 : Int32) else (1 : Int32)) = (0 : Int32) then (1 : Int32) else (0 : Int32))), (6, .int (if v3 ≤ (jRem v4 (12 : Int32)) then (0 : Int32) else (1 : Int32))), (5, .int t1), (0, .ref (a 38)), (1, .int v1), (2, .int v2), (3, .int v3), (4, .int v4)] 103 [.int (if (if v3 ≤ (jRem v4 (12 : Int32)) then (0 : Int32) else (1 : Int32)) = (0 : Int32) then (3 : Int32) else (2 : Int32))] := by
                refine z_istore (lv' := [(8, .int (if (if v3 ≤ (jRem v4 (12 : Int32)) then (0 : Int32) else (1 : Int32)) = (0 : Int32) then (3 : Int32) else (2 : Int32))), (7, .int (if (if v3 ≤ (jRem v4 (12 : Int32)) then (0 : Int32) else (1 : Int32)) = (0 : Int32) then (1 : Int32) else (0 : Int32))), (6, .int (if v3 ≤ (jRem v4 (12 : Int32)) then (0 : Int32) else (1 : Int32))), (5, .int t1), (0, .ref (a 38)), (1, .int v1), (2, .int v2), (3, .int v3), (4, .int v4)]) M dt_X6_gatherGroups_3.1.2.1.1 (by decide) rfl ?_
                refine z_iload M dt_X6_gatherGroups_3.1.2.1.2 3 rfl ?_
                refine z_iconst M dt_X6_gatherGroups_3.1.2.2.1 ki_m1 ?_
                have hJ10 : G σ [(8, .int (if (if v3 ≤ (jRem v4 (12 : Int32)) then (0 : Int32) else (1 : Int32)) = (0 : Int32) then (3 : Int32) else (2 : Int32))), (7, .int (if (if v3 ≤ (jRem v4 (12 : Int32)) then (0 : Int32) else (1 : Int32)) = (0 : Int32) then (1 : Int32) else (0 : Int32))), (6, .int (if v3 ≤ (jRem v4 (12 : Int32)) then (0 : Int32) else (1 : Int32))), (5, .int t1), (0, .ref (a 38)), (1, .int v1), (2, .int v2), (3, .int v3), (4, .int v4)] 118 [.int (if t1 = (-1 : Int32) then (if (if v3 ≤ (jRem v4 (12 : Int32)) then (0 : Int32) else (1 : Int32)) = (0 : Int32) then (3 : Int32) else (2 : Int32)) else (if (if v3 ≤ (jRem v4 (12 : Int32)) then (0 : Int32) else (1 : Int32)) = (0 : Int32) then (1 : Int32) else (0 : Int32)))] := by
                  refine z_istore (lv' := [(9, .int (if t1 = (-1 : Int32) then (if (if v3 ≤ (jRem v4 (12 : Int32)) then (0 : Int32) else (1 : Int32)) = (0 : Int32) then (3 : Int32) else (2 : Int32)) else (if (if v3 ≤ (jRem v4 (12 : Int32)) then (0 : Int32) else (1 : Int32)) = (0 : Int32) then (1 : Int32) else (0 : Int32)))), (8, .int (if (if v3 ≤ (jRem v4 (12 : Int32)) then (0 : Int32) else (1 : Int32)) = (0 : Int32) then (3 : Int32) else (2 : Int32))), (7, .int (if (if v3 ≤ (jRem v4 (12 : Int32)) then (0 : Int32) else (1 : Int32)) = (0 : Int32) then (1 : Int32) else (0 : Int32))), (6, .int (if v3 ≤ (jRem v4 (12 : Int32)) then (0 : Int32) else (1 : Int32))), (5, .int t1), (0, .ref (a 38)), (1, .int v1), (2, .int v2), (3, .int v3), (4, .int v4)]) M dt_X6_gatherGroups_3.2.1.2.2 (by decide) rfl ?_
                  refine z_aload_n M dt_X6_gatherGroups_3.2.2.1.1 rfl 5 rfl ?_
                  refine gf_X6_sums M u377 dt_X6_gatherGroups_3.2.2.1.2 ?_
                  refine z_iload M dt_X6_gatherGroups_3.2.2.2.1 0 rfl ?_
                  refine z_dup2_11 M dt_X6_gatherGroups_3.2.2.2.2 rfl rfl ?_
                  have ⟨hg, h⟩ := gIx_s h
                  refine al_C44 (σ := σ) M (f := (σ.2.2.1 6)) rfl hg dt_X6_gatherGroups_4.1.1.1.1 ?_
                  refine z_aload_n M dt_X6_gatherGroups_4.1.1.1.2 rfl 5 rfl ?_
                  refine gf_X6_numbers M u369 dt_X6_gatherGroups_4.1.1.2.1 ?_
                  refine z_iload_n M dt_X6_gatherGroups_4.1.1.2.2 rfl 6 rfl ?_
                  refine z_iload M dt_X6_gatherGroups_4.1.2.1.1 9 rfl ?_
                  refine z_iload_n M dt_X6_gatherGroups_4.1.2.1.2 rfl 7 rfl ?_
                  obtain ⟨t11, hc, h⟩ := gBd h
                  refine k_X4_of M hc u1214 (Nat.le_of_ble_eq_true rfl) (Nat.le_of_ble_eq_true rfl) dt_X6_gatherGroups_4.1.2.2.1 ?_
                  refine z_i2l M dt_X6_gatherGroups_4.1.2.2.2 ?_
                  refine z_ladd M dt_X6_gatherGroups_4.2.1.1.1 ?_
                  have ⟨hg, h⟩ := gIx_s h
                  refine as_C44 (σ := σ) M (f := (σ.2.2.1 6)) rfl hg dt_X6_gatherGroups_4.2.1.1.2 ?_
                  refine z_aload_n M dt_X6_gatherGroups_4.2.1.2.1 rfl 5 rfl ?_
                  refine gf_X6_cells M u378 dt_X6_gatherGroups_4.2.1.2.2 ?_
                  refine z_iload M dt_X6_gatherGroups_4.2.2.1.1 0 rfl ?_
                  refine z_dup2_11 M dt_X6_gatherGroups_4.2.2.1.2 rfl rfl ?_
                  have ⟨hg, h⟩ := gIx_s h
                  refine al_C45 (σ := (zL σ 6 (vp_updL (σ.2.2.1 6) (Int32.toNatClampNeg (if t1 = (-1 : Int32) then (if (if v3 ≤ (jRem v4 (12 : Int32)) then (0 : Int32) else (1 : Int32)) = (0 : Int32) then (3 : Int32) else (2 : Int32)) else (if (if v3 ≤ (jRem v4 (12 : Int32)) then (0 : Int32) else (1 : Int32)) = (0 : Int32) then (1 : Int32) else (0 : Int32)))) (((σ.2.2.1 6) (Int32.toNatClampNeg (if t1 = (-1 : Int32) then (if (if v3 ≤ (jRem v4 (12 : Int32)) then (0 : Int32) else (1 : Int32)) = (0 : Int32) then (3 : Int32) else (2 : Int32)) else (if (if v3 ≤ (jRem v4 (12 : Int32)) then (0 : Int32) else (1 : Int32)) = (0 : Int32) then (1 : Int32) else (0 : Int32))))) + (Int32.toInt64 t11))))) M (f := (σ.2.2.1 7)) rfl hg dt_X6_gatherGroups_4.2.2.2.1 ?_
                  refine z_lconst (v := 1) M dt_X6_gatherGroups_4.2.2.2.2 (by decide) ?_
                  refine z_ladd M dt_X6_gatherGroups_5.1.1.1 ?_
                  have ⟨hg, h⟩ := gIx_s h
                  refine as_C45 (σ := (zL σ 6 (vp_updL (σ.2.2.1 6) (Int32.toNatClampNeg (if t1 = (-1 : Int32) then (if (if v3 ≤ (jRem v4 (12 : Int32)) then (0 : Int32) else (1 : Int32)) = (0 : Int32) then (3 : Int32) else (2 : Int32)) else (if (if v3 ≤ (jRem v4 (12 : Int32)) then (0 : Int32) else (1 : Int32)) = (0 : Int32) then (1 : Int32) else (0 : Int32)))) (((σ.2.2.1 6) (Int32.toNatClampNeg (if t1 = (-1 : Int32) then (if (if v3 ≤ (jRem v4 (12 : Int32)) then (0 : Int32) else (1 : Int32)) = (0 : Int32) then (3 : Int32) else (2 : Int32)) else (if (if v3 ≤ (jRem v4 (12 : Int32)) then (0 : Int32) else (1 : Int32)) = (0 : Int32) then (1 : Int32) else (0 : Int32))))) + (Int32.toInt64 t11))))) M (f := (σ.2.2.1 7)) rfl hg dt_X6_gatherGroups_5.1.1.2 ?_
                  refine z_iinc (v := (v4 + (1 : Int32))) (lv' := [(4, .int (v4 + (1 : Int32))), (9, .int (if t1 = (-1 : Int32) then (if (if v3 ≤ (jRem v4 (12 : Int32)) then (0 : Int32) else (1 : Int32)) = (0 : Int32) then (3 : Int32) else (2 : Int32)) else (if (if v3 ≤ (jRem v4 (12 : Int32)) then (0 : Int32) else (1 : Int32)) = (0 : Int32) then (1 : Int32) else (0 : Int32)))), (8, .int (if (if v3 ≤ (jRem v4 (12 : Int32)) then (0 : Int32) else (1 : Int32)) = (0 : Int32) then (3 : Int32) else (2 : Int32))), (7, .int (if (if v3 ≤ (jRem v4 (12 : Int32)) then (0 : Int32) else (1 : Int32)) = (0 : Int32) then (1 : Int32) else (0 : Int32))), (6, .int (if v3 ≤ (jRem v4 (12 : Int32)) then (0 : Int32) else (1 : Int32))), (5, .int t1), (0, .ref (a 38)), (1, .int v1), (2, .int v2), (3, .int v3)]) M dt_X6_gatherGroups_5.1.2 (k := 9) rfl (congrArg (fun q => v4 + q) ki_1) (by decide) rfl ?_
                  refine z_goto (tgt := 19) M dt_X6_gatherGroups_5.2.1 (by decide) ?_
                  refine z_sub M [6, 7, 8, 9, 0] (lv' := [(0, .ref (a 38)), (1, .int v1), (2, .int v2), (3, .int v3), (4, .int (v4 + (1 : Int32)))]) rfl ?_
                  exact ih (zL (zL σ 6 (vp_updL (σ.2.2.1 6) (Int32.toNatClampNeg (if t1 = (-1 : Int32) then (if (if v3 ≤ (jRem v4 (12 : Int32)) then (0 : Int32) else (1 : Int32)) = (0 : Int32) then (3 : Int32) else (2 : Int32)) else (if (if v3 ≤ (jRem v4 (12 : Int32)) then (0 : Int32) else (1 : Int32)) = (0 : Int32) then (1 : Int32) else (0 : Int32)))) (((σ.2.2.1 6) (Int32.toNatClampNeg (if t1 = (-1 : Int32) then (if (if v3 ≤ (jRem v4 (12 : Int32)) then (0 : Int32) else (1 : Int32)) = (0 : Int32) then (3 : Int32) else (2 : Int32)) else (if (if v3 ≤ (jRem v4 (12 : Int32)) then (0 : Int32) else (1 : Int32)) = (0 : Int32) then (1 : Int32) else (0 : Int32))))) + (Int32.toInt64 t11)))) 7 (vp_updL (σ.2.2.1 7) (Int32.toNatClampNeg (if t1 = (-1 : Int32) then (if (if v3 ≤ (jRem v4 (12 : Int32)) then (0 : Int32) else (1 : Int32)) = (0 : Int32) then (3 : Int32) else (2 : Int32)) else (if (if v3 ≤ (jRem v4 (12 : Int32)) then (0 : Int32) else (1 : Int32)) = (0 : Int32) then (1 : Int32) else (0 : Int32)))) (((σ.2.2.1 7) (Int32.toNatClampNeg (if t1 = (-1 : Int32) then (if (if v3 ≤ (jRem v4 (12 : Int32)) then (0 : Int32) else (1 : Int32)) = (0 : Int32) then (3 : Int32) else (2 : Int32)) else (if (if v3 ≤ (jRem v4 (12 : Int32)) then (0 : Int32) else (1 : Int32)) = (0 : Int32) then (1 : Int32) else (0 : Int32))))) + (1 : Int64)))) (v4 + (1 : Int32)) h
                refine z_icmp_ne (tgt := 116) M dt_X6_gatherGroups_3.1.2.2.2 (by decide) (fun hc9 => ?_) (fun hc9 => ?_)
                · refine z_iload M dt_X6_gatherGroups_3.2.1.2.1 1 rfl ?_
                  exact (zTf hc9 hJ10)
                · refine z_iload M dt_X6_gatherGroups_3.2.1.1.1 0 rfl ?_
                  refine z_goto (tgt := 118) M dt_X6_gatherGroups_3.2.1.1.2 (by decide) ?_
                  exact (zTt hc9 hJ10)
              refine z_if_eq (tgt := 102) M dt_X6_gatherGroups_3.1.1.1.1 (by decide) (fun hc7 => ?_) (fun hc7 => ?_)
              · refine z_iconst M dt_X6_gatherGroups_3.1.1.2.2 ki_3 ?_
                exact (zTt hc7 hJ8)
              · refine z_iconst M dt_X6_gatherGroups_3.1.1.1.2 ki_2 ?_
                refine z_goto (tgt := 103) M dt_X6_gatherGroups_3.1.1.2.1 (by decide) ?_
                exact (zTf hc7 hJ8)
            refine z_if_eq (tgt := 90) M dt_X6_gatherGroups_2.2.1.2.1 (by decide) (fun hc5 => ?_) (fun hc5 => ?_)
            · refine z_iconst M dt_X6_gatherGroups_2.2.2.1.2 ki_1 ?_
              exact (zTt hc5 hJ6)
            · refine z_iconst M dt_X6_gatherGroups_2.2.1.2.2 ki_0 ?_
              refine z_goto (tgt := 91) M dt_X6_gatherGroups_2.2.2.1.1 (by decide) ?_
              exact (zTf hc5 hJ6)
          refine z_icmp_ge (tgt := 78) M dt_X6_gatherGroups_2.1.2.1.1 (by decide) (fun hc3 => ?_) (fun hc3 => ?_)
          · refine z_iconst M dt_X6_gatherGroups_2.1.2.2.2 ki_0 ?_
            exact (zTt hc3 hJ4)
          · refine z_iconst M dt_X6_gatherGroups_2.1.2.1.2 ki_1 ?_
            refine z_goto (tgt := 79) M dt_X6_gatherGroups_2.1.2.2.1 (by decide) ?_
            exact (zTf hc3 hJ4)
set_option maxHeartbeats 4000000 in
set_option maxRecDepth 100000 in
theorem m_X6_gatherGroups (hD : ∀ σ, va_D A (cW a cy σ)) {σ : Zst} {p0 : Int32} {p1 : Int32} {p2 : Int32} {o : Zst} (h : f_X6_gatherGroups σ p0 p1 p2 = some o) : zT l D zcl (zty cy) A ad (cW a cy) yX6_gatherGroups cX6_gatherGroups 10 none 4 [.ref (a 38), .int p0, .int p1, .int p2] σ o none := by
  refine z_met pn_X6 hD (Nat.le_of_ble_eq_true rfl) rfl (fun G M => ?_)
  refine z_aload_n M dt_X6_gatherGroups_0.1.1.1.1 rfl 0 rfl ?_
  refine gf_X6_sums M u377 dt_X6_gatherGroups_0.1.1.1.2 ?_
  refine z_lconst (v := 0) M dt_X6_gatherGroups_0.1.1.2.1 (by decide) ?_
  obtain ⟨t12, hc, h⟩ := gBd h
  refine k_J7_fill_d0a16_44 M hc u1361 (Nat.le_of_ble_eq_true rfl) (Nat.le_of_ble_eq_true rfl) dt_X6_gatherGroups_0.1.1.2.2 ?_
  refine z_aload_n M dt_X6_gatherGroups_0.1.2.1.1 rfl 0 rfl ?_
  refine gf_X6_cells M u378 dt_X6_gatherGroups_0.1.2.1.2 ?_
  refine z_lconst (v := 0) M dt_X6_gatherGroups_0.1.2.2.1 (by decide) ?_
  obtain ⟨t13, hc, h⟩ := gBd h
  refine k_J7_fill_d0a16_45 M hc u1361 (Nat.le_of_ble_eq_true rfl) (Nat.le_of_ble_eq_true rfl) dt_X6_gatherGroups_0.1.2.2.2 ?_
  refine z_iconst M dt_X6_gatherGroups_0.2.1.1.1 ki_0 ?_
  refine z_istore (lv' := [(4, .int (0 : Int32)), (0, .ref (a 38)), (1, .int p0), (2, .int p1), (3, .int p2)]) M dt_X6_gatherGroups_0.2.1.1.2 (by decide) rfl ?_
  refine z_sub M [1, 2, 3, 4, 0] (lv' := [(0, .ref (a 38)), (1, .int p0), (2, .int p1), (3, .int p2), (4, .int (0 : Int32))]) rfl ?_
  exact wL_X6_gatherGroups_19 M  p0 p1 p2 zFu t13 (0 : Int32) h
theorem k_X6_gatherGroups {n : Nat} (M : zM l D zcl (zty cy) A ad (zR n) (cW a cy) own cc nL rt σo ov G) {p0 : Int32} {p1 : Int32} {p2 : Int32} {o : Zst} (h : f_X6_gatherGroups σ p0 p1 p2 = some o) {index : Nat} (hl : Cond.methodLink own index yX6_gatherGroups ∈ uw) (hR : 5 ≤ n) (hW : (st.map fun v => v.category).sum ≤ 8) (d : decode cc pc = .ok (.invokevirtual index, 3)) (kk : G o lv (pc + 3) (st)) : G σ lv pc (.int p2 :: .int p1 :: .int p0 :: .ref (a 38) :: st) := z_callV M [.int p0, .int p1, .int p2] (m_X6_gatherGroups (zM_hD M) h) (hC38 σ) rfl hl u97 u1360 u1359 u44 hd_X6_gatherGroups hR (by decide) rfl hW d kk
set_option maxHeartbeats 4000000 in
set_option maxRecDepth 100000 in
theorem m_X6_effect (hD : ∀ σ, va_D A (cW a cy σ)) {σ : Zst} {p0 : Int32} {p1 : Int32} {p2 : Int32} {o : (Zst × Int32)} (h : f_X6_effect σ p0 p1 p2 = some o) : zT l D zcl (zty cy) A ad (cW a cy) yX6_effect cX6_effect 14 (some .int) 5 [.ref (a 38), .int p0, .int p1, .int p2] σ o.1 (some (.int o.2)) := by
  refine z_met pn_X6 hD (Nat.le_of_ble_eq_true rfl) rfl (fun G M => ?_)
  refine z_iload_n M dt_X6_effect_0.1.1.1.1 rfl 1 rfl ?_
  refine kn_X11_isKind M u1245 (Nat.le_of_ble_eq_true rfl) (Nat.le_of_ble_eq_true rfl) dt_X6_effect_0.1.1.1.2 ?_
  refine z_if_eq (tgt := 28) M dt_X6_effect_0.1.1.2.1 (by decide) (fun hc => ?_) (fun hc => ?_)
  · have h := gIt hc h
    refine z_iconst M dt_X6_effect_0.2.2.1.2 ki_m1 ?_
    obtain rfl := Option.some.inj h
    exact z_iret M dt_X6_effect_0.2.2.2.1
  · have h := gIf hc h
    refine z_aload_n M dt_X6_effect_0.1.1.2.2 rfl 0 rfl ?_
    refine gf_X6_town M u368 dt_X6_effect_0.1.2.1.1 ?_
    refine z_iload_n M dt_X6_effect_0.1.2.1.2 rfl 2 rfl ?_
    refine k_X10_hasSort M u1207 (Nat.le_of_ble_eq_true rfl) (Nat.le_of_ble_eq_true rfl) dt_X6_effect_0.1.2.2.1 ?_
    refine z_if_eq (tgt := 28) M dt_X6_effect_0.1.2.2.2 (by decide) (fun hc => ?_) (fun hc => ?_)
    · have h := gIt hc h
      refine z_iconst M dt_X6_effect_0.2.2.1.2 ki_m1 ?_
      obtain rfl := Option.some.inj h
      exact z_iret M dt_X6_effect_0.2.2.2.1
    · have h := gIf hc h
      refine z_iload_n M dt_X6_effect_0.2.1.1.1 rfl 3 rfl ?_
      refine z_iconst M dt_X6_effect_0.2.1.1.2 ki_1 ?_
      refine z_bipush M dt_X6_effect_0.2.1.2.1 kb_11 ?_
      refine kn_X11_between M u1244 (Nat.le_of_ble_eq_true rfl) (Nat.le_of_ble_eq_true rfl) dt_X6_effect_0.2.1.2.2 ?_
      refine z_if_ne (tgt := 30) M dt_X6_effect_0.2.2.1.1 (by decide) (fun hc => ?_) (fun hc => ?_)
      · have h := gIf hc h
        refine z_aload_n M dt_X6_effect_0.2.2.2.2 rfl 0 rfl ?_
        refine z_iload_n M dt_X6_effect_1.1.1.1.1 rfl 1 rfl ?_
        refine z_iload_n M dt_X6_effect_1.1.1.1.2 rfl 2 rfl ?_
        refine z_iload_n M dt_X6_effect_1.1.1.2.1 rfl 3 rfl ?_
        obtain ⟨t1, hc, h⟩ := gBd h
        refine k_X6_gatherGroups M hc u1357 (Nat.le_of_ble_eq_true rfl) (Nat.le_of_ble_eq_true rfl) dt_X6_effect_1.1.1.2.2 ?_
        refine z_aload_n M dt_X6_effect_1.1.2.1.1 rfl 0 rfl ?_
        refine gf_X6_cells M u378 dt_X6_effect_1.1.2.1.2 ?_
        refine z_iconst M dt_X6_effect_1.1.2.2.1 ki_0 ?_
        refine al_C45 (σ := t1) M (f := (t1.2.2.1 7)) rfl (show ¬ (_ ∨ _) by decide) dt_X6_effect_1.1.2.2.2 ?_
        refine z_aload_n M dt_X6_effect_1.2.1.1.1 rfl 0 rfl ?_
        refine gf_X6_cells M u378 dt_X6_effect_1.2.1.1.2 ?_
        refine z_iconst M dt_X6_effect_1.2.1.2.1 ki_1 ?_
        refine al_C45 (σ := t1) M (f := (t1.2.2.1 7)) rfl (show ¬ (_ ∨ _) by decide) dt_X6_effect_1.2.1.2.2 ?_
        refine z_lmul M dt_X6_effect_1.2.2.1.1 ?_
        refine z_lstore (lv' := [(4, .long (((t1.2.2.1 7) (Int32.toNatClampNeg (0 : Int32))) * ((t1.2.2.1 7) (Int32.toNatClampNeg (1 : Int32))))), (0, .ref (a 38)), (1, .int p0), (2, .int p1), (3, .int p2)]) M dt_X6_effect_1.2.2.1.2 (by decide) rfl ?_
        refine z_aload_n M dt_X6_effect_1.2.2.2.1 rfl 1 rfl ?_
        refine gf_X6_cells M u378 dt_X6_effect_1.2.2.2.2 ?_
        refine z_iconst M dt_X6_effect_2.1.1.1.1 ki_2 ?_
        refine al_C45 (σ := t1) M (f := (t1.2.2.1 7)) rfl (show ¬ (_ ∨ _) by decide) dt_X6_effect_2.1.1.1.2 ?_
        refine z_aload_n M dt_X6_effect_2.1.1.2.1 rfl 1 rfl ?_
        refine gf_X6_cells M u378 dt_X6_effect_2.1.1.2.2 ?_
        refine z_iconst M dt_X6_effect_2.1.2.1.1 ki_3 ?_
        refine al_C45 (σ := t1) M (f := (t1.2.2.1 7)) rfl (show ¬ (_ ∨ _) by decide) dt_X6_effect_2.1.2.1.2 ?_
        refine z_lmul M dt_X6_effect_2.1.2.2.1 ?_
        refine z_lstore (lv' := [(6, .long (((t1.2.2.1 7) (Int32.toNatClampNeg (2 : Int32))) * ((t1.2.2.1 7) (Int32.toNatClampNeg (3 : Int32))))), (4, .long (((t1.2.2.1 7) (Int32.toNatClampNeg (0 : Int32))) * ((t1.2.2.1 7) (Int32.toNatClampNeg (1 : Int32))))), (0, .ref (a 38)), (1, .int p0), (2, .int p1), (3, .int p2)]) M dt_X6_effect_2.1.2.2.2 (by decide) rfl ?_
        refine z_lload M dt_X6_effect_2.2.1.1.1 1 rfl ?_
        refine z_lconst (v := 0) M dt_X6_effect_2.2.1.1.2 (by decide) ?_
        refine z_lcmp_eq (tgt := 81) M dt_X6_effect_2.2.1.2.1 dt_X6_effect_2.2.1.2.2 (by decide) (fun hc => ?_) (fun hc => ?_)
        · have h := gIt hc h
          refine z_bipush M dt_X6_effect_3.1.1.1.1 kb_m2 ?_
          obtain rfl := Option.some.inj h
          exact z_iret M dt_X6_effect_3.1.1.1.2
        · have h := gIf hc h
          refine z_lload M dt_X6_effect_2.2.2.1.1 0 rfl ?_
          refine z_lconst (v := 0) M dt_X6_effect_2.2.2.1.2 (by decide) ?_
          refine z_lcmp_ne (tgt := 84) M dt_X6_effect_2.2.2.2.1 dt_X6_effect_2.2.2.2.2 (by decide) (fun hc => ?_) (fun hc => ?_)
          · have h := gIf hc h
            refine z_aload_n M dt_X6_effect_3.1.1.2.1 rfl 2 rfl ?_
            refine gf_X6_sums M u377 dt_X6_effect_3.1.1.2.2 ?_
            refine z_iconst M dt_X6_effect_3.1.2.1.1 ki_1 ?_
            refine al_C44 (σ := t1) M (f := (t1.2.2.1 6)) rfl (show ¬ (_ ∨ _) by decide) dt_X6_effect_3.1.2.1.2 ?_
            refine z_aload_n M dt_X6_effect_3.1.2.2.1 rfl 2 rfl ?_
            refine gf_X6_cells M u378 dt_X6_effect_3.1.2.2.2 ?_
            refine z_iconst M dt_X6_effect_3.2.1.1.1 ki_0 ?_
            refine al_C45 (σ := t1) M (f := (t1.2.2.1 7)) rfl (show ¬ (_ ∨ _) by decide) dt_X6_effect_3.2.1.1.2 ?_
            refine z_lmul M dt_X6_effect_3.2.1.2.1 ?_
            refine z_aload_n M dt_X6_effect_3.2.1.2.2 rfl 2 rfl ?_
            refine gf_X6_sums M u377 dt_X6_effect_3.2.2.1.1 ?_
            refine z_iconst M dt_X6_effect_3.2.2.1.2 ki_0 ?_
            refine al_C44 (σ := t1) M (f := (t1.2.2.1 6)) rfl (show ¬ (_ ∨ _) by decide) dt_X6_effect_3.2.2.2.1 ?_
            refine z_aload_n M dt_X6_effect_3.2.2.2.2 rfl 2 rfl ?_
            refine gf_X6_cells M u378 dt_X6_effect_4.1.1.1.1 ?_
            refine z_iconst M dt_X6_effect_4.1.1.1.2 ki_1 ?_
            refine al_C45 (σ := t1) M (f := (t1.2.2.1 7)) rfl (show ¬ (_ ∨ _) by decide) dt_X6_effect_4.1.1.2.1 ?_
            refine z_lmul M dt_X6_effect_4.1.1.2.2 ?_
            refine z_lsub M dt_X6_effect_4.1.2.1.1 ?_
            refine z_lstore (lv' := [(8, .long ((((t1.2.2.1 6) (Int32.toNatClampNeg (1 : Int32))) * ((t1.2.2.1 7) (Int32.toNatClampNeg (0 : Int32)))) - (((t1.2.2.1 6) (Int32.toNatClampNeg (0 : Int32))) * ((t1.2.2.1 7) (Int32.toNatClampNeg (1 : Int32)))))), (6, .long (((t1.2.2.1 7) (Int32.toNatClampNeg (2 : Int32))) * ((t1.2.2.1 7) (Int32.toNatClampNeg (3 : Int32))))), (4, .long (((t1.2.2.1 7) (Int32.toNatClampNeg (0 : Int32))) * ((t1.2.2.1 7) (Int32.toNatClampNeg (1 : Int32))))), (0, .ref (a 38)), (1, .int p0), (2, .int p1), (3, .int p2)]) M dt_X6_effect_4.1.2.1.2 (by decide) rfl ?_
            refine z_aload_n M dt_X6_effect_4.1.2.2.1 rfl 3 rfl ?_
            refine gf_X6_sums M u377 dt_X6_effect_4.1.2.2.2 ?_
            refine z_iconst M dt_X6_effect_4.2.1.1.1 ki_3 ?_
            refine al_C44 (σ := t1) M (f := (t1.2.2.1 6)) rfl (show ¬ (_ ∨ _) by decide) dt_X6_effect_4.2.1.1.2 ?_
            refine z_aload_n M dt_X6_effect_4.2.1.2.1 rfl 3 rfl ?_
            refine gf_X6_cells M u378 dt_X6_effect_4.2.1.2.2 ?_
            refine z_iconst M dt_X6_effect_4.2.2.1.1 ki_2 ?_
            refine al_C45 (σ := t1) M (f := (t1.2.2.1 7)) rfl (show ¬ (_ ∨ _) by decide) dt_X6_effect_4.2.2.1.2 ?_
            refine z_lmul M dt_X6_effect_4.2.2.2.1 ?_
            refine z_aload_n M dt_X6_effect_4.2.2.2.2 rfl 3 rfl ?_
            refine gf_X6_sums M u377 dt_X6_effect_5.1.1.1.1 ?_
            refine z_iconst M dt_X6_effect_5.1.1.1.2 ki_2 ?_
            refine al_C44 (σ := t1) M (f := (t1.2.2.1 6)) rfl (show ¬ (_ ∨ _) by decide) dt_X6_effect_5.1.1.2.1 ?_
            refine z_aload_n M dt_X6_effect_5.1.1.2.2 rfl 3 rfl ?_
            refine gf_X6_cells M u378 dt_X6_effect_5.1.2.1.1 ?_
            refine z_iconst M dt_X6_effect_5.1.2.1.2 ki_3 ?_
            refine al_C45 (σ := t1) M (f := (t1.2.2.1 7)) rfl (show ¬ (_ ∨ _) by decide) dt_X6_effect_5.1.2.2.1 ?_
            refine z_lmul M dt_X6_effect_5.1.2.2.2 ?_
            refine z_lsub M dt_X6_effect_5.2.1.1.1 ?_
            refine z_lstore (lv' := [(10, .long ((((t1.2.2.1 6) (Int32.toNatClampNeg (3 : Int32))) * ((t1.2.2.1 7) (Int32.toNatClampNeg (2 : Int32)))) - (((t1.2.2.1 6) (Int32.toNatClampNeg (2 : Int32))) * ((t1.2.2.1 7) (Int32.toNatClampNeg (3 : Int32)))))), (8, .long ((((t1.2.2.1 6) (Int32.toNatClampNeg (1 : Int32))) * ((t1.2.2.1 7) (Int32.toNatClampNeg (0 : Int32)))) - (((t1.2.2.1 6) (Int32.toNatClampNeg (0 : Int32))) * ((t1.2.2.1 7) (Int32.toNatClampNeg (1 : Int32)))))), (6, .long (((t1.2.2.1 7) (Int32.toNatClampNeg (2 : Int32))) * ((t1.2.2.1 7) (Int32.toNatClampNeg (3 : Int32))))), (4, .long (((t1.2.2.1 7) (Int32.toNatClampNeg (0 : Int32))) * ((t1.2.2.1 7) (Int32.toNatClampNeg (1 : Int32))))), (0, .ref (a 38)), (1, .int p0), (2, .int p1), (3, .int p2)]) M dt_X6_effect_5.2.1.1.2 (by decide) rfl ?_
            refine z_lload M dt_X6_effect_5.2.1.2.1 1 rfl ?_
            refine z_lload M dt_X6_effect_5.2.1.2.2 2 rfl ?_
            refine z_lmul M dt_X6_effect_5.2.2.1.1 ?_
            refine z_lload M dt_X6_effect_5.2.2.1.2 0 rfl ?_
            refine z_lload M dt_X6_effect_5.2.2.2.1 3 rfl ?_
            refine z_lmul M dt_X6_effect_5.2.2.2.2 ?_
            refine z_lsub M dt_X6_effect_6.1.1.1.1 ?_
            refine z_lstore (lv' := [(12, .long ((((((t1.2.2.1 6) (Int32.toNatClampNeg (1 : Int32))) * ((t1.2.2.1 7) (Int32.toNatClampNeg (0 : Int32)))) - (((t1.2.2.1 6) (Int32.toNatClampNeg (0 : Int32))) * ((t1.2.2.1 7) (Int32.toNatClampNeg (1 : Int32))))) * (((t1.2.2.1 7) (Int32.toNatClampNeg (2 : Int32))) * ((t1.2.2.1 7) (Int32.toNatClampNeg (3 : Int32))))) - (((((t1.2.2.1 6) (Int32.toNatClampNeg (3 : Int32))) * ((t1.2.2.1 7) (Int32.toNatClampNeg (2 : Int32)))) - (((t1.2.2.1 6) (Int32.toNatClampNeg (2 : Int32))) * ((t1.2.2.1 7) (Int32.toNatClampNeg (3 : Int32))))) * (((t1.2.2.1 7) (Int32.toNatClampNeg (0 : Int32))) * ((t1.2.2.1 7) (Int32.toNatClampNeg (1 : Int32))))))), (10, .long ((((t1.2.2.1 6) (Int32.toNatClampNeg (3 : Int32))) * ((t1.2.2.1 7) (Int32.toNatClampNeg (2 : Int32)))) - (((t1.2.2.1 6) (Int32.toNatClampNeg (2 : Int32))) * ((t1.2.2.1 7) (Int32.toNatClampNeg (3 : Int32)))))), (8, .long ((((t1.2.2.1 6) (Int32.toNatClampNeg (1 : Int32))) * ((t1.2.2.1 7) (Int32.toNatClampNeg (0 : Int32)))) - (((t1.2.2.1 6) (Int32.toNatClampNeg (0 : Int32))) * ((t1.2.2.1 7) (Int32.toNatClampNeg (1 : Int32)))))), (6, .long (((t1.2.2.1 7) (Int32.toNatClampNeg (2 : Int32))) * ((t1.2.2.1 7) (Int32.toNatClampNeg (3 : Int32))))), (4, .long (((t1.2.2.1 7) (Int32.toNatClampNeg (0 : Int32))) * ((t1.2.2.1 7) (Int32.toNatClampNeg (1 : Int32))))), (0, .ref (a 38)), (1, .int p0), (2, .int p1), (3, .int p2)]) M dt_X6_effect_6.1.1.1.2 (by decide) rfl ?_
            refine z_aload_n M dt_X6_effect_6.1.1.2.1 rfl 5 rfl ?_
            refine gf_X6_row M u370 dt_X6_effect_6.1.1.2.2 ?_
            obtain ⟨t2, hc, h⟩ := gBd h
            refine k_X5_clear M hc u1216 (Nat.le_of_ble_eq_true rfl) (Nat.le_of_ble_eq_true rfl) dt_X6_effect_6.1.2.1.1 ?_
            refine z_lload M dt_X6_effect_6.1.2.1.2 0 rfl ?_
            refine z_lload M dt_X6_effect_6.1.2.2.1 4 rfl ?_
            refine z_lload M dt_X6_effect_6.1.2.2.2 3 rfl ?_
            refine z_lmul M dt_X6_effect_6.2.1.1.1 ?_
            obtain ⟨t3, hc, h⟩ := gBd h
            refine k_X5_addFraction M hc u1367 (Nat.le_of_ble_eq_true rfl) (Nat.le_of_ble_eq_true rfl) dt_X6_effect_6.2.1.1.2 ?_
            refine z_pop M dt_X6_effect_6.2.1.2.1 rfl ?_
            refine z_lload M dt_X6_effect_6.2.1.2.2 0 rfl ?_
            refine z_lconst (v := 0) M dt_X6_effect_6.2.2.1.1 (by decide) ?_
            have hJ6 : G t3 [(12, .long ((((((t1.2.2.1 6) (Int32.toNatClampNeg (1 : Int32))) * ((t1.2.2.1 7) (Int32.toNatClampNeg (0 : Int32)))) - (((t1.2.2.1 6) (Int32.toNatClampNeg (0 : Int32))) * ((t1.2.2.1 7) (Int32.toNatClampNeg (1 : Int32))))) * (((t1.2.2.1 7) (Int32.toNatClampNeg (2 : Int32))) * ((t1.2.2.1 7) (Int32.toNatClampNeg (3 : Int32))))) - (((((t1.2.2.1 6) (Int32.toNatClampNeg (3 : Int32))) * ((t1.2.2.1 7) (Int32.toNatClampNeg (2 : Int32)))) - (((t1.2.2.1 6) (Int32.toNatClampNeg (2 : Int32))) * ((t1.2.2.1 7) (Int32.toNatClampNeg (3 : Int32))))) * (((t1.2.2.1 7) (Int32.toNatClampNeg (0 : Int32))) * ((t1.2.2.1 7) (Int32.toNatClampNeg (1 : Int32))))))), (10, .long ((((t1.2.2.1 6) (Int32.toNatClampNeg (3 : Int32))) * ((t1.2.2.1 7) (Int32.toNatClampNeg (2 : Int32)))) - (((t1.2.2.1 6) (Int32.toNatClampNeg (2 : Int32))) * ((t1.2.2.1 7) (Int32.toNatClampNeg (3 : Int32)))))), (8, .long ((((t1.2.2.1 6) (Int32.toNatClampNeg (1 : Int32))) * ((t1.2.2.1 7) (Int32.toNatClampNeg (0 : Int32)))) - (((t1.2.2.1 6) (Int32.toNatClampNeg (0 : Int32))) * ((t1.2.2.1 7) (Int32.toNatClampNeg (1 : Int32)))))), (6, .long (((t1.2.2.1 7) (Int32.toNatClampNeg (2 : Int32))) * ((t1.2.2.1 7) (Int32.toNatClampNeg (3 : Int32))))), (4, .long (((t1.2.2.1 7) (Int32.toNatClampNeg (0 : Int32))) * ((t1.2.2.1 7) (Int32.toNatClampNeg (1 : Int32))))), (0, .ref (a 38)), (1, .int p0), (2, .int p1), (3, .int p2)] 196 [.int (if ((((((t1.2.2.1 6) (Int32.toNatClampNeg (1 : Int32))) * ((t1.2.2.1 7) (Int32.toNatClampNeg (0 : Int32)))) - (((t1.2.2.1 6) (Int32.toNatClampNeg (0 : Int32))) * ((t1.2.2.1 7) (Int32.toNatClampNeg (1 : Int32))))) * (((t1.2.2.1 7) (Int32.toNatClampNeg (2 : Int32))) * ((t1.2.2.1 7) (Int32.toNatClampNeg (3 : Int32))))) - (((((t1.2.2.1 6) (Int32.toNatClampNeg (3 : Int32))) * ((t1.2.2.1 7) (Int32.toNatClampNeg (2 : Int32)))) - (((t1.2.2.1 6) (Int32.toNatClampNeg (2 : Int32))) * ((t1.2.2.1 7) (Int32.toNatClampNeg (3 : Int32))))) * (((t1.2.2.1 7) (Int32.toNatClampNeg (0 : Int32))) * ((t1.2.2.1 7) (Int32.toNatClampNeg (1 : Int32)))))) ≤ (0 : Int64) then (if (0 : Int64) ≤ ((((((t1.2.2.1 6) (Int32.toNatClampNeg (1 : Int32))) * ((t1.2.2.1 7) (Int32.toNatClampNeg (0 : Int32)))) - (((t1.2.2.1 6) (Int32.toNatClampNeg (0 : Int32))) * ((t1.2.2.1 7) (Int32.toNatClampNeg (1 : Int32))))) * (((t1.2.2.1 7) (Int32.toNatClampNeg (2 : Int32))) * ((t1.2.2.1 7) (Int32.toNatClampNeg (3 : Int32))))) - (((((t1.2.2.1 6) (Int32.toNatClampNeg (3 : Int32))) * ((t1.2.2.1 7) (Int32.toNatClampNeg (2 : Int32)))) - (((t1.2.2.1 6) (Int32.toNatClampNeg (2 : Int32))) * ((t1.2.2.1 7) (Int32.toNatClampNeg (3 : Int32))))) * (((t1.2.2.1 7) (Int32.toNatClampNeg (0 : Int32))) * ((t1.2.2.1 7) (Int32.toNatClampNeg (1 : Int32)))))) then (0 : Int32) else (2 : Int32)) else (1 : Int32))] := by
              obtain rfl := Option.some.inj h
              exact z_iret M dt_X6_effect_7.2.2.2
            refine z_lcmp_le (tgt := 184) M dt_X6_effect_6.2.2.1.2 dt_X6_effect_6.2.2.2.1 (by decide) (fun hc4 => ?_) (fun hc4 => ?_)
            · refine z_lload M dt_X6_effect_7.1.1.1.2 0 rfl ?_
              refine z_lconst (v := 0) M dt_X6_effect_7.1.1.2 (by decide) ?_
              refine z_lcmp_ge (tgt := 195) M dt_X6_effect_7.1.2.1 dt_X6_effect_7.1.2.2 (by decide) (fun hc5 => ?_) (fun hc5 => ?_)
              · refine z_iconst M dt_X6_effect_7.2.2.1 ki_0 ?_
                exact (zTt hc5 (zTt hc4 hJ6))
              · refine z_iconst M dt_X6_effect_7.2.1.1 ki_2 ?_
                refine z_goto (tgt := 196) M dt_X6_effect_7.2.1.2 (by decide) ?_
                exact (zTf hc5 (zTt hc4 hJ6))
            · refine z_iconst M dt_X6_effect_6.2.2.2.2 ki_1 ?_
              refine z_goto (tgt := 196) M dt_X6_effect_7.1.1.1.1 (by decide) ?_
              exact (zTf hc4 hJ6)
          · have h := gIt hc h
            refine z_bipush M dt_X6_effect_3.1.1.1.1 kb_m2 ?_
            obtain rfl := Option.some.inj h
            exact z_iret M dt_X6_effect_3.1.1.1.2
      · have h := gIt hc h
        refine z_iconst M dt_X6_effect_0.2.2.1.2 ki_m1 ?_
        obtain rfl := Option.some.inj h
        exact z_iret M dt_X6_effect_0.2.2.2.1
theorem k_X6_effect {n : Nat} (M : zM l D zcl (zty cy) A ad (zR n) (cW a cy) own cc nL rt σo ov G) {p0 : Int32} {p1 : Int32} {p2 : Int32} {o : (Zst × Int32)} (h : f_X6_effect σ p0 p1 p2 = some o) {index : Nat} (hl : Cond.methodLink own index yX6_effect ∈ uw) (hR : 6 ≤ n) (hW : (st.map fun v => v.category).sum ≤ 8) (d : decode cc pc = .ok (.invokevirtual index, 3)) (kk : G o.1 lv (pc + 3) (.int o.2 :: st)) : G σ lv pc (.int p2 :: .int p1 :: .int p0 :: .ref (a 38) :: st) := z_callV M [.int p0, .int p1, .int p2] (m_X6_effect (zM_hD M) h) (hC38 σ) rfl hl u97 u1356 u1354 u1355 hd_X6_effect hR (by decide) rfl hW d kk
set_option maxHeartbeats 4000000 in
set_option maxRecDepth 100000 in
theorem m_X11_does (hD : ∀ σ, va_D A (cW a cy σ)) {σ : Zst} {p0 : Int32} {p1 : Int32} {p2 : Int32} {o : (Zst × Int32)} (h : f_X11_does σ p0 p1 p2 = some o) : zT l D zcl (zty cy) A ad (cW a cy) yX11_does cX11_does 4 (some .int) 6 [.ref (a 0), .int p0, .int p1, .int p2] σ o.1 (some (.int o.2)) := by
  refine z_met pn_X11 hD (Nat.le_of_ble_eq_true rfl) rfl (fun G M => ?_)
  refine z_aload_n M dt_X11_does_0.1.1.1 rfl 0 rfl ?_
  refine gf_X11_samples M u438 dt_X11_does_0.1.1.2 ?_
  refine z_iload_n M dt_X11_does_0.1.2.1 rfl 1 rfl ?_
  refine z_iload_n M dt_X11_does_0.1.2.2 rfl 2 rfl ?_
  refine z_iload_n M dt_X11_does_0.2.1.1 rfl 3 rfl ?_
  obtain ⟨t1, hc, h⟩ := gBd h
  refine k_X6_effect M hc u1353 (Nat.le_of_ble_eq_true rfl) (Nat.le_of_ble_eq_true rfl) dt_X11_does_0.2.1.2 ?_
  obtain rfl := Option.some.inj h
  exact z_iret M dt_X11_does_0.2.2
set_option maxHeartbeats 4000000 in
set_option maxRecDepth 100000 in
theorem m_X4_store (hD : ∀ σ, va_D A (cW a cy σ)) {σ : Zst} {p0 : Int32} {o : (Zst × Int32)} (h : f_X4_store σ p0 = some o) : zT l D zcl (zty cy) A ad (cW a cy) yX4_store cX4_store 2 (some .boolean) 2 [.ref (a 5), .int p0] σ o.1 (some (.int o.2)) := by
  refine z_met pn_X4 hD (Nat.le_of_ble_eq_true rfl) rfl (fun G M => ?_)
  refine z_iload_n M dt_X4_store_0.1.1.1.1 rfl 1 rfl ?_
  refine z_if_lt (tgt := 9) M dt_X4_store_0.1.1.1.2 (by decide) (fun hc => ?_) (fun hc => ?_)
  · have h := gIt hc h
    refine z_iconst M dt_X4_store_0.1.2.1.2 ki_0 ?_
    obtain rfl := Option.some.inj h
    exact z_zret M (nBo (Or.inl rfl)) dt_X4_store_0.1.2.2.1
  · have h := gIf hc h
    refine z_iload_n M dt_X4_store_0.1.1.2.1 rfl 1 rfl ?_
    refine z_iconst M dt_X4_store_0.1.1.2.2 ki_3 ?_
    refine z_icmp_lt (tgt := 11) M dt_X4_store_0.1.2.1.1 (by decide) (fun hc => ?_) (fun hc => ?_)
    · have h := gIt hc h
      refine z_aload_n M dt_X4_store_0.1.2.2.2 rfl 0 rfl ?_
      refine gf_X4_now M u158 dt_X4_store_0.2.1.1.1 ?_
      refine z_iconst M dt_X4_store_0.2.1.1.2 ki_0 ?_
      refine z_aload_n M dt_X4_store_0.2.1.2.1 rfl 0 rfl ?_
      refine gf_X4_kept M u159 dt_X4_store_0.2.1.2.2 ?_
      refine z_iload_n M dt_X4_store_0.2.2.1.1 rfl 1 rfl ?_
      have ⟨hg, h⟩ := gIx_s h
      by_cases hg1 : p0 = 0
      · have h := gIt hg1 h
        refine al_grid M hg (q := 8) (by rw [hg1]; rfl) dt_X4_store_0.2.2.1.2 ?_
        refine z_iconst M dt_X4_store_0.2.2.2.1 ki_0 ?_
        refine z_sipush M dt_X4_store_0.2.2.2.2 ks_4608 ?_
        refine z_copyi M u1376 u1378 u1377 u113 6 8 0 (hC6 _) (hC8 _) rfl (by decide) (by decide) (by decide) (by decide) (by decide) (Nat.le_of_ble_eq_true rfl) (Nat.le_of_ble_eq_true rfl) (σ1 := (zA σ 2 (va_cpy (σ.2.1 1) (σ.2.1 2) (Int32.toNatClampNeg (0 : Int32)) (Int32.toNatClampNeg (0 : Int32)) (Int32.toNatClampNeg (4608 : Int32))))) rfl dt_X4_store_1.1.1.1.1 ?_
        refine z_aload_n M dt_X4_store_1.1.1.1.2 rfl 0 rfl ?_
        refine gf_X4_keptR M u160 dt_X4_store_1.1.1.2.1 ?_
        refine z_iload_n M dt_X4_store_1.1.1.2.2 rfl 1 rfl ?_
        refine z_aload_n M dt_X4_store_1.1.2.1.1 rfl 0 rfl ?_
        refine gf_X4_r (σ := (zA σ 2 (va_cpy (σ.2.1 1) (σ.2.1 2) (Int32.toNatClampNeg (0 : Int32)) (Int32.toNatClampNeg (0 : Int32)) (Int32.toNatClampNeg (4608 : Int32))))) M u162 dt_X4_store_1.1.2.1.2 (v := (σ.1 2)) rfl ?_
        have ⟨hg, h⟩ := gIx_s h
        refine as_C11 (σ := (zA σ 2 (va_cpy (σ.2.1 1) (σ.2.1 2) (Int32.toNatClampNeg (0 : Int32)) (Int32.toNatClampNeg (0 : Int32)) (Int32.toNatClampNeg (4608 : Int32))))) M (f := (σ.2.1 5)) rfl hg dt_X4_store_1.1.2.2 ?_
        refine z_aload_n M dt_X4_store_1.2.1.1.1 rfl 0 rfl ?_
        refine gf_X4_isKept M u161 dt_X4_store_1.2.1.1.2 ?_
        refine z_iload_n M dt_X4_store_1.2.1.2.1 rfl 1 rfl ?_
        refine z_iconst M dt_X4_store_1.2.1.2.2 ki_1 ?_
        have ⟨hg, h⟩ := gIx_s h
        refine as_C12 (σ := (zA (zA σ 2 (va_cpy (σ.2.1 1) (σ.2.1 2) (Int32.toNatClampNeg (0 : Int32)) (Int32.toNatClampNeg (0 : Int32)) (Int32.toNatClampNeg (4608 : Int32)))) 5 (upd (σ.2.1 5) (Int32.toNatClampNeg p0) (σ.1 2)))) M (f := (σ.2.1 6)) rfl hg dt_X4_store_1.2.2.1.1 ?_
        refine z_iconst M dt_X4_store_1.2.2.1.2 ki_1 ?_
        obtain rfl := Option.some.inj h
        exact z_zret M (nBo (Or.inr rfl)) dt_X4_store_1.2.2.2
      have h := gIf hg1 h
      by_cases hg2 : p0 = 1
      · have h := gIt hg2 h
        refine al_grid M hg (q := 9) (by rw [hg2]; rfl) dt_X4_store_0.2.2.1.2 ?_
        refine z_iconst M dt_X4_store_0.2.2.2.1 ki_0 ?_
        refine z_sipush M dt_X4_store_0.2.2.2.2 ks_4608 ?_
        refine z_copyi M u1376 u1378 u1377 u113 6 9 0 (hC6 _) (hC9 _) rfl (by decide) (by decide) (by decide) (by decide) (by decide) (Nat.le_of_ble_eq_true rfl) (Nat.le_of_ble_eq_true rfl) (σ1 := (zA σ 3 (va_cpy (σ.2.1 1) (σ.2.1 3) (Int32.toNatClampNeg (0 : Int32)) (Int32.toNatClampNeg (0 : Int32)) (Int32.toNatClampNeg (4608 : Int32))))) rfl dt_X4_store_1.1.1.1.1 ?_
        refine z_aload_n M dt_X4_store_1.1.1.1.2 rfl 0 rfl ?_
        refine gf_X4_keptR M u160 dt_X4_store_1.1.1.2.1 ?_
        refine z_iload_n M dt_X4_store_1.1.1.2.2 rfl 1 rfl ?_
        refine z_aload_n M dt_X4_store_1.1.2.1.1 rfl 0 rfl ?_
        refine gf_X4_r (σ := (zA σ 3 (va_cpy (σ.2.1 1) (σ.2.1 3) (Int32.toNatClampNeg (0 : Int32)) (Int32.toNatClampNeg (0 : Int32)) (Int32.toNatClampNeg (4608 : Int32))))) M u162 dt_X4_store_1.1.2.1.2 (v := (σ.1 2)) rfl ?_
        have ⟨hg, h⟩ := gIx_s h
        refine as_C11 (σ := (zA σ 3 (va_cpy (σ.2.1 1) (σ.2.1 3) (Int32.toNatClampNeg (0 : Int32)) (Int32.toNatClampNeg (0 : Int32)) (Int32.toNatClampNeg (4608 : Int32))))) M (f := (σ.2.1 5)) rfl hg dt_X4_store_1.1.2.2 ?_
        refine z_aload_n M dt_X4_store_1.2.1.1.1 rfl 0 rfl ?_
        refine gf_X4_isKept M u161 dt_X4_store_1.2.1.1.2 ?_
        refine z_iload_n M dt_X4_store_1.2.1.2.1 rfl 1 rfl ?_
        refine z_iconst M dt_X4_store_1.2.1.2.2 ki_1 ?_
        have ⟨hg, h⟩ := gIx_s h
        refine as_C12 (σ := (zA (zA σ 3 (va_cpy (σ.2.1 1) (σ.2.1 3) (Int32.toNatClampNeg (0 : Int32)) (Int32.toNatClampNeg (0 : Int32)) (Int32.toNatClampNeg (4608 : Int32)))) 5 (upd (σ.2.1 5) (Int32.toNatClampNeg p0) (σ.1 2)))) M (f := (σ.2.1 6)) rfl hg dt_X4_store_1.2.2.1.1 ?_
        refine z_iconst M dt_X4_store_1.2.2.1.2 ki_1 ?_
        obtain rfl := Option.some.inj h
        exact z_zret M (nBo (Or.inr rfl)) dt_X4_store_1.2.2.2
      have h := gIf hg2 h
      have hg3 : p0 = 2 := zIx3 hg hg1 hg2
      refine al_grid M hg (q := 10) (by rw [hg3]; rfl) dt_X4_store_0.2.2.1.2 ?_
      refine z_iconst M dt_X4_store_0.2.2.2.1 ki_0 ?_
      refine z_sipush M dt_X4_store_0.2.2.2.2 ks_4608 ?_
      refine z_copyi M u1376 u1378 u1377 u113 6 10 0 (hC6 _) (hC10 _) rfl (by decide) (by decide) (by decide) (by decide) (by decide) (Nat.le_of_ble_eq_true rfl) (Nat.le_of_ble_eq_true rfl) (σ1 := (zA σ 4 (va_cpy (σ.2.1 1) (σ.2.1 4) (Int32.toNatClampNeg (0 : Int32)) (Int32.toNatClampNeg (0 : Int32)) (Int32.toNatClampNeg (4608 : Int32))))) rfl dt_X4_store_1.1.1.1.1 ?_
      refine z_aload_n M dt_X4_store_1.1.1.1.2 rfl 0 rfl ?_
      refine gf_X4_keptR M u160 dt_X4_store_1.1.1.2.1 ?_
      refine z_iload_n M dt_X4_store_1.1.1.2.2 rfl 1 rfl ?_
      refine z_aload_n M dt_X4_store_1.1.2.1.1 rfl 0 rfl ?_
      refine gf_X4_r (σ := (zA σ 4 (va_cpy (σ.2.1 1) (σ.2.1 4) (Int32.toNatClampNeg (0 : Int32)) (Int32.toNatClampNeg (0 : Int32)) (Int32.toNatClampNeg (4608 : Int32))))) M u162 dt_X4_store_1.1.2.1.2 (v := (σ.1 2)) rfl ?_
      have ⟨hg, h⟩ := gIx_s h
      refine as_C11 (σ := (zA σ 4 (va_cpy (σ.2.1 1) (σ.2.1 4) (Int32.toNatClampNeg (0 : Int32)) (Int32.toNatClampNeg (0 : Int32)) (Int32.toNatClampNeg (4608 : Int32))))) M (f := (σ.2.1 5)) rfl hg dt_X4_store_1.1.2.2 ?_
      refine z_aload_n M dt_X4_store_1.2.1.1.1 rfl 0 rfl ?_
      refine gf_X4_isKept M u161 dt_X4_store_1.2.1.1.2 ?_
      refine z_iload_n M dt_X4_store_1.2.1.2.1 rfl 1 rfl ?_
      refine z_iconst M dt_X4_store_1.2.1.2.2 ki_1 ?_
      have ⟨hg, h⟩ := gIx_s h
      refine as_C12 (σ := (zA (zA σ 4 (va_cpy (σ.2.1 1) (σ.2.1 4) (Int32.toNatClampNeg (0 : Int32)) (Int32.toNatClampNeg (0 : Int32)) (Int32.toNatClampNeg (4608 : Int32)))) 5 (upd (σ.2.1 5) (Int32.toNatClampNeg p0) (σ.1 2)))) M (f := (σ.2.1 6)) rfl hg dt_X4_store_1.2.2.1.1 ?_
      refine z_iconst M dt_X4_store_1.2.2.1.2 ki_1 ?_
      obtain rfl := Option.some.inj h
      exact z_zret M (nBo (Or.inr rfl)) dt_X4_store_1.2.2.2
    · have h := gIf hc h
      refine z_iconst M dt_X4_store_0.1.2.1.2 ki_0 ?_
      obtain rfl := Option.some.inj h
      exact z_zret M (nBo (Or.inl rfl)) dt_X4_store_0.1.2.2.1
theorem k_X4_store {n : Nat} (M : zM l D zcl (zty cy) A ad (zR n) (cW a cy) own cc nL rt σo ov G) {p0 : Int32} {o : (Zst × Int32)} (h : f_X4_store σ p0 = some o) {index : Nat} (hl : Cond.methodLink own index yX4_store ∈ uw) (hR : 3 ≤ n) (hW : (st.map fun v => v.category).sum ≤ 8) (d : decode cc pc = .ok (.invokevirtual index, 3)) (kk : G o.1 lv (pc + 3) (.int o.2 :: st)) : G σ lv pc (.int p0 :: .ref (a 5) :: st) := z_callV M [.int p0] (m_X4_store (zM_hD M) h) (hC5 σ) rfl hl u90 u1375 u1373 u1374 hd_X4_store hR (by decide) rfl hW d kk
set_option maxHeartbeats 4000000 in
set_option maxRecDepth 100000 in
theorem m_X11_keep (hD : ∀ σ, va_D A (cW a cy σ)) {σ : Zst} {p0 : Int32} {o : (Zst × Int32)} (h : f_X11_keep σ p0 = some o) : zT l D zcl (zty cy) A ad (cW a cy) yX11_keep cX11_keep 2 (some .boolean) 3 [.ref (a 0), .int p0] σ o.1 (some (.int o.2)) := by
  refine z_met pn_X11 hD (Nat.le_of_ble_eq_true rfl) rfl (fun G M => ?_)
  refine z_aload_n M dt_X11_keep_0.1.1.1 rfl 0 rfl ?_
  refine gf_X11_numbers M u432 dt_X11_keep_0.1.1.2 ?_
  refine z_iload_n M dt_X11_keep_0.1.2 rfl 1 rfl ?_
  obtain ⟨t1, hc, h⟩ := gBd h
  refine k_X4_store M hc u1372 (Nat.le_of_ble_eq_true rfl) (Nat.le_of_ble_eq_true rfl) dt_X11_keep_0.2.1 ?_
  have ⟨hg, h⟩ := gBo_s h
  obtain rfl := Option.some.inj h
  exact z_zret M (nBo hg) dt_X11_keep_0.2.2
set_option maxHeartbeats 4000000 in
set_option maxRecDepth 100000 in
theorem m_X4_restore (hD : ∀ σ, va_D A (cW a cy σ)) {σ : Zst} {p0 : Int32} {o : (Zst × Int32)} (h : f_X4_restore σ p0 = some o) : zT l D zcl (zty cy) A ad (cW a cy) yX4_restore cX4_restore 2 (some .boolean) 2 [.ref (a 5), .int p0] σ o.1 (some (.int o.2)) := by
  refine z_met pn_X4 hD (Nat.le_of_ble_eq_true rfl) rfl (fun G M => ?_)
  refine z_iload_n M dt_X4_restore_0.1.1.1.1 rfl 1 rfl ?_
  refine z_if_lt (tgt := 18) M dt_X4_restore_0.1.1.1.2 (by decide) (fun hc => ?_) (fun hc => ?_)
  · have h := gIt hc h
    refine z_iconst M dt_X4_restore_0.2.1.2.1 ki_0 ?_
    obtain rfl := Option.some.inj h
    exact z_zret M (nBo (Or.inl rfl)) dt_X4_restore_0.2.1.2.2
  · have h := gIf hc h
    refine z_iload_n M dt_X4_restore_0.1.1.2.1 rfl 1 rfl ?_
    refine z_iconst M dt_X4_restore_0.1.1.2.2 ki_3 ?_
    refine z_icmp_ge (tgt := 18) M dt_X4_restore_0.1.2.1.1 (by decide) (fun hc => ?_) (fun hc => ?_)
    · have h := gIt hc h
      refine z_iconst M dt_X4_restore_0.2.1.2.1 ki_0 ?_
      obtain rfl := Option.some.inj h
      exact z_zret M (nBo (Or.inl rfl)) dt_X4_restore_0.2.1.2.2
    · have h := gIf hc h
      refine z_aload_n M dt_X4_restore_0.1.2.1.2 rfl 0 rfl ?_
      refine gf_X4_isKept M u161 dt_X4_restore_0.1.2.2.1 ?_
      refine z_iload_n M dt_X4_restore_0.1.2.2.2 rfl 1 rfl ?_
      have ⟨hg, h⟩ := gIx_s h
      refine al_C12 (σ := σ) M (f := (σ.2.1 6)) rfl hg dt_X4_restore_0.2.1.1.1 ?_
      refine z_if_ne (tgt := 20) M dt_X4_restore_0.2.1.1.2 (by decide) (fun hc => ?_) (fun hc => ?_)
      · have h := gIf hc h
        refine z_aload_n M dt_X4_restore_0.2.2.1.1 rfl 0 rfl ?_
        refine gf_X4_kept M u159 dt_X4_restore_0.2.2.1.2 ?_
        refine z_iload_n M dt_X4_restore_0.2.2.2.1 rfl 1 rfl ?_
        have ⟨hg, h⟩ := gIx_s h
        by_cases hg1 : p0 = 0
        · have h := gIt hg1 h
          refine al_grid M hg (q := 8) (by rw [hg1]; rfl) dt_X4_restore_0.2.2.2.2 ?_
          refine z_iconst M dt_X4_restore_1.1.1.1.1 ki_0 ?_
          refine z_aload_n M dt_X4_restore_1.1.1.1.2 rfl 0 rfl ?_
          refine gf_X4_now M u158 dt_X4_restore_1.1.1.2.1 ?_
          refine z_iconst M dt_X4_restore_1.1.1.2.2 ki_0 ?_
          refine z_sipush M dt_X4_restore_1.1.2.1.1 ks_4608 ?_
          refine z_copyi M u1376 u1378 u1377 u113 8 6 0 (hC8 _) (hC6 _) rfl (by decide) (by decide) (by decide) (by decide) (by decide) (Nat.le_of_ble_eq_true rfl) (Nat.le_of_ble_eq_true rfl) (σ1 := (zA σ 1 (va_cpy (σ.2.1 2) (σ.2.1 1) (Int32.toNatClampNeg (0 : Int32)) (Int32.toNatClampNeg (0 : Int32)) (Int32.toNatClampNeg (4608 : Int32))))) rfl dt_X4_restore_1.1.2.1.2 ?_
          refine z_aload_n M dt_X4_restore_1.1.2.2 rfl 0 rfl ?_
          refine z_aload_n M dt_X4_restore_1.2.1.1.1 rfl 0 rfl ?_
          refine gf_X4_keptR M u160 dt_X4_restore_1.2.1.1.2 ?_
          refine z_iload_n M dt_X4_restore_1.2.1.2.1 rfl 1 rfl ?_
          have ⟨hg, h⟩ := gIx_s h
          refine al_C11 (σ := (zA σ 1 (va_cpy (σ.2.1 2) (σ.2.1 1) (Int32.toNatClampNeg (0 : Int32)) (Int32.toNatClampNeg (0 : Int32)) (Int32.toNatClampNeg (4608 : Int32))))) M (f := (σ.2.1 5)) rfl hg dt_X4_restore_1.2.1.2.2 ?_
          refine pf_X4_r M u162 dt_X4_restore_1.2.2.1.1 ?_
          refine z_iconst M dt_X4_restore_1.2.2.1.2 ki_1 ?_
          obtain rfl := Option.some.inj h
          exact z_zret M (nBo (Or.inr rfl)) dt_X4_restore_1.2.2.2
        have h := gIf hg1 h
        by_cases hg2 : p0 = 1
        · have h := gIt hg2 h
          refine al_grid M hg (q := 9) (by rw [hg2]; rfl) dt_X4_restore_0.2.2.2.2 ?_
          refine z_iconst M dt_X4_restore_1.1.1.1.1 ki_0 ?_
          refine z_aload_n M dt_X4_restore_1.1.1.1.2 rfl 0 rfl ?_
          refine gf_X4_now M u158 dt_X4_restore_1.1.1.2.1 ?_
          refine z_iconst M dt_X4_restore_1.1.1.2.2 ki_0 ?_
          refine z_sipush M dt_X4_restore_1.1.2.1.1 ks_4608 ?_
          refine z_copyi M u1376 u1378 u1377 u113 9 6 0 (hC9 _) (hC6 _) rfl (by decide) (by decide) (by decide) (by decide) (by decide) (Nat.le_of_ble_eq_true rfl) (Nat.le_of_ble_eq_true rfl) (σ1 := (zA σ 1 (va_cpy (σ.2.1 3) (σ.2.1 1) (Int32.toNatClampNeg (0 : Int32)) (Int32.toNatClampNeg (0 : Int32)) (Int32.toNatClampNeg (4608 : Int32))))) rfl dt_X4_restore_1.1.2.1.2 ?_
          refine z_aload_n M dt_X4_restore_1.1.2.2 rfl 0 rfl ?_
          refine z_aload_n M dt_X4_restore_1.2.1.1.1 rfl 0 rfl ?_
          refine gf_X4_keptR M u160 dt_X4_restore_1.2.1.1.2 ?_
          refine z_iload_n M dt_X4_restore_1.2.1.2.1 rfl 1 rfl ?_
          have ⟨hg, h⟩ := gIx_s h
          refine al_C11 (σ := (zA σ 1 (va_cpy (σ.2.1 3) (σ.2.1 1) (Int32.toNatClampNeg (0 : Int32)) (Int32.toNatClampNeg (0 : Int32)) (Int32.toNatClampNeg (4608 : Int32))))) M (f := (σ.2.1 5)) rfl hg dt_X4_restore_1.2.1.2.2 ?_
          refine pf_X4_r M u162 dt_X4_restore_1.2.2.1.1 ?_
          refine z_iconst M dt_X4_restore_1.2.2.1.2 ki_1 ?_
          obtain rfl := Option.some.inj h
          exact z_zret M (nBo (Or.inr rfl)) dt_X4_restore_1.2.2.2
        have h := gIf hg2 h
        have hg3 : p0 = 2 := zIx3 hg hg1 hg2
        refine al_grid M hg (q := 10) (by rw [hg3]; rfl) dt_X4_restore_0.2.2.2.2 ?_
        refine z_iconst M dt_X4_restore_1.1.1.1.1 ki_0 ?_
        refine z_aload_n M dt_X4_restore_1.1.1.1.2 rfl 0 rfl ?_
        refine gf_X4_now M u158 dt_X4_restore_1.1.1.2.1 ?_
        refine z_iconst M dt_X4_restore_1.1.1.2.2 ki_0 ?_
        refine z_sipush M dt_X4_restore_1.1.2.1.1 ks_4608 ?_
        refine z_copyi M u1376 u1378 u1377 u113 10 6 0 (hC10 _) (hC6 _) rfl (by decide) (by decide) (by decide) (by decide) (by decide) (Nat.le_of_ble_eq_true rfl) (Nat.le_of_ble_eq_true rfl) (σ1 := (zA σ 1 (va_cpy (σ.2.1 4) (σ.2.1 1) (Int32.toNatClampNeg (0 : Int32)) (Int32.toNatClampNeg (0 : Int32)) (Int32.toNatClampNeg (4608 : Int32))))) rfl dt_X4_restore_1.1.2.1.2 ?_
        refine z_aload_n M dt_X4_restore_1.1.2.2 rfl 0 rfl ?_
        refine z_aload_n M dt_X4_restore_1.2.1.1.1 rfl 0 rfl ?_
        refine gf_X4_keptR M u160 dt_X4_restore_1.2.1.1.2 ?_
        refine z_iload_n M dt_X4_restore_1.2.1.2.1 rfl 1 rfl ?_
        have ⟨hg, h⟩ := gIx_s h
        refine al_C11 (σ := (zA σ 1 (va_cpy (σ.2.1 4) (σ.2.1 1) (Int32.toNatClampNeg (0 : Int32)) (Int32.toNatClampNeg (0 : Int32)) (Int32.toNatClampNeg (4608 : Int32))))) M (f := (σ.2.1 5)) rfl hg dt_X4_restore_1.2.1.2.2 ?_
        refine pf_X4_r M u162 dt_X4_restore_1.2.2.1.1 ?_
        refine z_iconst M dt_X4_restore_1.2.2.1.2 ki_1 ?_
        obtain rfl := Option.some.inj h
        exact z_zret M (nBo (Or.inr rfl)) dt_X4_restore_1.2.2.2
      · have h := gIt hc h
        refine z_iconst M dt_X4_restore_0.2.1.2.1 ki_0 ?_
        obtain rfl := Option.some.inj h
        exact z_zret M (nBo (Or.inl rfl)) dt_X4_restore_0.2.1.2.2
theorem k_X4_restore {n : Nat} (M : zM l D zcl (zty cy) A ad (zR n) (cW a cy) own cc nL rt σo ov G) {p0 : Int32} {o : (Zst × Int32)} (h : f_X4_restore σ p0 = some o) {index : Nat} (hl : Cond.methodLink own index yX4_restore ∈ uw) (hR : 3 ≤ n) (hW : (st.map fun v => v.category).sum ≤ 8) (d : decode cc pc = .ok (.invokevirtual index, 3)) (kk : G o.1 lv (pc + 3) (.int o.2 :: st)) : G σ lv pc (.int p0 :: .ref (a 5) :: st) := z_callV M [.int p0] (m_X4_restore (zM_hD M) h) (hC5 σ) rfl hl u90 u1386 u1384 u1385 hd_X4_restore hR (by decide) rfl hW d kk
set_option maxHeartbeats 4000000 in
set_option maxRecDepth 100000 in
theorem m_X11_again (hD : ∀ σ, va_D A (cW a cy σ)) {σ : Zst} {p0 : Int32} {o : (Zst × Int32)} (h : f_X11_again σ p0 = some o) : zT l D zcl (zty cy) A ad (cW a cy) yX11_again cX11_again 2 (some .boolean) 3 [.ref (a 0), .int p0] σ o.1 (some (.int o.2)) := by
  refine z_met pn_X11 hD (Nat.le_of_ble_eq_true rfl) rfl (fun G M => ?_)
  refine z_aload_n M dt_X11_again_0.1.1.1 rfl 0 rfl ?_
  refine gf_X11_numbers M u432 dt_X11_again_0.1.1.2 ?_
  refine z_iload_n M dt_X11_again_0.1.2 rfl 1 rfl ?_
  obtain ⟨t1, hc, h⟩ := gBd h
  refine k_X4_restore M hc u1383 (Nat.le_of_ble_eq_true rfl) (Nat.le_of_ble_eq_true rfl) dt_X11_again_0.2.1 ?_
  have ⟨hg, h⟩ := gBo_s h
  obtain rfl := Option.some.inj h
  exact z_zret M (nBo hg) dt_X11_again_0.2.2
set_option maxHeartbeats 4000000 in
set_option maxRecDepth 100000 in
theorem m_X5_size (hD : ∀ σ, va_D A (cW a cy σ)) (σ0 : Zst) : zT l D zcl (zty cy) A ad (cW a cy) yX5_size cX5_size 1 (some .int) 1 [.ref (a 1)] σ0 σ0 (some (.int (f_X5_size σ0))) := by
  obtain ⟨o, h⟩ : ∃ o, f_X5_size σ0 = o := ⟨_, rfl⟩
  rw [h]
  refine z_met pn_X5 hD (Nat.le_of_ble_eq_true rfl) rfl (fun G M => ?_)
  refine z_aload_n M dt_X5_size_0.1.1 rfl 0 rfl ?_
  refine gf_X5_size (σ := σ0) M u129 dt_X5_size_0.1.2 (v := (σ0.1 0)) rfl ?_
  subst h
  exact z_iret M dt_X5_size_0.2
theorem k_X5_size {n : Nat} (M : zM l D zcl (zty cy) A ad (zR n) (cW a cy) own cc nL rt σo ov G)  {index : Nat} (hl : Cond.methodLink own index yX5_size ∈ uw) (hR : 2 ≤ n) (hW : (st.map fun v => v.category).sum ≤ 8) (d : decode cc pc = .ok (.invokevirtual index, 3)) (kk : G σ lv (pc + 3) (.int (f_X5_size σ) :: st)) : G σ lv pc (.ref (a 1) :: st) := z_callV M [] (m_X5_size (zM_hD M) σ ) (hC1 σ) rfl hl u88 u1416 u1414 u1415 hd_X5_size hR (by decide) rfl hW d kk
set_option maxHeartbeats 4000000 in
set_option maxRecDepth 100000 in
theorem wL_X4_size_4 {o : Int32} (M : zM l D zcl (zty cy) A ad (zR 1) (cW a cy) RX4 cX4_size 3 (some .int) σ0 (some (.int o)) G)    :
    ∀ (n4 : Nat) (v1 : Int32) (v2 : Int32), L_X4_size_4 σ0 n4 v1 v2 = some o → G σ0 [(0, .ref (a 5)), (1, .int v1), (2, .int v2)] 4 [] := by
  intro n4
  induction n4 with
  | zero => intro v1 v2 h; exact nomatch (show (none : Option Int32) = some _ from h)
  | succ n4 ih =>
    intro v1 v2 h
    refine z_iload_n M dt_X4_size_0.1.2.1.1 rfl 2 rfl ?_
    refine z_sipush M dt_X4_size_0.1.2.1.2 ks_4608 ?_
    refine z_icmp_ge (tgt := 29) M dt_X4_size_0.1.2.2.1 (by decide) (fun hc => ?_) (fun hc => ?_)
    · have h := gIt hc h
      refine z_iload_n M dt_X4_size_0.2.2.2.2 rfl 1 rfl ?_
      obtain rfl := Option.some.inj h
      exact z_iret M dt_X4_size_1
    · have h := gIf hc h
      refine z_aload_n M dt_X4_size_0.1.2.2.2 rfl 0 rfl ?_
      refine gf_X4_now M u158 dt_X4_size_0.2.1.1.1 ?_
      refine z_iload_n M dt_X4_size_0.2.1.1.2 rfl 2 rfl ?_
      have ⟨hg, h⟩ := gIx_s h
      refine al_C6 (σ := σ0) M (f := (σ0.2.1 1)) rfl hg dt_X4_size_0.2.1.2.1 ?_
      refine z_if_lt (tgt := 23) M dt_X4_size_0.2.1.2.2 (by decide) (fun hc => ?_) (fun hc => ?_)
      · have h := gIt hc h
        refine z_iinc (v := (v2 + (1 : Int32))) (lv' := [(2, .int (v2 + (1 : Int32))), (0, .ref (a 5)), (1, .int v1)]) M dt_X4_size_0.2.2.1.2 (k := 2) rfl (congrArg (fun q => v2 + q) ki_1) (by decide) rfl ?_
        refine z_goto (tgt := 4) M dt_X4_size_0.2.2.2.1 (by decide) ?_
        refine z_sub M [1, 2, 0] (lv' := [(0, .ref (a 5)), (1, .int v1), (2, .int (v2 + (1 : Int32)))]) rfl ?_
        exact ih v1 (v2 + (1 : Int32)) h
      · have h := gIf hc h
        refine z_iinc (v := (v1 + (1 : Int32))) (lv' := [(1, .int (v1 + (1 : Int32))), (0, .ref (a 5)), (2, .int v2)]) M dt_X4_size_0.2.2.1.1 (k := 1) rfl (congrArg (fun q => v1 + q) ki_1) (by decide) rfl ?_
        refine z_iinc (v := (v2 + (1 : Int32))) (lv' := [(2, .int (v2 + (1 : Int32))), (1, .int (v1 + (1 : Int32))), (0, .ref (a 5))]) M dt_X4_size_0.2.2.1.2 (k := 2) rfl (congrArg (fun q => v2 + q) ki_1) (by decide) rfl ?_
        refine z_goto (tgt := 4) M dt_X4_size_0.2.2.2.1 (by decide) ?_
        refine z_sub M [2, 1, 0] (lv' := [(0, .ref (a 5)), (1, .int (v1 + (1 : Int32))), (2, .int (v2 + (1 : Int32)))]) rfl ?_
        exact ih (v1 + (1 : Int32)) (v2 + (1 : Int32)) h
set_option maxHeartbeats 4000000 in
set_option maxRecDepth 100000 in
theorem m_X4_size (hD : ∀ σ, va_D A (cW a cy σ)) {σ0 : Zst}  {o : Int32} (h : f_X4_size σ0 = some o) : zT l D zcl (zty cy) A ad (cW a cy) yX4_size cX4_size 3 (some .int) 1 [.ref (a 5)] σ0 σ0 (some (.int o)) := by
  refine z_met pn_X4 hD (Nat.le_of_ble_eq_true rfl) rfl (fun G M => ?_)
  refine z_iconst M dt_X4_size_0.1.1.1.1 ki_0 ?_
  refine z_istore_n (lv' := [(1, .int (0 : Int32)), (0, .ref (a 5))]) M dt_X4_size_0.1.1.1.2 rfl (by decide) rfl ?_
  refine z_iconst M dt_X4_size_0.1.1.2.1 ki_0 ?_
  refine z_istore_n (lv' := [(2, .int (0 : Int32)), (1, .int (0 : Int32)), (0, .ref (a 5))]) M dt_X4_size_0.1.1.2.2 rfl (by decide) rfl ?_
  refine z_sub M [2, 1, 0] (lv' := [(0, .ref (a 5)), (1, .int (0 : Int32)), (2, .int (0 : Int32))]) rfl ?_
  exact wL_X4_size_4 M   zFu (0 : Int32) (0 : Int32) h
theorem k_X4_size {n : Nat} (M : zM l D zcl (zty cy) A ad (zR n) (cW a cy) own cc nL rt σo ov G)  {o : Int32} (h : f_X4_size σ = some o) {index : Nat} (hl : Cond.methodLink own index yX4_size ∈ uw) (hR : 2 ≤ n) (hW : (st.map fun v => v.category).sum ≤ 8) (d : decode cc pc = .ok (.invokevirtual index, 3)) (kk : G σ lv (pc + 3) (.int o :: st)) : G σ lv pc (.ref (a 5) :: st) := z_callV M [] (m_X4_size (zM_hD M) h) (hC5 σ) rfl hl u90 u1412 u1410 u1411 hd_X4_size hR (by decide) rfl hW d kk
set_option maxHeartbeats 4000000 in
set_option maxRecDepth 100000 in
theorem m_X3_size (hD : ∀ σ, va_D A (cW a cy σ)) (σ0 : Zst) : zT l D zcl (zty cy) A ad (cW a cy) yX3_size cX3_size 1 (some .int) 1 [.ref (a 46)] σ0 σ0 (some (.int (f_X3_size σ0))) := by
  obtain ⟨o, h⟩ : ∃ o, f_X3_size σ0 = o := ⟨_, rfl⟩
  rw [h]
  refine z_met pn_X3 hD (Nat.le_of_ble_eq_true rfl) rfl (fun G M => ?_)
  refine z_aload_n M dt_X3_size_0.1.1 rfl 0 rfl ?_
  refine gf_X3_papers (σ := σ0) M u414 dt_X3_size_0.1.2 (v := (σ0.1 23)) rfl ?_
  subst h
  exact z_iret M dt_X3_size_0.2
theorem k_X3_size {n : Nat} (M : zM l D zcl (zty cy) A ad (zR n) (cW a cy) own cc nL rt σo ov G)  {index : Nat} (hl : Cond.methodLink own index yX3_size ∈ uw) (hR : 2 ≤ n) (hW : (st.map fun v => v.category).sum ≤ 8) (d : decode cc pc = .ok (.invokevirtual index, 3)) (kk : G σ lv (pc + 3) (.int (f_X3_size σ) :: st)) : G σ lv pc (.ref (a 46) :: st) := z_callV M [] (m_X3_size (zM_hD M) σ ) (hC46 σ) rfl hl u98 u1408 u1406 u1407 hd_X3_size hR (by decide) rfl hW d kk
set_option maxHeartbeats 4000000 in
set_option maxRecDepth 100000 in
theorem m_X7_size (hD : ∀ σ, va_D A (cW a cy σ)) (σ0 : Zst) : zT l D zcl (zty cy) A ad (cW a cy) yX7_size cX7_size 1 (some .int) 1 [.ref (a 36)] σ0 σ0 (some (.int (f_X7_size σ0))) := by
  obtain ⟨o, h⟩ : ∃ o, f_X7_size σ0 = o := ⟨_, rfl⟩
  rw [h]
  refine z_met pn_X7 hD (Nat.le_of_ble_eq_true rfl) rfl (fun G M => ?_)
  refine z_aload_n M dt_X7_size_0.1.1 rfl 0 rfl ?_
  refine gf_X7_pieces (σ := σ0) M u350 dt_X7_size_0.1.2 (v := (σ0.1 21)) rfl ?_
  subst h
  exact z_iret M dt_X7_size_0.2
theorem k_X7_size {n : Nat} (M : zM l D zcl (zty cy) A ad (zR n) (cW a cy) own cc nL rt σo ov G)  {index : Nat} (hl : Cond.methodLink own index yX7_size ∈ uw) (hR : 2 ≤ n) (hW : (st.map fun v => v.category).sum ≤ 8) (d : decode cc pc = .ok (.invokevirtual index, 3)) (kk : G σ lv (pc + 3) (.int (f_X7_size σ) :: st)) : G σ lv pc (.ref (a 36) :: st) := z_callV M [] (m_X7_size (zM_hD M) σ ) (hC36 σ) rfl hl u96 u1404 u1402 u1403 hd_X7_size hR (by decide) rfl hW d kk
set_option maxHeartbeats 4000000 in
set_option maxRecDepth 100000 in
theorem m_X8_size (hD : ∀ σ, va_D A (cW a cy σ)) (σ0 : Zst) : zT l D zcl (zty cy) A ad (cW a cy) yX8_size cX8_size 1 (some .int) 1 [.ref (a 30)] σ0 σ0 (some (.int (f_X8_size σ0))) := by
  obtain ⟨o, h⟩ : ∃ o, f_X8_size σ0 = o := ⟨_, rfl⟩
  rw [h]
  refine z_met pn_X8 hD (Nat.le_of_ble_eq_true rfl) rfl (fun G M => ?_)
  refine z_aload_n M dt_X8_size_0.1.1 rfl 0 rfl ?_
  refine gf_X8_stories (σ := σ0) M u316 dt_X8_size_0.1.2 (v := (σ0.1 19)) rfl ?_
  subst h
  exact z_iret M dt_X8_size_0.2
theorem k_X8_size {n : Nat} (M : zM l D zcl (zty cy) A ad (zR n) (cW a cy) own cc nL rt σo ov G)  {index : Nat} (hl : Cond.methodLink own index yX8_size ∈ uw) (hR : 2 ≤ n) (hW : (st.map fun v => v.category).sum ≤ 8) (d : decode cc pc = .ok (.invokevirtual index, 3)) (kk : G σ lv (pc + 3) (.int (f_X8_size σ) :: st)) : G σ lv pc (.ref (a 30) :: st) := z_callV M [] (m_X8_size (zM_hD M) σ ) (hC30 σ) rfl hl u95 u1400 u1398 u1399 hd_X8_size hR (by decide) rfl hW d kk
set_option maxHeartbeats 4000000 in
set_option maxRecDepth 100000 in
theorem wL_X2_bits_4 {o : Int32} (M : zM l D zcl (zty cy) A ad (zR 3) (cW a cy) RX2 cX2_bits 3 (some .int) σ0 (some (.int o)) G)    :
    ∀ (n4 : Nat) (v1 : Int32) (v2 : Int32), L_X2_bits_4 σ0 n4 v1 v2 = some o → G σ0 [(0, .ref (a 13)), (1, .int v1), (2, .int v2)] 4 [] := by
  intro n4
  induction n4 with
  | zero => intro v1 v2 h; exact nomatch (show (none : Option Int32) = some _ from h)
  | succ n4 ih =>
    intro v1 v2 h
    refine z_iload_n M dt_X2_bits_0.1.2.1.1 rfl 2 rfl ?_
    refine z_bipush M dt_X2_bits_0.1.2.1.2 kb_6 ?_
    refine z_icmp_ge (tgt := 30) M dt_X2_bits_0.1.2.2.1 (by decide) (fun hc => ?_) (fun hc => ?_)
    · have h := gIt hc h
      refine z_iload_n M dt_X2_bits_1.2.1 rfl 1 rfl ?_
      obtain rfl := Option.some.inj h
      exact z_iret M dt_X2_bits_1.2.2
    · have h := gIf hc h
      refine z_aload_n M dt_X2_bits_0.1.2.2.2 rfl 0 rfl ?_
      refine z_iload_n M dt_X2_bits_0.2.1.1.1 rfl 2 rfl ?_
      obtain ⟨t1, hc, h⟩ := gBd h
      refine ku_Laws_sizeOf_X1_sizeOf_L M hc u782 (Nat.le_of_ble_eq_true rfl) (Nat.le_of_ble_eq_true rfl) dt_X2_bits_0.2.1.1.2 ?_
      refine z_if_le (tgt := 24) M dt_X2_bits_0.2.1.2.1 (by decide) (fun hc => ?_) (fun hc => ?_)
      · have h := gIt hc h
        refine z_iinc (v := (v2 + (1 : Int32))) (lv' := [(2, .int (v2 + (1 : Int32))), (0, .ref (a 13)), (1, .int v1)]) M dt_X2_bits_1.1.1.2 (k := 2) rfl (congrArg (fun q => v2 + q) ki_1) (by decide) rfl ?_
        refine z_goto (tgt := 4) M dt_X2_bits_1.1.2 (by decide) ?_
        refine z_sub M [1, 2, 0] (lv' := [(0, .ref (a 13)), (1, .int v1), (2, .int (v2 + (1 : Int32)))]) rfl ?_
        exact ih v1 (v2 + (1 : Int32)) h
      · have h := gIf hc h
        refine z_iload_n M dt_X2_bits_0.2.1.2.2 rfl 1 rfl ?_
        refine z_iconst M dt_X2_bits_0.2.2.1.1 ki_1 ?_
        refine z_iload_n M dt_X2_bits_0.2.2.1.2 rfl 2 rfl ?_
        refine z_ishl M dt_X2_bits_0.2.2.2.1 ?_
        refine z_ior M dt_X2_bits_0.2.2.2.2 ?_
        refine z_istore_n (lv' := [(1, .int (v1 ||| (jShl (1 : Int32) v2))), (0, .ref (a 13)), (2, .int v2)]) M dt_X2_bits_1.1.1.1 rfl (by decide) rfl ?_
        refine z_iinc (v := (v2 + (1 : Int32))) (lv' := [(2, .int (v2 + (1 : Int32))), (1, .int (v1 ||| (jShl (1 : Int32) v2))), (0, .ref (a 13))]) M dt_X2_bits_1.1.1.2 (k := 2) rfl (congrArg (fun q => v2 + q) ki_1) (by decide) rfl ?_
        refine z_goto (tgt := 4) M dt_X2_bits_1.1.2 (by decide) ?_
        refine z_sub M [2, 1, 0] (lv' := [(0, .ref (a 13)), (1, .int (v1 ||| (jShl (1 : Int32) v2))), (2, .int (v2 + (1 : Int32)))]) rfl ?_
        exact ih (v1 ||| (jShl (1 : Int32) v2)) (v2 + (1 : Int32)) h
set_option maxHeartbeats 4000000 in
set_option maxRecDepth 100000 in
theorem m_X2_bits (hD : ∀ σ, va_D A (cW a cy σ)) {σ0 : Zst}  {o : Int32} (h : f_X2_bits σ0 = some o) : zT l D zcl (zty cy) A ad (cW a cy) yX2_bits cX2_bits 3 (some .int) 3 [.ref (a 13)] σ0 σ0 (some (.int o)) := by
  refine z_met pn_X2 hD (Nat.le_of_ble_eq_true rfl) rfl (fun G M => ?_)
  refine z_iconst M dt_X2_bits_0.1.1.1.1 ki_0 ?_
  refine z_istore_n (lv' := [(1, .int (0 : Int32)), (0, .ref (a 13))]) M dt_X2_bits_0.1.1.1.2 rfl (by decide) rfl ?_
  refine z_iconst M dt_X2_bits_0.1.1.2.1 ki_0 ?_
  refine z_istore_n (lv' := [(2, .int (0 : Int32)), (1, .int (0 : Int32)), (0, .ref (a 13))]) M dt_X2_bits_0.1.1.2.2 rfl (by decide) rfl ?_
  refine z_sub M [2, 1, 0] (lv' := [(0, .ref (a 13)), (1, .int (0 : Int32)), (2, .int (0 : Int32))]) rfl ?_
  exact wL_X2_bits_4 M   zFu (0 : Int32) (0 : Int32) h
theorem k_X2_bits {n : Nat} (M : zM l D zcl (zty cy) A ad (zR n) (cW a cy) own cc nL rt σo ov G)  {o : Int32} (h : f_X2_bits σ = some o) {index : Nat} (hl : Cond.methodLink own index yX2_bits ∈ uw) (hR : 4 ≤ n) (hW : (st.map fun v => v.category).sum ≤ 8) (d : decode cc pc = .ok (.invokevirtual index, 3)) (kk : G σ lv (pc + 3) (.int o :: st)) : G σ lv pc (.ref (a 13) :: st) := z_callV M [] (m_X2_bits (zM_hD M) h) (hC13 σ) rfl hl u92 u1396 u1394 u1395 hd_X2_bits hR (by decide) rfl hW d kk
set_option maxHeartbeats 4000000 in
set_option maxRecDepth 100000 in
theorem m_X11_count (hD : ∀ σ, va_D A (cW a cy σ)) {σ0 : Zst} {p0 : Int32} {o : Int32} (h : f_X11_count σ0 p0 = some o) : zT l D zcl (zty cy) A ad (cW a cy) yX11_count cX11_count 2 (some .int) 4 [.ref (a 0), .int p0] σ0 σ0 (some (.int o)) := by
  refine z_met pn_X11 hD (Nat.le_of_ble_eq_true rfl) rfl (fun G M => ?_)
  refine z_iload_n M dt_X11_count_0.1.1.1.1 rfl 1 rfl ?_
  -- switch
  by_cases hs1 : p0 = (0 : Int32)
  · have h := gIt hs1 h
    refine z_tabIn (off := 51) (tgt := 52) M dt_X11_count_0.1.1.1.2 (by rw [hs1]; decide) (by rw [hs1]; decide) (by rw [hs1]; rfl) (by decide) ?_
    refine z_aload_n M dt_X11_count_0.1.1.2.1 rfl 0 rfl ?_
    refine gf_X11_town M u434 dt_X11_count_0.1.1.2.2 ?_
    refine k_X10_sortCount M u1391 (Nat.le_of_ble_eq_true rfl) (Nat.le_of_ble_eq_true rfl) dt_X11_count_0.1.2.1.1 ?_
    obtain rfl := Option.some.inj h
    exact z_iret M dt_X11_count_0.1.2.1.2
  · have h := gIf hs1 h
    by_cases hs2 : p0 = (1 : Int32)
    · have h := gIt hs2 h
      refine z_tabIn (off := 59) (tgt := 60) M dt_X11_count_0.1.1.1.2 (by rw [hs2]; decide) (by rw [hs2]; decide) (by rw [hs2]; rfl) (by decide) ?_
      refine z_aload_n M dt_X11_count_0.1.2.2.1 rfl 0 rfl ?_
      refine gf_X11_town M u434 dt_X11_count_0.1.2.2.2 ?_
      refine k_X10_streetCount M u1392 (Nat.le_of_ble_eq_true rfl) (Nat.le_of_ble_eq_true rfl) dt_X11_count_0.2.1.1.1 ?_
      obtain rfl := Option.some.inj h
      exact z_iret M dt_X11_count_0.2.1.1.2
    · have h := gIf hs2 h
      by_cases hs3 : p0 = (2 : Int32)
      · have h := gIt hs3 h
        refine z_tabIn (off := 67) (tgt := 68) M dt_X11_count_0.1.1.1.2 (by rw [hs3]; decide) (by rw [hs3]; decide) (by rw [hs3]; rfl) (by decide) ?_
        refine z_aload_n M dt_X11_count_0.2.1.2.1 rfl 0 rfl ?_
        refine gf_X11_laws M u433 dt_X11_count_0.2.1.2.2 ?_
        obtain ⟨t4, hc, h⟩ := gBd h
        refine k_X2_bits M hc u1393 (Nat.le_of_ble_eq_true rfl) (Nat.le_of_ble_eq_true rfl) dt_X11_count_0.2.2.1.1 ?_
        obtain rfl := Option.some.inj h
        exact z_iret M dt_X11_count_0.2.2.1.2
      · have h := gIf hs3 h
        by_cases hs5 : p0 = (3 : Int32)
        · have h := gIt hs5 h
          refine z_tabIn (off := 75) (tgt := 76) M dt_X11_count_0.1.1.1.2 (by rw [hs5]; decide) (by rw [hs5]; decide) (by rw [hs5]; rfl) (by decide) ?_
          refine z_aload_n M dt_X11_count_0.2.2.2.1 rfl 0 rfl ?_
          refine gf_X11_stories M u436 dt_X11_count_0.2.2.2.2 ?_
          refine k_X8_size M u1397 (Nat.le_of_ble_eq_true rfl) (Nat.le_of_ble_eq_true rfl) dt_X11_count_1.1.1.1.1 ?_
          obtain rfl := Option.some.inj h
          exact z_iret M dt_X11_count_1.1.1.1.2
        · have h := gIf hs5 h
          by_cases hs6 : p0 = (4 : Int32)
          · have h := gIt hs6 h
            refine z_tabIn (off := 83) (tgt := 84) M dt_X11_count_0.1.1.1.2 (by rw [hs6]; decide) (by rw [hs6]; decide) (by rw [hs6]; rfl) (by decide) ?_
            refine z_aload_n M dt_X11_count_1.1.1.2.1 rfl 0 rfl ?_
            refine gf_X11_sorters M u437 dt_X11_count_1.1.1.2.2 ?_
            refine k_X7_size M u1401 (Nat.le_of_ble_eq_true rfl) (Nat.le_of_ble_eq_true rfl) dt_X11_count_1.1.2.1.1 ?_
            obtain rfl := Option.some.inj h
            exact z_iret M dt_X11_count_1.1.2.1.2
          · have h := gIf hs6 h
            by_cases hs7 : p0 = (5 : Int32)
            · have h := gIt hs7 h
              refine z_tabIn (off := 91) (tgt := 92) M dt_X11_count_0.1.1.1.2 (by rw [hs7]; decide) (by rw [hs7]; decide) (by rw [hs7]; rfl) (by decide) ?_
              refine z_aload_n M dt_X11_count_1.1.2.2.1 rfl 0 rfl ?_
              refine gf_X11_mound M u439 dt_X11_count_1.1.2.2.2 ?_
              refine k_X3_size M u1405 (Nat.le_of_ble_eq_true rfl) (Nat.le_of_ble_eq_true rfl) dt_X11_count_1.2.1.1.1 ?_
              obtain rfl := Option.some.inj h
              exact z_iret M dt_X11_count_1.2.1.1.2
            · have h := gIf hs7 h
              by_cases hs8 : p0 = (6 : Int32)
              · have h := gIt hs8 h
                refine z_tabIn (off := 99) (tgt := 100) M dt_X11_count_0.1.1.1.2 (by rw [hs8]; decide) (by rw [hs8]; decide) (by rw [hs8]; rfl) (by decide) ?_
                refine z_aload_n M dt_X11_count_1.2.1.2.1 rfl 0 rfl ?_
                refine gf_X11_numbers M u432 dt_X11_count_1.2.1.2.2 ?_
                obtain ⟨t9, hc, h⟩ := gBd h
                refine k_X4_size M hc u1409 (Nat.le_of_ble_eq_true rfl) (Nat.le_of_ble_eq_true rfl) dt_X11_count_1.2.2.1.1 ?_
                obtain rfl := Option.some.inj h
                exact z_iret M dt_X11_count_1.2.2.1.2
              · have h := gIf hs8 h
                by_cases hs10 : p0 = (7 : Int32)
                · have h := gIt hs10 h
                  refine z_tabIn (off := 107) (tgt := 108) M dt_X11_count_0.1.1.1.2 (by rw [hs10]; decide) (by rw [hs10]; decide) (by rw [hs10]; rfl) (by decide) ?_
                  refine z_aload_n M dt_X11_count_1.2.2.2.1 rfl 0 rfl ?_
                  refine gf_X11_theRow M u430 dt_X11_count_1.2.2.2.2 ?_
                  refine k_X5_size M u1413 (Nat.le_of_ble_eq_true rfl) (Nat.le_of_ble_eq_true rfl) dt_X11_count_2.1.1.1 ?_
                  obtain rfl := Option.some.inj h
                  exact z_iret M dt_X11_count_2.1.1.2
                · have h := gIf hs10 h
                  by_cases hs11 : p0 = (8 : Int32)
                  · have h := gIt hs11 h
                    refine z_tabIn (off := 115) (tgt := 116) M dt_X11_count_0.1.1.1.2 (by rw [hs11]; decide) (by rw [hs11]; decide) (by rw [hs11]; rfl) (by decide) ?_
                    refine z_aload_n M dt_X11_count_2.1.2.1 rfl 0 rfl ?_
                    refine gf_X11_theText M u431 dt_X11_count_2.1.2.2 ?_
                    refine k_X9_size M u1417 (Nat.le_of_ble_eq_true rfl) (Nat.le_of_ble_eq_true rfl) dt_X11_count_2.2.1.1 ?_
                    obtain rfl := Option.some.inj h
                    exact z_iret M dt_X11_count_2.2.1.2
                  · have h := gIf hs11 h
                    have hD12 : G σ0 [(0, .ref (a 0)), (1, .int p0)] 124 [] := by
                      refine z_iconst M dt_X11_count_2.2.2.1 ki_m1 ?_
                      obtain rfl := Option.some.inj h
                      exact z_iret M dt_X11_count_2.2.2.2
                    by_cases hx : (Int32.toInt p0) < 0 ∨ 8 < (Int32.toInt p0)
                    · exact z_tabOut (tgt := 124) M dt_X11_count_0.1.1.1.2 hx (by decide) hD12
                    · obtain ⟨hx1, hx2⟩ := z_tabX hx
                      have hs1 : ¬ (Int32.toInt p0) = 0 := fun q => hs1 (Int32.toInt_inj.mp (q.trans (by decide)))
                      have hs2 : ¬ (Int32.toInt p0) = 1 := fun q => hs2 (Int32.toInt_inj.mp (q.trans (by decide)))
                      have hs3 : ¬ (Int32.toInt p0) = 2 := fun q => hs3 (Int32.toInt_inj.mp (q.trans (by decide)))
                      have hs5 : ¬ (Int32.toInt p0) = 3 := fun q => hs5 (Int32.toInt_inj.mp (q.trans (by decide)))
                      have hs6 : ¬ (Int32.toInt p0) = 4 := fun q => hs6 (Int32.toInt_inj.mp (q.trans (by decide)))
                      have hs7 : ¬ (Int32.toInt p0) = 5 := fun q => hs7 (Int32.toInt_inj.mp (q.trans (by decide)))
                      have hs8 : ¬ (Int32.toInt p0) = 6 := fun q => hs8 (Int32.toInt_inj.mp (q.trans (by decide)))
                      have hs10 : ¬ (Int32.toInt p0) = 7 := fun q => hs10 (Int32.toInt_inj.mp (q.trans (by decide)))
                      have hs11 : ¬ (Int32.toInt p0) = 8 := fun q => hs11 (Int32.toInt_inj.mp (q.trans (by decide)))
                      omega
set_option maxHeartbeats 4000000 in
set_option maxRecDepth 100000 in
theorem m_X12_thrown (hD : ∀ σ, va_D A (mW a cy ad σ)) (σ0 : Zst) : zT l D zcl (zty cy) A ad (mW a cy ad) yX12_thrown cX12_thrown 1 (some .int) 1 [.ref (a 0)] σ0 σ0 (some (.int (f_X12_thrown σ0))) := by
  obtain ⟨o, h⟩ : ∃ o, f_X12_thrown σ0 = o := ⟨_, rfl⟩
  rw [h]
  refine z_met pn_X12 hD (Nat.le_of_ble_eq_true rfl) rfl (fun G M => ?_)
  refine z_aload_n M dt_X12_thrown_0.1.1 rfl 0 rfl ?_
  refine gf_X12_thrown (σ := σ0) M u1960 dt_X12_thrown_0.1.2 (v := (σ0.1 0)) rfl ?_
  subst h
  exact z_iret M dt_X12_thrown_0.2
set_option maxHeartbeats 4000000 in
set_option maxRecDepth 100000 in
theorem m_X12_in (hD : ∀ σ, va_D A (wf σ)) (σ0 : Zst) (p0 : Int64) (p1 : Int64) (p2 : Int64) : zT l D zcl0 tys A ad wf yX12_in cX12_in 6 (some .boolean) 1 [.long p0, .long p1, .long p2] σ0 σ0 (some (.int (f_X12_in p0 p1 p2))) := by
  obtain ⟨o, h⟩ : ∃ o, f_X12_in p0 p1 p2 = o := ⟨_, rfl⟩
  rw [h]
  refine z_met pn_X12 hD (Nat.le_of_ble_eq_true rfl) rfl (fun G M => ?_)
  refine z_lload_n M dt_X12_in_0.1.1.1.1 rfl 0 rfl ?_
  refine z_lload_n M dt_X12_in_0.1.1.1.2 rfl 1 rfl ?_
  have hJ3 : G σ0 [(0, .long p0), (2, .long p1), (4, .long p2)] 18 [.int (if p0 < p1 then (0 : Int32) else (if p2 < p0 then (0 : Int32) else (1 : Int32)))] := by
    subst h
    exact z_zret M (nBo (boIte (Or.inl rfl) (boIte (Or.inl rfl) (Or.inr rfl)))) dt_X12_in_0.2.2.2
  refine z_lcmp_lt (tgt := 17) M dt_X12_in_0.1.1.2 dt_X12_in_0.1.2.1.1 (by decide) (fun hc1 => ?_) (fun hc1 => ?_)
  · refine z_iconst M dt_X12_in_0.2.2.1.2 ki_0 ?_
    exact (zTt hc1 hJ3)
  · refine z_lload_n M dt_X12_in_0.1.2.1.2 rfl 0 rfl ?_
    refine z_lload M dt_X12_in_0.1.2.2 2 rfl ?_
    refine z_lcmp_gt (tgt := 17) M dt_X12_in_0.2.1.1.1 dt_X12_in_0.2.1.1.2 (by decide) (fun hc2 => ?_) (fun hc2 => ?_)
    · refine z_iconst M dt_X12_in_0.2.2.1.2 ki_0 ?_
      exact (zTt hc2 (zTf hc1 hJ3))
    · refine z_iconst M dt_X12_in_0.2.1.2 ki_1 ?_
      refine z_goto (tgt := 18) M dt_X12_in_0.2.2.1.1 (by decide) ?_
      exact (zTf hc2 (zTf hc1 hJ3))
theorem k_X12_in {n : Nat} (M : zM l D zcl0 tys A ad (zR n) wf own cc nL rt σo ov G) {p0 : Int64} {p1 : Int64} {p2 : Int64} {index : Nat} (hl : Cond.methodLink own index yX12_in ∈ uw) (hR : 2 ≤ n) (hW : (st.map fun v => v.category).sum ≤ 8) (d : decode cc pc = .ok (.invokestatic index, 3)) (kk : G σ lv (pc + 3) (.int (f_X12_in p0 p1 p2) :: st)) : G σ lv pc (.long p2 :: .long p1 :: .long p0 :: st) := z_callS M [.long p0, .long p1, .long p2] (m_X12_in (zM_hD M) σ p0 p1 p2) hl u99 u1519 u1518 hd_X12_in hR (by decide) rfl hW d kk
set_option maxHeartbeats 4000000 in
set_option maxRecDepth 100000 in
theorem m_X12_sort (hD : ∀ σ, va_D A (mW a cy ad σ)) {σ : Zst} {p0 : Int32} {p1 : Int32} {p2 : Int32} {o : (Zst × Int32)} (h : f_X12_sort σ p0 p1 p2 = some o) : zT l D zcl (zty cy) A ad (mW a cy ad) yX12_sort cX12_sort 4 (some .int) 2 [.ref (a 0), .int p0, .int p1, .int p2] σ o.1 (some (.int o.2)) := by
  refine z_met pn_X12 hD (Nat.le_of_ble_eq_true rfl) rfl (fun G M => ?_)
  refine z_aload_n M dt_X12_sort_0.1.1.1.1 rfl 0 rfl ?_
  refine z_iconst M dt_X12_sort_0.1.1.1.2 ki_0 ?_
  refine pf_X12_thrown M u1960 dt_X12_sort_0.1.1.2.1 ?_
  refine z_iload_n M dt_X12_sort_0.1.1.2.2 rfl 1 rfl ?_
  refine z_i2l M dt_X12_sort_0.1.2.1.1 ?_
  refine z_lconst (v := 1) M dt_X12_sort_0.1.2.1.2 (by decide) ?_
  refine z_ldc2 M dt_X12_sort_0.1.2.2.1 u1516 ?_
  refine k_X12_in M u1517 (Nat.le_of_ble_eq_true rfl) (Nat.le_of_ble_eq_true rfl) dt_X12_sort_0.1.2.2.2 ?_
  refine z_if_eq (tgt := 52) M dt_X12_sort_0.2.1.1.1 (by decide) (fun hc => ?_) (fun hc => ?_)
  · have h := gIt hc h
    refine z_iconst M dt_X12_sort_1.2.1.1.2 ki_m1 ?_
    obtain rfl := Option.some.inj h
    exact z_iret M dt_X12_sort_1.2.1.2.1
  · have h := gIf hc h
    refine z_iload_n M dt_X12_sort_0.2.1.1.2 rfl 2 rfl ?_
    refine z_i2l M dt_X12_sort_0.2.1.2.1 ?_
    refine z_ldc2 M dt_X12_sort_0.2.1.2.2 u1520 ?_
    refine z_ldc2 M dt_X12_sort_0.2.2.1.1 u1521 ?_
    refine k_X12_in M u1517 (Nat.le_of_ble_eq_true rfl) (Nat.le_of_ble_eq_true rfl) dt_X12_sort_0.2.2.1.2 ?_
    refine z_if_eq (tgt := 52) M dt_X12_sort_0.2.2.2.1 (by decide) (fun hc => ?_) (fun hc => ?_)
    · have h := gIt hc h
      refine z_iconst M dt_X12_sort_1.2.1.1.2 ki_m1 ?_
      obtain rfl := Option.some.inj h
      exact z_iret M dt_X12_sort_1.2.1.2.1
    · have h := gIf hc h
      refine z_iload_n M dt_X12_sort_0.2.2.2.2 rfl 3 rfl ?_
      refine z_i2l M dt_X12_sort_1.1.1.1.1 ?_
      refine z_lconst (v := 1) M dt_X12_sort_1.1.1.1.2 (by decide) ?_
      refine z_ldc2 M dt_X12_sort_1.1.1.2.1 u1516 ?_
      refine k_X12_in M u1517 (Nat.le_of_ble_eq_true rfl) (Nat.le_of_ble_eq_true rfl) dt_X12_sort_1.1.1.2.2 ?_
      refine z_if_eq (tgt := 52) M dt_X12_sort_1.1.2.1.1 (by decide) (fun hc => ?_) (fun hc => ?_)
      · have h := gIt hc h
        refine z_iconst M dt_X12_sort_1.2.1.1.2 ki_m1 ?_
        obtain rfl := Option.some.inj h
        exact z_iret M dt_X12_sort_1.2.1.2.1
      · have h := gIf hc h
        refine z_aload_n M dt_X12_sort_1.1.2.1.2 rfl 0 rfl ?_
        refine gf_X12_sorts (σ := (zI σ 0 (0 : Int32))) M u1963 dt_X12_sort_1.1.2.2.1 (v := (σ.1 2)) rfl ?_
        refine z_bipush M dt_X12_sort_1.1.2.2.2 kb_8 ?_
        refine z_icmp_ne (tgt := 54) M dt_X12_sort_1.2.1.1.1 (by decide) (fun hc => ?_) (fun hc => ?_)
        · have h := gIf hc h
          refine z_aload_n M dt_X12_sort_1.2.1.2.2 rfl 0 rfl ?_
          refine gf_X12_leaves M u1964 dt_X12_sort_1.2.2.1.1 ?_
          refine z_aload_n M dt_X12_sort_1.2.2.1.2 rfl 0 rfl ?_
          refine gf_X12_sorts (σ := (zI σ 0 (0 : Int32))) M u1963 dt_X12_sort_1.2.2.2.1 (v := (σ.1 2)) rfl ?_
          refine z_iload_n M dt_X12_sort_1.2.2.2.2 rfl 1 rfl ?_
          have ⟨hg, h⟩ := gIx_s h
          refine as_M2 (σ := (zI σ 0 (0 : Int32))) M (f := (σ.2.1 0)) rfl hg dt_X12_sort_2.1.1.1.1 ?_
          refine z_aload_n M dt_X12_sort_2.1.1.1.2 rfl 0 rfl ?_
          refine gf_X12_rightOf M u1965 dt_X12_sort_2.1.1.2.1 ?_
          refine z_aload_n M dt_X12_sort_2.1.1.2.2 rfl 0 rfl ?_
          refine gf_X12_sorts (σ := (zA (zI σ 0 (0 : Int32)) 0 (upd (σ.2.1 0) (Int32.toNatClampNeg (σ.1 2)) p0))) M u1963 dt_X12_sort_2.1.2.1.1 (v := (σ.1 2)) rfl ?_
          refine z_iload_n M dt_X12_sort_2.1.2.1.2 rfl 2 rfl ?_
          have ⟨hg, h⟩ := gIx_s h
          refine as_M3 (σ := (zA (zI σ 0 (0 : Int32)) 0 (upd (σ.2.1 0) (Int32.toNatClampNeg (σ.1 2)) p0))) M (f := (σ.2.1 1)) rfl hg dt_X12_sort_2.1.2.2.1 ?_
          refine z_aload_n M dt_X12_sort_2.1.2.2.2 rfl 0 rfl ?_
          refine gf_X12_lastsOf M u1966 dt_X12_sort_2.2.1.1.1 ?_
          refine z_aload_n M dt_X12_sort_2.2.1.1.2 rfl 0 rfl ?_
          refine gf_X12_sorts (σ := (zA (zA (zI σ 0 (0 : Int32)) 0 (upd (σ.2.1 0) (Int32.toNatClampNeg (σ.1 2)) p0)) 1 (upd (σ.2.1 1) (Int32.toNatClampNeg (σ.1 2)) p1))) M u1963 dt_X12_sort_2.2.1.2.1 (v := (σ.1 2)) rfl ?_
          refine z_iload_n M dt_X12_sort_2.2.1.2.2 rfl 3 rfl ?_
          have ⟨hg, h⟩ := gIx_s h
          refine as_M4 (σ := (zA (zA (zI σ 0 (0 : Int32)) 0 (upd (σ.2.1 0) (Int32.toNatClampNeg (σ.1 2)) p0)) 1 (upd (σ.2.1 1) (Int32.toNatClampNeg (σ.1 2)) p1))) M (f := (σ.2.1 2)) rfl hg dt_X12_sort_2.2.2.1.1 ?_
          refine z_aload_n M dt_X12_sort_2.2.2.1.2 rfl 0 rfl ?_
          refine z_dup M dt_X12_sort_2.2.2.2.1 rfl ?_
          refine gf_X12_sorts (σ := (zA (zA (zA (zI σ 0 (0 : Int32)) 0 (upd (σ.2.1 0) (Int32.toNatClampNeg (σ.1 2)) p0)) 1 (upd (σ.2.1 1) (Int32.toNatClampNeg (σ.1 2)) p1)) 2 (upd (σ.2.1 2) (Int32.toNatClampNeg (σ.1 2)) p2))) M u1963 dt_X12_sort_2.2.2.2.2 (v := (σ.1 2)) rfl ?_
          refine z_iconst M dt_X12_sort_3.1.1.1 ki_1 ?_
          refine z_iadd M dt_X12_sort_3.1.1.2 ?_
          refine pf_X12_sorts M u1963 dt_X12_sort_3.1.2.1 ?_
          refine z_aload_n M dt_X12_sort_3.1.2.2 rfl 0 rfl ?_
          refine gf_X12_sorts (σ := (zI (zA (zA (zA (zI σ 0 (0 : Int32)) 0 (upd (σ.2.1 0) (Int32.toNatClampNeg (σ.1 2)) p0)) 1 (upd (σ.2.1 1) (Int32.toNatClampNeg (σ.1 2)) p1)) 2 (upd (σ.2.1 2) (Int32.toNatClampNeg (σ.1 2)) p2)) 2 ((σ.1 2) + (1 : Int32)))) M u1963 dt_X12_sort_3.2.1.1 (v := ((σ.1 2) + (1 : Int32))) rfl ?_
          refine z_iconst M dt_X12_sort_3.2.1.2 ki_1 ?_
          refine z_isub M dt_X12_sort_3.2.2.1 ?_
          obtain rfl := Option.some.inj h
          exact z_iret M dt_X12_sort_3.2.2.2
        · have h := gIt hc h
          refine z_iconst M dt_X12_sort_1.2.1.1.2 ki_m1 ?_
          obtain rfl := Option.some.inj h
          exact z_iret M dt_X12_sort_1.2.1.2.1
end ZWK
