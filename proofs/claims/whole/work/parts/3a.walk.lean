section ZWK
variable {l : Launch} {D : va_G} {A : Nat → Prop} {ad : (Nat → Nat) × (Nat → Nat)} {a : Nat → Nat} {cy : ClassId × (ClassId × (ClassId × ClassId))} {own : String} {cc : ByteArray} {nL : Nat} {rt : Option FieldType} {σo : Zst} {ov : Option Value} {G : Zst → List (Nat × Value) → Nat → List Value → Prop}
variable {σ σ0 : Zst} {lv : List (Nat × Value)} {pc : Nat} {st : List Value} {zcl0 : List vw_C} {tys : List (ClassId × FieldType)} {wf : Zst → va_W}
set_option maxHeartbeats 4000000 in
set_option maxRecDepth 100000 in
theorem m_X11_between (hD : ∀ σ, va_D A (wf σ)) (σ0 : Zst) (p0 : Int32) (p1 : Int32) (p2 : Int32) : zT l D zcl0 tys A ad wf yX11_between cX11_between 3 (some .boolean) 1 [.int p0, .int p1, .int p2] σ0 σ0 (some (.int (f_X11_between p0 p1 p2))) := by
  obtain ⟨o, h⟩ : ∃ o, f_X11_between p0 p1 p2 = o := ⟨_, rfl⟩
  rw [h]
  refine z_met pn_X11 hD (Nat.le_of_ble_eq_true rfl) rfl (fun G M => ?_)
  refine z_iload_n M dt_X11_between_0.1.1.1.1 rfl 0 rfl ?_
  refine z_iload_n M dt_X11_between_0.1.1.1.2 rfl 1 rfl ?_
  have hJ3 : G σ0 [(0, .int p0), (1, .int p1), (2, .int p2)] 15 [.int (if p0 < p1 then (0 : Int32) else (if p2 < p0 then (0 : Int32) else (1 : Int32)))] := by
    subst h
    exact z_zret M (nBo (boIte (Or.inl rfl) (boIte (Or.inl rfl) (Or.inr rfl)))) dt_X11_between_0.2.2.2
  refine z_icmp_lt (tgt := 14) M dt_X11_between_0.1.1.2 (by decide) (fun hc1 => ?_) (fun hc1 => ?_)
  · refine z_iconst M dt_X11_between_0.2.2.1 ki_0 ?_
    exact (zTt hc1 hJ3)
  · refine z_iload_n M dt_X11_between_0.1.2.1 rfl 0 rfl ?_
    refine z_iload_n M dt_X11_between_0.1.2.2 rfl 2 rfl ?_
    refine z_icmp_gt (tgt := 14) M dt_X11_between_0.2.1.1.1 (by decide) (fun hc2 => ?_) (fun hc2 => ?_)
    · refine z_iconst M dt_X11_between_0.2.2.1 ki_0 ?_
      exact (zTt hc2 (zTf hc1 hJ3))
    · refine z_iconst M dt_X11_between_0.2.1.1.2 ki_1 ?_
      refine z_goto (tgt := 15) M dt_X11_between_0.2.1.2 (by decide) ?_
      exact (zTf hc2 (zTf hc1 hJ3))
theorem k_X11_between {n : Nat} (M : zM l D zcl0 tys A ad (zR n) wf own cc nL rt σo ov G) {p0 : Int32} {p1 : Int32} {p2 : Int32} {index : Nat} (hl : Cond.methodLink own index yX11_between ∈ uw) (hR : 2 ≤ n) (hW : (st.map fun v => v.category).sum ≤ 8) (d : decode cc pc = .ok (.invokestatic index, 3)) (kk : G σ lv (pc + 3) (.int (f_X11_between p0 p1 p2) :: st)) : G σ lv pc (.int p2 :: .int p1 :: .int p0 :: st) := z_callS M [.int p0, .int p1, .int p2] (m_X11_between (zM_hD M) σ p0 p1 p2) hl u85 u469 u468 hd_X11_between hR (by decide) rfl hW d kk
theorem kn_X11_between {n : Nat} (M : zM l D zcl0 tys A ad (zR n) wf own cc nL rt σo ov G) {p0 : Int32} {p1 : Int32} {p2 : Int32} {index : Nat} {host : String} (hl : Cond.methodLinkNest own index yX11_between host ∈ zNw) (hR : 2 ≤ n) (hW : (st.map fun v => v.category).sum ≤ 8) (d : decode cc pc = .ok (.invokestatic index, 3)) (kk : G σ lv (pc + 3) (.int (f_X11_between p0 p1 p2) :: st)) : G σ lv pc (.int p2 :: .int p1 :: .int p0 :: st) := z_callSN M [.int p0, .int p1, .int p2] (m_X11_between (zM_hD M) σ p0 p1 p2) hl u85 u469 u468 hd_X11_between hR (by decide) rfl hW d kk
set_option maxHeartbeats 4000000 in
set_option maxRecDepth 100000 in
theorem m_X10_addSort (hD : ∀ σ, va_D A (cW a cy σ)) {σ : Zst} {p0 : Int32} {p1 : Int32} {p2 : Int32} {o : (Zst × Int32)} (h : f_X10_addSort σ p0 p1 p2 = some o) : zT l D zcl (zty cy) A ad (cW a cy) yX10_addSort cX10_addSort 5 (some .int) 2 [.ref (a 17), .int p0, .int p1, .int p2] σ o.1 (some (.int o.2)) := by
  refine z_met pn_X10 hD (Nat.le_of_ble_eq_true rfl) rfl (fun G M => ?_)
  refine z_iload_n M dt_X10_addSort_0.1.1.1.1 rfl 1 rfl ?_
  refine z_iconst M dt_X10_addSort_0.1.1.1.2 ki_1 ?_
  refine z_bipush M dt_X10_addSort_0.1.1.2.1 kb_100 ?_
  refine kn_X11_between M u467 (Nat.le_of_ble_eq_true rfl) (Nat.le_of_ble_eq_true rfl) dt_X10_addSort_0.1.1.2.2 ?_
  have hJ4 : G σ [(0, .ref (a 17)), (1, .int p0), (2, .int p1), (3, .int p2)] 35 [.int (if (f_X11_between p0 (1 : Int32) (100 : Int32)) = (0 : Int32) then (0 : Int32) else (if (f_X11_between p1 (-5 : Int32) (5 : Int32)) = (0 : Int32) then (0 : Int32) else (if (f_X11_between p2 (1 : Int32) (100 : Int32)) = (0 : Int32) then (0 : Int32) else (1 : Int32))))] := by
    refine z_istore (lv' := [(4, .int (if (f_X11_between p0 (1 : Int32) (100 : Int32)) = (0 : Int32) then (0 : Int32) else (if (f_X11_between p1 (-5 : Int32) (5 : Int32)) = (0 : Int32) then (0 : Int32) else (if (f_X11_between p2 (1 : Int32) (100 : Int32)) = (0 : Int32) then (0 : Int32) else (1 : Int32))))), (0, .ref (a 17)), (1, .int p0), (2, .int p1), (3, .int p2)]) M dt_X10_addSort_1.1.1.2.1 (by decide) rfl ?_
    refine z_iload M dt_X10_addSort_1.1.1.2.2 0 rfl ?_
    refine z_if_eq (tgt := 51) M dt_X10_addSort_1.1.2.1.1 (by decide) (fun hc => ?_) (fun hc => ?_)
    · have h := gIt hc h
      refine z_iconst M dt_X10_addSort_1.2.1.1.2 ki_m1 ?_
      obtain rfl := Option.some.inj h
      exact z_iret M dt_X10_addSort_1.2.1.2.1
    · have h := gIf hc h
      refine z_aload_n M dt_X10_addSort_1.1.2.1.2 rfl 1 rfl ?_
      refine gf_X10_sorts (σ := σ) M u233 dt_X10_addSort_1.1.2.2.1 (v := (σ.1 10)) rfl ?_
      refine z_bipush M dt_X10_addSort_1.1.2.2.2 kb_8 ?_
      refine z_icmp_lt (tgt := 53) M dt_X10_addSort_1.2.1.1.1 (by decide) (fun hc => ?_) (fun hc => ?_)
      · have h := gIt hc h
        refine z_aload_n M dt_X10_addSort_1.2.1.2.2 rfl 1 rfl ?_
        refine gf_X10_leaves M u224 dt_X10_addSort_1.2.2.1.1 ?_
        refine z_aload_n M dt_X10_addSort_1.2.2.1.2 rfl 1 rfl ?_
        refine gf_X10_sorts (σ := σ) M u233 dt_X10_addSort_1.2.2.2.1 (v := (σ.1 10)) rfl ?_
        refine z_iload_n M dt_X10_addSort_1.2.2.2.2 rfl 2 rfl ?_
        have ⟨hg, h⟩ := gIx_s h
        refine as_C18 (σ := σ) M (f := (σ.2.1 10)) rfl hg dt_X10_addSort_2.1.1.1.1 ?_
        refine z_aload_n M dt_X10_addSort_2.1.1.1.2 rfl 1 rfl ?_
        refine gf_X10_rights M u225 dt_X10_addSort_2.1.1.2.1 ?_
        refine z_aload_n M dt_X10_addSort_2.1.1.2.2 rfl 1 rfl ?_
        refine gf_X10_sorts (σ := (zA σ 10 (upd (σ.2.1 10) (Int32.toNatClampNeg (σ.1 10)) p0))) M u233 dt_X10_addSort_2.1.2.1.1 (v := (σ.1 10)) rfl ?_
        refine z_iload_n M dt_X10_addSort_2.1.2.1.2 rfl 3 rfl ?_
        have ⟨hg, h⟩ := gIx_s h
        refine as_C19 (σ := (zA σ 10 (upd (σ.2.1 10) (Int32.toNatClampNeg (σ.1 10)) p0))) M (f := (σ.2.1 11)) rfl hg dt_X10_addSort_2.1.2.2.1 ?_
        refine z_aload_n M dt_X10_addSort_2.1.2.2.2 rfl 1 rfl ?_
        refine gf_X10_lasts M u226 dt_X10_addSort_2.2.1.1.1 ?_
        refine z_aload_n M dt_X10_addSort_2.2.1.1.2 rfl 1 rfl ?_
        refine gf_X10_sorts (σ := (zA (zA σ 10 (upd (σ.2.1 10) (Int32.toNatClampNeg (σ.1 10)) p0)) 11 (upd (σ.2.1 11) (Int32.toNatClampNeg (σ.1 10)) p1))) M u233 dt_X10_addSort_2.2.1.2.1 (v := (σ.1 10)) rfl ?_
        refine z_iload_n M dt_X10_addSort_2.2.1.2.2 rfl 4 rfl ?_
        have ⟨hg, h⟩ := gIx_s h
        refine as_C20 (σ := (zA (zA σ 10 (upd (σ.2.1 10) (Int32.toNatClampNeg (σ.1 10)) p0)) 11 (upd (σ.2.1 11) (Int32.toNatClampNeg (σ.1 10)) p1))) M (f := (σ.2.1 12)) rfl hg dt_X10_addSort_2.2.2.1.1 ?_
        refine z_aload_n M dt_X10_addSort_2.2.2.1.2 rfl 1 rfl ?_
        refine z_dup M dt_X10_addSort_2.2.2.2.1 rfl ?_
        refine gf_X10_sorts (σ := (zA (zA (zA σ 10 (upd (σ.2.1 10) (Int32.toNatClampNeg (σ.1 10)) p0)) 11 (upd (σ.2.1 11) (Int32.toNatClampNeg (σ.1 10)) p1)) 12 (upd (σ.2.1 12) (Int32.toNatClampNeg (σ.1 10)) p2))) M u233 dt_X10_addSort_2.2.2.2.2 (v := (σ.1 10)) rfl ?_
        refine z_iconst M dt_X10_addSort_3.1.1.1 ki_1 ?_
        refine z_iadd M dt_X10_addSort_3.1.1.2 ?_
        refine pf_X10_sorts M u233 dt_X10_addSort_3.1.2.1 ?_
        refine z_aload_n M dt_X10_addSort_3.1.2.2 rfl 1 rfl ?_
        refine gf_X10_sorts (σ := (zI (zA (zA (zA σ 10 (upd (σ.2.1 10) (Int32.toNatClampNeg (σ.1 10)) p0)) 11 (upd (σ.2.1 11) (Int32.toNatClampNeg (σ.1 10)) p1)) 12 (upd (σ.2.1 12) (Int32.toNatClampNeg (σ.1 10)) p2)) 10 ((σ.1 10) + (1 : Int32)))) M u233 dt_X10_addSort_3.2.1.1 (v := ((σ.1 10) + (1 : Int32))) rfl ?_
        refine z_iconst M dt_X10_addSort_3.2.1.2 ki_1 ?_
        refine z_isub M dt_X10_addSort_3.2.2.1 ?_
        obtain rfl := Option.some.inj h
        exact z_iret M dt_X10_addSort_3.2.2.2
      · have h := gIf hc h
        refine z_iconst M dt_X10_addSort_1.2.1.1.2 ki_m1 ?_
        obtain rfl := Option.some.inj h
        exact z_iret M dt_X10_addSort_1.2.1.2.1
  refine z_if_eq (tgt := 34) M dt_X10_addSort_0.1.2.1.1 (by decide) (fun hc1 => ?_) (fun hc1 => ?_)
  · refine z_iconst M dt_X10_addSort_1.1.1.1.2 ki_0 ?_
    exact (zTt hc1 hJ4)
  · refine z_iload_n M dt_X10_addSort_0.1.2.1.2 rfl 2 rfl ?_
    refine z_bipush M dt_X10_addSort_0.1.2.2.1 kb_m5 ?_
    refine z_iconst M dt_X10_addSort_0.1.2.2.2 ki_5 ?_
    refine kn_X11_between M u467 (Nat.le_of_ble_eq_true rfl) (Nat.le_of_ble_eq_true rfl) dt_X10_addSort_0.2.1.1.1 ?_
    refine z_if_eq (tgt := 34) M dt_X10_addSort_0.2.1.1.2 (by decide) (fun hc2 => ?_) (fun hc2 => ?_)
    · refine z_iconst M dt_X10_addSort_1.1.1.1.2 ki_0 ?_
      exact (zTt hc2 (zTf hc1 hJ4))
    · refine z_iload_n M dt_X10_addSort_0.2.1.2.1 rfl 3 rfl ?_
      refine z_iconst M dt_X10_addSort_0.2.1.2.2 ki_1 ?_
      refine z_bipush M dt_X10_addSort_0.2.2.1.1 kb_100 ?_
      refine kn_X11_between M u467 (Nat.le_of_ble_eq_true rfl) (Nat.le_of_ble_eq_true rfl) dt_X10_addSort_0.2.2.1.2 ?_
      refine z_if_eq (tgt := 34) M dt_X10_addSort_0.2.2.2.1 (by decide) (fun hc3 => ?_) (fun hc3 => ?_)
      · refine z_iconst M dt_X10_addSort_1.1.1.1.2 ki_0 ?_
        exact (zTt hc3 (zTf hc2 (zTf hc1 hJ4)))
      · refine z_iconst M dt_X10_addSort_0.2.2.2.2 ki_1 ?_
        refine z_goto (tgt := 35) M dt_X10_addSort_1.1.1.1.1 (by decide) ?_
        exact (zTf hc3 (zTf hc2 (zTf hc1 hJ4)))
theorem k_X10_addSort {n : Nat} (M : zM l D zcl (zty cy) A ad (zR n) (cW a cy) own cc nL rt σo ov G) {p0 : Int32} {p1 : Int32} {p2 : Int32} {o : (Zst × Int32)} (h : f_X10_addSort σ p0 p1 p2 = some o) {index : Nat} (hl : Cond.methodLink own index yX10_addSort ∈ uw) (hR : 3 ≤ n) (hW : (st.map fun v => v.category).sum ≤ 8) (d : decode cc pc = .ok (.invokevirtual index, 3)) (kk : G o.1 lv (pc + 3) (.int o.2 :: st)) : G σ lv pc (.int p2 :: .int p1 :: .int p0 :: .ref (a 17) :: st) := z_callV M [.int p0, .int p1, .int p2] (m_X10_addSort (zM_hD M) h) (hC17 σ) rfl hl u91 u466 u464 u465 hd_X10_addSort hR (by decide) rfl hW d kk
set_option maxHeartbeats 4000000 in
set_option maxRecDepth 100000 in
theorem m_X11_sort (hD : ∀ σ, va_D A (cW a cy σ)) {σ : Zst} {p0 : Int32} {p1 : Int32} {p2 : Int32} {o : (Zst × Int32)} (h : f_X11_sort σ p0 p1 p2 = some o) : zT l D zcl (zty cy) A ad (cW a cy) yX11_sort cX11_sort 4 (some .int) 3 [.ref (a 0), .int p0, .int p1, .int p2] σ o.1 (some (.int o.2)) := by
  refine z_met pn_X11 hD (Nat.le_of_ble_eq_true rfl) rfl (fun G M => ?_)
  refine z_aload_n M dt_X11_sort_0.1.1.1 rfl 0 rfl ?_
  refine gf_X11_town M u432 dt_X11_sort_0.1.1.2 ?_
  refine z_iload_n M dt_X11_sort_0.1.2.1 rfl 1 rfl ?_
  refine z_iload_n M dt_X11_sort_0.1.2.2 rfl 2 rfl ?_
  refine z_iload_n M dt_X11_sort_0.2.1.1 rfl 3 rfl ?_
  obtain ⟨t1, hc, h⟩ := gBd h
  refine k_X10_addSort M hc u463 (Nat.le_of_ble_eq_true rfl) (Nat.le_of_ble_eq_true rfl) dt_X11_sort_0.2.1.2 ?_
  obtain rfl := Option.some.inj h
  exact z_iret M dt_X11_sort_0.2.2
set_option maxHeartbeats 4000000 in
set_option maxRecDepth 100000 in
theorem m_X11_isKind (hD : ∀ σ, va_D A (wf σ)) (σ0 : Zst) (p0 : Int32) : zT l D zcl0 tys A ad wf yX11_isKind cX11_isKind 1 (some .boolean) 2 [.int p0] σ0 σ0 (some (.int (f_X11_isKind p0))) := by
  obtain ⟨o, h⟩ : ∃ o, f_X11_isKind p0 = o := ⟨_, rfl⟩
  rw [h]
  refine z_met pn_X11 hD (Nat.le_of_ble_eq_true rfl) rfl (fun G M => ?_)
  refine z_iload_n M dt_X11_isKind_0.1.1.1 rfl 0 rfl ?_
  refine z_iconst M dt_X11_isKind_0.1.1.2 ki_0 ?_
  refine z_iconst M dt_X11_isKind_0.1.2 ki_5 ?_
  refine k_X11_between M u501 (Nat.le_of_ble_eq_true rfl) (Nat.le_of_ble_eq_true rfl) dt_X11_isKind_0.2.1 ?_
  subst h
  exact z_zret M (nBo (bo_X11_between p0 (0 : Int32) (5 : Int32))) dt_X11_isKind_0.2.2
theorem kn_X11_isKind {n : Nat} (M : zM l D zcl0 tys A ad (zR n) wf own cc nL rt σo ov G) {p0 : Int32} {index : Nat} {host : String} (hl : Cond.methodLinkNest own index yX11_isKind host ∈ zNw) (hR : 3 ≤ n) (hW : (st.map fun v => v.category).sum ≤ 8) (d : decode cc pc = .ok (.invokestatic index, 3)) (kk : G σ lv (pc + 3) (.int (f_X11_isKind p0) :: st)) : G σ lv pc (.int p0 :: st) := z_callSN M [.int p0] (m_X11_isKind (zM_hD M) σ p0) hl u85 u512 u511 hd_X11_isKind hR (by decide) rfl hW d kk
set_option maxHeartbeats 4000000 in
set_option maxRecDepth 100000 in
theorem m_X10_cellCount (hD : ∀ σ, va_D A (cW a cy σ)) (σ0 : Zst) : zT l D zcl (zty cy) A ad (cW a cy) yX10_cellCount cX10_cellCount 1 (some .int) 1 [.ref (a 17)] σ0 σ0 (some (.int (f_X10_cellCount σ0))) := by
  obtain ⟨o, h⟩ : ∃ o, f_X10_cellCount σ0 = o := ⟨_, rfl⟩
  rw [h]
  refine z_met pn_X10 hD (Nat.le_of_ble_eq_true rfl) rfl (fun G M => ?_)
  refine z_bipush M dt_X10_cellCount_0.1.1.1 kb_12 ?_
  refine z_aload_n M dt_X10_cellCount_0.1.1.2 rfl 0 rfl ?_
  refine gf_X10_streets (σ := σ0) M u234 dt_X10_cellCount_0.1.2 (v := (σ0.1 11)) rfl ?_
  refine z_imul M dt_X10_cellCount_0.2.1 ?_
  subst h
  exact z_iret M dt_X10_cellCount_0.2.2
theorem k_X10_cellCount {n : Nat} (M : zM l D zcl (zty cy) A ad (zR n) (cW a cy) own cc nL rt σo ov G)  {index : Nat} (hl : Cond.methodLink own index yX10_cellCount ∈ uw) (hR : 2 ≤ n) (hW : (st.map fun v => v.category).sum ≤ 8) (d : decode cc pc = .ok (.invokevirtual index, 3)) (kk : G σ lv (pc + 3) (.int (f_X10_cellCount σ) :: st)) : G σ lv pc (.ref (a 17) :: st) := z_callV M [] (m_X10_cellCount (zM_hD M) σ ) (hC17 σ) rfl hl u91 u520 u518 u519 hd_X10_cellCount hR (by decide) rfl hW d kk
set_option maxHeartbeats 4000000 in
set_option maxRecDepth 100000 in
theorem m_X10_hasCell (hD : ∀ σ, va_D A (cW a cy σ)) (σ0 : Zst) (p0 : Int32) : zT l D zcl (zty cy) A ad (cW a cy) yX10_hasCell cX10_hasCell 2 (some .boolean) 2 [.ref (a 17), .int p0] σ0 σ0 (some (.int (f_X10_hasCell σ0 p0))) := by
  obtain ⟨o, h⟩ : ∃ o, f_X10_hasCell σ0 p0 = o := ⟨_, rfl⟩
  rw [h]
  refine z_met pn_X10 hD (Nat.le_of_ble_eq_true rfl) rfl (fun G M => ?_)
  refine z_iload_n M dt_X10_hasCell_0.1.1.1.1 rfl 1 rfl ?_
  have hJ3 : G σ0 [(0, .ref (a 17)), (1, .int p0)] 17 [.int (if p0 < (0 : Int32) then (0 : Int32) else (if (f_X10_cellCount σ0) ≤ p0 then (0 : Int32) else (1 : Int32)))] := by
    subst h
    exact z_zret M (nBo (boIte (Or.inl rfl) (boIte (Or.inl rfl) (Or.inr rfl)))) dt_X10_hasCell_0.2.2.2
  refine z_if_lt (tgt := 16) M dt_X10_hasCell_0.1.1.1.2 (by decide) (fun hc1 => ?_) (fun hc1 => ?_)
  · refine z_iconst M dt_X10_hasCell_0.2.2.1 ki_0 ?_
    exact (zTt hc1 hJ3)
  · refine z_iload_n M dt_X10_hasCell_0.1.1.2 rfl 1 rfl ?_
    refine z_aload_n M dt_X10_hasCell_0.1.2.1 rfl 0 rfl ?_
    refine k_X10_cellCount M u517 (Nat.le_of_ble_eq_true rfl) (Nat.le_of_ble_eq_true rfl) dt_X10_hasCell_0.1.2.2 ?_
    refine z_icmp_ge (tgt := 16) M dt_X10_hasCell_0.2.1.1.1 (by decide) (fun hc2 => ?_) (fun hc2 => ?_)
    · refine z_iconst M dt_X10_hasCell_0.2.2.1 ki_0 ?_
      exact (zTt hc2 (zTf hc1 hJ3))
    · refine z_iconst M dt_X10_hasCell_0.2.1.1.2 ki_1 ?_
      refine z_goto (tgt := 17) M dt_X10_hasCell_0.2.1.2 (by decide) ?_
      exact (zTf hc2 (zTf hc1 hJ3))
theorem k_X10_hasCell {n : Nat} (M : zM l D zcl (zty cy) A ad (zR n) (cW a cy) own cc nL rt σo ov G) {p0 : Int32} {index : Nat} (hl : Cond.methodLink own index yX10_hasCell ∈ uw) (hR : 3 ≤ n) (hW : (st.map fun v => v.category).sum ≤ 8) (d : decode cc pc = .ok (.invokevirtual index, 3)) (kk : G σ lv (pc + 3) (.int (f_X10_hasCell σ p0) :: st)) : G σ lv pc (.int p0 :: .ref (a 17) :: st) := z_callV M [.int p0] (m_X10_hasCell (zM_hD M) σ p0) (hC17 σ) rfl hl u91 u516 u514 u515 hd_X10_hasCell hR (by decide) rfl hW d kk
set_option maxHeartbeats 4000000 in
set_option maxRecDepth 100000 in
theorem m_X10_hasSort (hD : ∀ σ, va_D A (cW a cy σ)) (σ0 : Zst) (p0 : Int32) : zT l D zcl (zty cy) A ad (cW a cy) yX10_hasSort cX10_hasSort 2 (some .boolean) 1 [.ref (a 17), .int p0] σ0 σ0 (some (.int (f_X10_hasSort σ0 p0))) := by
  obtain ⟨o, h⟩ : ∃ o, f_X10_hasSort σ0 p0 = o := ⟨_, rfl⟩
  rw [h]
  refine z_met pn_X10 hD (Nat.le_of_ble_eq_true rfl) rfl (fun G M => ?_)
  refine z_iload_n M dt_X10_hasSort_0.1.1.1.1 rfl 1 rfl ?_
  have hJ3 : G σ0 [(0, .ref (a 17)), (1, .int p0)] 17 [.int (if p0 < (0 : Int32) then (0 : Int32) else (if (σ0.1 10) ≤ p0 then (0 : Int32) else (1 : Int32)))] := by
    subst h
    exact z_zret M (nBo (boIte (Or.inl rfl) (boIte (Or.inl rfl) (Or.inr rfl)))) dt_X10_hasSort_0.2.2.2
  refine z_if_lt (tgt := 16) M dt_X10_hasSort_0.1.1.1.2 (by decide) (fun hc1 => ?_) (fun hc1 => ?_)
  · refine z_iconst M dt_X10_hasSort_0.2.2.1 ki_0 ?_
    exact (zTt hc1 hJ3)
  · refine z_iload_n M dt_X10_hasSort_0.1.1.2 rfl 1 rfl ?_
    refine z_aload_n M dt_X10_hasSort_0.1.2.1 rfl 0 rfl ?_
    refine gf_X10_sorts (σ := σ0) M u233 dt_X10_hasSort_0.1.2.2 (v := (σ0.1 10)) rfl ?_
    refine z_icmp_ge (tgt := 16) M dt_X10_hasSort_0.2.1.1.1 (by decide) (fun hc2 => ?_) (fun hc2 => ?_)
    · refine z_iconst M dt_X10_hasSort_0.2.2.1 ki_0 ?_
      exact (zTt hc2 (zTf hc1 hJ3))
    · refine z_iconst M dt_X10_hasSort_0.2.1.1.2 ki_1 ?_
      refine z_goto (tgt := 17) M dt_X10_hasSort_0.2.1.2 (by decide) ?_
      exact (zTf hc2 (zTf hc1 hJ3))
theorem k_X10_hasSort {n : Nat} (M : zM l D zcl (zty cy) A ad (zR n) (cW a cy) own cc nL rt σo ov G) {p0 : Int32} {index : Nat} (hl : Cond.methodLink own index yX10_hasSort ∈ uw) (hR : 2 ≤ n) (hW : (st.map fun v => v.category).sum ≤ 8) (d : decode cc pc = .ok (.invokevirtual index, 3)) (kk : G σ lv (pc + 3) (.int (f_X10_hasSort σ p0) :: st)) : G σ lv pc (.int p0 :: .ref (a 17) :: st) := z_callV M [.int p0] (m_X10_hasSort (zM_hD M) σ p0) (hC17 σ) rfl hl u91 u481 u479 u480 hd_X10_hasSort hR (by decide) rfl hW d kk
set_option maxHeartbeats 4000000 in
set_option maxRecDepth 100000 in
theorem m_X10_hasNumber (hD : ∀ σ, va_D A (cW a cy σ)) (σ0 : Zst) (p0 : Int32) (p1 : Int32) (p2 : Int32) : zT l D zcl (zty cy) A ad (cW a cy) yX10_hasNumber cX10_hasNumber 4 (some .boolean) 3 [.ref (a 17), .int p0, .int p1, .int p2] σ0 σ0 (some (.int (f_X10_hasNumber σ0 p0 p1 p2))) := by
  obtain ⟨o, h⟩ : ∃ o, f_X10_hasNumber σ0 p0 p1 p2 = o := ⟨_, rfl⟩
  rw [h]
  refine z_met pn_X10 hD (Nat.le_of_ble_eq_true rfl) rfl (fun G M => ?_)
  refine z_iload_n M dt_X10_hasNumber_0.1.1.1.1 rfl 1 rfl ?_
  refine kn_X11_isKind M u510 (Nat.le_of_ble_eq_true rfl) (Nat.le_of_ble_eq_true rfl) dt_X10_hasNumber_0.1.1.1.2 ?_
  have hJ4 : G σ0 [(0, .ref (a 17)), (1, .int p0), (2, .int p1), (3, .int p2)] 28 [.int (if (f_X11_isKind p0) = (0 : Int32) then (0 : Int32) else (if (f_X10_hasCell σ0 p1) = (0 : Int32) then (0 : Int32) else (if (f_X10_hasSort σ0 p2) = (0 : Int32) then (0 : Int32) else (1 : Int32))))] := by
    subst h
    exact z_zret M (nBo (boIte (Or.inl rfl) (boIte (Or.inl rfl) (boIte (Or.inl rfl) (Or.inr rfl))))) dt_X10_hasNumber_0.2.2.2
  refine z_if_eq (tgt := 27) M dt_X10_hasNumber_0.1.1.2.1 (by decide) (fun hc1 => ?_) (fun hc1 => ?_)
  · refine z_iconst M dt_X10_hasNumber_0.2.2.1.2 ki_0 ?_
    exact (zTt hc1 hJ4)
  · refine z_aload_n M dt_X10_hasNumber_0.1.1.2.2 rfl 0 rfl ?_
    refine z_iload_n M dt_X10_hasNumber_0.1.2.1.1 rfl 2 rfl ?_
    refine k_X10_hasCell M u513 (Nat.le_of_ble_eq_true rfl) (Nat.le_of_ble_eq_true rfl) dt_X10_hasNumber_0.1.2.1.2 ?_
    refine z_if_eq (tgt := 27) M dt_X10_hasNumber_0.1.2.2.1 (by decide) (fun hc2 => ?_) (fun hc2 => ?_)
    · refine z_iconst M dt_X10_hasNumber_0.2.2.1.2 ki_0 ?_
      exact (zTt hc2 (zTf hc1 hJ4))
    · refine z_aload_n M dt_X10_hasNumber_0.1.2.2.2 rfl 0 rfl ?_
      refine z_iload_n M dt_X10_hasNumber_0.2.1.1.1 rfl 3 rfl ?_
      refine k_X10_hasSort M u478 (Nat.le_of_ble_eq_true rfl) (Nat.le_of_ble_eq_true rfl) dt_X10_hasNumber_0.2.1.1.2 ?_
      refine z_if_eq (tgt := 27) M dt_X10_hasNumber_0.2.1.2.1 (by decide) (fun hc3 => ?_) (fun hc3 => ?_)
      · refine z_iconst M dt_X10_hasNumber_0.2.2.1.2 ki_0 ?_
        exact (zTt hc3 (zTf hc2 (zTf hc1 hJ4)))
      · refine z_iconst M dt_X10_hasNumber_0.2.1.2.2 ki_1 ?_
        refine z_goto (tgt := 28) M dt_X10_hasNumber_0.2.2.1.1 (by decide) ?_
        exact (zTf hc3 (zTf hc2 (zTf hc1 hJ4)))
theorem k_X10_hasNumber {n : Nat} (M : zM l D zcl (zty cy) A ad (zR n) (cW a cy) own cc nL rt σo ov G) {p0 : Int32} {p1 : Int32} {p2 : Int32} {index : Nat} (hl : Cond.methodLink own index yX10_hasNumber ∈ uw) (hR : 4 ≤ n) (hW : (st.map fun v => v.category).sum ≤ 8) (d : decode cc pc = .ok (.invokevirtual index, 3)) (kk : G σ lv (pc + 3) (.int (f_X10_hasNumber σ p0 p1 p2) :: st)) : G σ lv pc (.int p2 :: .int p1 :: .int p0 :: .ref (a 17) :: st) := z_callV M [.int p0, .int p1, .int p2] (m_X10_hasNumber (zM_hD M) σ p0 p1 p2) (hC17 σ) rfl hl u91 u509 u507 u508 hd_X10_hasNumber hR (by decide) rfl hW d kk
set_option maxHeartbeats 4000000 in
set_option maxRecDepth 100000 in
theorem m_X4_placeOf (hD : ∀ σ, va_D A (wf σ)) (σ0 : Zst) (p0 : Int32) (p1 : Int32) (p2 : Int32) : zT l D zcl0 tys A ad wf yX4_placeOf cX4_placeOf 4 (some .int) 1 [.int p0, .int p1, .int p2] σ0 σ0 (some (.int (f_X4_placeOf p0 p1 p2))) := by
  obtain ⟨o, h⟩ : ∃ o, f_X4_placeOf p0 p1 p2 = o := ⟨_, rfl⟩
  rw [h]
  refine z_met pn_X4 hD (Nat.le_of_ble_eq_true rfl) rfl (fun G M => ?_)
  refine z_iload_n M dt_X4_placeOf_0.1.1.1.1 rfl 0 rfl ?_
  have hJ7 : G σ0 [(0, .int p0), (1, .int p1), (2, .int p2)] 35 [.int (if p0 < (0 : Int32) then (0 : Int32) else (if (6 : Int32) ≤ p0 then (0 : Int32) else (if p1 < (0 : Int32) then (0 : Int32) else (if (96 : Int32) ≤ p1 then (0 : Int32) else (if p2 < (0 : Int32) then (0 : Int32) else (if (8 : Int32) ≤ p2 then (0 : Int32) else (1 : Int32)))))))] := by
    refine z_istore_n (lv' := [(3, .int (if p0 < (0 : Int32) then (0 : Int32) else (if (6 : Int32) ≤ p0 then (0 : Int32) else (if p1 < (0 : Int32) then (0 : Int32) else (if (96 : Int32) ≤ p1 then (0 : Int32) else (if p2 < (0 : Int32) then (0 : Int32) else (if (8 : Int32) ≤ p2 then (0 : Int32) else (1 : Int32)))))))), (0, .int p0), (1, .int p1), (2, .int p2)]) M dt_X4_placeOf_1.1.1.2.1 rfl (by decide) rfl ?_
    refine z_iload_n M dt_X4_placeOf_1.1.1.2.2 rfl 0 rfl ?_
    have hJ9 : G σ0 [(3, .int (if p0 < (0 : Int32) then (0 : Int32) else (if (6 : Int32) ≤ p0 then (0 : Int32) else (if p1 < (0 : Int32) then (0 : Int32) else (if (96 : Int32) ≤ p1 then (0 : Int32) else (if p2 < (0 : Int32) then (0 : Int32) else (if (8 : Int32) ≤ p2 then (0 : Int32) else (1 : Int32)))))))), (0, .int p0), (1, .int p1), (2, .int p2)] 55 [.int (if (if p0 < (0 : Int32) then (0 : Int32) else (if (6 : Int32) ≤ p0 then (0 : Int32) else (if p1 < (0 : Int32) then (0 : Int32) else (if (96 : Int32) ≤ p1 then (0 : Int32) else (if p2 < (0 : Int32) then (0 : Int32) else (if (8 : Int32) ≤ p2 then (0 : Int32) else (1 : Int32))))))) = (0 : Int32) then (-1 : Int32) else ((((p0 * (96 : Int32)) + p1) * (8 : Int32)) + p2))] := by
      subst h
      exact z_iret M dt_X4_placeOf_2
    refine z_if_eq (tgt := 54) M dt_X4_placeOf_1.1.2.1.1 (by decide) (fun hc8 => ?_) (fun hc8 => ?_)
    · refine z_iconst M dt_X4_placeOf_1.2.2.2.2 ki_m1 ?_
      exact (zTt hc8 hJ9)
    · refine z_iload_n M dt_X4_placeOf_1.1.2.1.2 rfl 1 rfl ?_
      refine z_bipush M dt_X4_placeOf_1.1.2.2.1 kb_96 ?_
      refine z_imul M dt_X4_placeOf_1.1.2.2.2 ?_
      refine z_iload_n M dt_X4_placeOf_1.2.1.1.1 rfl 2 rfl ?_
      refine z_iadd M dt_X4_placeOf_1.2.1.1.2 ?_
      refine z_bipush M dt_X4_placeOf_1.2.1.2.1 kb_8 ?_
      refine z_imul M dt_X4_placeOf_1.2.1.2.2 ?_
      refine z_iload_n M dt_X4_placeOf_1.2.2.1.1 rfl 3 rfl ?_
      refine z_iadd M dt_X4_placeOf_1.2.2.1.2 ?_
      refine z_goto (tgt := 55) M dt_X4_placeOf_1.2.2.2.1 (by decide) ?_
      exact (zTf hc8 hJ9)
  refine z_if_lt (tgt := 34) M dt_X4_placeOf_0.1.1.1.2 (by decide) (fun hc1 => ?_) (fun hc1 => ?_)
  · refine z_iconst M dt_X4_placeOf_1.1.1.1.2 ki_0 ?_
    exact (zTt hc1 hJ7)
  · refine z_iload_n M dt_X4_placeOf_0.1.1.2.1 rfl 0 rfl ?_
    refine z_bipush M dt_X4_placeOf_0.1.1.2.2 kb_6 ?_
    refine z_icmp_ge (tgt := 34) M dt_X4_placeOf_0.1.2.1.1 (by decide) (fun hc2 => ?_) (fun hc2 => ?_)
    · refine z_iconst M dt_X4_placeOf_1.1.1.1.2 ki_0 ?_
      exact (zTt hc2 (zTf hc1 hJ7))
    · refine z_iload_n M dt_X4_placeOf_0.1.2.1.2 rfl 1 rfl ?_
      refine z_if_lt (tgt := 34) M dt_X4_placeOf_0.1.2.2.1 (by decide) (fun hc3 => ?_) (fun hc3 => ?_)
      · refine z_iconst M dt_X4_placeOf_1.1.1.1.2 ki_0 ?_
        exact (zTt hc3 (zTf hc2 (zTf hc1 hJ7)))
      · refine z_iload_n M dt_X4_placeOf_0.1.2.2.2 rfl 1 rfl ?_
        refine z_bipush M dt_X4_placeOf_0.2.1.1.1 kb_96 ?_
        refine z_icmp_ge (tgt := 34) M dt_X4_placeOf_0.2.1.1.2 (by decide) (fun hc4 => ?_) (fun hc4 => ?_)
        · refine z_iconst M dt_X4_placeOf_1.1.1.1.2 ki_0 ?_
          exact (zTt hc4 (zTf hc3 (zTf hc2 (zTf hc1 hJ7))))
        · refine z_iload_n M dt_X4_placeOf_0.2.1.2.1 rfl 2 rfl ?_
          refine z_if_lt (tgt := 34) M dt_X4_placeOf_0.2.1.2.2 (by decide) (fun hc5 => ?_) (fun hc5 => ?_)
          · refine z_iconst M dt_X4_placeOf_1.1.1.1.2 ki_0 ?_
            exact (zTt hc5 (zTf hc4 (zTf hc3 (zTf hc2 (zTf hc1 hJ7)))))
          · refine z_iload_n M dt_X4_placeOf_0.2.2.1.1 rfl 2 rfl ?_
            refine z_bipush M dt_X4_placeOf_0.2.2.1.2 kb_8 ?_
            refine z_icmp_ge (tgt := 34) M dt_X4_placeOf_0.2.2.2.1 (by decide) (fun hc6 => ?_) (fun hc6 => ?_)
            · refine z_iconst M dt_X4_placeOf_1.1.1.1.2 ki_0 ?_
              exact (zTt hc6 (zTf hc5 (zTf hc4 (zTf hc3 (zTf hc2 (zTf hc1 hJ7))))))
            · refine z_iconst M dt_X4_placeOf_0.2.2.2.2 ki_1 ?_
              refine z_goto (tgt := 35) M dt_X4_placeOf_1.1.1.1.1 (by decide) ?_
              exact (zTf hc6 (zTf hc5 (zTf hc4 (zTf hc3 (zTf hc2 (zTf hc1 hJ7))))))
theorem k_X4_placeOf {n : Nat} (M : zM l D zcl0 tys A ad (zR n) wf own cc nL rt σo ov G) {p0 : Int32} {p1 : Int32} {p2 : Int32} {index : Nat} (hl : Cond.methodLink own index yX4_placeOf ∈ uw) (hR : 2 ≤ n) (hW : (st.map fun v => v.category).sum ≤ 8) (d : decode cc pc = .ok (.invokestatic index, 3)) (kk : G σ lv (pc + 3) (.int (f_X4_placeOf p0 p1 p2) :: st)) : G σ lv pc (.int p2 :: .int p1 :: .int p0 :: st) := z_callS M [.int p0, .int p1, .int p2] (m_X4_placeOf (zM_hD M) σ p0 p1 p2) hl u88 u527 u526 hd_X4_placeOf hR (by decide) rfl hW d kk
set_option maxHeartbeats 4000000 in
set_option maxRecDepth 100000 in
theorem m_X4_of (hD : ∀ σ, va_D A (cW a cy σ)) {σ0 : Zst} {p0 : Int32} {p1 : Int32} {p2 : Int32} {o : Int32} (h : f_X4_of σ0 p0 p1 p2 = some o) : zT l D zcl (zty cy) A ad (cW a cy) yX4_of cX4_of 5 (some .int) 2 [.ref (a 5), .int p0, .int p1, .int p2] σ0 σ0 (some (.int o)) := by
  refine z_met pn_X4 hD (Nat.le_of_ble_eq_true rfl) rfl (fun G M => ?_)
  refine z_iload_n M dt_X4_of_0.1.1.1.1 rfl 1 rfl ?_
  refine z_iload_n M dt_X4_of_0.1.1.1.2 rfl 2 rfl ?_
  refine z_iload_n M dt_X4_of_0.1.1.2.1 rfl 3 rfl ?_
  refine k_X4_placeOf M u525 (Nat.le_of_ble_eq_true rfl) (Nat.le_of_ble_eq_true rfl) dt_X4_of_0.1.1.2.2 ?_
  refine z_istore (lv' := [(4, .int (f_X4_placeOf p0 p1 p2)), (0, .ref (a 5)), (1, .int p0), (2, .int p1), (3, .int p2)]) M dt_X4_of_0.1.2.1.1 (by decide) rfl ?_
  refine z_iload M dt_X4_of_0.1.2.1.2 0 rfl ?_
  refine z_if_lt (tgt := 33) M dt_X4_of_0.1.2.2.1 (by decide) (fun hc => ?_) (fun hc => ?_)
  · have h := gIt hc h
    refine z_iconst M dt_X4_of_1.1.2 ki_m1 ?_
    obtain rfl := Option.some.inj h
    exact z_iret M dt_X4_of_1.2
  · have h := gIf hc h
    refine z_iload M dt_X4_of_0.1.2.2.2 0 rfl ?_
    refine z_aload_n M dt_X4_of_0.2.1.1.1 rfl 1 rfl ?_
    refine gf_X4_now M u156 dt_X4_of_0.2.1.1.2 ?_
    refine ln_C6 M dt_X4_of_0.2.1.2.1 ?_
    refine z_icmp_ge (tgt := 33) M dt_X4_of_0.2.1.2.2 (by decide) (fun hc => ?_) (fun hc => ?_)
    · have h := gIt hc h
      refine z_iconst M dt_X4_of_1.1.2 ki_m1 ?_
      obtain rfl := Option.some.inj h
      exact z_iret M dt_X4_of_1.2
    · have h := gIf hc h
      refine z_aload_n M dt_X4_of_0.2.2.1.1 rfl 1 rfl ?_
      refine gf_X4_now M u156 dt_X4_of_0.2.2.1.2 ?_
      refine z_iload M dt_X4_of_0.2.2.2.1 0 rfl ?_
      have ⟨hg, h⟩ := gIx_s h
      refine al_C6 (σ := σ0) M (f := (σ0.2.1 1)) rfl hg dt_X4_of_0.2.2.2.2 ?_
      refine z_goto (tgt := 34) M dt_X4_of_1.1.1 (by decide) ?_
      obtain rfl := Option.some.inj h
      exact z_iret M dt_X4_of_1.2
theorem k_X4_of {n : Nat} (M : zM l D zcl (zty cy) A ad (zR n) (cW a cy) own cc nL rt σo ov G) {p0 : Int32} {p1 : Int32} {p2 : Int32} {o : Int32} (h : f_X4_of σ p0 p1 p2 = some o) {index : Nat} (hl : Cond.methodLink own index yX4_of ∈ uw) (hR : 3 ≤ n) (hW : (st.map fun v => v.category).sum ≤ 8) (d : decode cc pc = .ok (.invokevirtual index, 3)) (kk : G σ lv (pc + 3) (.int o :: st)) : G σ lv pc (.int p2 :: .int p1 :: .int p0 :: .ref (a 5) :: st) := z_callV M [.int p0, .int p1, .int p2] (m_X4_of (zM_hD M) h) (hC5 σ) rfl hl u88 u524 u522 u523 hd_X4_of hR (by decide) rfl hW d kk
set_option maxHeartbeats 4000000 in
set_option maxRecDepth 100000 in
theorem m_X4_change (hD : ∀ σ, va_D A (cW a cy σ)) {σ : Zst} {p0 : Int32} {p1 : Int32} {p2 : Int32} {p3 : Int32} {o : Zst} (h : f_X4_change σ p0 p1 p2 p3 = some o) : zT l D zcl (zty cy) A ad (cW a cy) yX4_change cX4_change 6 none 2 [.ref (a 5), .int p0, .int p1, .int p2, .int p3] σ o none := by
  refine z_met pn_X4 hD (Nat.le_of_ble_eq_true rfl) rfl (fun G M => ?_)
  refine z_iload_n M dt_X4_change_0.1.1.1.1 rfl 1 rfl ?_
  refine z_iload_n M dt_X4_change_0.1.1.1.2 rfl 2 rfl ?_
  refine z_iload_n M dt_X4_change_0.1.1.2.1 rfl 3 rfl ?_
  refine k_X4_placeOf M u525 (Nat.le_of_ble_eq_true rfl) (Nat.le_of_ble_eq_true rfl) dt_X4_change_0.1.1.2.2 ?_
  refine z_istore (lv' := [(5, .int (f_X4_placeOf p0 p1 p2)), (0, .ref (a 5)), (1, .int p0), (2, .int p1), (3, .int p2), (4, .int p3)]) M dt_X4_change_0.1.2.1.1 (by decide) rfl ?_
  refine z_iload M dt_X4_change_0.1.2.1.2 0 rfl ?_
  refine z_if_lt (tgt := 32) M dt_X4_change_0.1.2.2.1 (by decide) (fun hc => ?_) (fun hc => ?_)
  · have h := gIt hc h
    obtain rfl := Option.some.inj h
    exact z_vret M dt_X4_change_1.2
  · have h := gIf hc h
    refine z_iload M dt_X4_change_0.1.2.2.2 0 rfl ?_
    refine z_aload_n M dt_X4_change_0.2.1.1.1 rfl 1 rfl ?_
    refine gf_X4_now M u156 dt_X4_change_0.2.1.1.2 ?_
    refine ln_C6 M dt_X4_change_0.2.1.2.1 ?_
    refine z_icmp_ge (tgt := 32) M dt_X4_change_0.2.1.2.2 (by decide) (fun hc => ?_) (fun hc => ?_)
    · have h := gIt hc h
      obtain rfl := Option.some.inj h
      exact z_vret M dt_X4_change_1.2
    · have h := gIf hc h
      refine z_aload_n M dt_X4_change_0.2.2.1.1 rfl 1 rfl ?_
      refine gf_X4_now M u156 dt_X4_change_0.2.2.1.2 ?_
      refine z_iload M dt_X4_change_0.2.2.2.1 0 rfl ?_
      refine z_iload M dt_X4_change_0.2.2.2.2 5 rfl ?_
      have ⟨hg, h⟩ := gIx_s h
      refine as_C6 (σ := σ) M (f := (σ.2.1 1)) rfl hg dt_X4_change_1.1 ?_
      obtain rfl := Option.some.inj h
      exact z_vret M dt_X4_change_1.2
theorem k_X4_change {n : Nat} (M : zM l D zcl (zty cy) A ad (zR n) (cW a cy) own cc nL rt σo ov G) {p0 : Int32} {p1 : Int32} {p2 : Int32} {p3 : Int32} {o : Zst} (h : f_X4_change σ p0 p1 p2 p3 = some o) {index : Nat} (hl : Cond.methodLink own index yX4_change ∈ uw) (hR : 3 ≤ n) (hW : (st.map fun v => v.category).sum ≤ 8) (d : decode cc pc = .ok (.invokevirtual index, 3)) (kk : G o lv (pc + 3) (st)) : G σ lv pc (.int p3 :: .int p2 :: .int p1 :: .int p0 :: .ref (a 5) :: st) := z_callV M [.int p0, .int p1, .int p2, .int p3] (m_X4_change (zM_hD M) h) (hC5 σ) rfl hl u88 u531 u529 u530 hd_X4_change hR (by decide) rfl hW d kk
set_option maxHeartbeats 4000000 in
set_option maxRecDepth 100000 in
theorem m_X11_put (hD : ∀ σ, va_D A (cW a cy σ)) {σ : Zst} {p0 : Int32} {p1 : Int32} {p2 : Int32} {p3 : Int32} {o : (Zst × Int32)} (h : f_X11_put σ p0 p1 p2 p3 = some o) : zT l D zcl (zty cy) A ad (cW a cy) yX11_put cX11_put 6 (some .int) 4 [.ref (a 0), .int p0, .int p1, .int p2, .int p3] σ o.1 (some (.int o.2)) := by
  refine z_met pn_X11 hD (Nat.le_of_ble_eq_true rfl) rfl (fun G M => ?_)
  refine z_aload_n M dt_X11_put_0.1.1.1.1 rfl 0 rfl ?_
  refine gf_X11_town M u432 dt_X11_put_0.1.1.1.2 ?_
  refine z_iload_n M dt_X11_put_0.1.1.2.1 rfl 1 rfl ?_
  refine z_iload_n M dt_X11_put_0.1.1.2.2 rfl 2 rfl ?_
  refine z_iload_n M dt_X11_put_0.1.2.1.1 rfl 3 rfl ?_
  refine k_X10_hasNumber M u506 (Nat.le_of_ble_eq_true rfl) (Nat.le_of_ble_eq_true rfl) dt_X11_put_0.1.2.1.2 ?_
  refine z_if_eq (tgt := 25) M dt_X11_put_0.1.2.2.1 (by decide) (fun hc => ?_) (fun hc => ?_)
  · have h := gIt hc h
    refine z_bipush M dt_X11_put_0.2.2.1.1 kb_m2 ?_
    obtain rfl := Option.some.inj h
    exact z_iret M dt_X11_put_0.2.2.1.2
  · have h := gIf hc h
    refine z_iload M dt_X11_put_0.1.2.2.2 4 rfl ?_
    refine z_iconst M dt_X11_put_0.2.1.1.1 ki_m1 ?_
    refine z_sipush M dt_X11_put_0.2.1.1.2 ks_999 ?_
    refine k_X11_between M u501 (Nat.le_of_ble_eq_true rfl) (Nat.le_of_ble_eq_true rfl) dt_X11_put_0.2.1.2.1 ?_
    refine z_if_ne (tgt := 28) M dt_X11_put_0.2.1.2.2 (by decide) (fun hc => ?_) (fun hc => ?_)
    · have h := gIf hc h
      refine z_aload_n M dt_X11_put_0.2.2.2.1 rfl 0 rfl ?_
      refine gf_X11_numbers M u430 dt_X11_put_0.2.2.2.2 ?_
      refine z_iload_n M dt_X11_put_1.1.1.1.1 rfl 1 rfl ?_
      refine z_iload_n M dt_X11_put_1.1.1.1.2 rfl 2 rfl ?_
      refine z_iload_n M dt_X11_put_1.1.1.2.1 rfl 3 rfl ?_
      obtain ⟨t1, hc, h⟩ := gBd h
      refine k_X4_of M hc u521 (Nat.le_of_ble_eq_true rfl) (Nat.le_of_ble_eq_true rfl) dt_X11_put_1.1.1.2.2 ?_
      refine z_istore (lv' := [(5, .int t1), (0, .ref (a 0)), (1, .int p0), (2, .int p1), (3, .int p2), (4, .int p3)]) M dt_X11_put_1.1.2.1.1 (by decide) rfl ?_
      refine z_aload_n M dt_X11_put_1.1.2.1.2 rfl 1 rfl ?_
      refine gf_X11_numbers M u430 dt_X11_put_1.1.2.2 ?_
      refine z_iload_n M dt_X11_put_1.2.1.1.1 rfl 2 rfl ?_
      refine z_iload_n M dt_X11_put_1.2.1.1.2 rfl 3 rfl ?_
      refine z_iload_n M dt_X11_put_1.2.1.2.1 rfl 4 rfl ?_
      refine z_iload M dt_X11_put_1.2.1.2.2 5 rfl ?_
      obtain ⟨t2, hc, h⟩ := gBd h
      refine k_X4_change M hc u528 (Nat.le_of_ble_eq_true rfl) (Nat.le_of_ble_eq_true rfl) dt_X11_put_1.2.2.1.1 ?_
      refine z_iload M dt_X11_put_1.2.2.1.2 0 rfl ?_
      obtain rfl := Option.some.inj h
      exact z_iret M dt_X11_put_1.2.2.2
    · have h := gIt hc h
      refine z_bipush M dt_X11_put_0.2.2.1.1 kb_m2 ?_
      obtain rfl := Option.some.inj h
      exact z_iret M dt_X11_put_0.2.2.1.2
set_option maxHeartbeats 4000000 in
set_option maxRecDepth 100000 in
theorem m_X11_get (hD : ∀ σ, va_D A (cW a cy σ)) {σ0 : Zst} {p0 : Int32} {p1 : Int32} {p2 : Int32} {o : Int32} (h : f_X11_get σ0 p0 p1 p2 = some o) : zT l D zcl (zty cy) A ad (cW a cy) yX11_get cX11_get 4 (some .int) 4 [.ref (a 0), .int p0, .int p1, .int p2] σ0 σ0 (some (.int o)) := by
  refine z_met pn_X11 hD (Nat.le_of_ble_eq_true rfl) rfl (fun G M => ?_)
  refine z_aload_n M dt_X11_get_0.1.1.1.1 rfl 0 rfl ?_
  refine gf_X11_town M u432 dt_X11_get_0.1.1.1.2 ?_
  refine z_iload_n M dt_X11_get_0.1.1.2.1 rfl 1 rfl ?_
  refine z_iload_n M dt_X11_get_0.1.1.2.2 rfl 2 rfl ?_
  refine z_iload_n M dt_X11_get_0.1.2.1.1 rfl 3 rfl ?_
  refine k_X10_hasNumber M u506 (Nat.le_of_ble_eq_true rfl) (Nat.le_of_ble_eq_true rfl) dt_X11_get_0.1.2.1.2 ?_
  refine z_if_eq (tgt := 26) M dt_X11_get_0.1.2.2.1 (by decide) (fun hc => ?_) (fun hc => ?_)
  · have h := gIt hc h
    refine z_bipush M dt_X11_get_0.2.2.2.1 kb_m2 ?_
    obtain rfl := Option.some.inj h
    exact z_iret M dt_X11_get_0.2.2.2.2
  · have h := gIf hc h
    refine z_aload_n M dt_X11_get_0.1.2.2.2 rfl 0 rfl ?_
    refine gf_X11_numbers M u430 dt_X11_get_0.2.1.1.1 ?_
    refine z_iload_n M dt_X11_get_0.2.1.1.2 rfl 1 rfl ?_
    refine z_iload_n M dt_X11_get_0.2.1.2.1 rfl 2 rfl ?_
    refine z_iload_n M dt_X11_get_0.2.1.2.2 rfl 3 rfl ?_
    obtain ⟨t1, hc, h⟩ := gBd h
    refine k_X4_of M hc u521 (Nat.le_of_ble_eq_true rfl) (Nat.le_of_ble_eq_true rfl) dt_X11_get_0.2.2.1.1 ?_
    refine z_goto (tgt := 28) M dt_X11_get_0.2.2.1.2 (by decide) ?_
    obtain rfl := Option.some.inj h
    exact z_iret M dt_X11_get_0.2.2.2.2
set_option maxHeartbeats 4000000 in
set_option maxRecDepth 100000 in
theorem m_X5_clear (hD : ∀ σ, va_D A (cW a cy σ)) {σ : Zst}  {o : Zst} (h : f_X5_clear σ = some o) : zT l D zcl (zty cy) A ad (cW a cy) yX5_clear cX5_clear 1 (some (.object "BinsThatTell$Row")) 1 [.ref (a 1)] σ o (some (.ref (a 1))) := by
  refine z_met pn_X5 hD (Nat.le_of_ble_eq_true rfl) rfl (fun G M => ?_)
  refine z_aload_n M dt_X5_clear_0.1.1.1 rfl 0 rfl ?_
  refine z_iconst M dt_X5_clear_0.1.1.2 ki_0 ?_
  refine pf_X5_size M u127 dt_X5_clear_0.1.2 ?_
  refine z_aload_n M dt_X5_clear_0.2.1 rfl 0 rfl ?_
  obtain rfl := Option.some.inj h
  exact z_aret M dt_X5_clear_0.2.2
theorem k_X5_clear {n : Nat} (M : zM l D zcl (zty cy) A ad (zR n) (cW a cy) own cc nL rt σo ov G)  {o : Zst} (h : f_X5_clear σ = some o) {index : Nat} (hl : Cond.methodLink own index yX5_clear ∈ uw) (hR : 2 ≤ n) (hW : (st.map fun v => v.category).sum ≤ 8) (d : decode cc pc = .ok (.invokevirtual index, 3)) (kk : G o lv (pc + 3) (.ref (a 1) :: st)) : G σ lv pc (.ref (a 1) :: st) := z_callV M [] (m_X5_clear (zM_hD M) h) (hC1 σ) rfl hl u86 u870 u868 u869 hd_X5_clear hR (by decide) rfl hW d kk
set_option maxHeartbeats 4000000 in
set_option maxRecDepth 100000 in
theorem m_X5_add (hD : ∀ σ, va_D A (cW a cy σ)) {σ : Zst} {p0 : Int64} {o : Zst} (h : f_X5_add σ p0 = some o) : zT l D zcl (zty cy) A ad (cW a cy) yX5_add cX5_add 3 (some (.object "BinsThatTell$Row")) 1 [.ref (a 1), .long p0] σ o (some (.ref (a 1))) := by
  refine z_met pn_X5 hD (Nat.le_of_ble_eq_true rfl) rfl (fun G M => ?_)
  refine z_aload_n M dt_X5_add_0.1.1.1.1 rfl 0 rfl ?_
  refine gf_X5_size (σ := σ) M u127 dt_X5_add_0.1.1.1.2 (v := (σ.1 0)) rfl ?_
  refine z_aload_n M dt_X5_add_0.1.1.2.1 rfl 0 rfl ?_
  refine gf_X5_numbers M u126 dt_X5_add_0.1.1.2.2 ?_
  refine ln_C2 M dt_X5_add_0.1.2.1.1 ?_
  refine z_icmp_ge (tgt := 32) M dt_X5_add_0.1.2.1.2 (by decide) (fun hc => ?_) (fun hc => ?_)
  · have h := gIt hc h
    refine z_aload_n M dt_X5_add_1.2.1 rfl 0 rfl ?_
    obtain rfl := Option.some.inj h
    exact z_aret M dt_X5_add_1.2.2
  · have h := gIf hc h
    refine z_aload_n M dt_X5_add_0.1.2.2.1 rfl 0 rfl ?_
    refine gf_X5_numbers M u126 dt_X5_add_0.1.2.2.2 ?_
    refine z_aload_n M dt_X5_add_0.2.1.1.1 rfl 0 rfl ?_
    refine gf_X5_size (σ := σ) M u127 dt_X5_add_0.2.1.1.2 (v := (σ.1 0)) rfl ?_
    refine z_lload_n M dt_X5_add_0.2.1.2.1 rfl 1 rfl ?_
    have ⟨hg, h⟩ := gIx_s h
    refine as_C2 (σ := σ) M (f := (σ.2.2.1 0)) rfl hg dt_X5_add_0.2.1.2.2 ?_
    refine z_aload_n M dt_X5_add_0.2.2.1.1 rfl 0 rfl ?_
    refine z_dup M dt_X5_add_0.2.2.1.2 rfl ?_
    refine gf_X5_size (σ := (zL σ 0 (vp_updL (σ.2.2.1 0) (Int32.toNatClampNeg (σ.1 0)) p0))) M u127 dt_X5_add_0.2.2.2.1 (v := (σ.1 0)) rfl ?_
    refine z_iconst M dt_X5_add_0.2.2.2.2 ki_1 ?_
    refine z_iadd M dt_X5_add_1.1.1 ?_
    refine pf_X5_size M u127 dt_X5_add_1.1.2 ?_
    refine z_aload_n M dt_X5_add_1.2.1 rfl 0 rfl ?_
    obtain rfl := Option.some.inj h
    exact z_aret M dt_X5_add_1.2.2
theorem k_X5_add {n : Nat} (M : zM l D zcl (zty cy) A ad (zR n) (cW a cy) own cc nL rt σo ov G) {p0 : Int64} {o : Zst} (h : f_X5_add σ p0 = some o) {index : Nat} (hl : Cond.methodLink own index yX5_add ∈ uw) (hR : 2 ≤ n) (hW : (st.map fun v => v.category).sum ≤ 8) (d : decode cc pc = .ok (.invokevirtual index, 3)) (kk : G o lv (pc + 3) (.ref (a 1) :: st)) : G σ lv pc (.long p0 :: .ref (a 1) :: st) := z_callV M [.long p0] (m_X5_add (zM_hD M) h) (hC1 σ) rfl hl u86 u874 u872 u873 hd_X5_add hR (by decide) rfl hW d kk
set_option maxHeartbeats 4000000 in
set_option maxRecDepth 100000 in
theorem m_X11_hasBit (hD : ∀ σ, va_D A (wf σ)) (σ0 : Zst) (p0 : Int32) (p1 : Int32) : zT l D zcl0 tys A ad wf yX11_hasBit cX11_hasBit 2 (some .boolean) 1 [.int p0, .int p1] σ0 σ0 (some (.int (f_X11_hasBit p0 p1))) := by
  obtain ⟨o, h⟩ : ∃ o, f_X11_hasBit p0 p1 = o := ⟨_, rfl⟩
  rw [h]
  refine z_met pn_X11 hD (Nat.le_of_ble_eq_true rfl) rfl (fun G M => ?_)
  refine z_iload_n M dt_X11_hasBit_0.1.1.1.1 rfl 0 rfl ?_
  refine z_iload_n M dt_X11_hasBit_0.1.1.1.2 rfl 1 rfl ?_
  refine z_ishr M dt_X11_hasBit_0.1.1.2 ?_
  refine z_iconst M dt_X11_hasBit_0.1.2.1.1 ki_1 ?_
  refine z_iand M dt_X11_hasBit_0.1.2.1.2 ?_
  refine z_iconst M dt_X11_hasBit_0.1.2.2 ki_1 ?_
  have hJ2 : G σ0 [(0, .int p0), (1, .int p1)] 14 [.int (if ((jShr p0 p1) &&& (1 : Int32)) = (1 : Int32) then (1 : Int32) else (0 : Int32))] := by
    subst h
    exact z_zret M (nBo (boIte (Or.inr rfl) (Or.inl rfl))) dt_X11_hasBit_0.2.2.2
  refine z_icmp_ne (tgt := 13) M dt_X11_hasBit_0.2.1.1.1 (by decide) (fun hc1 => ?_) (fun hc1 => ?_)
  · refine z_iconst M dt_X11_hasBit_0.2.2.1 ki_0 ?_
    exact (zTf hc1 hJ2)
  · refine z_iconst M dt_X11_hasBit_0.2.1.1.2 ki_1 ?_
    refine z_goto (tgt := 14) M dt_X11_hasBit_0.2.1.2 (by decide) ?_
    exact (zTt hc1 hJ2)
theorem kn_X11_hasBit {n : Nat} (M : zM l D zcl0 tys A ad (zR n) wf own cc nL rt σo ov G) {p0 : Int32} {p1 : Int32} {index : Nat} {host : String} (hl : Cond.methodLinkNest own index yX11_hasBit host ∈ zNw) (hR : 2 ≤ n) (hW : (st.map fun v => v.category).sum ≤ 8) (d : decode cc pc = .ok (.invokestatic index, 3)) (kk : G σ lv (pc + 3) (.int (f_X11_hasBit p0 p1) :: st)) : G σ lv pc (.int p1 :: .int p0 :: st) := z_callSN M [.int p0, .int p1] (m_X11_hasBit (zM_hD M) σ p0 p1) hl u85 u638 u637 hd_X11_hasBit hR (by decide) rfl hW d kk
set_option maxHeartbeats 4000000 in
set_option maxRecDepth 100000 in
theorem m_X4_has (hD : ∀ σ, va_D A (cW a cy σ)) {σ0 : Zst} {p0 : Int32} {p1 : Int32} {p2 : Int32} {o : Int32} (h : f_X4_has σ0 p0 p1 p2 = some o) : zT l D zcl (zty cy) A ad (cW a cy) yX4_has cX4_has 4 (some .boolean) 3 [.ref (a 5), .int p0, .int p1, .int p2] σ0 σ0 (some (.int o)) := by
  refine z_met pn_X4 hD (Nat.le_of_ble_eq_true rfl) rfl (fun G M => ?_)
  refine z_aload_n M dt_X4_has_0.1.1.1.1 rfl 0 rfl ?_
  refine z_iload_n M dt_X4_has_0.1.1.1.2 rfl 1 rfl ?_
  refine z_iload_n M dt_X4_has_0.1.1.2 rfl 2 rfl ?_
  refine z_iload_n M dt_X4_has_0.1.2.1 rfl 3 rfl ?_
  obtain ⟨t1, hc, h⟩ := gBd h
  refine k_X4_of M hc u837 (Nat.le_of_ble_eq_true rfl) (Nat.le_of_ble_eq_true rfl) dt_X4_has_0.1.2.2 ?_
  have hJ3 : G σ0 [(0, .ref (a 5)), (1, .int p0), (2, .int p1), (3, .int p2)] 15 [.int (if t1 < (0 : Int32) then (0 : Int32) else (1 : Int32))] := by
    obtain rfl := Option.some.inj h
    exact z_zret M (nBo (boIte (Or.inl rfl) (Or.inr rfl))) dt_X4_has_0.2.2.2
  refine z_if_lt (tgt := 14) M dt_X4_has_0.2.1.1.1 (by decide) (fun hc2 => ?_) (fun hc2 => ?_)
  · refine z_iconst M dt_X4_has_0.2.2.1 ki_0 ?_
    exact (zTt hc2 hJ3)
  · refine z_iconst M dt_X4_has_0.2.1.1.2 ki_1 ?_
    refine z_goto (tgt := 15) M dt_X4_has_0.2.1.2 (by decide) ?_
    exact (zTf hc2 hJ3)
theorem k_X4_has {n : Nat} (M : zM l D zcl (zty cy) A ad (zR n) (cW a cy) own cc nL rt σo ov G) {p0 : Int32} {p1 : Int32} {p2 : Int32} {o : Int32} (h : f_X4_has σ p0 p1 p2 = some o) {index : Nat} (hl : Cond.methodLink own index yX4_has ∈ uw) (hR : 4 ≤ n) (hW : (st.map fun v => v.category).sum ≤ 8) (d : decode cc pc = .ok (.invokevirtual index, 3)) (kk : G σ lv (pc + 3) (.int o :: st)) : G σ lv pc (.int p2 :: .int p1 :: .int p0 :: .ref (a 5) :: st) := z_callV M [.int p0, .int p1, .int p2] (m_X4_has (zM_hD M) h) (hC5 σ) rfl hl u88 u865 u863 u864 hd_X4_has hR (by decide) rfl hW d kk
set_option maxHeartbeats 4000000 in
set_option maxRecDepth 100000 in
theorem wL_X0_total_64 {o : (Zst × Int32)} (M : zM l D zcl (zty cy) A ad (zR 4) (cW a cy) RX0 cX0_total 10 (some .int) o.1 (some (.int o.2)) G)  (σ : Zst) (v1 : Int32) (v2 : Int32) (v3 : Int32) (v4 : Int32) :
    ∀ (n64 : Nat) (v6 : Int32) (v7 : Int32) (v8 : Int32), L_X0_total_64 σ v1 v2 v3 v4 n64 v6 v7 v8 = some o → G σ [(0, .ref (a 27)), (1, .int v1), (2, .int v2), (3, .int v3), (4, .int v4), (6, .int v6), (7, .int v7), (8, .int v8)] 64 [] := by
  intro n64
  induction n64 with
  | zero => intro v6 v7 v8 h; exact nomatch (show (none : Option (Zst × Int32)) = some _ from h)
  | succ n64 ih =>
    intro v6 v7 v8 h
    refine z_iload M dt_X0_total_2.1.1.1.1 7 rfl ?_
    refine z_aload_n M dt_X0_total_2.1.1.1.2 rfl 0 rfl ?_
    refine gf_X0_town M u268 dt_X0_total_2.1.1.2.1 ?_
    refine k_X10_cellCount M u860 (Nat.le_of_ble_eq_true rfl) (Nat.le_of_ble_eq_true rfl) dt_X0_total_2.1.1.2.2 ?_
    refine z_icmp_ge (tgt := 152) M dt_X0_total_2.1.2.1.1 (by decide) (fun hc => ?_) (fun hc => ?_)
    · have h := gIt hc h
      refine z_aload_n M dt_X0_total_4.2.1.2.1 rfl 0 rfl ?_
      refine gf_X0_row M u270 dt_X0_total_4.2.1.2.2 ?_
      obtain ⟨t1, hc, h⟩ := gBd h
      refine k_X5_clear M hc u867 (Nat.le_of_ble_eq_true rfl) (Nat.le_of_ble_eq_true rfl) dt_X0_total_4.2.2.1.1 ?_
      refine z_iload M dt_X0_total_4.2.2.1.2 6 rfl ?_
      refine z_i2l M dt_X0_total_4.2.2.2.1 ?_
      obtain ⟨t2, hc, h⟩ := gBd h
      refine k_X5_add M hc u871 (Nat.le_of_ble_eq_true rfl) (Nat.le_of_ble_eq_true rfl) dt_X0_total_4.2.2.2.2 ?_
      refine z_pop M dt_X0_total_5.1.1 rfl ?_
      refine z_iload M dt_X0_total_5.1.2 5 rfl ?_
      obtain rfl := Option.some.inj h
      exact z_iret M dt_X0_total_5.2
    · have h := gIf hc h
      refine z_iload_n M dt_X0_total_2.1.2.1.2 rfl 3 rfl ?_
      refine z_iload M dt_X0_total_2.1.2.2.1 7 rfl ?_
      refine z_bipush M dt_X0_total_2.1.2.2.2 kb_12 ?_
      refine z_idiv M dt_X0_total_2.2.1.1.1 (by decide) ?_
      refine kn_X11_hasBit M u861 (Nat.le_of_ble_eq_true rfl) (Nat.le_of_ble_eq_true rfl) dt_X0_total_2.2.1.1.2 ?_
      have hJ5 : G σ [(0, .ref (a 27)), (1, .int v1), (2, .int v2), (3, .int v3), (4, .int v4), (6, .int v6), (7, .int v7), (8, .int v8)] 106 [.int (if (f_X11_hasBit v3 (v8 / (12 : Int32))) = (0 : Int32) then (0 : Int32) else (if (f_X11_hasBit v4 (jRem v8 (12 : Int32))) = (0 : Int32) then (0 : Int32) else (1 : Int32)))] := by
        refine z_istore (lv' := [(9, .int (if (f_X11_hasBit v3 (v8 / (12 : Int32))) = (0 : Int32) then (0 : Int32) else (if (f_X11_hasBit v4 (jRem v8 (12 : Int32))) = (0 : Int32) then (0 : Int32) else (1 : Int32)))), (0, .ref (a 27)), (1, .int v1), (2, .int v2), (3, .int v3), (4, .int v4), (6, .int v6), (7, .int v7), (8, .int v8)]) M dt_X0_total_3.1.2.1.1 (by decide) rfl ?_
        refine z_iload M dt_X0_total_3.1.2.1.2 0 rfl ?_
        refine z_if_eq (tgt := 146) M dt_X0_total_3.1.2.2.1 (by decide) (fun hc => ?_) (fun hc => ?_)
        · have h := gIt hc h
          refine z_iinc (v := (v8 + (1 : Int32))) (lv' := [(8, .int (v8 + (1 : Int32))), (9, .int (if (f_X11_hasBit v3 (v8 / (12 : Int32))) = (0 : Int32) then (0 : Int32) else (if (f_X11_hasBit v4 (jRem v8 (12 : Int32))) = (0 : Int32) then (0 : Int32) else (1 : Int32)))), (0, .ref (a 27)), (1, .int v1), (2, .int v2), (3, .int v3), (4, .int v4), (6, .int v6), (7, .int v7)]) M dt_X0_total_4.2.1.1.1 (k := 8) rfl (congrArg (fun q => v8 + q) ki_1) (by decide) rfl ?_
          refine z_goto (tgt := 64) M dt_X0_total_4.2.1.1.2 (by decide) ?_
          refine z_sub M [2, 3, 4, 5, 6, 7, 8, 0] (lv' := [(0, .ref (a 27)), (1, .int v1), (2, .int v2), (3, .int v3), (4, .int v4), (6, .int v6), (7, .int v7), (8, .int (v8 + (1 : Int32)))]) rfl ?_
          exact ih v6 v7 (v8 + (1 : Int32)) h
        · have h := gIf hc h
          refine z_aload_n M dt_X0_total_3.1.2.2.2 rfl 1 rfl ?_
          refine gf_X0_numbers M u269 dt_X0_total_3.2.1.1.1 ?_
          refine z_iload_n M dt_X0_total_3.2.1.1.2 rfl 2 rfl ?_
          refine z_iload M dt_X0_total_3.2.1.2.1 8 rfl ?_
          refine z_iload_n M dt_X0_total_3.2.1.2.2 rfl 3 rfl ?_
          obtain ⟨t6, hc, h⟩ := gBd h
          refine k_X4_has M hc u862 (Nat.le_of_ble_eq_true rfl) (Nat.le_of_ble_eq_true rfl) dt_X0_total_3.2.2.1.1 ?_
          refine z_if_eq (tgt := 146) M dt_X0_total_3.2.2.1.2 (by decide) (fun hc => ?_) (fun hc => ?_)
          · have h := gIt hc h
            refine z_iinc (v := (v8 + (1 : Int32))) (lv' := [(8, .int (v8 + (1 : Int32))), (9, .int (if (f_X11_hasBit v3 (v8 / (12 : Int32))) = (0 : Int32) then (0 : Int32) else (if (f_X11_hasBit v4 (jRem v8 (12 : Int32))) = (0 : Int32) then (0 : Int32) else (1 : Int32)))), (0, .ref (a 27)), (1, .int v1), (2, .int v2), (3, .int v3), (4, .int v4), (6, .int v6), (7, .int v7)]) M dt_X0_total_4.2.1.1.1 (k := 8) rfl (congrArg (fun q => v8 + q) ki_1) (by decide) rfl ?_
            refine z_goto (tgt := 64) M dt_X0_total_4.2.1.1.2 (by decide) ?_
            refine z_sub M [2, 3, 4, 5, 6, 7, 8, 0] (lv' := [(0, .ref (a 27)), (1, .int v1), (2, .int v2), (3, .int v3), (4, .int v4), (6, .int v6), (7, .int v7), (8, .int (v8 + (1 : Int32)))]) rfl ?_
            exact ih v6 v7 (v8 + (1 : Int32)) h
          · have h := gIf hc h
            refine z_iload M dt_X0_total_3.2.2.2.1 6 rfl ?_
            refine z_aload_n M dt_X0_total_3.2.2.2.2 rfl 1 rfl ?_
            refine gf_X0_numbers M u269 dt_X0_total_4.1.1.1.1 ?_
            refine z_iload_n M dt_X0_total_4.1.1.1.2 rfl 2 rfl ?_
            refine z_iload M dt_X0_total_4.1.1.2.1 8 rfl ?_
            refine z_iload_n M dt_X0_total_4.1.1.2.2 rfl 3 rfl ?_
            obtain ⟨t7, hc, h⟩ := gBd h
            refine k_X4_of M hc u866 (Nat.le_of_ble_eq_true rfl) (Nat.le_of_ble_eq_true rfl) dt_X0_total_4.1.2.1.1 ?_
            refine z_iadd M dt_X0_total_4.1.2.1.2 ?_
            refine z_istore (lv' := [(6, .int (v6 + t7)), (9, .int (if (f_X11_hasBit v3 (v8 / (12 : Int32))) = (0 : Int32) then (0 : Int32) else (if (f_X11_hasBit v4 (jRem v8 (12 : Int32))) = (0 : Int32) then (0 : Int32) else (1 : Int32)))), (0, .ref (a 27)), (1, .int v1), (2, .int v2), (3, .int v3), (4, .int v4), (7, .int v7), (8, .int v8)]) M dt_X0_total_4.1.2.2.1 (by decide) rfl ?_
            refine z_iinc (v := (v7 + (1 : Int32))) (lv' := [(7, .int (v7 + (1 : Int32))), (6, .int (v6 + t7)), (9, .int (if (f_X11_hasBit v3 (v8 / (12 : Int32))) = (0 : Int32) then (0 : Int32) else (if (f_X11_hasBit v4 (jRem v8 (12 : Int32))) = (0 : Int32) then (0 : Int32) else (1 : Int32)))), (0, .ref (a 27)), (1, .int v1), (2, .int v2), (3, .int v3), (4, .int v4), (8, .int v8)]) M dt_X0_total_4.1.2.2.2 (k := 7) rfl (congrArg (fun q => v7 + q) ki_1) (by decide) rfl ?_
            refine z_iinc (v := (v8 + (1 : Int32))) (lv' := [(8, .int (v8 + (1 : Int32))), (7, .int (v7 + (1 : Int32))), (6, .int (v6 + t7)), (9, .int (if (f_X11_hasBit v3 (v8 / (12 : Int32))) = (0 : Int32) then (0 : Int32) else (if (f_X11_hasBit v4 (jRem v8 (12 : Int32))) = (0 : Int32) then (0 : Int32) else (1 : Int32)))), (0, .ref (a 27)), (1, .int v1), (2, .int v2), (3, .int v3), (4, .int v4)]) M dt_X0_total_4.2.1.1.1 (k := 8) rfl (congrArg (fun q => v8 + q) ki_1) (by decide) rfl ?_
            refine z_goto (tgt := 64) M dt_X0_total_4.2.1.1.2 (by decide) ?_
            refine z_sub M [4, 5, 6, 7, 8, 2, 1, 0] (lv' := [(0, .ref (a 27)), (1, .int v1), (2, .int v2), (3, .int v3), (4, .int v4), (6, .int (v6 + t7)), (7, .int (v7 + (1 : Int32))), (8, .int (v8 + (1 : Int32)))]) rfl ?_
            exact ih (v6 + t7) (v7 + (1 : Int32)) (v8 + (1 : Int32)) h
      refine z_if_eq (tgt := 105) M dt_X0_total_2.2.1.2.1 (by decide) (fun hc3 => ?_) (fun hc3 => ?_)
      · refine z_iconst M dt_X0_total_3.1.1.2.2 ki_0 ?_
        exact (zTt hc3 hJ5)
      · refine z_iload M dt_X0_total_2.2.1.2.2 4 rfl ?_
        refine z_iload M dt_X0_total_2.2.2.1.1 7 rfl ?_
        refine z_bipush M dt_X0_total_2.2.2.1.2 kb_12 ?_
        refine z_irem M dt_X0_total_2.2.2.2.1 (by decide) ?_
        refine kn_X11_hasBit M u861 (Nat.le_of_ble_eq_true rfl) (Nat.le_of_ble_eq_true rfl) dt_X0_total_2.2.2.2.2 ?_
        refine z_if_eq (tgt := 105) M dt_X0_total_3.1.1.1.1 (by decide) (fun hc4 => ?_) (fun hc4 => ?_)
        · refine z_iconst M dt_X0_total_3.1.1.2.2 ki_0 ?_
          exact (zTt hc4 (zTf hc3 hJ5))
        · refine z_iconst M dt_X0_total_3.1.1.1.2 ki_1 ?_
          refine z_goto (tgt := 106) M dt_X0_total_3.1.1.2.1 (by decide) ?_
          exact (zTf hc4 (zTf hc3 hJ5))
set_option maxHeartbeats 4000000 in
set_option maxRecDepth 100000 in
theorem m_X0_total (hD : ∀ σ, va_D A (cW a cy σ)) {σ : Zst} {p0 : Int32} {p1 : Int32} {p2 : Int32} {p3 : Int32} {o : (Zst × Int32)} (h : f_X0_total σ p0 p1 p2 p3 = some o) : zT l D zcl (zty cy) A ad (cW a cy) yX0_total cX0_total 10 (some .int) 4 [.ref (a 27), .int p0, .int p1, .int p2, .int p3] σ o.1 (some (.int o.2)) := by
  refine z_met pn_X0 hD (Nat.le_of_ble_eq_true rfl) rfl (fun G M => ?_)
  refine z_iload_n M dt_X0_total_0.1.1.1.1 rfl 3 rfl ?_
  refine z_iconst M dt_X0_total_0.1.1.1.2 ki_1 ?_
  refine z_sipush M dt_X0_total_0.1.1.2.1 ks_255 ?_
  refine kn_X11_between M u857 (Nat.le_of_ble_eq_true rfl) (Nat.le_of_ble_eq_true rfl) dt_X0_total_0.1.1.2.2 ?_
  have hJ10 : G σ [(0, .ref (a 27)), (1, .int p0), (2, .int p1), (3, .int p2), (4, .int p3)] 28 [.int (if (f_X11_between p2 (1 : Int32) (255 : Int32)) = (0 : Int32) then (0 : Int32) else (if (f_X11_between p3 (1 : Int32) (4095 : Int32)) = (0 : Int32) then (0 : Int32) else (1 : Int32)))] := by
    refine z_istore (lv' := [(5, .int (if (f_X11_between p2 (1 : Int32) (255 : Int32)) = (0 : Int32) then (0 : Int32) else (if (f_X11_between p3 (1 : Int32) (4095 : Int32)) = (0 : Int32) then (0 : Int32) else (1 : Int32)))), (0, .ref (a 27)), (1, .int p0), (2, .int p1), (3, .int p2), (4, .int p3)]) M dt_X0_total_0.2.2.1.2 (by decide) rfl ?_
    refine z_iload_n M dt_X0_total_0.2.2.2.1 rfl 2 rfl ?_
    refine kn_X11_isKind M u858 (Nat.le_of_ble_eq_true rfl) (Nat.le_of_ble_eq_true rfl) dt_X0_total_0.2.2.2.2 ?_
    refine z_if_eq (tgt := 53) M dt_X0_total_1.1.1.1.1 (by decide) (fun hc => ?_) (fun hc => ?_)
    · have h := gIt hc h
      refine z_iconst M dt_X0_total_1.2.1.1.1 ki_m1 ?_
      obtain rfl := Option.some.inj h
      exact z_iret M dt_X0_total_1.2.1.1.2
    · have h := gIf hc h
      refine z_aload_n M dt_X0_total_1.1.1.1.2 rfl 1 rfl ?_
      refine gf_X0_town M u268 dt_X0_total_1.1.1.2.1 ?_
      refine z_iload_n M dt_X0_total_1.1.1.2.2 rfl 3 rfl ?_
      refine k_X10_hasSort M u859 (Nat.le_of_ble_eq_true rfl) (Nat.le_of_ble_eq_true rfl) dt_X0_total_1.1.2.1.1 ?_
      refine z_if_eq (tgt := 53) M dt_X0_total_1.1.2.1.2 (by decide) (fun hc => ?_) (fun hc => ?_)
      · have h := gIt hc h
        refine z_iconst M dt_X0_total_1.2.1.1.1 ki_m1 ?_
        obtain rfl := Option.some.inj h
        exact z_iret M dt_X0_total_1.2.1.1.2
      · have h := gIf hc h
        refine z_iload M dt_X0_total_1.1.2.2.1 0 rfl ?_
        refine z_if_ne (tgt := 55) M dt_X0_total_1.1.2.2.2 (by decide) (fun hc => ?_) (fun hc => ?_)
        · have h := gIf hc h
          refine z_iconst M dt_X0_total_1.2.1.2.1 ki_0 ?_
          refine z_istore (lv' := [(6, .int (0 : Int32)), (5, .int (if (f_X11_between p2 (1 : Int32) (255 : Int32)) = (0 : Int32) then (0 : Int32) else (if (f_X11_between p3 (1 : Int32) (4095 : Int32)) = (0 : Int32) then (0 : Int32) else (1 : Int32)))), (0, .ref (a 27)), (1, .int p0), (2, .int p1), (3, .int p2), (4, .int p3)]) M dt_X0_total_1.2.1.2.2 (by decide) rfl ?_
          refine z_iconst M dt_X0_total_1.2.2.1.1 ki_0 ?_
          refine z_istore (lv' := [(7, .int (0 : Int32)), (6, .int (0 : Int32)), (5, .int (if (f_X11_between p2 (1 : Int32) (255 : Int32)) = (0 : Int32) then (0 : Int32) else (if (f_X11_between p3 (1 : Int32) (4095 : Int32)) = (0 : Int32) then (0 : Int32) else (1 : Int32)))), (0, .ref (a 27)), (1, .int p0), (2, .int p1), (3, .int p2), (4, .int p3)]) M dt_X0_total_1.2.2.1.2 (by decide) rfl ?_
          refine z_iconst M dt_X0_total_1.2.2.2.1 ki_0 ?_
          refine z_istore (lv' := [(8, .int (0 : Int32)), (7, .int (0 : Int32)), (6, .int (0 : Int32)), (5, .int (if (f_X11_between p2 (1 : Int32) (255 : Int32)) = (0 : Int32) then (0 : Int32) else (if (f_X11_between p3 (1 : Int32) (4095 : Int32)) = (0 : Int32) then (0 : Int32) else (1 : Int32)))), (0, .ref (a 27)), (1, .int p0), (2, .int p1), (3, .int p2), (4, .int p3)]) M dt_X0_total_1.2.2.2.2 (by decide) rfl ?_
          refine z_sub M [4, 5, 6, 7, 8, 2, 1, 0] (lv' := [(0, .ref (a 27)), (1, .int p0), (2, .int p1), (3, .int p2), (4, .int p3), (6, .int (0 : Int32)), (7, .int (0 : Int32)), (8, .int (0 : Int32))]) rfl ?_
          exact wL_X0_total_64 M  σ p0 p1 p2 p3 zFu (0 : Int32) (0 : Int32) (0 : Int32) h
        · have h := gIt hc h
          refine z_iconst M dt_X0_total_1.2.1.1.1 ki_m1 ?_
          obtain rfl := Option.some.inj h
          exact z_iret M dt_X0_total_1.2.1.1.2
  refine z_if_eq (tgt := 27) M dt_X0_total_0.1.2.1.1 (by decide) (fun hc8 => ?_) (fun hc8 => ?_)
  · refine z_iconst M dt_X0_total_0.2.2.1.1 ki_0 ?_
    exact (zTt hc8 hJ10)
  · refine z_iload M dt_X0_total_0.1.2.1.2 4 rfl ?_
    refine z_iconst M dt_X0_total_0.1.2.2.1 ki_1 ?_
    refine z_sipush M dt_X0_total_0.1.2.2.2 ks_4095 ?_
    refine kn_X11_between M u857 (Nat.le_of_ble_eq_true rfl) (Nat.le_of_ble_eq_true rfl) dt_X0_total_0.2.1.1.1 ?_
    refine z_if_eq (tgt := 27) M dt_X0_total_0.2.1.1.2 (by decide) (fun hc9 => ?_) (fun hc9 => ?_)
    · refine z_iconst M dt_X0_total_0.2.2.1.1 ki_0 ?_
      exact (zTt hc9 (zTf hc8 hJ10))
    · refine z_iconst M dt_X0_total_0.2.1.2.1 ki_1 ?_
      refine z_goto (tgt := 28) M dt_X0_total_0.2.1.2.2 (by decide) ?_
      exact (zTf hc9 (zTf hc8 hJ10))
theorem k_X0_total {n : Nat} (M : zM l D zcl (zty cy) A ad (zR n) (cW a cy) own cc nL rt σo ov G) {p0 : Int32} {p1 : Int32} {p2 : Int32} {p3 : Int32} {o : (Zst × Int32)} (h : f_X0_total σ p0 p1 p2 p3 = some o) {index : Nat} (hl : Cond.methodLink own index yX0_total ∈ uw) (hR : 5 ≤ n) (hW : (st.map fun v => v.category).sum ≤ 8) (d : decode cc pc = .ok (.invokevirtual index, 3)) (kk : G o.1 lv (pc + 3) (.int o.2 :: st)) : G σ lv pc (.int p3 :: .int p2 :: .int p1 :: .int p0 :: .ref (a 27) :: st) := z_callV M [.int p0, .int p1, .int p2, .int p3] (m_X0_total (zM_hD M) h) (hC27 σ) rfl hl u92 u856 u854 u855 hd_X0_total hR (by decide) rfl hW d kk
set_option maxHeartbeats 4000000 in
set_option maxRecDepth 100000 in
theorem m_X11_sum (hD : ∀ σ, va_D A (cW a cy σ)) {σ : Zst} {p0 : Int32} {p1 : Int32} {p2 : Int32} {p3 : Int32} {o : (Zst × Int32)} (h : f_X11_sum σ p0 p1 p2 p3 = some o) : zT l D zcl (zty cy) A ad (cW a cy) yX11_sum cX11_sum 5 (some .int) 5 [.ref (a 0), .int p0, .int p1, .int p2, .int p3] σ o.1 (some (.int o.2)) := by
  refine z_met pn_X11 hD (Nat.le_of_ble_eq_true rfl) rfl (fun G M => ?_)
  refine z_aload_n M dt_X11_sum_0.1.1.1 rfl 0 rfl ?_
  refine gf_X11_answers M u433 dt_X11_sum_0.1.1.2 ?_
  refine z_iload_n M dt_X11_sum_0.1.2.1 rfl 1 rfl ?_
  refine z_iload_n M dt_X11_sum_0.1.2.2 rfl 2 rfl ?_
  refine z_iload_n M dt_X11_sum_0.2.1.1 rfl 3 rfl ?_
  refine z_iload M dt_X11_sum_0.2.1.2 4 rfl ?_
  obtain ⟨t1, hc, h⟩ := gBd h
  refine k_X0_total M hc u853 (Nat.le_of_ble_eq_true rfl) (Nat.le_of_ble_eq_true rfl) dt_X11_sum_0.2.2.1 ?_
  obtain rfl := Option.some.inj h
  exact z_iret M dt_X11_sum_0.2.2.2
set_option maxHeartbeats 4000000 in
set_option maxRecDepth 100000 in
theorem m_X12_in (hD : ∀ σ, va_D A (wf σ)) (σ0 : Zst) (p0 : Int64) (p1 : Int64) (p2 : Int64) : zT l D zcl0 tys A ad wf yX12_in cX12_in 6 (some .boolean) 1 [.long p0, .long p1, .long p2] σ0 σ0 (some (.int (f_X12_in p0 p1 p2))) := by
  obtain ⟨o, h⟩ : ∃ o, f_X12_in p0 p1 p2 = o := ⟨_, rfl⟩
  rw [h]
  refine z_met pn_X12 hD (Nat.le_of_ble_eq_true rfl) rfl (fun G M => ?_)
  refine z_lload_n M dt_X12_in_0.1.1.1.1 rfl 0 rfl ?_
  refine z_lload_n M dt_X12_in_0.1.1.1.2 rfl 1 rfl ?_
  have hJ3 : G σ0 [(0, .long p0), (2, .long p1), (4, .long p2)] 18 [.int (if p0 < p1 then (0 : Int32) else (if p2 < p0 then (0 : Int32) else (1 : Int32)))] := by
    subst h
    exact z_zret M (nBo (boIte (Or.inl rfl) (boIte (Or.inl rfl) (Or.inr rfl)))) dt_X12_in_0.2.2.2
  refine z_lcmp_lt (tgt := 17) M dt_X12_in_0.1.1.2 dt_X12_in_0.1.2.1.1 (by decide) (fun hc1 => ?_) (fun hc1 => ?_)
  · refine z_iconst M dt_X12_in_0.2.2.1.2 ki_0 ?_
    exact (zTt hc1 hJ3)
  · refine z_lload_n M dt_X12_in_0.1.2.1.2 rfl 0 rfl ?_
    refine z_lload M dt_X12_in_0.1.2.2 2 rfl ?_
    refine z_lcmp_gt (tgt := 17) M dt_X12_in_0.2.1.1.1 dt_X12_in_0.2.1.1.2 (by decide) (fun hc2 => ?_) (fun hc2 => ?_)
    · refine z_iconst M dt_X12_in_0.2.2.1.2 ki_0 ?_
      exact (zTt hc2 (zTf hc1 hJ3))
    · refine z_iconst M dt_X12_in_0.2.1.2 ki_1 ?_
      refine z_goto (tgt := 18) M dt_X12_in_0.2.2.1.1 (by decide) ?_
      exact (zTf hc2 (zTf hc1 hJ3))
theorem k_X12_in {n : Nat} (M : zM l D zcl0 tys A ad (zR n) wf own cc nL rt σo ov G) {p0 : Int64} {p1 : Int64} {p2 : Int64} {index : Nat} (hl : Cond.methodLink own index yX12_in ∈ uw) (hR : 2 ≤ n) (hW : (st.map fun v => v.category).sum ≤ 8) (d : decode cc pc = .ok (.invokestatic index, 3)) (kk : G σ lv (pc + 3) (.int (f_X12_in p0 p1 p2) :: st)) : G σ lv pc (.long p2 :: .long p1 :: .long p0 :: st) := z_callS M [.long p0, .long p1, .long p2] (m_X12_in (zM_hD M) σ p0 p1 p2) hl u97 u1510 u1509 hd_X12_in hR (by decide) rfl hW d kk
set_option maxHeartbeats 4000000 in
set_option maxRecDepth 100000 in
theorem m_X12_isKind (hD : ∀ σ, va_D A (wf σ)) (σ0 : Zst) (p0 : Int32) : zT l D zcl0 tys A ad wf yX12_isKind cX12_isKind 1 (some .boolean) 2 [.int p0] σ0 σ0 (some (.int (f_X12_isKind p0))) := by
  obtain ⟨o, h⟩ : ∃ o, f_X12_isKind p0 = o := ⟨_, rfl⟩
  rw [h]
  refine z_met pn_X12 hD (Nat.le_of_ble_eq_true rfl) rfl (fun G M => ?_)
  refine z_iload_n M dt_X12_isKind_0.1.1.1 rfl 0 rfl ?_
  refine z_i2l M dt_X12_isKind_0.1.1.2 ?_
  refine z_lconst (v := 0) M dt_X12_isKind_0.1.2 (by decide) ?_
  refine z_ldc2 M dt_X12_isKind_0.2.1.1 u1512 ?_
  refine k_X12_in M u1508 (Nat.le_of_ble_eq_true rfl) (Nat.le_of_ble_eq_true rfl) dt_X12_isKind_0.2.1.2 ?_
  subst h
  exact z_zret M (nBo (bo_X12_in (Int32.toInt64 p0) (0 : Int64) (5 : Int64))) dt_X12_isKind_0.2.2
theorem k_X12_isKind {n : Nat} (M : zM l D zcl0 tys A ad (zR n) wf own cc nL rt σo ov G) {p0 : Int32} {index : Nat} (hl : Cond.methodLink own index yX12_isKind ∈ uw) (hR : 3 ≤ n) (hW : (st.map fun v => v.category).sum ≤ 8) (d : decode cc pc = .ok (.invokestatic index, 3)) (kk : G σ lv (pc + 3) (.int (f_X12_isKind p0) :: st)) : G σ lv pc (.int p0 :: st) := z_callS M [.int p0] (m_X12_isKind (zM_hD M) σ p0) hl u97 u1540 u1539 hd_X12_isKind hR (by decide) rfl hW d kk
set_option maxHeartbeats 4000000 in
set_option maxRecDepth 100000 in
theorem m_X12_isCell (hD : ∀ σ, va_D A (mW a cy ad σ)) (σ0 : Zst) (p0 : Int32) : zT l D zcl (zty cy) A ad (mW a cy ad) yX12_isCell cX12_isCell 2 (some .boolean) 2 [.ref (a 0), .int p0] σ0 σ0 (some (.int (f_X12_isCell σ0 p0))) := by
  obtain ⟨o, h⟩ : ∃ o, f_X12_isCell σ0 p0 = o := ⟨_, rfl⟩
  rw [h]
  refine z_met pn_X12 hD (Nat.le_of_ble_eq_true rfl) rfl (fun G M => ?_)
  refine z_iload_n M dt_X12_isCell_0.1.1.1.1 rfl 1 rfl ?_
  refine z_i2l M dt_X12_isCell_0.1.1.1.2 ?_
  refine z_lconst (v := 0) M dt_X12_isCell_0.1.1.2 (by decide) ?_
  refine z_bipush M dt_X12_isCell_0.1.2.1.1 kb_12 ?_
  refine z_aload_n M dt_X12_isCell_0.1.2.1.2 rfl 0 rfl ?_
  refine gf_X12_streets (σ := σ0) M u1961 dt_X12_isCell_0.1.2.2 (v := (σ0.1 3)) rfl ?_
  refine z_imul M dt_X12_isCell_0.2.1.1.1 ?_
  refine z_iconst M dt_X12_isCell_0.2.1.1.2 ki_1 ?_
  refine z_isub M dt_X12_isCell_0.2.1.2 ?_
  refine z_i2l M dt_X12_isCell_0.2.2.1.1 ?_
  refine k_X12_in M u1508 (Nat.le_of_ble_eq_true rfl) (Nat.le_of_ble_eq_true rfl) dt_X12_isCell_0.2.2.1.2 ?_
  subst h
  exact z_zret M (nBo (bo_X12_in (Int32.toInt64 p0) (0 : Int64) (Int32.toInt64 (((12 : Int32) * (σ0.1 3)) - (1 : Int32))))) dt_X12_isCell_0.2.2.2
theorem k_X12_isCell {n : Nat} (M : zM l D zcl (zty cy) A ad (zR n) (mW a cy ad) own cc nL rt σo ov G) {p0 : Int32} {index : Nat} (hl : Cond.methodLink own index yX12_isCell ∈ uw) (hR : 3 ≤ n) (hW : (st.map fun v => v.category).sum ≤ 8) (d : decode cc pc = .ok (.invokevirtual index, 3)) (kk : G σ lv (pc + 3) (.int (f_X12_isCell σ p0) :: st)) : G σ lv pc (.int p0 :: .ref (a 0) :: st) := z_callV M [.int p0] (m_X12_isCell (zM_hD M) σ p0) (hM0 σ) rfl hl u97 u1544 u1543 u45 hd_X12_isCell hR (by decide) rfl hW d kk
set_option maxHeartbeats 4000000 in
set_option maxRecDepth 100000 in
theorem m_X12_isSort (hD : ∀ σ, va_D A (mW a cy ad σ)) (σ0 : Zst) (p0 : Int32) : zT l D zcl (zty cy) A ad (mW a cy ad) yX12_isSort cX12_isSort 2 (some .boolean) 2 [.ref (a 0), .int p0] σ0 σ0 (some (.int (f_X12_isSort σ0 p0))) := by
  obtain ⟨o, h⟩ : ∃ o, f_X12_isSort σ0 p0 = o := ⟨_, rfl⟩
  rw [h]
  refine z_met pn_X12 hD (Nat.le_of_ble_eq_true rfl) rfl (fun G M => ?_)
  refine z_iload_n M dt_X12_isSort_0.1.1.1.1 rfl 1 rfl ?_
  refine z_i2l M dt_X12_isSort_0.1.1.1.2 ?_
  refine z_lconst (v := 0) M dt_X12_isSort_0.1.1.2 (by decide) ?_
  refine z_aload_n M dt_X12_isSort_0.1.2.1 rfl 0 rfl ?_
  refine gf_X12_sorts (σ := σ0) M u1954 dt_X12_isSort_0.1.2.2 (v := (σ0.1 2)) rfl ?_
  refine z_iconst M dt_X12_isSort_0.2.1.1.1 ki_1 ?_
  refine z_isub M dt_X12_isSort_0.2.1.1.2 ?_
  refine z_i2l M dt_X12_isSort_0.2.1.2 ?_
  refine k_X12_in M u1508 (Nat.le_of_ble_eq_true rfl) (Nat.le_of_ble_eq_true rfl) dt_X12_isSort_0.2.2.1 ?_
  subst h
  exact z_zret M (nBo (bo_X12_in (Int32.toInt64 p0) (0 : Int64) (Int32.toInt64 ((σ0.1 2) - (1 : Int32))))) dt_X12_isSort_0.2.2.2
theorem k_X12_isSort {n : Nat} (M : zM l D zcl (zty cy) A ad (zR n) (mW a cy ad) own cc nL rt σo ov G) {p0 : Int32} {index : Nat} (hl : Cond.methodLink own index yX12_isSort ∈ uw) (hR : 3 ≤ n) (hW : (st.map fun v => v.category).sum ≤ 8) (d : decode cc pc = .ok (.invokevirtual index, 3)) (kk : G σ lv (pc + 3) (.int (f_X12_isSort σ p0) :: st)) : G σ lv pc (.int p0 :: .ref (a 0) :: st) := z_callV M [.int p0] (m_X12_isSort (zM_hD M) σ p0) (hM0 σ) rfl hl u97 u1521 u1519 u44 hd_X12_isSort hR (by decide) rfl hW d kk
set_option maxHeartbeats 4000000 in
set_option maxRecDepth 100000 in
theorem m_X12_placeOf (hD : ∀ σ, va_D A (wf σ)) (σ0 : Zst) (p0 : Int32) (p1 : Int32) (p2 : Int32) : zT l D zcl0 tys A ad wf yX12_placeOf cX12_placeOf 3 (some .int) 1 [.int p0, .int p1, .int p2] σ0 σ0 (some (.int (f_X12_placeOf p0 p1 p2))) := by
  obtain ⟨o, h⟩ : ∃ o, f_X12_placeOf p0 p1 p2 = o := ⟨_, rfl⟩
  rw [h]
  refine z_met pn_X12 hD (Nat.le_of_ble_eq_true rfl) rfl (fun G M => ?_)
  refine z_iload_n M dt_X12_placeOf_0.1.1.1.1 rfl 0 rfl ?_
  refine z_bipush M dt_X12_placeOf_0.1.1.1.2 kb_96 ?_
  refine z_imul M dt_X12_placeOf_0.1.1.2 ?_
  refine z_iload_n M dt_X12_placeOf_0.1.2.1 rfl 1 rfl ?_
  refine z_iadd M dt_X12_placeOf_0.1.2.2 ?_
  refine z_bipush M dt_X12_placeOf_0.2.1.1.1 kb_8 ?_
  refine z_imul M dt_X12_placeOf_0.2.1.1.2 ?_
  refine z_iload_n M dt_X12_placeOf_0.2.1.2 rfl 2 rfl ?_
  refine z_iadd M dt_X12_placeOf_0.2.2.1 ?_
  subst h
  exact z_iret M dt_X12_placeOf_0.2.2.2
theorem k_X12_placeOf {n : Nat} (M : zM l D zcl0 tys A ad (zR n) wf own cc nL rt σo ov G) {p0 : Int32} {p1 : Int32} {p2 : Int32} {index : Nat} (hl : Cond.methodLink own index yX12_placeOf ∈ uw) (hR : 2 ≤ n) (hW : (st.map fun v => v.category).sum ≤ 8) (d : decode cc pc = .ok (.invokestatic index, 3)) (kk : G σ lv (pc + 3) (.int (f_X12_placeOf p0 p1 p2) :: st)) : G σ lv pc (.int p2 :: .int p1 :: .int p0 :: st) := z_callS M [.int p0, .int p1, .int p2] (m_X12_placeOf (zM_hD M) σ p0 p1 p2) hl u97 u1553 u1552 hd_X12_placeOf hR (by decide) rfl hW d kk
set_option maxHeartbeats 4000000 in
set_option maxRecDepth 100000 in
theorem m_X12_at (hD : ∀ σ, va_D A (mW a cy ad σ)) {σ0 : Zst} {p0 : Int32} {p1 : Int32} {p2 : Int32} {o : Int32} (h : f_X12_at σ0 p0 p1 p2 = some o) : zT l D zcl (zty cy) A ad (mW a cy ad) yX12_at cX12_at 4 (some .int) 2 [.ref (a 0), .int p0, .int p1, .int p2] σ0 σ0 (some (.int o)) := by
  refine z_met pn_X12 hD (Nat.le_of_ble_eq_true rfl) rfl (fun G M => ?_)
  refine z_aload_n M dt_X12_at_0.1.1.1.1 rfl 0 rfl ?_
  refine gf_X12_number M u1964 dt_X12_at_0.1.1.1.2 ?_
  refine z_iload_n M dt_X12_at_0.1.1.2 rfl 1 rfl ?_
  refine z_iload_n M dt_X12_at_0.1.2.1 rfl 2 rfl ?_
  refine z_iload_n M dt_X12_at_0.1.2.2 rfl 3 rfl ?_
  refine k_X12_placeOf M u1551 (Nat.le_of_ble_eq_true rfl) (Nat.le_of_ble_eq_true rfl) dt_X12_at_0.2.1.1.1 ?_
  have ⟨hg, h⟩ := gIx_s h
  refine al_M10 (σ := σ0) M (f := (σ0.2.1 8)) rfl hg dt_X12_at_0.2.1.1.2 ?_
  refine z_iconst M dt_X12_at_0.2.1.2 ki_1 ?_
  refine z_isub M dt_X12_at_0.2.2.1 ?_
  obtain rfl := Option.some.inj h
  exact z_iret M dt_X12_at_0.2.2.2
theorem k_X12_at {n : Nat} (M : zM l D zcl (zty cy) A ad (zR n) (mW a cy ad) own cc nL rt σo ov G) {p0 : Int32} {p1 : Int32} {p2 : Int32} {o : Int32} (h : f_X12_at σ p0 p1 p2 = some o) {index : Nat} (hl : Cond.methodLink own index yX12_at ∈ uw) (hR : 3 ≤ n) (hW : (st.map fun v => v.category).sum ≤ 8) (d : decode cc pc = .ok (.invokevirtual index, 3)) (kk : G σ lv (pc + 3) (.int o :: st)) : G σ lv pc (.int p2 :: .int p1 :: .int p0 :: .ref (a 0) :: st) := z_callV M [.int p0, .int p1, .int p2] (m_X12_at (zM_hD M) h) (hM0 σ) rfl hl u97 u1550 u1549 u46 hd_X12_at hR (by decide) rfl hW d kk
set_option maxHeartbeats 4000000 in
set_option maxRecDepth 100000 in
theorem m_X12_get (hD : ∀ σ, va_D A (mW a cy ad σ)) {σ : Zst} {p0 : Int32} {p1 : Int32} {p2 : Int32} {o : (Zst × Int32)} (h : f_X12_get σ p0 p1 p2 = some o) : zT l D zcl (zty cy) A ad (mW a cy ad) yX12_get cX12_get 4 (some .int) 3 [.ref (a 0), .int p0, .int p1, .int p2] σ o.1 (some (.int o.2)) := by
  refine z_met pn_X12 hD (Nat.le_of_ble_eq_true rfl) rfl (fun G M => ?_)
  refine z_aload_n M dt_X12_get_0.1.1.1.1 rfl 0 rfl ?_
  refine z_iconst M dt_X12_get_0.1.1.1.2 ki_0 ?_
  refine pf_X12_thrown M u1951 dt_X12_get_0.1.1.2.1 ?_
  refine z_iload_n M dt_X12_get_0.1.1.2.2 rfl 1 rfl ?_
  refine k_X12_isKind M u1538 (Nat.le_of_ble_eq_true rfl) (Nat.le_of_ble_eq_true rfl) dt_X12_get_0.1.2.1.1 ?_
  refine z_if_eq (tgt := 38) M dt_X12_get_0.1.2.1.2 (by decide) (fun hc => ?_) (fun hc => ?_)
  · have h := gIt hc h
    refine z_bipush M dt_X12_get_1.2.1.2 kb_m2 ?_
    obtain rfl := Option.some.inj h
    exact z_iret M dt_X12_get_1.2.2
  · have h := gIf hc h
    refine z_aload_n M dt_X12_get_0.1.2.2.1 rfl 0 rfl ?_
    refine z_iload_n M dt_X12_get_0.1.2.2.2 rfl 2 rfl ?_
    refine k_X12_isCell M u1541 (Nat.le_of_ble_eq_true rfl) (Nat.le_of_ble_eq_true rfl) dt_X12_get_0.2.1.1.1 ?_
    refine z_if_eq (tgt := 38) M dt_X12_get_0.2.1.1.2 (by decide) (fun hc => ?_) (fun hc => ?_)
    · have h := gIt hc h
      refine z_bipush M dt_X12_get_1.2.1.2 kb_m2 ?_
      obtain rfl := Option.some.inj h
      exact z_iret M dt_X12_get_1.2.2
    · have h := gIf hc h
      refine z_aload_n M dt_X12_get_0.2.1.2.1 rfl 0 rfl ?_
      refine z_iload_n M dt_X12_get_0.2.1.2.2 rfl 3 rfl ?_
      refine k_X12_isSort M u1517 (Nat.le_of_ble_eq_true rfl) (Nat.le_of_ble_eq_true rfl) dt_X12_get_0.2.2.1.1 ?_
      refine z_if_eq (tgt := 38) M dt_X12_get_0.2.2.1.2 (by decide) (fun hc => ?_) (fun hc => ?_)
      · have h := gIt hc h
        refine z_bipush M dt_X12_get_1.2.1.2 kb_m2 ?_
        obtain rfl := Option.some.inj h
        exact z_iret M dt_X12_get_1.2.2
      · have h := gIf hc h
        refine z_aload_n M dt_X12_get_0.2.2.2.1 rfl 0 rfl ?_
        refine z_iload_n M dt_X12_get_0.2.2.2.2 rfl 1 rfl ?_
        refine z_iload_n M dt_X12_get_1.1.1.1 rfl 2 rfl ?_
        refine z_iload_n M dt_X12_get_1.1.1.2 rfl 3 rfl ?_
        obtain ⟨t1, hc, h⟩ := gBd h
        refine k_X12_at M hc u1547 (Nat.le_of_ble_eq_true rfl) (Nat.le_of_ble_eq_true rfl) dt_X12_get_1.1.2 ?_
        refine z_goto (tgt := 40) M dt_X12_get_1.2.1.1 (by decide) ?_
        obtain rfl := Option.some.inj h
        exact z_iret M dt_X12_get_1.2.2
end ZWK
