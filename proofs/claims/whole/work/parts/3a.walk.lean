section ZWK
variable {l : Launch} {D : va_G} {A : Nat → Prop} {ad : (Nat → Nat) × (Nat → Nat)} {a : Nat → Nat} {cy : ClassId × (ClassId × (ClassId × ClassId))} {own : String} {cc : ByteArray} {nL : Nat} {rt : Option FieldType} {σo : Zst} {ov : Option Value} {G : Zst → List (Nat × Value) → Nat → List Value → Prop}
variable {σ σ0 : Zst} {lv : List (Nat × Value)} {pc : Nat} {st : List Value} {zcl0 : List vw_C} {tys : List (ClassId × FieldType)} {wf : Zst → va_W}
set_option maxHeartbeats 4000000 in
set_option maxRecDepth 100000 in
theorem m_X11_between (hD : ∀ σ, va_D A (wf σ)) (σ0 : Zst) (p0 : Int32) (p1 : Int32) (p2 : Int32) : zT l D zcl0 tys A ad wf yX11_between cX11_between 3 (some .boolean) 1 [.int p0, .int p1, .int p2] σ0 σ0 (some (.int (f_X11_between p0 p1 p2))) := by
  obtain ⟨o, h⟩ : ∃ o, f_X11_between p0 p1 p2 = o := ⟨_, rfl⟩
  rw [h]
  refine z_met pn_X11 hD (Nat.le_of_ble_eq_true rfl) rfl (fun G M => ?_)
  refine z_iload_n M dt_X11_between_0.1.1.1.1 rfl 0 rfl ?_
  refine z_iload_n M dt_X11_between_0.1.1.1.2 rfl 1 rfl ?_
  have hJ3 : G σ0 [(0, .int p0), (1, .int p1), (2, .int p2)] 15 [.int (if p0 < p1 then (0 : Int32) else (if p2 < p0 then (0 : Int32) else (1 : Int32)))] := by
    subst h
    exact z_zret M (nBo (boIte (Or.inl rfl) (boIte (Or.inl rfl) (Or.inr rfl)))) dt_X11_between_0.2.2.2
  refine z_icmp_lt (tgt := 14) M dt_X11_between_0.1.1.2 (by decide) (fun hc1 => ?_) (fun hc1 => ?_)
  · refine z_iconst M dt_X11_between_0.2.2.1 ki_0 ?_
    exact (zTt hc1 hJ3)
  · refine z_iload_n M dt_X11_between_0.1.2.1 rfl 0 rfl ?_
    refine z_iload_n M dt_X11_between_0.1.2.2 rfl 2 rfl ?_
    refine z_icmp_gt (tgt := 14) M dt_X11_between_0.2.1.1.1 (by decide) (fun hc2 => ?_) (fun hc2 => ?_)
    · refine z_iconst M dt_X11_between_0.2.2.1 ki_0 ?_
      exact (zTt hc2 (zTf hc1 hJ3))
    · refine z_iconst M dt_X11_between_0.2.1.1.2 ki_1 ?_
      refine z_goto (tgt := 15) M dt_X11_between_0.2.1.2 (by decide) ?_
      exact (zTf hc2 (zTf hc1 hJ3))
theorem k_X11_between {n : Nat} (M : zM l D zcl0 tys A ad (zR n) wf own cc nL rt σo ov G) {p0 : Int32} {p1 : Int32} {p2 : Int32} {index : Nat} (hl : Cond.methodLink own index yX11_between ∈ uw) (hR : 2 ≤ n) (hW : (st.map fun v => v.category).sum ≤ 8) (d : decode cc pc = .ok (.invokestatic index, 3)) (kk : G σ lv (pc + 3) (.int (f_X11_between p0 p1 p2) :: st)) : G σ lv pc (.int p2 :: .int p1 :: .int p0 :: st) := z_callS M [.int p0, .int p1, .int p2] (m_X11_between (zM_hD M) σ p0 p1 p2) hl u87 u471 u470 hd_X11_between hR (by decide) rfl hW d kk
theorem kn_X11_between {n : Nat} (M : zM l D zcl0 tys A ad (zR n) wf own cc nL rt σo ov G) {p0 : Int32} {p1 : Int32} {p2 : Int32} {index : Nat} {host : String} (hl : Cond.methodLinkNest own index yX11_between host ∈ zNw) (hR : 2 ≤ n) (hW : (st.map fun v => v.category).sum ≤ 8) (d : decode cc pc = .ok (.invokestatic index, 3)) (kk : G σ lv (pc + 3) (.int (f_X11_between p0 p1 p2) :: st)) : G σ lv pc (.int p2 :: .int p1 :: .int p0 :: st) := z_callSN M [.int p0, .int p1, .int p2] (m_X11_between (zM_hD M) σ p0 p1 p2) hl u87 u471 u470 hd_X11_between hR (by decide) rfl hW d kk
set_option maxHeartbeats 4000000 in
set_option maxRecDepth 100000 in
theorem m_X10_addSort (hD : ∀ σ, va_D A (cW a cy σ)) {σ : Zst} {p0 : Int32} {p1 : Int32} {p2 : Int32} {o : (Zst × Int32)} (h : f_X10_addSort σ p0 p1 p2 = some o) : zT l D zcl (zty cy) A ad (cW a cy) yX10_addSort cX10_addSort 5 (some .int) 2 [.ref (a 17), .int p0, .int p1, .int p2] σ o.1 (some (.int o.2)) := by
  refine z_met pn_X10 hD (Nat.le_of_ble_eq_true rfl) rfl (fun G M => ?_)
  refine z_iload_n M dt_X10_addSort_0.1.1.1.1 rfl 1 rfl ?_
  refine z_iconst M dt_X10_addSort_0.1.1.1.2 ki_1 ?_
  refine z_bipush M dt_X10_addSort_0.1.1.2.1 kb_100 ?_
  refine kn_X11_between M u469 (Nat.le_of_ble_eq_true rfl) (Nat.le_of_ble_eq_true rfl) dt_X10_addSort_0.1.1.2.2 ?_
  have hJ4 : G σ [(0, .ref (a 17)), (1, .int p0), (2, .int p1), (3, .int p2)] 35 [.int (if (f_X11_between p0 (1 : Int32) (100 : Int32)) = (0 : Int32) then (0 : Int32) else (if (f_X11_between p1 (-5 : Int32) (5 : Int32)) = (0 : Int32) then (0 : Int32) else (if (f_X11_between p2 (1 : Int32) (100 : Int32)) = (0 : Int32) then (0 : Int32) else (1 : Int32))))] := by
    refine z_istore (lv' := [(4, .int (if (f_X11_between p0 (1 : Int32) (100 : Int32)) = (0 : Int32) then (0 : Int32) else (if (f_X11_between p1 (-5 : Int32) (5 : Int32)) = (0 : Int32) then (0 : Int32) else (if (f_X11_between p2 (1 : Int32) (100 : Int32)) = (0 : Int32) then (0 : Int32) else (1 : Int32))))), (0, .ref (a 17)), (1, .int p0), (2, .int p1), (3, .int p2)]) M dt_X10_addSort_1.1.1.2.1 (by decide) rfl ?_
    refine z_iload M dt_X10_addSort_1.1.1.2.2 0 rfl ?_
    refine z_if_eq (tgt := 51) M dt_X10_addSort_1.1.2.1.1 (by decide) (fun hc => ?_) (fun hc => ?_)
    · have h := gIt hc h
      refine z_iconst M dt_X10_addSort_1.2.1.1.2 ki_m1 ?_
      obtain rfl := Option.some.inj h
      exact z_iret M dt_X10_addSort_1.2.1.2.1
    · have h := gIf hc h
      refine z_aload_n M dt_X10_addSort_1.1.2.1.2 rfl 1 rfl ?_
      refine gf_X10_sorts (σ := σ) M u235 dt_X10_addSort_1.1.2.2.1 (v := (σ.1 10)) rfl ?_
      refine z_bipush M dt_X10_addSort_1.1.2.2.2 kb_8 ?_
      refine z_icmp_lt (tgt := 53) M dt_X10_addSort_1.2.1.1.1 (by decide) (fun hc => ?_) (fun hc => ?_)
      · have h := gIt hc h
        refine z_aload_n M dt_X10_addSort_1.2.1.2.2 rfl 1 rfl ?_
        refine gf_X10_leaves M u226 dt_X10_addSort_1.2.2.1.1 ?_
        refine z_aload_n M dt_X10_addSort_1.2.2.1.2 rfl 1 rfl ?_
        refine gf_X10_sorts (σ := σ) M u235 dt_X10_addSort_1.2.2.2.1 (v := (σ.1 10)) rfl ?_
        refine z_iload_n M dt_X10_addSort_1.2.2.2.2 rfl 2 rfl ?_
        have ⟨hg, h⟩ := gIx_s h
        refine as_C18 (σ := σ) M (f := (σ.2.1 10)) rfl hg dt_X10_addSort_2.1.1.1.1 ?_
        refine z_aload_n M dt_X10_addSort_2.1.1.1.2 rfl 1 rfl ?_
        refine gf_X10_rights M u227 dt_X10_addSort_2.1.1.2.1 ?_
        refine z_aload_n M dt_X10_addSort_2.1.1.2.2 rfl 1 rfl ?_
        refine gf_X10_sorts (σ := (zA σ 10 (upd (σ.2.1 10) (Int32.toNatClampNeg (σ.1 10)) p0))) M u235 dt_X10_addSort_2.1.2.1.1 (v := (σ.1 10)) rfl ?_
        refine z_iload_n M dt_X10_addSort_2.1.2.1.2 rfl 3 rfl ?_
        have ⟨hg, h⟩ := gIx_s h
        refine as_C19 (σ := (zA σ 10 (upd (σ.2.1 10) (Int32.toNatClampNeg (σ.1 10)) p0))) M (f := (σ.2.1 11)) rfl hg dt_X10_addSort_2.1.2.2.1 ?_
        refine z_aload_n M dt_X10_addSort_2.1.2.2.2 rfl 1 rfl ?_
        refine gf_X10_lasts M u228 dt_X10_addSort_2.2.1.1.1 ?_
        refine z_aload_n M dt_X10_addSort_2.2.1.1.2 rfl 1 rfl ?_
        refine gf_X10_sorts (σ := (zA (zA σ 10 (upd (σ.2.1 10) (Int32.toNatClampNeg (σ.1 10)) p0)) 11 (upd (σ.2.1 11) (Int32.toNatClampNeg (σ.1 10)) p1))) M u235 dt_X10_addSort_2.2.1.2.1 (v := (σ.1 10)) rfl ?_
        refine z_iload_n M dt_X10_addSort_2.2.1.2.2 rfl 4 rfl ?_
        have ⟨hg, h⟩ := gIx_s h
        refine as_C20 (σ := (zA (zA σ 10 (upd (σ.2.1 10) (Int32.toNatClampNeg (σ.1 10)) p0)) 11 (upd (σ.2.1 11) (Int32.toNatClampNeg (σ.1 10)) p1))) M (f := (σ.2.1 12)) rfl hg dt_X10_addSort_2.2.2.1.1 ?_
        refine z_aload_n M dt_X10_addSort_2.2.2.1.2 rfl 1 rfl ?_
        refine z_dup M dt_X10_addSort_2.2.2.2.1 rfl ?_
        refine gf_X10_sorts (σ := (zA (zA (zA σ 10 (upd (σ.2.1 10) (Int32.toNatClampNeg (σ.1 10)) p0)) 11 (upd (σ.2.1 11) (Int32.toNatClampNeg (σ.1 10)) p1)) 12 (upd (σ.2.1 12) (Int32.toNatClampNeg (σ.1 10)) p2))) M u235 dt_X10_addSort_2.2.2.2.2 (v := (σ.1 10)) rfl ?_
        refine z_iconst M dt_X10_addSort_3.1.1.1 ki_1 ?_
        refine z_iadd M dt_X10_addSort_3.1.1.2 ?_
        refine pf_X10_sorts M u235 dt_X10_addSort_3.1.2.1 ?_
        refine z_aload_n M dt_X10_addSort_3.1.2.2 rfl 1 rfl ?_
        refine gf_X10_sorts (σ := (zI (zA (zA (zA σ 10 (upd (σ.2.1 10) (Int32.toNatClampNeg (σ.1 10)) p0)) 11 (upd (σ.2.1 11) (Int32.toNatClampNeg (σ.1 10)) p1)) 12 (upd (σ.2.1 12) (Int32.toNatClampNeg (σ.1 10)) p2)) 10 ((σ.1 10) + (1 : Int32)))) M u235 dt_X10_addSort_3.2.1.1 (v := ((σ.1 10) + (1 : Int32))) rfl ?_
        refine z_iconst M dt_X10_addSort_3.2.1.2 ki_1 ?_
        refine z_isub M dt_X10_addSort_3.2.2.1 ?_
        obtain rfl := Option.some.inj h
        exact z_iret M dt_X10_addSort_3.2.2.2
      · have h := gIf hc h
        refine z_iconst M dt_X10_addSort_1.2.1.1.2 ki_m1 ?_
        obtain rfl := Option.some.inj h
        exact z_iret M dt_X10_addSort_1.2.1.2.1
  refine z_if_eq (tgt := 34) M dt_X10_addSort_0.1.2.1.1 (by decide) (fun hc1 => ?_) (fun hc1 => ?_)
  · refine z_iconst M dt_X10_addSort_1.1.1.1.2 ki_0 ?_
    exact (zTt hc1 hJ4)
  · refine z_iload_n M dt_X10_addSort_0.1.2.1.2 rfl 2 rfl ?_
    refine z_bipush M dt_X10_addSort_0.1.2.2.1 kb_m5 ?_
    refine z_iconst M dt_X10_addSort_0.1.2.2.2 ki_5 ?_
    refine kn_X11_between M u469 (Nat.le_of_ble_eq_true rfl) (Nat.le_of_ble_eq_true rfl) dt_X10_addSort_0.2.1.1.1 ?_
    refine z_if_eq (tgt := 34) M dt_X10_addSort_0.2.1.1.2 (by decide) (fun hc2 => ?_) (fun hc2 => ?_)
    · refine z_iconst M dt_X10_addSort_1.1.1.1.2 ki_0 ?_
      exact (zTt hc2 (zTf hc1 hJ4))
    · refine z_iload_n M dt_X10_addSort_0.2.1.2.1 rfl 3 rfl ?_
      refine z_iconst M dt_X10_addSort_0.2.1.2.2 ki_1 ?_
      refine z_bipush M dt_X10_addSort_0.2.2.1.1 kb_100 ?_
      refine kn_X11_between M u469 (Nat.le_of_ble_eq_true rfl) (Nat.le_of_ble_eq_true rfl) dt_X10_addSort_0.2.2.1.2 ?_
      refine z_if_eq (tgt := 34) M dt_X10_addSort_0.2.2.2.1 (by decide) (fun hc3 => ?_) (fun hc3 => ?_)
      · refine z_iconst M dt_X10_addSort_1.1.1.1.2 ki_0 ?_
        exact (zTt hc3 (zTf hc2 (zTf hc1 hJ4)))
      · refine z_iconst M dt_X10_addSort_0.2.2.2.2 ki_1 ?_
        refine z_goto (tgt := 35) M dt_X10_addSort_1.1.1.1.1 (by decide) ?_
        exact (zTf hc3 (zTf hc2 (zTf hc1 hJ4)))
theorem k_X10_addSort {n : Nat} (M : zM l D zcl (zty cy) A ad (zR n) (cW a cy) own cc nL rt σo ov G) {p0 : Int32} {p1 : Int32} {p2 : Int32} {o : (Zst × Int32)} (h : f_X10_addSort σ p0 p1 p2 = some o) {index : Nat} (hl : Cond.methodLink own index yX10_addSort ∈ uw) (hR : 3 ≤ n) (hW : (st.map fun v => v.category).sum ≤ 8) (d : decode cc pc = .ok (.invokevirtual index, 3)) (kk : G o.1 lv (pc + 3) (.int o.2 :: st)) : G σ lv pc (.int p2 :: .int p1 :: .int p0 :: .ref (a 17) :: st) := z_callV M [.int p0, .int p1, .int p2] (m_X10_addSort (zM_hD M) h) (hC17 σ) rfl hl u93 u468 u466 u467 hd_X10_addSort hR (by decide) rfl hW d kk
set_option maxHeartbeats 4000000 in
set_option maxRecDepth 100000 in
theorem m_X11_sort (hD : ∀ σ, va_D A (cW a cy σ)) {σ : Zst} {p0 : Int32} {p1 : Int32} {p2 : Int32} {o : (Zst × Int32)} (h : f_X11_sort σ p0 p1 p2 = some o) : zT l D zcl (zty cy) A ad (cW a cy) yX11_sort cX11_sort 4 (some .int) 3 [.ref (a 0), .int p0, .int p1, .int p2] σ o.1 (some (.int o.2)) := by
  refine z_met pn_X11 hD (Nat.le_of_ble_eq_true rfl) rfl (fun G M => ?_)
  refine z_aload_n M dt_X11_sort_0.1.1.1 rfl 0 rfl ?_
  refine gf_X11_town M u434 dt_X11_sort_0.1.1.2 ?_
  refine z_iload_n M dt_X11_sort_0.1.2.1 rfl 1 rfl ?_
  refine z_iload_n M dt_X11_sort_0.1.2.2 rfl 2 rfl ?_
  refine z_iload_n M dt_X11_sort_0.2.1.1 rfl 3 rfl ?_
  obtain ⟨t1, hc, h⟩ := gBd h
  refine k_X10_addSort M hc u465 (Nat.le_of_ble_eq_true rfl) (Nat.le_of_ble_eq_true rfl) dt_X11_sort_0.2.1.2 ?_
  obtain rfl := Option.some.inj h
  exact z_iret M dt_X11_sort_0.2.2
set_option maxHeartbeats 4000000 in
set_option maxRecDepth 100000 in
theorem m_X10_hasSort (hD : ∀ σ, va_D A (cW a cy σ)) (σ0 : Zst) (p0 : Int32) : zT l D zcl (zty cy) A ad (cW a cy) yX10_hasSort cX10_hasSort 2 (some .boolean) 1 [.ref (a 17), .int p0] σ0 σ0 (some (.int (f_X10_hasSort σ0 p0))) := by
  obtain ⟨o, h⟩ : ∃ o, f_X10_hasSort σ0 p0 = o := ⟨_, rfl⟩
  rw [h]
  refine z_met pn_X10 hD (Nat.le_of_ble_eq_true rfl) rfl (fun G M => ?_)
  refine z_iload_n M dt_X10_hasSort_0.1.1.1.1 rfl 1 rfl ?_
  have hJ3 : G σ0 [(0, .ref (a 17)), (1, .int p0)] 17 [.int (if p0 < (0 : Int32) then (0 : Int32) else (if (σ0.1 10) ≤ p0 then (0 : Int32) else (1 : Int32)))] := by
    subst h
    exact z_zret M (nBo (boIte (Or.inl rfl) (boIte (Or.inl rfl) (Or.inr rfl)))) dt_X10_hasSort_0.2.2.2
  refine z_if_lt (tgt := 16) M dt_X10_hasSort_0.1.1.1.2 (by decide) (fun hc1 => ?_) (fun hc1 => ?_)
  · refine z_iconst M dt_X10_hasSort_0.2.2.1 ki_0 ?_
    exact (zTt hc1 hJ3)
  · refine z_iload_n M dt_X10_hasSort_0.1.1.2 rfl 1 rfl ?_
    refine z_aload_n M dt_X10_hasSort_0.1.2.1 rfl 0 rfl ?_
    refine gf_X10_sorts (σ := σ0) M u235 dt_X10_hasSort_0.1.2.2 (v := (σ0.1 10)) rfl ?_
    refine z_icmp_ge (tgt := 16) M dt_X10_hasSort_0.2.1.1.1 (by decide) (fun hc2 => ?_) (fun hc2 => ?_)
    · refine z_iconst M dt_X10_hasSort_0.2.2.1 ki_0 ?_
      exact (zTt hc2 (zTf hc1 hJ3))
    · refine z_iconst M dt_X10_hasSort_0.2.1.1.2 ki_1 ?_
      refine z_goto (tgt := 17) M dt_X10_hasSort_0.2.1.2 (by decide) ?_
      exact (zTf hc2 (zTf hc1 hJ3))
theorem k_X10_hasSort {n : Nat} (M : zM l D zcl (zty cy) A ad (zR n) (cW a cy) own cc nL rt σo ov G) {p0 : Int32} {index : Nat} (hl : Cond.methodLink own index yX10_hasSort ∈ uw) (hR : 2 ≤ n) (hW : (st.map fun v => v.category).sum ≤ 8) (d : decode cc pc = .ok (.invokevirtual index, 3)) (kk : G σ lv (pc + 3) (.int (f_X10_hasSort σ p0) :: st)) : G σ lv pc (.int p0 :: .ref (a 17) :: st) := z_callV M [.int p0] (m_X10_hasSort (zM_hD M) σ p0) (hC17 σ) rfl hl u93 u483 u481 u482 hd_X10_hasSort hR (by decide) rfl hW d kk
set_option maxHeartbeats 4000000 in
set_option maxRecDepth 100000 in
theorem m_X10_setGone (hD : ∀ σ, va_D A (cW a cy σ)) {σ : Zst} {p0 : Int32} {p1 : Int32} {p2 : Int32} {p3 : Int32} {o : (Zst × Int32)} (h : f_X10_setGone σ p0 p1 p2 p3 = some o) : zT l D zcl (zty cy) A ad (cW a cy) yX10_setGone cX10_setGone 6 (some .boolean) 2 [.ref (a 17), .int p0, .int p1, .int p2, .int p3] σ o.1 (some (.int o.2)) := by
  refine z_met pn_X10 hD (Nat.le_of_ble_eq_true rfl) rfl (fun G M => ?_)
  refine z_iload_n M dt_X10_setGone_0.1.1.1.1 rfl 2 rfl ?_
  refine z_iconst M dt_X10_setGone_0.1.1.1.2 ki_0 ?_
  refine z_bipush M dt_X10_setGone_0.1.1.2.1 kb_100 ?_
  refine kn_X11_between M u469 (Nat.le_of_ble_eq_true rfl) (Nat.le_of_ble_eq_true rfl) dt_X10_setGone_0.1.1.2.2 ?_
  have hJ4 : G σ [(0, .ref (a 17)), (1, .int p0), (2, .int p1), (3, .int p2), (4, .int p3)] 36 [.int (if (f_X11_between p1 (0 : Int32) (100 : Int32)) = (0 : Int32) then (0 : Int32) else (if (f_X11_between p2 (0 : Int32) (100 : Int32)) = (0 : Int32) then (0 : Int32) else (if (f_X11_between p3 (0 : Int32) (100 : Int32)) = (0 : Int32) then (0 : Int32) else (1 : Int32))))] := by
    refine z_istore (lv' := [(5, .int (if (f_X11_between p1 (0 : Int32) (100 : Int32)) = (0 : Int32) then (0 : Int32) else (if (f_X11_between p2 (0 : Int32) (100 : Int32)) = (0 : Int32) then (0 : Int32) else (if (f_X11_between p3 (0 : Int32) (100 : Int32)) = (0 : Int32) then (0 : Int32) else (1 : Int32))))), (0, .ref (a 17)), (1, .int p0), (2, .int p1), (3, .int p2), (4, .int p3)]) M dt_X10_setGone_1.1.1.2.1 (by decide) rfl ?_
    refine z_aload_n M dt_X10_setGone_1.1.1.2.2 rfl 1 rfl ?_
    refine z_iload_n M dt_X10_setGone_1.1.2.1.1 rfl 2 rfl ?_
    refine k_X10_hasSort M u480 (Nat.le_of_ble_eq_true rfl) (Nat.le_of_ble_eq_true rfl) dt_X10_setGone_1.1.2.1.2 ?_
    refine z_if_eq (tgt := 62) M dt_X10_setGone_1.1.2.2.1 (by decide) (fun hc => ?_) (fun hc => ?_)
    · have h := gIt hc h
      refine z_iconst M dt_X10_setGone_2.1.1.1.1 ki_0 ?_
      obtain rfl := Option.some.inj h
      exact z_zret M (nBo (Or.inl rfl)) dt_X10_setGone_2.1.1.1.2
    · have h := gIf hc h
      refine z_iload M dt_X10_setGone_1.1.2.2.2 0 rfl ?_
      refine z_if_eq (tgt := 62) M dt_X10_setGone_1.2.1.1.1 (by decide) (fun hc => ?_) (fun hc => ?_)
      · have h := gIt hc h
        refine z_iconst M dt_X10_setGone_2.1.1.1.1 ki_0 ?_
        obtain rfl := Option.some.inj h
        exact z_zret M (nBo (Or.inl rfl)) dt_X10_setGone_2.1.1.1.2
      · have h := gIf hc h
        refine z_iload_n M dt_X10_setGone_1.2.1.1.2 rfl 3 rfl ?_
        refine z_iload_n M dt_X10_setGone_1.2.1.2.1 rfl 4 rfl ?_
        refine z_iadd M dt_X10_setGone_1.2.1.2.2 ?_
        refine z_iload M dt_X10_setGone_1.2.2.1.1 5 rfl ?_
        refine z_iadd M dt_X10_setGone_1.2.2.1.2 ?_
        refine z_bipush M dt_X10_setGone_1.2.2.2.1 kb_100 ?_
        refine z_icmp_le (tgt := 64) M dt_X10_setGone_1.2.2.2.2 (by decide) (fun hc => ?_) (fun hc => ?_)
        · have h := gIt hc h
          refine z_aload_n M dt_X10_setGone_2.1.1.2.1 rfl 1 rfl ?_
          refine gf_X10_sinks M u229 dt_X10_setGone_2.1.1.2.2 ?_
          refine z_iload_n M dt_X10_setGone_2.1.2.1.1 rfl 2 rfl ?_
          refine z_iload_n M dt_X10_setGone_2.1.2.1.2 rfl 3 rfl ?_
          have ⟨hg, h⟩ := gIx_s h
          refine as_C21 (σ := σ) M (f := (σ.2.1 13)) rfl hg dt_X10_setGone_2.1.2.2.1 ?_
          refine z_aload_n M dt_X10_setGone_2.1.2.2.2 rfl 1 rfl ?_
          refine gf_X10_backs M u230 dt_X10_setGone_2.2.1.1.1 ?_
          refine z_iload_n M dt_X10_setGone_2.2.1.1.2 rfl 2 rfl ?_
          refine z_iload_n M dt_X10_setGone_2.2.1.2.1 rfl 4 rfl ?_
          have ⟨hg, h⟩ := gIx_s h
          refine as_C22 (σ := (zA σ 13 (upd (σ.2.1 13) (Int32.toNatClampNeg p0) p1))) M (f := (σ.2.1 14)) rfl hg dt_X10_setGone_2.2.1.2.2 ?_
          refine z_aload_n M dt_X10_setGone_2.2.2.1.1 rfl 1 rfl ?_
          refine gf_X10_corners M u231 dt_X10_setGone_2.2.2.1.2 ?_
          refine z_iload_n M dt_X10_setGone_2.2.2.2.1 rfl 2 rfl ?_
          refine z_iload M dt_X10_setGone_2.2.2.2.2 5 rfl ?_
          have ⟨hg, h⟩ := gIx_s h
          refine as_C23 (σ := (zA (zA σ 13 (upd (σ.2.1 13) (Int32.toNatClampNeg p0) p1)) 14 (upd (σ.2.1 14) (Int32.toNatClampNeg p0) p2))) M (f := (σ.2.1 15)) rfl hg dt_X10_setGone_3.1.1 ?_
          refine z_iconst M dt_X10_setGone_3.1.2 ki_1 ?_
          obtain rfl := Option.some.inj h
          exact z_zret M (nBo (Or.inr rfl)) dt_X10_setGone_3.2
        · have h := gIf hc h
          refine z_iconst M dt_X10_setGone_2.1.1.1.1 ki_0 ?_
          obtain rfl := Option.some.inj h
          exact z_zret M (nBo (Or.inl rfl)) dt_X10_setGone_2.1.1.1.2
  refine z_if_eq (tgt := 35) M dt_X10_setGone_0.1.2.1.1 (by decide) (fun hc1 => ?_) (fun hc1 => ?_)
  · refine z_iconst M dt_X10_setGone_1.1.1.1.2 ki_0 ?_
    exact (zTt hc1 hJ4)
  · refine z_iload_n M dt_X10_setGone_0.1.2.1.2 rfl 3 rfl ?_
    refine z_iconst M dt_X10_setGone_0.1.2.2.1 ki_0 ?_
    refine z_bipush M dt_X10_setGone_0.1.2.2.2 kb_100 ?_
    refine kn_X11_between M u469 (Nat.le_of_ble_eq_true rfl) (Nat.le_of_ble_eq_true rfl) dt_X10_setGone_0.2.1.1.1 ?_
    refine z_if_eq (tgt := 35) M dt_X10_setGone_0.2.1.1.2 (by decide) (fun hc2 => ?_) (fun hc2 => ?_)
    · refine z_iconst M dt_X10_setGone_1.1.1.1.2 ki_0 ?_
      exact (zTt hc2 (zTf hc1 hJ4))
    · refine z_iload M dt_X10_setGone_0.2.1.2.1 4 rfl ?_
      refine z_iconst M dt_X10_setGone_0.2.1.2.2 ki_0 ?_
      refine z_bipush M dt_X10_setGone_0.2.2.1.1 kb_100 ?_
      refine kn_X11_between M u469 (Nat.le_of_ble_eq_true rfl) (Nat.le_of_ble_eq_true rfl) dt_X10_setGone_0.2.2.1.2 ?_
      refine z_if_eq (tgt := 35) M dt_X10_setGone_0.2.2.2.1 (by decide) (fun hc3 => ?_) (fun hc3 => ?_)
      · refine z_iconst M dt_X10_setGone_1.1.1.1.2 ki_0 ?_
        exact (zTt hc3 (zTf hc2 (zTf hc1 hJ4)))
      · refine z_iconst M dt_X10_setGone_0.2.2.2.2 ki_1 ?_
        refine z_goto (tgt := 36) M dt_X10_setGone_1.1.1.1.1 (by decide) ?_
        exact (zTf hc3 (zTf hc2 (zTf hc1 hJ4)))
theorem k_X10_setGone {n : Nat} (M : zM l D zcl (zty cy) A ad (zR n) (cW a cy) own cc nL rt σo ov G) {p0 : Int32} {p1 : Int32} {p2 : Int32} {p3 : Int32} {o : (Zst × Int32)} (h : f_X10_setGone σ p0 p1 p2 p3 = some o) {index : Nat} (hl : Cond.methodLink own index yX10_setGone ∈ uw) (hR : 3 ≤ n) (hW : (st.map fun v => v.category).sum ≤ 8) (d : decode cc pc = .ok (.invokevirtual index, 3)) (kk : G o.1 lv (pc + 3) (.int o.2 :: st)) : G σ lv pc (.int p3 :: .int p2 :: .int p1 :: .int p0 :: .ref (a 17) :: st) := z_callV M [.int p0, .int p1, .int p2, .int p3] (m_X10_setGone (zM_hD M) h) (hC17 σ) rfl hl u93 u479 u477 u478 hd_X10_setGone hR (by decide) rfl hW d kk
set_option maxHeartbeats 4000000 in
set_option maxRecDepth 100000 in
theorem m_X11_goes (hD : ∀ σ, va_D A (cW a cy σ)) {σ : Zst} {p0 : Int32} {p1 : Int32} {p2 : Int32} {p3 : Int32} {o : (Zst × Int32)} (h : f_X11_goes σ p0 p1 p2 p3 = some o) : zT l D zcl (zty cy) A ad (cW a cy) yX11_goes cX11_goes 5 (some .boolean) 3 [.ref (a 0), .int p0, .int p1, .int p2, .int p3] σ o.1 (some (.int o.2)) := by
  refine z_met pn_X11 hD (Nat.le_of_ble_eq_true rfl) rfl (fun G M => ?_)
  refine z_aload_n M dt_X11_goes_0.1.1.1 rfl 0 rfl ?_
  refine gf_X11_town M u434 dt_X11_goes_0.1.1.2 ?_
  refine z_iload_n M dt_X11_goes_0.1.2.1 rfl 1 rfl ?_
  refine z_iload_n M dt_X11_goes_0.1.2.2 rfl 2 rfl ?_
  refine z_iload_n M dt_X11_goes_0.2.1.1 rfl 3 rfl ?_
  refine z_iload M dt_X11_goes_0.2.1.2 4 rfl ?_
  obtain ⟨t1, hc, h⟩ := gBd h
  refine k_X10_setGone M hc u476 (Nat.le_of_ble_eq_true rfl) (Nat.le_of_ble_eq_true rfl) dt_X11_goes_0.2.2.1 ?_
  have ⟨hg, h⟩ := gBo_s h
  obtain rfl := Option.some.inj h
  exact z_zret M (nBo hg) dt_X11_goes_0.2.2.2
set_option maxHeartbeats 4000000 in
set_option maxRecDepth 100000 in
theorem m_X10_addStreet (hD : ∀ σ, va_D A (cW a cy σ)) {σ : Zst} {p0 : Int32} {o : (Zst × Int32)} (h : f_X10_addStreet σ p0 = some o) : zT l D zcl (zty cy) A ad (cW a cy) yX10_addStreet cX10_addStreet 2 (some .int) 2 [.ref (a 17), .int p0] σ o.1 (some (.int o.2)) := by
  refine z_met pn_X10 hD (Nat.le_of_ble_eq_true rfl) rfl (fun G M => ?_)
  refine z_iload_n M dt_X10_addStreet_0.1.1.1.1 rfl 1 rfl ?_
  refine z_iconst M dt_X10_addStreet_0.1.1.1.2 ki_1 ?_
  refine z_bipush M dt_X10_addStreet_0.1.1.2.1 kb_100 ?_
  refine kn_X11_between M u469 (Nat.le_of_ble_eq_true rfl) (Nat.le_of_ble_eq_true rfl) dt_X10_addStreet_0.1.1.2.2 ?_
  refine z_if_eq (tgt := 19) M dt_X10_addStreet_0.1.2.1.1 (by decide) (fun hc => ?_) (fun hc => ?_)
  · have h := gIt hc h
    refine z_iconst M dt_X10_addStreet_0.2.1.1.2 ki_m1 ?_
    obtain rfl := Option.some.inj h
    exact z_iret M dt_X10_addStreet_0.2.1.2.1
  · have h := gIf hc h
    refine z_aload_n M dt_X10_addStreet_0.1.2.1.2 rfl 0 rfl ?_
    refine gf_X10_streets (σ := σ) M u236 dt_X10_addStreet_0.1.2.2.1 (v := (σ.1 11)) rfl ?_
    refine z_bipush M dt_X10_addStreet_0.1.2.2.2 kb_8 ?_
    refine z_icmp_lt (tgt := 21) M dt_X10_addStreet_0.2.1.1.1 (by decide) (fun hc => ?_) (fun hc => ?_)
    · have h := gIt hc h
      refine z_aload_n M dt_X10_addStreet_0.2.1.2.2 rfl 0 rfl ?_
      refine gf_X10_houses M u233 dt_X10_addStreet_0.2.2.1.1 ?_
      refine z_aload_n M dt_X10_addStreet_0.2.2.1.2 rfl 0 rfl ?_
      refine gf_X10_streets (σ := σ) M u236 dt_X10_addStreet_0.2.2.2.1 (v := (σ.1 11)) rfl ?_
      refine z_iload_n M dt_X10_addStreet_0.2.2.2.2 rfl 1 rfl ?_
      have ⟨hg, h⟩ := gIx_s h
      refine as_C25 (σ := σ) M (f := (σ.2.1 17)) rfl hg dt_X10_addStreet_1.1.1.1.1 ?_
      refine z_aload_n M dt_X10_addStreet_1.1.1.1.2 rfl 0 rfl ?_
      refine gf_X10_toldFrom M u234 dt_X10_addStreet_1.1.1.2.1 ?_
      refine z_aload_n M dt_X10_addStreet_1.1.1.2.2 rfl 0 rfl ?_
      refine gf_X10_streets (σ := (zA σ 17 (upd (σ.2.1 17) (Int32.toNatClampNeg (σ.1 11)) p0))) M u236 dt_X10_addStreet_1.1.2.1.1 (v := (σ.1 11)) rfl ?_
      refine z_iconst M dt_X10_addStreet_1.1.2.1.2 ki_m1 ?_
      have ⟨hg, h⟩ := gIx_s h
      refine as_C26 (σ := (zA σ 17 (upd (σ.2.1 17) (Int32.toNatClampNeg (σ.1 11)) p0))) M (f := (σ.2.1 18)) rfl hg dt_X10_addStreet_1.1.2.2.1 ?_
      refine z_aload_n M dt_X10_addStreet_1.1.2.2.2 rfl 0 rfl ?_
      refine z_dup M dt_X10_addStreet_1.2.1.1.1 rfl ?_
      refine gf_X10_streets (σ := (zA (zA σ 17 (upd (σ.2.1 17) (Int32.toNatClampNeg (σ.1 11)) p0)) 18 (upd (σ.2.1 18) (Int32.toNatClampNeg (σ.1 11)) (-1 : Int32)))) M u236 dt_X10_addStreet_1.2.1.1.2 (v := (σ.1 11)) rfl ?_
      refine z_iconst M dt_X10_addStreet_1.2.1.2.1 ki_1 ?_
      refine z_iadd M dt_X10_addStreet_1.2.1.2.2 ?_
      refine pf_X10_streets M u236 dt_X10_addStreet_1.2.2.1.1 ?_
      refine z_aload_n M dt_X10_addStreet_1.2.2.1.2 rfl 0 rfl ?_
      refine gf_X10_streets (σ := (zI (zA (zA σ 17 (upd (σ.2.1 17) (Int32.toNatClampNeg (σ.1 11)) p0)) 18 (upd (σ.2.1 18) (Int32.toNatClampNeg (σ.1 11)) (-1 : Int32))) 11 ((σ.1 11) + (1 : Int32)))) M u236 dt_X10_addStreet_1.2.2.2.1 (v := ((σ.1 11) + (1 : Int32))) rfl ?_
      refine z_iconst M dt_X10_addStreet_1.2.2.2.2 ki_1 ?_
      refine z_isub M dt_X10_addStreet_2.1 ?_
      obtain rfl := Option.some.inj h
      exact z_iret M dt_X10_addStreet_2.2
    · have h := gIf hc h
      refine z_iconst M dt_X10_addStreet_0.2.1.1.2 ki_m1 ?_
      obtain rfl := Option.some.inj h
      exact z_iret M dt_X10_addStreet_0.2.1.2.1
theorem k_X10_addStreet {n : Nat} (M : zM l D zcl (zty cy) A ad (zR n) (cW a cy) own cc nL rt σo ov G) {p0 : Int32} {o : (Zst × Int32)} (h : f_X10_addStreet σ p0 = some o) {index : Nat} (hl : Cond.methodLink own index yX10_addStreet ∈ uw) (hR : 3 ≤ n) (hW : (st.map fun v => v.category).sum ≤ 8) (d : decode cc pc = .ok (.invokevirtual index, 3)) (kk : G o.1 lv (pc + 3) (.int o.2 :: st)) : G σ lv pc (.int p0 :: .ref (a 17) :: st) := z_callV M [.int p0] (m_X10_addStreet (zM_hD M) h) (hC17 σ) rfl hl u93 u491 u489 u490 hd_X10_addStreet hR (by decide) rfl hW d kk
set_option maxHeartbeats 4000000 in
set_option maxRecDepth 100000 in
theorem m_X11_street (hD : ∀ σ, va_D A (cW a cy σ)) {σ : Zst} {p0 : Int32} {o : (Zst × Int32)} (h : f_X11_street σ p0 = some o) : zT l D zcl (zty cy) A ad (cW a cy) yX11_street cX11_street 2 (some .int) 3 [.ref (a 0), .int p0] σ o.1 (some (.int o.2)) := by
  refine z_met pn_X11 hD (Nat.le_of_ble_eq_true rfl) rfl (fun G M => ?_)
  refine z_aload_n M dt_X11_street_0.1.1.1 rfl 0 rfl ?_
  refine gf_X11_town M u434 dt_X11_street_0.1.1.2 ?_
  refine z_iload_n M dt_X11_street_0.1.2 rfl 1 rfl ?_
  obtain ⟨t1, hc, h⟩ := gBd h
  refine k_X10_addStreet M hc u488 (Nat.le_of_ble_eq_true rfl) (Nat.le_of_ble_eq_true rfl) dt_X11_street_0.2.1 ?_
  obtain rfl := Option.some.inj h
  exact z_iret M dt_X11_street_0.2.2
set_option maxHeartbeats 4000000 in
set_option maxRecDepth 100000 in
theorem m_X11_isWeek (hD : ∀ σ, va_D A (wf σ)) (σ0 : Zst) (p0 : Int32) : zT l D zcl0 tys A ad wf yX11_isWeek cX11_isWeek 1 (some .boolean) 2 [.int p0] σ0 σ0 (some (.int (f_X11_isWeek p0))) := by
  obtain ⟨o, h⟩ : ∃ o, f_X11_isWeek p0 = o := ⟨_, rfl⟩
  rw [h]
  refine z_met pn_X11 hD (Nat.le_of_ble_eq_true rfl) rfl (fun G M => ?_)
  refine z_iload_n M dt_X11_isWeek_0.1.1.1 rfl 0 rfl ?_
  refine z_iconst M dt_X11_isWeek_0.1.1.2 ki_0 ?_
  refine z_bipush M dt_X11_isWeek_0.1.2 kb_11 ?_
  refine k_X11_between M u503 (Nat.le_of_ble_eq_true rfl) (Nat.le_of_ble_eq_true rfl) dt_X11_isWeek_0.2.1 ?_
  subst h
  exact z_zret M (nBo (bo_X11_between p0 (0 : Int32) (11 : Int32))) dt_X11_isWeek_0.2.2
theorem kn_X11_isWeek {n : Nat} (M : zM l D zcl0 tys A ad (zR n) wf own cc nL rt σo ov G) {p0 : Int32} {index : Nat} {host : String} (hl : Cond.methodLinkNest own index yX11_isWeek host ∈ zNw) (hR : 3 ≤ n) (hW : (st.map fun v => v.category).sum ≤ 8) (d : decode cc pc = .ok (.invokestatic index, 3)) (kk : G σ lv (pc + 3) (.int (f_X11_isWeek p0) :: st)) : G σ lv pc (.int p0 :: st) := z_callSN M [.int p0] (m_X11_isWeek (zM_hD M) σ p0) hl u87 u502 u501 hd_X11_isWeek hR (by decide) rfl hW d kk
set_option maxHeartbeats 4000000 in
set_option maxRecDepth 100000 in
theorem m_X10_setLack (hD : ∀ σ, va_D A (cW a cy σ)) {σ : Zst} {p0 : Int32} {p1 : Int32} {p2 : Int32} {o : (Zst × Int32)} (h : f_X10_setLack σ p0 p1 p2 = some o) : zT l D zcl (zty cy) A ad (cW a cy) yX10_setLack cX10_setLack 5 (some .boolean) 3 [.ref (a 17), .int p0, .int p1, .int p2] σ o.1 (some (.int o.2)) := by
  refine z_met pn_X10 hD (Nat.le_of_ble_eq_true rfl) rfl (fun G M => ?_)
  refine z_aload_n M dt_X10_setLack_0.1.1.1.1 rfl 0 rfl ?_
  refine z_iload_n M dt_X10_setLack_0.1.1.1.2 rfl 1 rfl ?_
  refine k_X10_hasSort M u480 (Nat.le_of_ble_eq_true rfl) (Nat.le_of_ble_eq_true rfl) dt_X10_setLack_0.1.1.2.1 ?_
  refine z_if_eq (tgt := 15) M dt_X10_setLack_0.1.1.2.2 (by decide) (fun hc => ?_) (fun hc => ?_)
  · have h := gIt hc h
    refine z_iconst M dt_X10_setLack_0.1.2.2.2 ki_0 ?_
    obtain rfl := Option.some.inj h
    exact z_zret M (nBo (Or.inl rfl)) dt_X10_setLack_0.2.1.1.1
  · have h := gIf hc h
    refine z_iload_n M dt_X10_setLack_0.1.2.1.1 rfl 2 rfl ?_
    refine kn_X11_isWeek M u500 (Nat.le_of_ble_eq_true rfl) (Nat.le_of_ble_eq_true rfl) dt_X10_setLack_0.1.2.1.2 ?_
    refine z_if_ne (tgt := 17) M dt_X10_setLack_0.1.2.2.1 (by decide) (fun hc => ?_) (fun hc => ?_)
    · have h := gIf hc h
      refine z_iconst M dt_X10_setLack_0.2.1.1.2 ki_1 ?_
      refine z_iload_n M dt_X10_setLack_0.2.1.2.1 rfl 2 rfl ?_
      refine z_ishl M dt_X10_setLack_0.2.1.2.2 ?_
      refine z_istore (lv' := [(4, .int (jShl (1 : Int32) p1)), (0, .ref (a 17)), (1, .int p0), (2, .int p1), (3, .int p2)]) M dt_X10_setLack_0.2.2.1.1 (by decide) rfl ?_
      refine z_aload_n M dt_X10_setLack_0.2.2.1.2 rfl 1 rfl ?_
      refine gf_X10_lackWeeks M u232 dt_X10_setLack_0.2.2.2.1 ?_
      refine z_iload_n M dt_X10_setLack_0.2.2.2.2 rfl 2 rfl ?_
      refine z_iload_n M dt_X10_setLack_1.1.1.1.1 rfl 4 rfl ?_
      refine z_if_eq (tgt := 43) M dt_X10_setLack_1.1.1.1.2 (by decide) (fun hc => ?_) (fun hc => ?_)
      · have h := gIt hc h
        refine z_aload_n M dt_X10_setLack_1.2.1.1.2 rfl 1 rfl ?_
        refine gf_X10_lackWeeks M u232 dt_X10_setLack_1.2.1.2.1 ?_
        refine z_iload_n M dt_X10_setLack_1.2.1.2.2 rfl 2 rfl ?_
        have ⟨hg, h⟩ := gIx_s h
        refine al_C24 (σ := σ) M (f := (σ.2.1 16)) rfl hg dt_X10_setLack_1.2.2.1.1 ?_
        refine z_iload M dt_X10_setLack_1.2.2.1.2 0 rfl ?_
        refine z_iconst M dt_X10_setLack_1.2.2.2.1 ki_m1 ?_
        refine z_ixor M dt_X10_setLack_1.2.2.2.2 ?_
        refine z_iand M dt_X10_setLack_2.1.1 ?_
        have ⟨hg, h⟩ := gIx_s h
        refine as_C24 (σ := σ) M (f := (σ.2.1 16)) rfl hg dt_X10_setLack_2.1.2 ?_
        refine z_iconst M dt_X10_setLack_2.2.1 ki_1 ?_
        obtain rfl := Option.some.inj h
        exact z_zret M (nBo (Or.inr rfl)) dt_X10_setLack_2.2.2
      · have h := gIf hc h
        refine z_aload_n M dt_X10_setLack_1.1.1.2.1 rfl 1 rfl ?_
        refine gf_X10_lackWeeks M u232 dt_X10_setLack_1.1.1.2.2 ?_
        refine z_iload_n M dt_X10_setLack_1.1.2.1.1 rfl 2 rfl ?_
        have ⟨hg, h⟩ := gIx_s h
        refine al_C24 (σ := σ) M (f := (σ.2.1 16)) rfl hg dt_X10_setLack_1.1.2.1.2 ?_
        refine z_iload M dt_X10_setLack_1.1.2.2.1 0 rfl ?_
        refine z_ior M dt_X10_setLack_1.1.2.2.2 ?_
        refine z_goto (tgt := 54) M dt_X10_setLack_1.2.1.1.1 (by decide) ?_
        have ⟨hg, h⟩ := gIx_s h
        refine as_C24 (σ := σ) M (f := (σ.2.1 16)) rfl hg dt_X10_setLack_2.1.2 ?_
        refine z_iconst M dt_X10_setLack_2.2.1 ki_1 ?_
        obtain rfl := Option.some.inj h
        exact z_zret M (nBo (Or.inr rfl)) dt_X10_setLack_2.2.2
    · have h := gIt hc h
      refine z_iconst M dt_X10_setLack_0.1.2.2.2 ki_0 ?_
      obtain rfl := Option.some.inj h
      exact z_zret M (nBo (Or.inl rfl)) dt_X10_setLack_0.2.1.1.1
theorem k_X10_setLack {n : Nat} (M : zM l D zcl (zty cy) A ad (zR n) (cW a cy) own cc nL rt σo ov G) {p0 : Int32} {p1 : Int32} {p2 : Int32} {o : (Zst × Int32)} (h : f_X10_setLack σ p0 p1 p2 = some o) {index : Nat} (hl : Cond.methodLink own index yX10_setLack ∈ uw) (hR : 4 ≤ n) (hW : (st.map fun v => v.category).sum ≤ 8) (d : decode cc pc = .ok (.invokevirtual index, 3)) (kk : G o.1 lv (pc + 3) (.int o.2 :: st)) : G σ lv pc (.int p2 :: .int p1 :: .int p0 :: .ref (a 17) :: st) := z_callV M [.int p0, .int p1, .int p2] (m_X10_setLack (zM_hD M) h) (hC17 σ) rfl hl u93 u499 u497 u498 hd_X10_setLack hR (by decide) rfl hW d kk
set_option maxHeartbeats 4000000 in
set_option maxRecDepth 100000 in
theorem m_X11_lack (hD : ∀ σ, va_D A (cW a cy σ)) {σ : Zst} {p0 : Int32} {p1 : Int32} {p2 : Int32} {o : (Zst × Int32)} (h : f_X11_lack σ p0 p1 p2 = some o) : zT l D zcl (zty cy) A ad (cW a cy) yX11_lack cX11_lack 4 (some .boolean) 4 [.ref (a 0), .int p0, .int p1, .int p2] σ o.1 (some (.int o.2)) := by
  refine z_met pn_X11 hD (Nat.le_of_ble_eq_true rfl) rfl (fun G M => ?_)
  refine z_aload_n M dt_X11_lack_0.1.1.1 rfl 0 rfl ?_
  refine gf_X11_town M u434 dt_X11_lack_0.1.1.2 ?_
  refine z_iload_n M dt_X11_lack_0.1.2.1 rfl 1 rfl ?_
  refine z_iload_n M dt_X11_lack_0.1.2.2 rfl 2 rfl ?_
  refine z_iload_n M dt_X11_lack_0.2.1.1 rfl 3 rfl ?_
  obtain ⟨t1, hc, h⟩ := gBd h
  refine k_X10_setLack M hc u496 (Nat.le_of_ble_eq_true rfl) (Nat.le_of_ble_eq_true rfl) dt_X11_lack_0.2.1.2 ?_
  have ⟨hg, h⟩ := gBo_s h
  obtain rfl := Option.some.inj h
  exact z_zret M (nBo hg) dt_X11_lack_0.2.2
set_option maxHeartbeats 4000000 in
set_option maxRecDepth 100000 in
theorem m_X11_isKind (hD : ∀ σ, va_D A (wf σ)) (σ0 : Zst) (p0 : Int32) : zT l D zcl0 tys A ad wf yX11_isKind cX11_isKind 1 (some .boolean) 2 [.int p0] σ0 σ0 (some (.int (f_X11_isKind p0))) := by
  obtain ⟨o, h⟩ : ∃ o, f_X11_isKind p0 = o := ⟨_, rfl⟩
  rw [h]
  refine z_met pn_X11 hD (Nat.le_of_ble_eq_true rfl) rfl (fun G M => ?_)
  refine z_iload_n M dt_X11_isKind_0.1.1.1 rfl 0 rfl ?_
  refine z_iconst M dt_X11_isKind_0.1.1.2 ki_0 ?_
  refine z_iconst M dt_X11_isKind_0.1.2 ki_5 ?_
  refine k_X11_between M u503 (Nat.le_of_ble_eq_true rfl) (Nat.le_of_ble_eq_true rfl) dt_X11_isKind_0.2.1 ?_
  subst h
  exact z_zret M (nBo (bo_X11_between p0 (0 : Int32) (5 : Int32))) dt_X11_isKind_0.2.2
theorem kn_X11_isKind {n : Nat} (M : zM l D zcl0 tys A ad (zR n) wf own cc nL rt σo ov G) {p0 : Int32} {index : Nat} {host : String} (hl : Cond.methodLinkNest own index yX11_isKind host ∈ zNw) (hR : 3 ≤ n) (hW : (st.map fun v => v.category).sum ≤ 8) (d : decode cc pc = .ok (.invokestatic index, 3)) (kk : G σ lv (pc + 3) (.int (f_X11_isKind p0) :: st)) : G σ lv pc (.int p0 :: st) := z_callSN M [.int p0] (m_X11_isKind (zM_hD M) σ p0) hl u87 u514 u513 hd_X11_isKind hR (by decide) rfl hW d kk
set_option maxHeartbeats 4000000 in
set_option maxRecDepth 100000 in
theorem m_X10_cellCount (hD : ∀ σ, va_D A (cW a cy σ)) (σ0 : Zst) : zT l D zcl (zty cy) A ad (cW a cy) yX10_cellCount cX10_cellCount 1 (some .int) 1 [.ref (a 17)] σ0 σ0 (some (.int (f_X10_cellCount σ0))) := by
  obtain ⟨o, h⟩ : ∃ o, f_X10_cellCount σ0 = o := ⟨_, rfl⟩
  rw [h]
  refine z_met pn_X10 hD (Nat.le_of_ble_eq_true rfl) rfl (fun G M => ?_)
  refine z_bipush M dt_X10_cellCount_0.1.1.1 kb_12 ?_
  refine z_aload_n M dt_X10_cellCount_0.1.1.2 rfl 0 rfl ?_
  refine gf_X10_streets (σ := σ0) M u236 dt_X10_cellCount_0.1.2 (v := (σ0.1 11)) rfl ?_
  refine z_imul M dt_X10_cellCount_0.2.1 ?_
  subst h
  exact z_iret M dt_X10_cellCount_0.2.2
theorem k_X10_cellCount {n : Nat} (M : zM l D zcl (zty cy) A ad (zR n) (cW a cy) own cc nL rt σo ov G)  {index : Nat} (hl : Cond.methodLink own index yX10_cellCount ∈ uw) (hR : 2 ≤ n) (hW : (st.map fun v => v.category).sum ≤ 8) (d : decode cc pc = .ok (.invokevirtual index, 3)) (kk : G σ lv (pc + 3) (.int (f_X10_cellCount σ) :: st)) : G σ lv pc (.ref (a 17) :: st) := z_callV M [] (m_X10_cellCount (zM_hD M) σ ) (hC17 σ) rfl hl u93 u522 u520 u521 hd_X10_cellCount hR (by decide) rfl hW d kk
set_option maxHeartbeats 4000000 in
set_option maxRecDepth 100000 in
theorem m_X10_hasCell (hD : ∀ σ, va_D A (cW a cy σ)) (σ0 : Zst) (p0 : Int32) : zT l D zcl (zty cy) A ad (cW a cy) yX10_hasCell cX10_hasCell 2 (some .boolean) 2 [.ref (a 17), .int p0] σ0 σ0 (some (.int (f_X10_hasCell σ0 p0))) := by
  obtain ⟨o, h⟩ : ∃ o, f_X10_hasCell σ0 p0 = o := ⟨_, rfl⟩
  rw [h]
  refine z_met pn_X10 hD (Nat.le_of_ble_eq_true rfl) rfl (fun G M => ?_)
  refine z_iload_n M dt_X10_hasCell_0.1.1.1.1 rfl 1 rfl ?_
  have hJ3 : G σ0 [(0, .ref (a 17)), (1, .int p0)] 17 [.int (if p0 < (0 : Int32) then (0 : Int32) else (if (f_X10_cellCount σ0) ≤ p0 then (0 : Int32) else (1 : Int32)))] := by
    subst h
    exact z_zret M (nBo (boIte (Or.inl rfl) (boIte (Or.inl rfl) (Or.inr rfl)))) dt_X10_hasCell_0.2.2.2
  refine z_if_lt (tgt := 16) M dt_X10_hasCell_0.1.1.1.2 (by decide) (fun hc1 => ?_) (fun hc1 => ?_)
  · refine z_iconst M dt_X10_hasCell_0.2.2.1 ki_0 ?_
    exact (zTt hc1 hJ3)
  · refine z_iload_n M dt_X10_hasCell_0.1.1.2 rfl 1 rfl ?_
    refine z_aload_n M dt_X10_hasCell_0.1.2.1 rfl 0 rfl ?_
    refine k_X10_cellCount M u519 (Nat.le_of_ble_eq_true rfl) (Nat.le_of_ble_eq_true rfl) dt_X10_hasCell_0.1.2.2 ?_
    refine z_icmp_ge (tgt := 16) M dt_X10_hasCell_0.2.1.1.1 (by decide) (fun hc2 => ?_) (fun hc2 => ?_)
    · refine z_iconst M dt_X10_hasCell_0.2.2.1 ki_0 ?_
      exact (zTt hc2 (zTf hc1 hJ3))
    · refine z_iconst M dt_X10_hasCell_0.2.1.1.2 ki_1 ?_
      refine z_goto (tgt := 17) M dt_X10_hasCell_0.2.1.2 (by decide) ?_
      exact (zTf hc2 (zTf hc1 hJ3))
theorem k_X10_hasCell {n : Nat} (M : zM l D zcl (zty cy) A ad (zR n) (cW a cy) own cc nL rt σo ov G) {p0 : Int32} {index : Nat} (hl : Cond.methodLink own index yX10_hasCell ∈ uw) (hR : 3 ≤ n) (hW : (st.map fun v => v.category).sum ≤ 8) (d : decode cc pc = .ok (.invokevirtual index, 3)) (kk : G σ lv (pc + 3) (.int (f_X10_hasCell σ p0) :: st)) : G σ lv pc (.int p0 :: .ref (a 17) :: st) := z_callV M [.int p0] (m_X10_hasCell (zM_hD M) σ p0) (hC17 σ) rfl hl u93 u518 u516 u517 hd_X10_hasCell hR (by decide) rfl hW d kk
set_option maxHeartbeats 4000000 in
set_option maxRecDepth 100000 in
theorem m_X10_hasNumber (hD : ∀ σ, va_D A (cW a cy σ)) (σ0 : Zst) (p0 : Int32) (p1 : Int32) (p2 : Int32) : zT l D zcl (zty cy) A ad (cW a cy) yX10_hasNumber cX10_hasNumber 4 (some .boolean) 3 [.ref (a 17), .int p0, .int p1, .int p2] σ0 σ0 (some (.int (f_X10_hasNumber σ0 p0 p1 p2))) := by
  obtain ⟨o, h⟩ : ∃ o, f_X10_hasNumber σ0 p0 p1 p2 = o := ⟨_, rfl⟩
  rw [h]
  refine z_met pn_X10 hD (Nat.le_of_ble_eq_true rfl) rfl (fun G M => ?_)
  refine z_iload_n M dt_X10_hasNumber_0.1.1.1.1 rfl 1 rfl ?_
  refine kn_X11_isKind M u512 (Nat.le_of_ble_eq_true rfl) (Nat.le_of_ble_eq_true rfl) dt_X10_hasNumber_0.1.1.1.2 ?_
  have hJ4 : G σ0 [(0, .ref (a 17)), (1, .int p0), (2, .int p1), (3, .int p2)] 28 [.int (if (f_X11_isKind p0) = (0 : Int32) then (0 : Int32) else (if (f_X10_hasCell σ0 p1) = (0 : Int32) then (0 : Int32) else (if (f_X10_hasSort σ0 p2) = (0 : Int32) then (0 : Int32) else (1 : Int32))))] := by
    subst h
    exact z_zret M (nBo (boIte (Or.inl rfl) (boIte (Or.inl rfl) (boIte (Or.inl rfl) (Or.inr rfl))))) dt_X10_hasNumber_0.2.2.2
  refine z_if_eq (tgt := 27) M dt_X10_hasNumber_0.1.1.2.1 (by decide) (fun hc1 => ?_) (fun hc1 => ?_)
  · refine z_iconst M dt_X10_hasNumber_0.2.2.1.2 ki_0 ?_
    exact (zTt hc1 hJ4)
  · refine z_aload_n M dt_X10_hasNumber_0.1.1.2.2 rfl 0 rfl ?_
    refine z_iload_n M dt_X10_hasNumber_0.1.2.1.1 rfl 2 rfl ?_
    refine k_X10_hasCell M u515 (Nat.le_of_ble_eq_true rfl) (Nat.le_of_ble_eq_true rfl) dt_X10_hasNumber_0.1.2.1.2 ?_
    refine z_if_eq (tgt := 27) M dt_X10_hasNumber_0.1.2.2.1 (by decide) (fun hc2 => ?_) (fun hc2 => ?_)
    · refine z_iconst M dt_X10_hasNumber_0.2.2.1.2 ki_0 ?_
      exact (zTt hc2 (zTf hc1 hJ4))
    · refine z_aload_n M dt_X10_hasNumber_0.1.2.2.2 rfl 0 rfl ?_
      refine z_iload_n M dt_X10_hasNumber_0.2.1.1.1 rfl 3 rfl ?_
      refine k_X10_hasSort M u480 (Nat.le_of_ble_eq_true rfl) (Nat.le_of_ble_eq_true rfl) dt_X10_hasNumber_0.2.1.1.2 ?_
      refine z_if_eq (tgt := 27) M dt_X10_hasNumber_0.2.1.2.1 (by decide) (fun hc3 => ?_) (fun hc3 => ?_)
      · refine z_iconst M dt_X10_hasNumber_0.2.2.1.2 ki_0 ?_
        exact (zTt hc3 (zTf hc2 (zTf hc1 hJ4)))
      · refine z_iconst M dt_X10_hasNumber_0.2.1.2.2 ki_1 ?_
        refine z_goto (tgt := 28) M dt_X10_hasNumber_0.2.2.1.1 (by decide) ?_
        exact (zTf hc3 (zTf hc2 (zTf hc1 hJ4)))
theorem k_X10_hasNumber {n : Nat} (M : zM l D zcl (zty cy) A ad (zR n) (cW a cy) own cc nL rt σo ov G) {p0 : Int32} {p1 : Int32} {p2 : Int32} {index : Nat} (hl : Cond.methodLink own index yX10_hasNumber ∈ uw) (hR : 4 ≤ n) (hW : (st.map fun v => v.category).sum ≤ 8) (d : decode cc pc = .ok (.invokevirtual index, 3)) (kk : G σ lv (pc + 3) (.int (f_X10_hasNumber σ p0 p1 p2) :: st)) : G σ lv pc (.int p2 :: .int p1 :: .int p0 :: .ref (a 17) :: st) := z_callV M [.int p0, .int p1, .int p2] (m_X10_hasNumber (zM_hD M) σ p0 p1 p2) (hC17 σ) rfl hl u93 u511 u509 u510 hd_X10_hasNumber hR (by decide) rfl hW d kk
set_option maxHeartbeats 4000000 in
set_option maxRecDepth 100000 in
theorem m_X4_placeOf (hD : ∀ σ, va_D A (wf σ)) (σ0 : Zst) (p0 : Int32) (p1 : Int32) (p2 : Int32) : zT l D zcl0 tys A ad wf yX4_placeOf cX4_placeOf 4 (some .int) 1 [.int p0, .int p1, .int p2] σ0 σ0 (some (.int (f_X4_placeOf p0 p1 p2))) := by
  obtain ⟨o, h⟩ : ∃ o, f_X4_placeOf p0 p1 p2 = o := ⟨_, rfl⟩
  rw [h]
  refine z_met pn_X4 hD (Nat.le_of_ble_eq_true rfl) rfl (fun G M => ?_)
  refine z_iload_n M dt_X4_placeOf_0.1.1.1.1 rfl 0 rfl ?_
  have hJ7 : G σ0 [(0, .int p0), (1, .int p1), (2, .int p2)] 35 [.int (if p0 < (0 : Int32) then (0 : Int32) else (if (6 : Int32) ≤ p0 then (0 : Int32) else (if p1 < (0 : Int32) then (0 : Int32) else (if (96 : Int32) ≤ p1 then (0 : Int32) else (if p2 < (0 : Int32) then (0 : Int32) else (if (8 : Int32) ≤ p2 then (0 : Int32) else (1 : Int32)))))))] := by
    refine z_istore_n (lv' := [(3, .int (if p0 < (0 : Int32) then (0 : Int32) else (if (6 : Int32) ≤ p0 then (0 : Int32) else (if p1 < (0 : Int32) then (0 : Int32) else (if (96 : Int32) ≤ p1 then (0 : Int32) else (if p2 < (0 : Int32) then (0 : Int32) else (if (8 : Int32) ≤ p2 then (0 : Int32) else (1 : Int32)))))))), (0, .int p0), (1, .int p1), (2, .int p2)]) M dt_X4_placeOf_1.1.1.2.1 rfl (by decide) rfl ?_
    refine z_iload_n M dt_X4_placeOf_1.1.1.2.2 rfl 0 rfl ?_
    have hJ9 : G σ0 [(3, .int (if p0 < (0 : Int32) then (0 : Int32) else (if (6 : Int32) ≤ p0 then (0 : Int32) else (if p1 < (0 : Int32) then (0 : Int32) else (if (96 : Int32) ≤ p1 then (0 : Int32) else (if p2 < (0 : Int32) then (0 : Int32) else (if (8 : Int32) ≤ p2 then (0 : Int32) else (1 : Int32)))))))), (0, .int p0), (1, .int p1), (2, .int p2)] 55 [.int (if (if p0 < (0 : Int32) then (0 : Int32) else (if (6 : Int32) ≤ p0 then (0 : Int32) else (if p1 < (0 : Int32) then (0 : Int32) else (if (96 : Int32) ≤ p1 then (0 : Int32) else (if p2 < (0 : Int32) then (0 : Int32) else (if (8 : Int32) ≤ p2 then (0 : Int32) else (1 : Int32))))))) = (0 : Int32) then (-1 : Int32) else ((((p0 * (96 : Int32)) + p1) * (8 : Int32)) + p2))] := by
      subst h
      exact z_iret M dt_X4_placeOf_2
    refine z_if_eq (tgt := 54) M dt_X4_placeOf_1.1.2.1.1 (by decide) (fun hc8 => ?_) (fun hc8 => ?_)
    · refine z_iconst M dt_X4_placeOf_1.2.2.2.2 ki_m1 ?_
      exact (zTt hc8 hJ9)
    · refine z_iload_n M dt_X4_placeOf_1.1.2.1.2 rfl 1 rfl ?_
      refine z_bipush M dt_X4_placeOf_1.1.2.2.1 kb_96 ?_
      refine z_imul M dt_X4_placeOf_1.1.2.2.2 ?_
      refine z_iload_n M dt_X4_placeOf_1.2.1.1.1 rfl 2 rfl ?_
      refine z_iadd M dt_X4_placeOf_1.2.1.1.2 ?_
      refine z_bipush M dt_X4_placeOf_1.2.1.2.1 kb_8 ?_
      refine z_imul M dt_X4_placeOf_1.2.1.2.2 ?_
      refine z_iload_n M dt_X4_placeOf_1.2.2.1.1 rfl 3 rfl ?_
      refine z_iadd M dt_X4_placeOf_1.2.2.1.2 ?_
      refine z_goto (tgt := 55) M dt_X4_placeOf_1.2.2.2.1 (by decide) ?_
      exact (zTf hc8 hJ9)
  refine z_if_lt (tgt := 34) M dt_X4_placeOf_0.1.1.1.2 (by decide) (fun hc1 => ?_) (fun hc1 => ?_)
  · refine z_iconst M dt_X4_placeOf_1.1.1.1.2 ki_0 ?_
    exact (zTt hc1 hJ7)
  · refine z_iload_n M dt_X4_placeOf_0.1.1.2.1 rfl 0 rfl ?_
    refine z_bipush M dt_X4_placeOf_0.1.1.2.2 kb_6 ?_
    refine z_icmp_ge (tgt := 34) M dt_X4_placeOf_0.1.2.1.1 (by decide) (fun hc2 => ?_) (fun hc2 => ?_)
    · refine z_iconst M dt_X4_placeOf_1.1.1.1.2 ki_0 ?_
      exact (zTt hc2 (zTf hc1 hJ7))
    · refine z_iload_n M dt_X4_placeOf_0.1.2.1.2 rfl 1 rfl ?_
      refine z_if_lt (tgt := 34) M dt_X4_placeOf_0.1.2.2.1 (by decide) (fun hc3 => ?_) (fun hc3 => ?_)
      · refine z_iconst M dt_X4_placeOf_1.1.1.1.2 ki_0 ?_
        exact (zTt hc3 (zTf hc2 (zTf hc1 hJ7)))
      · refine z_iload_n M dt_X4_placeOf_0.1.2.2.2 rfl 1 rfl ?_
        refine z_bipush M dt_X4_placeOf_0.2.1.1.1 kb_96 ?_
        refine z_icmp_ge (tgt := 34) M dt_X4_placeOf_0.2.1.1.2 (by decide) (fun hc4 => ?_) (fun hc4 => ?_)
        · refine z_iconst M dt_X4_placeOf_1.1.1.1.2 ki_0 ?_
          exact (zTt hc4 (zTf hc3 (zTf hc2 (zTf hc1 hJ7))))
        · refine z_iload_n M dt_X4_placeOf_0.2.1.2.1 rfl 2 rfl ?_
          refine z_if_lt (tgt := 34) M dt_X4_placeOf_0.2.1.2.2 (by decide) (fun hc5 => ?_) (fun hc5 => ?_)
          · refine z_iconst M dt_X4_placeOf_1.1.1.1.2 ki_0 ?_
            exact (zTt hc5 (zTf hc4 (zTf hc3 (zTf hc2 (zTf hc1 hJ7)))))
          · refine z_iload_n M dt_X4_placeOf_0.2.2.1.1 rfl 2 rfl ?_
            refine z_bipush M dt_X4_placeOf_0.2.2.1.2 kb_8 ?_
            refine z_icmp_ge (tgt := 34) M dt_X4_placeOf_0.2.2.2.1 (by decide) (fun hc6 => ?_) (fun hc6 => ?_)
            · refine z_iconst M dt_X4_placeOf_1.1.1.1.2 ki_0 ?_
              exact (zTt hc6 (zTf hc5 (zTf hc4 (zTf hc3 (zTf hc2 (zTf hc1 hJ7))))))
            · refine z_iconst M dt_X4_placeOf_0.2.2.2.2 ki_1 ?_
              refine z_goto (tgt := 35) M dt_X4_placeOf_1.1.1.1.1 (by decide) ?_
              exact (zTf hc6 (zTf hc5 (zTf hc4 (zTf hc3 (zTf hc2 (zTf hc1 hJ7))))))
theorem k_X4_placeOf {n : Nat} (M : zM l D zcl0 tys A ad (zR n) wf own cc nL rt σo ov G) {p0 : Int32} {p1 : Int32} {p2 : Int32} {index : Nat} (hl : Cond.methodLink own index yX4_placeOf ∈ uw) (hR : 2 ≤ n) (hW : (st.map fun v => v.category).sum ≤ 8) (d : decode cc pc = .ok (.invokestatic index, 3)) (kk : G σ lv (pc + 3) (.int (f_X4_placeOf p0 p1 p2) :: st)) : G σ lv pc (.int p2 :: .int p1 :: .int p0 :: st) := z_callS M [.int p0, .int p1, .int p2] (m_X4_placeOf (zM_hD M) σ p0 p1 p2) hl u90 u529 u528 hd_X4_placeOf hR (by decide) rfl hW d kk
set_option maxHeartbeats 4000000 in
set_option maxRecDepth 100000 in
theorem m_X4_of (hD : ∀ σ, va_D A (cW a cy σ)) {σ0 : Zst} {p0 : Int32} {p1 : Int32} {p2 : Int32} {o : Int32} (h : f_X4_of σ0 p0 p1 p2 = some o) : zT l D zcl (zty cy) A ad (cW a cy) yX4_of cX4_of 5 (some .int) 2 [.ref (a 5), .int p0, .int p1, .int p2] σ0 σ0 (some (.int o)) := by
  refine z_met pn_X4 hD (Nat.le_of_ble_eq_true rfl) rfl (fun G M => ?_)
  refine z_iload_n M dt_X4_of_0.1.1.1.1 rfl 1 rfl ?_
  refine z_iload_n M dt_X4_of_0.1.1.1.2 rfl 2 rfl ?_
  refine z_iload_n M dt_X4_of_0.1.1.2.1 rfl 3 rfl ?_
  refine k_X4_placeOf M u527 (Nat.le_of_ble_eq_true rfl) (Nat.le_of_ble_eq_true rfl) dt_X4_of_0.1.1.2.2 ?_
  refine z_istore (lv' := [(4, .int (f_X4_placeOf p0 p1 p2)), (0, .ref (a 5)), (1, .int p0), (2, .int p1), (3, .int p2)]) M dt_X4_of_0.1.2.1.1 (by decide) rfl ?_
  refine z_iload M dt_X4_of_0.1.2.1.2 0 rfl ?_
  refine z_if_lt (tgt := 33) M dt_X4_of_0.1.2.2.1 (by decide) (fun hc => ?_) (fun hc => ?_)
  · have h := gIt hc h
    refine z_iconst M dt_X4_of_1.1.2 ki_m1 ?_
    obtain rfl := Option.some.inj h
    exact z_iret M dt_X4_of_1.2
  · have h := gIf hc h
    refine z_iload M dt_X4_of_0.1.2.2.2 0 rfl ?_
    refine z_aload_n M dt_X4_of_0.2.1.1.1 rfl 1 rfl ?_
    refine gf_X4_now M u158 dt_X4_of_0.2.1.1.2 ?_
    refine ln_C6 M dt_X4_of_0.2.1.2.1 ?_
    refine z_icmp_ge (tgt := 33) M dt_X4_of_0.2.1.2.2 (by decide) (fun hc => ?_) (fun hc => ?_)
    · have h := gIt hc h
      refine z_iconst M dt_X4_of_1.1.2 ki_m1 ?_
      obtain rfl := Option.some.inj h
      exact z_iret M dt_X4_of_1.2
    · have h := gIf hc h
      refine z_aload_n M dt_X4_of_0.2.2.1.1 rfl 1 rfl ?_
      refine gf_X4_now M u158 dt_X4_of_0.2.2.1.2 ?_
      refine z_iload M dt_X4_of_0.2.2.2.1 0 rfl ?_
      have ⟨hg, h⟩ := gIx_s h
      refine al_C6 (σ := σ0) M (f := (σ0.2.1 1)) rfl hg dt_X4_of_0.2.2.2.2 ?_
      refine z_goto (tgt := 34) M dt_X4_of_1.1.1 (by decide) ?_
      obtain rfl := Option.some.inj h
      exact z_iret M dt_X4_of_1.2
theorem k_X4_of {n : Nat} (M : zM l D zcl (zty cy) A ad (zR n) (cW a cy) own cc nL rt σo ov G) {p0 : Int32} {p1 : Int32} {p2 : Int32} {o : Int32} (h : f_X4_of σ p0 p1 p2 = some o) {index : Nat} (hl : Cond.methodLink own index yX4_of ∈ uw) (hR : 3 ≤ n) (hW : (st.map fun v => v.category).sum ≤ 8) (d : decode cc pc = .ok (.invokevirtual index, 3)) (kk : G σ lv (pc + 3) (.int o :: st)) : G σ lv pc (.int p2 :: .int p1 :: .int p0 :: .ref (a 5) :: st) := z_callV M [.int p0, .int p1, .int p2] (m_X4_of (zM_hD M) h) (hC5 σ) rfl hl u90 u526 u524 u525 hd_X4_of hR (by decide) rfl hW d kk
set_option maxHeartbeats 4000000 in
set_option maxRecDepth 100000 in
theorem m_X4_change (hD : ∀ σ, va_D A (cW a cy σ)) {σ : Zst} {p0 : Int32} {p1 : Int32} {p2 : Int32} {p3 : Int32} {o : Zst} (h : f_X4_change σ p0 p1 p2 p3 = some o) : zT l D zcl (zty cy) A ad (cW a cy) yX4_change cX4_change 6 none 2 [.ref (a 5), .int p0, .int p1, .int p2, .int p3] σ o none := by
  refine z_met pn_X4 hD (Nat.le_of_ble_eq_true rfl) rfl (fun G M => ?_)
  refine z_iload_n M dt_X4_change_0.1.1.1.1 rfl 1 rfl ?_
  refine z_iload_n M dt_X4_change_0.1.1.1.2 rfl 2 rfl ?_
  refine z_iload_n M dt_X4_change_0.1.1.2.1 rfl 3 rfl ?_
  refine k_X4_placeOf M u527 (Nat.le_of_ble_eq_true rfl) (Nat.le_of_ble_eq_true rfl) dt_X4_change_0.1.1.2.2 ?_
  refine z_istore (lv' := [(5, .int (f_X4_placeOf p0 p1 p2)), (0, .ref (a 5)), (1, .int p0), (2, .int p1), (3, .int p2), (4, .int p3)]) M dt_X4_change_0.1.2.1.1 (by decide) rfl ?_
  refine z_iload M dt_X4_change_0.1.2.1.2 0 rfl ?_
  refine z_if_lt (tgt := 32) M dt_X4_change_0.1.2.2.1 (by decide) (fun hc => ?_) (fun hc => ?_)
  · have h := gIt hc h
    obtain rfl := Option.some.inj h
    exact z_vret M dt_X4_change_1.2
  · have h := gIf hc h
    refine z_iload M dt_X4_change_0.1.2.2.2 0 rfl ?_
    refine z_aload_n M dt_X4_change_0.2.1.1.1 rfl 1 rfl ?_
    refine gf_X4_now M u158 dt_X4_change_0.2.1.1.2 ?_
    refine ln_C6 M dt_X4_change_0.2.1.2.1 ?_
    refine z_icmp_ge (tgt := 32) M dt_X4_change_0.2.1.2.2 (by decide) (fun hc => ?_) (fun hc => ?_)
    · have h := gIt hc h
      obtain rfl := Option.some.inj h
      exact z_vret M dt_X4_change_1.2
    · have h := gIf hc h
      refine z_aload_n M dt_X4_change_0.2.2.1.1 rfl 1 rfl ?_
      refine gf_X4_now M u158 dt_X4_change_0.2.2.1.2 ?_
      refine z_iload M dt_X4_change_0.2.2.2.1 0 rfl ?_
      refine z_iload M dt_X4_change_0.2.2.2.2 5 rfl ?_
      have ⟨hg, h⟩ := gIx_s h
      refine as_C6 (σ := σ) M (f := (σ.2.1 1)) rfl hg dt_X4_change_1.1 ?_
      obtain rfl := Option.some.inj h
      exact z_vret M dt_X4_change_1.2
theorem k_X4_change {n : Nat} (M : zM l D zcl (zty cy) A ad (zR n) (cW a cy) own cc nL rt σo ov G) {p0 : Int32} {p1 : Int32} {p2 : Int32} {p3 : Int32} {o : Zst} (h : f_X4_change σ p0 p1 p2 p3 = some o) {index : Nat} (hl : Cond.methodLink own index yX4_change ∈ uw) (hR : 3 ≤ n) (hW : (st.map fun v => v.category).sum ≤ 8) (d : decode cc pc = .ok (.invokevirtual index, 3)) (kk : G o lv (pc + 3) (st)) : G σ lv pc (.int p3 :: .int p2 :: .int p1 :: .int p0 :: .ref (a 5) :: st) := z_callV M [.int p0, .int p1, .int p2, .int p3] (m_X4_change (zM_hD M) h) (hC5 σ) rfl hl u90 u533 u531 u532 hd_X4_change hR (by decide) rfl hW d kk
set_option maxHeartbeats 4000000 in
set_option maxRecDepth 100000 in
theorem m_X11_put (hD : ∀ σ, va_D A (cW a cy σ)) {σ : Zst} {p0 : Int32} {p1 : Int32} {p2 : Int32} {p3 : Int32} {o : (Zst × Int32)} (h : f_X11_put σ p0 p1 p2 p3 = some o) : zT l D zcl (zty cy) A ad (cW a cy) yX11_put cX11_put 6 (some .int) 4 [.ref (a 0), .int p0, .int p1, .int p2, .int p3] σ o.1 (some (.int o.2)) := by
  refine z_met pn_X11 hD (Nat.le_of_ble_eq_true rfl) rfl (fun G M => ?_)
  refine z_aload_n M dt_X11_put_0.1.1.1.1 rfl 0 rfl ?_
  refine gf_X11_town M u434 dt_X11_put_0.1.1.1.2 ?_
  refine z_iload_n M dt_X11_put_0.1.1.2.1 rfl 1 rfl ?_
  refine z_iload_n M dt_X11_put_0.1.1.2.2 rfl 2 rfl ?_
  refine z_iload_n M dt_X11_put_0.1.2.1.1 rfl 3 rfl ?_
  refine k_X10_hasNumber M u508 (Nat.le_of_ble_eq_true rfl) (Nat.le_of_ble_eq_true rfl) dt_X11_put_0.1.2.1.2 ?_
  refine z_if_eq (tgt := 25) M dt_X11_put_0.1.2.2.1 (by decide) (fun hc => ?_) (fun hc => ?_)
  · have h := gIt hc h
    refine z_bipush M dt_X11_put_0.2.2.1.1 kb_m2 ?_
    obtain rfl := Option.some.inj h
    exact z_iret M dt_X11_put_0.2.2.1.2
  · have h := gIf hc h
    refine z_iload M dt_X11_put_0.1.2.2.2 4 rfl ?_
    refine z_iconst M dt_X11_put_0.2.1.1.1 ki_m1 ?_
    refine z_sipush M dt_X11_put_0.2.1.1.2 ks_999 ?_
    refine k_X11_between M u503 (Nat.le_of_ble_eq_true rfl) (Nat.le_of_ble_eq_true rfl) dt_X11_put_0.2.1.2.1 ?_
    refine z_if_ne (tgt := 28) M dt_X11_put_0.2.1.2.2 (by decide) (fun hc => ?_) (fun hc => ?_)
    · have h := gIf hc h
      refine z_aload_n M dt_X11_put_0.2.2.2.1 rfl 0 rfl ?_
      refine gf_X11_numbers M u432 dt_X11_put_0.2.2.2.2 ?_
      refine z_iload_n M dt_X11_put_1.1.1.1.1 rfl 1 rfl ?_
      refine z_iload_n M dt_X11_put_1.1.1.1.2 rfl 2 rfl ?_
      refine z_iload_n M dt_X11_put_1.1.1.2.1 rfl 3 rfl ?_
      obtain ⟨t1, hc, h⟩ := gBd h
      refine k_X4_of M hc u523 (Nat.le_of_ble_eq_true rfl) (Nat.le_of_ble_eq_true rfl) dt_X11_put_1.1.1.2.2 ?_
      refine z_istore (lv' := [(5, .int t1), (0, .ref (a 0)), (1, .int p0), (2, .int p1), (3, .int p2), (4, .int p3)]) M dt_X11_put_1.1.2.1.1 (by decide) rfl ?_
      refine z_aload_n M dt_X11_put_1.1.2.1.2 rfl 1 rfl ?_
      refine gf_X11_numbers M u432 dt_X11_put_1.1.2.2 ?_
      refine z_iload_n M dt_X11_put_1.2.1.1.1 rfl 2 rfl ?_
      refine z_iload_n M dt_X11_put_1.2.1.1.2 rfl 3 rfl ?_
      refine z_iload_n M dt_X11_put_1.2.1.2.1 rfl 4 rfl ?_
      refine z_iload M dt_X11_put_1.2.1.2.2 5 rfl ?_
      obtain ⟨t2, hc, h⟩ := gBd h
      refine k_X4_change M hc u530 (Nat.le_of_ble_eq_true rfl) (Nat.le_of_ble_eq_true rfl) dt_X11_put_1.2.2.1.1 ?_
      refine z_iload M dt_X11_put_1.2.2.1.2 0 rfl ?_
      obtain rfl := Option.some.inj h
      exact z_iret M dt_X11_put_1.2.2.2
    · have h := gIt hc h
      refine z_bipush M dt_X11_put_0.2.2.1.1 kb_m2 ?_
      obtain rfl := Option.some.inj h
      exact z_iret M dt_X11_put_0.2.2.1.2
set_option maxHeartbeats 4000000 in
set_option maxRecDepth 100000 in
theorem m_X11_get (hD : ∀ σ, va_D A (cW a cy σ)) {σ0 : Zst} {p0 : Int32} {p1 : Int32} {p2 : Int32} {o : Int32} (h : f_X11_get σ0 p0 p1 p2 = some o) : zT l D zcl (zty cy) A ad (cW a cy) yX11_get cX11_get 4 (some .int) 4 [.ref (a 0), .int p0, .int p1, .int p2] σ0 σ0 (some (.int o)) := by
  refine z_met pn_X11 hD (Nat.le_of_ble_eq_true rfl) rfl (fun G M => ?_)
  refine z_aload_n M dt_X11_get_0.1.1.1.1 rfl 0 rfl ?_
  refine gf_X11_town M u434 dt_X11_get_0.1.1.1.2 ?_
  refine z_iload_n M dt_X11_get_0.1.1.2.1 rfl 1 rfl ?_
  refine z_iload_n M dt_X11_get_0.1.1.2.2 rfl 2 rfl ?_
  refine z_iload_n M dt_X11_get_0.1.2.1.1 rfl 3 rfl ?_
  refine k_X10_hasNumber M u508 (Nat.le_of_ble_eq_true rfl) (Nat.le_of_ble_eq_true rfl) dt_X11_get_0.1.2.1.2 ?_
  refine z_if_eq (tgt := 26) M dt_X11_get_0.1.2.2.1 (by decide) (fun hc => ?_) (fun hc => ?_)
  · have h := gIt hc h
    refine z_bipush M dt_X11_get_0.2.2.2.1 kb_m2 ?_
    obtain rfl := Option.some.inj h
    exact z_iret M dt_X11_get_0.2.2.2.2
  · have h := gIf hc h
    refine z_aload_n M dt_X11_get_0.1.2.2.2 rfl 0 rfl ?_
    refine gf_X11_numbers M u432 dt_X11_get_0.2.1.1.1 ?_
    refine z_iload_n M dt_X11_get_0.2.1.1.2 rfl 1 rfl ?_
    refine z_iload_n M dt_X11_get_0.2.1.2.1 rfl 2 rfl ?_
    refine z_iload_n M dt_X11_get_0.2.1.2.2 rfl 3 rfl ?_
    obtain ⟨t1, hc, h⟩ := gBd h
    refine k_X4_of M hc u523 (Nat.le_of_ble_eq_true rfl) (Nat.le_of_ble_eq_true rfl) dt_X11_get_0.2.2.1.1 ?_
    refine z_goto (tgt := 28) M dt_X11_get_0.2.2.1.2 (by decide) ?_
    obtain rfl := Option.some.inj h
    exact z_iret M dt_X11_get_0.2.2.2.2
set_option maxHeartbeats 4000000 in
set_option maxRecDepth 100000 in
theorem m_X10_entryOf (hD : ∀ σ, va_D A (wf σ)) (σ0 : Zst) (p0 : Int32) (p1 : Int32) : zT l D zcl0 tys A ad wf yX10_entryOf cX10_entryOf 2 (some .int) 1 [.int p0, .int p1] σ0 σ0 (some (.int (f_X10_entryOf p0 p1))) := by
  obtain ⟨o, h⟩ : ∃ o, f_X10_entryOf p0 p1 = o := ⟨_, rfl⟩
  rw [h]
  refine z_met pn_X10 hD (Nat.le_of_ble_eq_true rfl) rfl (fun G M => ?_)
  refine z_iload_n M dt_X10_entryOf_0.1.1.1.1 rfl 0 rfl ?_
  have hJ3 : G σ0 [(0, .int p0), (1, .int p1)] 20 [.int (if p0 = (0 : Int32) then (Int8.toInt32 (Int32.toInt8 p1)) else (if p0 = (1 : Int32) then (Int16.toInt32 (Int32.toInt16 p1)) else p1))] := by
    subst h
    exact z_iret M dt_X10_entryOf_0.2.2.2
  refine z_if_ne (tgt := 9) M dt_X10_entryOf_0.1.1.1.2 (by decide) (fun hc1 => ?_) (fun hc1 => ?_)
  · refine z_iload_n M dt_X10_entryOf_0.1.2.1.2 rfl 0 rfl ?_
    refine z_iconst M dt_X10_entryOf_0.1.2.2 ki_1 ?_
    refine z_icmp_ne (tgt := 19) M dt_X10_entryOf_0.2.1.1.1 (by decide) (fun hc2 => ?_) (fun hc2 => ?_)
    · refine z_iload_n M dt_X10_entryOf_0.2.2.1.2 rfl 1 rfl ?_
      exact (zTf hc2 (zTf hc1 hJ3))
    · refine z_iload_n M dt_X10_entryOf_0.2.1.1.2 rfl 1 rfl ?_
      refine z_i2s M dt_X10_entryOf_0.2.1.2 ?_
      refine z_goto (tgt := 20) M dt_X10_entryOf_0.2.2.1.1 (by decide) ?_
      exact (zTt hc2 (zTf hc1 hJ3))
  · refine z_iload_n M dt_X10_entryOf_0.1.1.2.1 rfl 1 rfl ?_
    refine z_i2b M dt_X10_entryOf_0.1.1.2.2 ?_
    refine z_goto (tgt := 20) M dt_X10_entryOf_0.1.2.1.1 (by decide) ?_
    exact (zTt hc1 hJ3)
theorem k_X10_entryOf {n : Nat} (M : zM l D zcl0 tys A ad (zR n) wf own cc nL rt σo ov G) {p0 : Int32} {p1 : Int32} {index : Nat} (hl : Cond.methodLink own index yX10_entryOf ∈ uw) (hR : 2 ≤ n) (hW : (st.map fun v => v.category).sum ≤ 8) (d : decode cc pc = .ok (.invokestatic index, 3)) (kk : G σ lv (pc + 3) (.int (f_X10_entryOf p0 p1) :: st)) : G σ lv pc (.int p1 :: .int p0 :: st) := z_callS M [.int p0, .int p1] (m_X10_entryOf (zM_hD M) σ p0 p1) hl u93 u548 u547 hd_X10_entryOf hR (by decide) rfl hW d kk
set_option maxHeartbeats 4000000 in
set_option maxRecDepth 100000 in
theorem m_X11_within (hD : ∀ σ, va_D A (wf σ)) (σ0 : Zst) (p0 : Int32) (p1 : Int32) (p2 : Int32) : zT l D zcl0 tys A ad wf yX11_within cX11_within 3 (some .int) 1 [.int p0, .int p1, .int p2] σ0 σ0 (some (.int (f_X11_within p0 p1 p2))) := by
  obtain ⟨o, h⟩ : ∃ o, f_X11_within p0 p1 p2 = o := ⟨_, rfl⟩
  rw [h]
  refine z_met pn_X11 hD (Nat.le_of_ble_eq_true rfl) rfl (fun G M => ?_)
  refine z_iload_n M dt_X11_within_0.1.1.1.1 rfl 0 rfl ?_
  refine z_iload_n M dt_X11_within_0.1.1.1.2 rfl 1 rfl ?_
  have hJ3 : G σ0 [(0, .int p0), (1, .int p1), (2, .int p2)] 19 [.int (if p1 ≤ p0 then (if p0 ≤ p2 then p0 else p2) else p1)] := by
    subst h
    exact z_iret M dt_X11_within_0.2.2.2
  refine z_icmp_ge (tgt := 9) M dt_X11_within_0.1.1.2 (by decide) (fun hc1 => ?_) (fun hc1 => ?_)
  · refine z_iload_n M dt_X11_within_0.1.2.2 rfl 0 rfl ?_
    refine z_iload_n M dt_X11_within_0.2.1.1.1 rfl 2 rfl ?_
    refine z_icmp_le (tgt := 18) M dt_X11_within_0.2.1.1.2 (by decide) (fun hc2 => ?_) (fun hc2 => ?_)
    · refine z_iload_n M dt_X11_within_0.2.2.1.2 rfl 0 rfl ?_
      exact (zTt hc2 (zTt hc1 hJ3))
    · refine z_iload_n M dt_X11_within_0.2.1.2 rfl 2 rfl ?_
      refine z_goto (tgt := 19) M dt_X11_within_0.2.2.1.1 (by decide) ?_
      exact (zTf hc2 (zTt hc1 hJ3))
  · refine z_iload_n M dt_X11_within_0.1.2.1.1 rfl 1 rfl ?_
    refine z_goto (tgt := 19) M dt_X11_within_0.1.2.1.2 (by decide) ?_
    exact (zTf hc1 hJ3)
theorem kn_X11_within {n : Nat} (M : zM l D zcl0 tys A ad (zR n) wf own cc nL rt σo ov G) {p0 : Int32} {p1 : Int32} {p2 : Int32} {index : Nat} {host : String} (hl : Cond.methodLinkNest own index yX11_within host ∈ zNw) (hR : 2 ≤ n) (hW : (st.map fun v => v.category).sum ≤ 8) (d : decode cc pc = .ok (.invokestatic index, 3)) (kk : G σ lv (pc + 3) (.int (f_X11_within p0 p1 p2) :: st)) : G σ lv pc (.int p2 :: .int p1 :: .int p0 :: st) := z_callSN M [.int p0, .int p1, .int p2] (m_X11_within (zM_hD M) σ p0 p1 p2) hl u87 u551 u550 hd_X11_within hR (by decide) rfl hW d kk
set_option maxHeartbeats 4000000 in
set_option maxRecDepth 100000 in
theorem wL_X10_readSheet_63 {o : (Zst × Int32)} (M : zM l D zcl (zty cy) A ad (zR 3) (cW a cy) RX10 cX10_readSheet 9 (some .int) o.1 (some (.int o.2)) G)  (v1 : Int32) (v2 : Int32) (v4 : Int32) (v5 : Int32) (v6 : Int32)  :
    ∀ (n63 : Nat) (σ : Zst) (v7 : Int32), L_X10_readSheet_63 v1 v2 v4 v5 v6 n63 σ v7 = some o → G σ [(0, .ref (a 17)), (1, .int v1), (2, .int v2), (4, .int v4), (5, .int v5), (6, .int v6), (7, .int v7)] 63 [] := by
  intro n63
  induction n63 with
  | zero => intro σ v7 h; exact nomatch (show (none : Option (Zst × Int32)) = some _ from h)
  | succ n63 ih =>
    intro σ v7 h
    refine z_iload M dt_X10_readSheet_2.1.1.2.2 6 rfl ?_
    refine z_iload M dt_X10_readSheet_2.1.2.1.1 5 rfl ?_
    refine z_icmp_ge (tgt := 119) M dt_X10_readSheet_2.1.2.1.2 (by decide) (fun hc => ?_) (fun hc => ?_)
    · have h := gIt hc h
      refine z_iload M dt_X10_readSheet_3.2.2.2.2 5 rfl ?_
      obtain rfl := Option.some.inj h
      exact z_iret M dt_X10_readSheet_4
    · have h := gIf hc h
      refine z_iload_n M dt_X10_readSheet_2.1.2.2.1 rfl 2 rfl ?_
      refine z_iconst M dt_X10_readSheet_2.1.2.2.2 ki_3 ?_
      have hJ2 : G σ [(0, .ref (a 17)), (1, .int v1), (2, .int v2), (4, .int v4), (5, .int v5), (6, .int v6), (7, .int v7)] 91 [.int (if v2 = (3 : Int32) then (-1 : Int32) else (f_X10_entryOf v2 (v4 + (v7 * v5))))] := by
        refine z_istore (lv' := [(8, .int (if v2 = (3 : Int32) then (-1 : Int32) else (f_X10_entryOf v2 (v4 + (v7 * v5))))), (0, .ref (a 17)), (1, .int v1), (2, .int v2), (4, .int v4), (5, .int v5), (6, .int v6), (7, .int v7)]) M dt_X10_readSheet_3.1.1.2.1 (by decide) rfl ?_
        refine z_aload_n M dt_X10_readSheet_3.1.1.2.2 rfl 1 rfl ?_
        refine gf_X10_numbers M u224 dt_X10_readSheet_3.1.2.1.1 ?_
        refine z_iconst M dt_X10_readSheet_3.1.2.1.2 ki_0 ?_
        refine z_iload M dt_X10_readSheet_3.1.2.2.1 7 rfl ?_
        refine z_iload_n M dt_X10_readSheet_3.1.2.2.2 rfl 2 rfl ?_
        refine z_iload M dt_X10_readSheet_3.2.1.1.1 0 rfl ?_
        refine z_iconst M dt_X10_readSheet_3.2.1.1.2 ki_m1 ?_
        refine z_sipush M dt_X10_readSheet_3.2.1.2.1 ks_999 ?_
        refine kn_X11_within M u549 (Nat.le_of_ble_eq_true rfl) (Nat.le_of_ble_eq_true rfl) dt_X10_readSheet_3.2.1.2.2 ?_
        obtain ⟨t3, hc, h⟩ := gBd h
        refine k_X4_change M hc u552 (Nat.le_of_ble_eq_true rfl) (Nat.le_of_ble_eq_true rfl) dt_X10_readSheet_3.2.2.1.1 ?_
        refine z_iinc (v := (v7 + (1 : Int32))) (lv' := [(7, .int (v7 + (1 : Int32))), (8, .int (if v2 = (3 : Int32) then (-1 : Int32) else (f_X10_entryOf v2 (v4 + (v7 * v5))))), (0, .ref (a 17)), (1, .int v1), (2, .int v2), (4, .int v4), (5, .int v5), (6, .int v6)]) M dt_X10_readSheet_3.2.2.1.2 (k := 7) rfl (congrArg (fun q => v7 + q) ki_1) (by decide) rfl ?_
        refine z_goto (tgt := 63) M dt_X10_readSheet_3.2.2.2.1 (by decide) ?_
        refine z_sub M [2, 3, 4, 5, 6, 7, 0] (lv' := [(0, .ref (a 17)), (1, .int v1), (2, .int v2), (4, .int v4), (5, .int v5), (6, .int v6), (7, .int (v7 + (1 : Int32)))]) rfl ?_
        exact ih t3 (v7 + (1 : Int32)) h
      refine z_icmp_ne (tgt := 79) M dt_X10_readSheet_2.2.1.1.1 (by decide) (fun hc1 => ?_) (fun hc1 => ?_)
      · refine z_iload_n M dt_X10_readSheet_2.2.1.2.2 rfl 2 rfl ?_
        refine z_iload M dt_X10_readSheet_2.2.2.1.1 3 rfl ?_
        refine z_iload M dt_X10_readSheet_2.2.2.1.2 6 rfl ?_
        refine z_iload M dt_X10_readSheet_2.2.2.2.1 4 rfl ?_
        refine z_imul M dt_X10_readSheet_2.2.2.2.2 ?_
        refine z_iadd M dt_X10_readSheet_3.1.1.1.1 ?_
        refine k_X10_entryOf M u546 (Nat.le_of_ble_eq_true rfl) (Nat.le_of_ble_eq_true rfl) dt_X10_readSheet_3.1.1.1.2 ?_
        exact (zTf hc1 hJ2)
      · refine z_iconst M dt_X10_readSheet_2.2.1.1.2 ki_m1 ?_
        refine z_goto (tgt := 91) M dt_X10_readSheet_2.2.1.2.1 (by decide) ?_
        exact (zTt hc1 hJ2)
set_option maxHeartbeats 4000000 in
set_option maxRecDepth 100000 in
theorem wJ_X10_readSheet_37 {o : (Zst × Int32)} (M : zM l D zcl (zty cy) A ad (zR 3) (cW a cy) RX10 cX10_readSheet 9 (some .int) o.1 (some (.int o.2)) G) (σ : Zst) (v1 : Int32) (v2 : Int32) (v3 : Int32) (v4 : Int32) (v5 : Int32)  (h : J_X10_readSheet_37 σ v1 v2 v3 v4 v5 = some o) : G σ [(0, .ref (a 17)), (1, .int v1), (2, .int v2), (3, .int v3), (4, .int v4), (5, .int v5)] 37 [] := by
  refine z_iload_n M dt_X10_readSheet_1.1.2.1.2 rfl 2 rfl ?_
  refine z_iconst M dt_X10_readSheet_1.1.2.2.1 ki_3 ?_
  have hJ6 : G σ [(0, .ref (a 17)), (1, .int v1), (2, .int v2), (3, .int v3), (4, .int v4), (5, .int v5)] 58 [.int (if v2 = (3 : Int32) then (f_X10_cellCount σ) else (if v3 ≤ (f_X10_cellCount σ) then v3 else (f_X10_cellCount σ)))] := by
    refine z_istore (lv' := [(6, .int (if v2 = (3 : Int32) then (f_X10_cellCount σ) else (if v3 ≤ (f_X10_cellCount σ) then v3 else (f_X10_cellCount σ)))), (0, .ref (a 17)), (1, .int v1), (2, .int v2), (3, .int v3), (4, .int v4), (5, .int v5)]) M dt_X10_readSheet_2.1.1.1.1 (by decide) rfl ?_
    refine z_iconst M dt_X10_readSheet_2.1.1.1.2 ki_0 ?_
    refine z_istore (lv' := [(7, .int (0 : Int32)), (6, .int (if v2 = (3 : Int32) then (f_X10_cellCount σ) else (if v3 ≤ (f_X10_cellCount σ) then v3 else (f_X10_cellCount σ)))), (0, .ref (a 17)), (1, .int v1), (2, .int v2), (3, .int v3), (4, .int v4), (5, .int v5)]) M dt_X10_readSheet_2.1.1.2.1 (by decide) rfl ?_
    refine z_sub M [2, 3, 4, 6, 7, 1, 0] (lv' := [(0, .ref (a 17)), (1, .int v1), (2, .int v2), (4, .int v4), (5, .int v5), (6, .int (if v2 = (3 : Int32) then (f_X10_cellCount σ) else (if v3 ≤ (f_X10_cellCount σ) then v3 else (f_X10_cellCount σ)))), (7, .int (0 : Int32))]) rfl ?_
    exact wL_X10_readSheet_63 M  v1 v2 v4 v5 (if v2 = (3 : Int32) then (f_X10_cellCount σ) else (if v3 ≤ (f_X10_cellCount σ) then v3 else (f_X10_cellCount σ))) zFu σ (0 : Int32) h
  refine z_icmp_eq (tgt := 50) M dt_X10_readSheet_1.1.2.2.2 (by decide) (fun hc4 => ?_) (fun hc4 => ?_)
  · refine z_aload_n M dt_X10_readSheet_1.2.2.1.1 rfl 0 rfl ?_
    refine k_X10_cellCount M u519 (Nat.le_of_ble_eq_true rfl) (Nat.le_of_ble_eq_true rfl) dt_X10_readSheet_1.2.2.1.2 ?_
    refine z_goto (tgt := 58) M dt_X10_readSheet_1.2.2.2.1 (by decide) ?_
    exact (zTt hc4 hJ6)
  · refine z_iload_n M dt_X10_readSheet_1.2.1.1.1 rfl 3 rfl ?_
    refine z_aload_n M dt_X10_readSheet_1.2.1.1.2 rfl 0 rfl ?_
    refine k_X10_cellCount M u519 (Nat.le_of_ble_eq_true rfl) (Nat.le_of_ble_eq_true rfl) dt_X10_readSheet_1.2.1.2.1 ?_
    refine z_icmp_le (tgt := 57) M dt_X10_readSheet_1.2.1.2.2 (by decide) (fun hc5 => ?_) (fun hc5 => ?_)
    · refine z_iload_n M dt_X10_readSheet_1.2.2.2.2 rfl 3 rfl ?_
      exact (zTt hc5 (zTf hc4 hJ6))
    · refine z_aload_n M dt_X10_readSheet_1.2.2.1.1 rfl 0 rfl ?_
      refine k_X10_cellCount M u519 (Nat.le_of_ble_eq_true rfl) (Nat.le_of_ble_eq_true rfl) dt_X10_readSheet_1.2.2.1.2 ?_
      refine z_goto (tgt := 58) M dt_X10_readSheet_1.2.2.2.1 (by decide) ?_
      exact (zTf hc5 (zTf hc4 hJ6))
set_option maxHeartbeats 4000000 in
set_option maxRecDepth 100000 in
theorem m_X10_readSheet (hD : ∀ σ, va_D A (cW a cy σ)) {σ : Zst} {p0 : Int32} {p1 : Int32} {p2 : Int32} {p3 : Int32} {p4 : Int32} {o : (Zst × Int32)} (h : f_X10_readSheet σ p0 p1 p2 p3 p4 = some o) : zT l D zcl (zty cy) A ad (cW a cy) yX10_readSheet cX10_readSheet 9 (some .int) 3 [.ref (a 17), .int p0, .int p1, .int p2, .int p3, .int p4] σ o.1 (some (.int o.2)) := by
  refine z_met pn_X10 hD (Nat.le_of_ble_eq_true rfl) rfl (fun G M => ?_)
  refine z_aload_n M dt_X10_readSheet_0.1.1.1.1 rfl 0 rfl ?_
  refine z_iload_n M dt_X10_readSheet_0.1.1.1.2 rfl 1 rfl ?_
  refine k_X10_hasSort M u480 (Nat.le_of_ble_eq_true rfl) (Nat.le_of_ble_eq_true rfl) dt_X10_readSheet_0.1.1.2.1 ?_
  refine z_if_eq (tgt := 23) M dt_X10_readSheet_0.1.1.2.2 (by decide) (fun hc => ?_) (fun hc => ?_)
  · have h := gIt hc h
    refine z_iconst M dt_X10_readSheet_0.2.2.1.1 ki_m1 ?_
    obtain rfl := Option.some.inj h
    exact z_iret M dt_X10_readSheet_0.2.2.1.2
  · have h := gIf hc h
    refine z_iload_n M dt_X10_readSheet_0.1.2.1.1 rfl 2 rfl ?_
    refine z_iconst M dt_X10_readSheet_0.1.2.1.2 ki_0 ?_
    refine z_iconst M dt_X10_readSheet_0.1.2.2.1 ki_3 ?_
    refine kn_X11_between M u469 (Nat.le_of_ble_eq_true rfl) (Nat.le_of_ble_eq_true rfl) dt_X10_readSheet_0.1.2.2.2 ?_
    refine z_if_eq (tgt := 23) M dt_X10_readSheet_0.2.1.1.1 (by decide) (fun hc => ?_) (fun hc => ?_)
    · have h := gIt hc h
      refine z_iconst M dt_X10_readSheet_0.2.2.1.1 ki_m1 ?_
      obtain rfl := Option.some.inj h
      exact z_iret M dt_X10_readSheet_0.2.2.1.2
    · have h := gIf hc h
      refine z_iload_n M dt_X10_readSheet_0.2.1.1.2 rfl 3 rfl ?_
      refine z_bipush M dt_X10_readSheet_0.2.1.2.1 kb_96 ?_
      refine z_icmp_le (tgt := 25) M dt_X10_readSheet_0.2.1.2.2 (by decide) (fun hc => ?_) (fun hc => ?_)
      · have h := gIt hc h
        refine z_iload_n M dt_X10_readSheet_0.2.2.2.1 rfl 2 rfl ?_
        refine z_iconst M dt_X10_readSheet_0.2.2.2.2 ki_3 ?_
        refine z_icmp_eq (tgt := 37) M dt_X10_readSheet_1.1.1.1.1 (by decide) (fun hc => ?_) (fun hc => ?_)
        · have h := gIt hc h
          exact wJ_X10_readSheet_37 M  σ p0 p1 p2 p3 p4 h
        · have h := gIf hc h
          refine z_iload_n M dt_X10_readSheet_1.1.1.1.2 rfl 3 rfl ?_
          refine z_if_ge (tgt := 37) M dt_X10_readSheet_1.1.1.2.1 (by decide) (fun hc => ?_) (fun hc => ?_)
          · have h := gIt hc h
            exact wJ_X10_readSheet_37 M  σ p0 p1 p2 p3 p4 h
          · have h := gIf hc h
            refine z_bipush M dt_X10_readSheet_1.1.1.2.2 kb_m2 ?_
            obtain rfl := Option.some.inj h
            exact z_iret M dt_X10_readSheet_1.1.2.1.1
      · have h := gIf hc h
        refine z_iconst M dt_X10_readSheet_0.2.2.1.1 ki_m1 ?_
        obtain rfl := Option.some.inj h
        exact z_iret M dt_X10_readSheet_0.2.2.1.2
theorem k_X10_readSheet {n : Nat} (M : zM l D zcl (zty cy) A ad (zR n) (cW a cy) own cc nL rt σo ov G) {p0 : Int32} {p1 : Int32} {p2 : Int32} {p3 : Int32} {p4 : Int32} {o : (Zst × Int32)} (h : f_X10_readSheet σ p0 p1 p2 p3 p4 = some o) {index : Nat} (hl : Cond.methodLink own index yX10_readSheet ∈ uw) (hR : 4 ≤ n) (hW : (st.map fun v => v.category).sum ≤ 8) (d : decode cc pc = .ok (.invokevirtual index, 3)) (kk : G o.1 lv (pc + 3) (.int o.2 :: st)) : G σ lv pc (.int p4 :: .int p3 :: .int p2 :: .int p1 :: .int p0 :: .ref (a 17) :: st) := z_callV M [.int p0, .int p1, .int p2, .int p3, .int p4] (m_X10_readSheet (zM_hD M) h) (hC17 σ) rfl hl u93 u545 u543 u544 hd_X10_readSheet hR (by decide) rfl hW d kk
set_option maxHeartbeats 4000000 in
set_option maxRecDepth 100000 in
theorem m_X11_sheet (hD : ∀ σ, va_D A (cW a cy σ)) {σ : Zst} {p0 : Int32} {p1 : Int32} {p2 : Int32} {p3 : Int32} {p4 : Int32} {o : (Zst × Int32)} (h : f_X11_sheet σ p0 p1 p2 p3 p4 = some o) : zT l D zcl (zty cy) A ad (cW a cy) yX11_sheet cX11_sheet 6 (some .int) 4 [.ref (a 0), .int p0, .int p1, .int p2, .int p3, .int p4] σ o.1 (some (.int o.2)) := by
  refine z_met pn_X11 hD (Nat.le_of_ble_eq_true rfl) rfl (fun G M => ?_)
  refine z_aload_n M dt_X11_sheet_0.1.1.1.1 rfl 0 rfl ?_
  refine gf_X11_town M u434 dt_X11_sheet_0.1.1.1.2 ?_
  refine z_iload_n M dt_X11_sheet_0.1.1.2 rfl 1 rfl ?_
  refine z_iload_n M dt_X11_sheet_0.1.2.1 rfl 2 rfl ?_
  refine z_iload_n M dt_X11_sheet_0.1.2.2 rfl 3 rfl ?_
  refine z_iload M dt_X11_sheet_0.2.1.1 4 rfl ?_
  refine z_iload M dt_X11_sheet_0.2.1.2 5 rfl ?_
  obtain ⟨t1, hc, h⟩ := gBd h
  refine k_X10_readSheet M hc u542 (Nat.le_of_ble_eq_true rfl) (Nat.le_of_ble_eq_true rfl) dt_X11_sheet_0.2.2.1 ?_
  obtain rfl := Option.some.inj h
  exact z_iret M dt_X11_sheet_0.2.2.2
set_option maxHeartbeats 4000000 in
set_option maxRecDepth 100000 in
theorem wL_X9_append_14 {o : (Zst × Int32)} (M : zM l D zcl (zty cy) A ad (zR 1) (cW a cy) RX9 cX9_append 3 (some .int) o.1 (some (.int o.2)) G)  (v1 : Int32)  :
    ∀ (n14 : Nat) (σ : Zst) (v2 : Int32), L_X9_append_14 v1 n14 σ v2 = some o → G σ [(0, .ref (a 3)), (1, .int v1), (2, .int v2)] 14 [] := by
  intro n14
  induction n14 with
  | zero => intro σ v2 h; exact nomatch (show (none : Option (Zst × Int32)) = some _ from h)
  | succ n14 ih =>
    intro σ v2 h
    refine z_iload_n M dt_X9_append_0.2.1.1.1 rfl 2 rfl ?_
    refine z_if_lt (tgt := 50) M dt_X9_append_0.2.1.1.2 (by decide) (fun hc => ?_) (fun hc => ?_)
    · have h := gIt hc h
      refine z_aload_n M dt_X9_append_1.2.2.1.1 rfl 0 rfl ?_
      refine gf_X9_size (σ := σ) M u143 dt_X9_append_1.2.2.1.2 (v := (σ.1 1)) rfl ?_
      obtain rfl := Option.some.inj h
      exact z_iret M dt_X9_append_1.2.2.2
    · have h := gIf hc h
      refine z_aload_n M dt_X9_append_0.2.1.2.1 rfl 0 rfl ?_
      refine gf_X9_signs M u142 dt_X9_append_0.2.1.2.2 ?_
      refine z_aload_n M dt_X9_append_0.2.2.1.1 rfl 0 rfl ?_
      refine gf_X9_size (σ := σ) M u143 dt_X9_append_0.2.2.1.2 (v := (σ.1 1)) rfl ?_
      refine z_iload_n M dt_X9_append_0.2.2.2.1 rfl 1 rfl ?_
      refine z_iload_n M dt_X9_append_0.2.2.2.2 rfl 2 rfl ?_
      refine z_iushr M dt_X9_append_1.1.1.1.1 ?_
      refine z_sipush M dt_X9_append_1.1.1.1.2 ks_255 ?_
      refine z_iand M dt_X9_append_1.1.1.2.1 ?_
      have ⟨hg, h⟩ := gIx_s h
      refine as_C4 (σ := σ) M (f := (σ.2.1 0)) rfl hg dt_X9_append_1.1.1.2.2 ?_
      refine z_aload_n M dt_X9_append_1.1.2.1.1 rfl 0 rfl ?_
      refine z_dup M dt_X9_append_1.1.2.1.2 rfl ?_
      refine gf_X9_size (σ := (zA σ 0 (upd (σ.2.1 0) (Int32.toNatClampNeg (σ.1 1)) ((jUshr v1 v2) &&& (255 : Int32))))) M u143 dt_X9_append_1.1.2.2.1 (v := (σ.1 1)) rfl ?_
      refine z_iconst M dt_X9_append_1.1.2.2.2 ki_1 ?_
      refine z_iadd M dt_X9_append_1.2.1.1.1 ?_
      refine pf_X9_size M u143 dt_X9_append_1.2.1.1.2 ?_
      refine z_iinc (v := (v2 + (-8 : Int32))) (lv' := [(2, .int (v2 + (-8 : Int32))), (0, .ref (a 3)), (1, .int v1)]) M dt_X9_append_1.2.1.2.1 (k := 2) rfl (congrArg (fun q => v2 + q) ki_m8) (by decide) rfl ?_
      refine z_goto (tgt := 14) M dt_X9_append_1.2.1.2.2 (by decide) ?_
      refine z_sub M [1, 2, 0] (lv' := [(0, .ref (a 3)), (1, .int v1), (2, .int (v2 + (-8 : Int32)))]) rfl ?_
      exact ih (zI (zA σ 0 (upd (σ.2.1 0) (Int32.toNatClampNeg (σ.1 1)) ((jUshr v1 v2) &&& (255 : Int32)))) 1 ((σ.1 1) + (1 : Int32))) (v2 + (-8 : Int32)) h
set_option maxHeartbeats 4000000 in
set_option maxRecDepth 100000 in
theorem m_X9_append (hD : ∀ σ, va_D A (cW a cy σ)) {σ : Zst} {p0 : Int32} {o : (Zst × Int32)} (h : f_X9_append σ p0 = some o) : zT l D zcl (zty cy) A ad (cW a cy) yX9_append cX9_append 3 (some .int) 1 [.ref (a 3), .int p0] σ o.1 (some (.int o.2)) := by
  refine z_met pn_X9 hD (Nat.le_of_ble_eq_true rfl) rfl (fun G M => ?_)
  refine z_aload_n M dt_X9_append_0.1.1.1.1 rfl 0 rfl ?_
  refine gf_X9_size (σ := σ) M u143 dt_X9_append_0.1.1.1.2 (v := (σ.1 1)) rfl ?_
  refine z_bipush M dt_X9_append_0.1.1.2.1 kb_56 ?_
  refine z_icmp_le (tgt := 11) M dt_X9_append_0.1.1.2.2 (by decide) (fun hc => ?_) (fun hc => ?_)
  · have h := gIt hc h
    refine z_bipush M dt_X9_append_0.1.2.2.1 kb_24 ?_
    refine z_istore_n (lv' := [(2, .int (24 : Int32)), (0, .ref (a 3)), (1, .int p0)]) M dt_X9_append_0.1.2.2.2 rfl (by decide) rfl ?_
    refine z_sub M [1, 2, 0] (lv' := [(0, .ref (a 3)), (1, .int p0), (2, .int (24 : Int32))]) rfl ?_
    exact wL_X9_append_14 M  p0 zFu σ (24 : Int32) h
  · have h := gIf hc h
    refine z_iconst M dt_X9_append_0.1.2.1.1 ki_m1 ?_
    obtain rfl := Option.some.inj h
    exact z_iret M dt_X9_append_0.1.2.1.2
theorem k_X9_append {n : Nat} (M : zM l D zcl (zty cy) A ad (zR n) (cW a cy) own cc nL rt σo ov G) {p0 : Int32} {o : (Zst × Int32)} (h : f_X9_append σ p0 = some o) {index : Nat} (hl : Cond.methodLink own index yX9_append ∈ uw) (hR : 2 ≤ n) (hW : (st.map fun v => v.category).sum ≤ 8) (d : decode cc pc = .ok (.invokevirtual index, 3)) (kk : G o.1 lv (pc + 3) (.int o.2 :: st)) : G σ lv pc (.int p0 :: .ref (a 3) :: st) := z_callV M [.int p0] (m_X9_append (zM_hD M) h) (hC3 σ) rfl hl u89 u560 u558 u559 hd_X9_append hR (by decide) rfl hW d kk
set_option maxHeartbeats 4000000 in
set_option maxRecDepth 100000 in
theorem m_X11_sign (hD : ∀ σ, va_D A (cW a cy σ)) {σ : Zst} {p0 : Int32} {o : (Zst × Int32)} (h : f_X11_sign σ p0 = some o) : zT l D zcl (zty cy) A ad (cW a cy) yX11_sign cX11_sign 2 (some .int) 2 [.ref (a 0), .int p0] σ o.1 (some (.int o.2)) := by
  refine z_met pn_X11 hD (Nat.le_of_ble_eq_true rfl) rfl (fun G M => ?_)
  refine z_aload_n M dt_X11_sign_0.1.1.1 rfl 0 rfl ?_
  refine gf_X11_theText M u431 dt_X11_sign_0.1.1.2 ?_
  refine z_iload_n M dt_X11_sign_0.1.2 rfl 1 rfl ?_
  obtain ⟨t1, hc, h⟩ := gBd h
  refine k_X9_append M hc u557 (Nat.le_of_ble_eq_true rfl) (Nat.le_of_ble_eq_true rfl) dt_X11_sign_0.2.1 ?_
  obtain rfl := Option.some.inj h
  exact z_iret M dt_X11_sign_0.2.2
set_option maxHeartbeats 4000000 in
set_option maxRecDepth 100000 in
theorem m_X9_cut (hD : ∀ σ, va_D A (cW a cy σ)) {σ : Zst} {p0 : Int32} {o : (Zst × Int32)} (h : f_X9_cut σ p0 = some o) : zT l D zcl (zty cy) A ad (cW a cy) yX9_cut cX9_cut 2 (some .boolean) 1 [.ref (a 3), .int p0] σ o.1 (some (.int o.2)) := by
  refine z_met pn_X9 hD (Nat.le_of_ble_eq_true rfl) rfl (fun G M => ?_)
  refine z_iload_n M dt_X9_cut_0.1.1.1.1 rfl 1 rfl ?_
  refine z_if_lt (tgt := 12) M dt_X9_cut_0.1.1.1.2 (by decide) (fun hc => ?_) (fun hc => ?_)
  · have h := gIt hc h
    refine z_iconst M dt_X9_cut_0.1.2.2 ki_0 ?_
    obtain rfl := Option.some.inj h
    exact z_zret M (nBo (Or.inl rfl)) dt_X9_cut_0.2.1.1.1
  · have h := gIf hc h
    refine z_iload_n M dt_X9_cut_0.1.1.2.1 rfl 1 rfl ?_
    refine z_aload_n M dt_X9_cut_0.1.1.2.2 rfl 0 rfl ?_
    refine gf_X9_size (σ := σ) M u143 dt_X9_cut_0.1.2.1.1 (v := (σ.1 1)) rfl ?_
    refine z_icmp_le (tgt := 14) M dt_X9_cut_0.1.2.1.2 (by decide) (fun hc => ?_) (fun hc => ?_)
    · have h := gIt hc h
      refine z_aload_n M dt_X9_cut_0.2.1.1.2 rfl 0 rfl ?_
      refine z_iload_n M dt_X9_cut_0.2.1.2 rfl 1 rfl ?_
      refine pf_X9_size M u143 dt_X9_cut_0.2.2.1.1 ?_
      refine z_iconst M dt_X9_cut_0.2.2.1.2 ki_1 ?_
      obtain rfl := Option.some.inj h
      exact z_zret M (nBo (Or.inr rfl)) dt_X9_cut_0.2.2.2
    · have h := gIf hc h
      refine z_iconst M dt_X9_cut_0.1.2.2 ki_0 ?_
      obtain rfl := Option.some.inj h
      exact z_zret M (nBo (Or.inl rfl)) dt_X9_cut_0.2.1.1.1
theorem k_X9_cut {n : Nat} (M : zM l D zcl (zty cy) A ad (zR n) (cW a cy) own cc nL rt σo ov G) {p0 : Int32} {o : (Zst × Int32)} (h : f_X9_cut σ p0 = some o) {index : Nat} (hl : Cond.methodLink own index yX9_cut ∈ uw) (hR : 2 ≤ n) (hW : (st.map fun v => v.category).sum ≤ 8) (d : decode cc pc = .ok (.invokevirtual index, 3)) (kk : G o.1 lv (pc + 3) (.int o.2 :: st)) : G σ lv pc (.int p0 :: .ref (a 3) :: st) := z_callV M [.int p0] (m_X9_cut (zM_hD M) h) (hC3 σ) rfl hl u89 u568 u566 u567 hd_X9_cut hR (by decide) rfl hW d kk
set_option maxHeartbeats 4000000 in
set_option maxRecDepth 100000 in
theorem m_X11_end (hD : ∀ σ, va_D A (cW a cy σ)) {σ : Zst} {p0 : Int32} {o : (Zst × Int32)} (h : f_X11_end σ p0 = some o) : zT l D zcl (zty cy) A ad (cW a cy) yX11_end cX11_end 2 (some .boolean) 2 [.ref (a 0), .int p0] σ o.1 (some (.int o.2)) := by
  refine z_met pn_X11 hD (Nat.le_of_ble_eq_true rfl) rfl (fun G M => ?_)
  refine z_aload_n M dt_X11_end_0.1.1.1 rfl 0 rfl ?_
  refine gf_X11_theText M u431 dt_X11_end_0.1.1.2 ?_
  refine z_iload_n M dt_X11_end_0.1.2 rfl 1 rfl ?_
  obtain ⟨t1, hc, h⟩ := gBd h
  refine k_X9_cut M hc u565 (Nat.le_of_ble_eq_true rfl) (Nat.le_of_ble_eq_true rfl) dt_X11_end_0.2.1 ?_
  have ⟨hg, h⟩ := gBo_s h
  obtain rfl := Option.some.inj h
  exact z_zret M (nBo hg) dt_X11_end_0.2.2
set_option maxHeartbeats 4000000 in
set_option maxRecDepth 100000 in
theorem m_X1_isText_L (hD : ∀ σ, va_D A (cW a cy σ)) (σ0 : Zst) (p0 : Int32) : zT l D zcl (zty cy) A ad (cW a cy) yX1_isText cX1_isText 2 (some .boolean) 1 [.ref (a 13), .int p0] σ0 σ0 (some (.int (f_X1_isText_L p0))) := by
  obtain ⟨o, h⟩ : ∃ o, f_X1_isText_L p0 = o := ⟨_, rfl⟩
  rw [h]
  refine z_met pn_X1 hD (Nat.le_of_ble_eq_true rfl) rfl (fun G M => ?_)
  refine z_iload_n M dt_X1_isText_0.1.1.1.1 rfl 1 rfl ?_
  have hJ3 : G σ0 [(0, .ref (a 13)), (1, .int p0)] 15 [.int (if p0 < (0 : Int32) then (0 : Int32) else (if (6 : Int32) ≤ p0 then (0 : Int32) else (1 : Int32)))] := by
    subst h
    exact z_zret M (nBo (boIte (Or.inl rfl) (boIte (Or.inl rfl) (Or.inr rfl)))) dt_X1_isText_0.2.2.2
  refine z_if_lt (tgt := 14) M dt_X1_isText_0.1.1.1.2 (by decide) (fun hc1 => ?_) (fun hc1 => ?_)
  · refine z_iconst M dt_X1_isText_0.2.2.1 ki_0 ?_
    exact (zTt hc1 hJ3)
  · refine z_iload_n M dt_X1_isText_0.1.1.2 rfl 1 rfl ?_
    refine z_bipush M dt_X1_isText_0.1.2.1 kb_6 ?_
    refine z_icmp_ge (tgt := 14) M dt_X1_isText_0.1.2.2 (by decide) (fun hc2 => ?_) (fun hc2 => ?_)
    · refine z_iconst M dt_X1_isText_0.2.2.1 ki_0 ?_
      exact (zTt hc2 (zTf hc1 hJ3))
    · refine z_iconst M dt_X1_isText_0.2.1.1 ki_1 ?_
      refine z_goto (tgt := 15) M dt_X1_isText_0.2.1.2 (by decide) ?_
      exact (zTf hc2 (zTf hc1 hJ3))
theorem ku_Laws_isText_X1_isText_L {n : Nat} (M : zM l D zcl (zty cy) A ad (zR n) (cW a cy) own cc nL rt σo ov G) {p0 : Int32} {index : Nat} (hl : Cond.methodLink own index (⟨RX2, "isText", "(I)Z"⟩ : MethodName) ∈ uw) (hR : 2 ≤ n) (hW : (st.map fun v => v.category).sum ≤ 8) (d : decode cc pc = .ok (.invokevirtual index, 3)) (kk : G σ lv (pc + 3) (.int (f_X1_isText_L p0) :: st)) : G σ lv pc (.int p0 :: .ref (a 13) :: st) := z_callU M (owner := RX1) [.int p0] (m_X1_isText_L (zM_hD M) σ p0) (hC13 σ) rfl hl u578 u580 u581 u91 u582 rfl (by refine ⟨by decide +kernel, by decide +kernel, ?_⟩; exact hp__I_Z) hR (by decide) rfl hW d kk
theorem ku_X1_isText_X1_isText_L {n : Nat} (M : zM l D zcl (zty cy) A ad (zR n) (cW a cy) own cc nL rt σo ov G) {p0 : Int32} {index : Nat} (hl : Cond.methodLink own index (⟨RX1, "isText", "(I)Z"⟩ : MethodName) ∈ uw) (hR : 2 ≤ n) (hW : (st.map fun v => v.category).sum ≤ 8) (d : decode cc pc = .ok (.invokevirtual index, 3)) (kk : G σ lv (pc + 3) (.int (f_X1_isText_L p0) :: st)) : G σ lv pc (.int p0 :: .ref (a 13) :: st) := z_callA M (owner := RX1) [.int p0] (m_X1_isText_L (zM_hD M) σ p0) (hC13 σ) rfl hl u2164 u2165 u581 u91 u582 u579 (by refine ⟨by decide +kernel, by decide +kernel, ?_⟩; exact hp__I_Z) hR (by decide) rfl hW d kk
set_option maxHeartbeats 4000000 in
set_option maxRecDepth 100000 in
theorem m_X2_isLaw (hD : ∀ σ, va_D A (cW a cy σ)) (σ0 : Zst) (p0 : Int32) : zT l D zcl (zty cy) A ad (cW a cy) yX2_isLaw cX2_isLaw 2 (some .boolean) 2 [.ref (a 13), .int p0] σ0 σ0 (some (.int (f_X2_isLaw p0))) := by
  obtain ⟨o, h⟩ : ∃ o, f_X2_isLaw p0 = o := ⟨_, rfl⟩
  rw [h]
  refine z_met pn_X2 hD (Nat.le_of_ble_eq_true rfl) rfl (fun G M => ?_)
  refine z_aload_n M dt_X2_isLaw_0.1.1 rfl 0 rfl ?_
  refine z_iload_n M dt_X2_isLaw_0.1.2 rfl 1 rfl ?_
  refine ku_Laws_isText_X1_isText_L M u577 (Nat.le_of_ble_eq_true rfl) (Nat.le_of_ble_eq_true rfl) dt_X2_isLaw_0.2.1 ?_
  subst h
  exact z_zret M (nBo (bo_X1_isText_L p0)) dt_X2_isLaw_0.2.2
theorem k_X2_isLaw {n : Nat} (M : zM l D zcl (zty cy) A ad (zR n) (cW a cy) own cc nL rt σo ov G) {p0 : Int32} {index : Nat} (hl : Cond.methodLink own index yX2_isLaw ∈ uw) (hR : 3 ≤ n) (hW : (st.map fun v => v.category).sum ≤ 8) (d : decode cc pc = .ok (.invokevirtual index, 3)) (kk : G σ lv (pc + 3) (.int (f_X2_isLaw p0) :: st)) : G σ lv pc (.int p0 :: .ref (a 13) :: st) := z_callV M [.int p0] (m_X2_isLaw (zM_hD M) σ p0) (hC13 σ) rfl hl u92 u576 u574 u575 hd_X2_isLaw hR (by decide) rfl hW d kk
set_option maxHeartbeats 4000000 in
set_option maxRecDepth 100000 in
theorem m_X2_begin (hD : ∀ σ, va_D A (cW a cy σ)) {σ : Zst}  {o : Zst} (h : f_X2_begin σ = some o) : zT l D zcl (zty cy) A ad (cW a cy) yX2_begin cX2_begin 1 none 1 [.ref (a 13)] σ o none := by
  refine z_met pn_X2 hD (Nat.le_of_ble_eq_true rfl) rfl (fun G M => ?_)
  refine z_aload_n M dt_X2_begin_0.1.1.1.1 rfl 0 rfl ?_
  refine z_iconst M dt_X2_begin_0.1.1.1.2 ki_1 ?_
  refine pf_X2_awaits M u187 rfl rfl dt_X2_begin_0.1.1.2.1 ?_
  refine z_aload_n M dt_X2_begin_0.1.1.2.2 rfl 0 rfl ?_
  refine z_iconst M dt_X2_begin_0.1.2.1.1 ki_0 ?_
  refine pf_X2_open M u188 dt_X2_begin_0.1.2.1.2 ?_
  refine z_aload_n M dt_X2_begin_0.1.2.2 rfl 0 rfl ?_
  refine z_iconst M dt_X2_begin_0.2.1.1.1 ki_0 ?_
  refine pf_X2_digits M u189 dt_X2_begin_0.2.1.1.2 ?_
  refine z_aload_n M dt_X2_begin_0.2.1.2 rfl 0 rfl ?_
  refine z_iconst M dt_X2_begin_0.2.2.1.1 ki_0 ?_
  refine pf_X2_compared M u190 dt_X2_begin_0.2.2.1.2 ?_
  obtain rfl := Option.some.inj h
  exact z_vret M dt_X2_begin_0.2.2.2
theorem ku_Book_begin_X2_begin {n : Nat} (M : zM l D zcl (zty cy) A ad (zR n) (cW a cy) own cc nL rt σo ov G)  {o : Zst} (h : f_X2_begin σ = some o) {index : Nat} (hl : Cond.methodLink own index (⟨RX1, "begin", "()V"⟩ : MethodName) ∈ uw) (hR : 2 ≤ n) (hW : (st.map fun v => v.category).sum ≤ 8) (d : decode cc pc = .ok (.invokevirtual index, 3)) (kk : G o lv (pc + 3) (st)) : G σ lv pc (.ref (a 13) :: st) := z_callA M (owner := RX1) [] (m_X2_begin (zM_hD M) h) (hC13 σ) rfl hl u599 u600 u601 u92 u602 u598 (by refine ⟨by decide +kernel, by decide +kernel, ?_⟩; exact hp___V) hR (by decide) rfl hW d kk
set_option maxHeartbeats 4000000 in
set_option maxRecDepth 100000 in
theorem m_X9_size (hD : ∀ σ, va_D A (cW a cy σ)) (σ0 : Zst) : zT l D zcl (zty cy) A ad (cW a cy) yX9_size cX9_size 1 (some .int) 1 [.ref (a 3)] σ0 σ0 (some (.int (f_X9_size σ0))) := by
  obtain ⟨o, h⟩ : ∃ o, f_X9_size σ0 = o := ⟨_, rfl⟩
  rw [h]
  refine z_met pn_X9 hD (Nat.le_of_ble_eq_true rfl) rfl (fun G M => ?_)
  refine z_aload_n M dt_X9_size_0.1.1 rfl 0 rfl ?_
  refine gf_X9_size (σ := σ0) M u143 dt_X9_size_0.1.2 (v := (σ0.1 1)) rfl ?_
  subst h
  exact z_iret M dt_X9_size_0.2
theorem k_X9_size {n : Nat} (M : zM l D zcl (zty cy) A ad (zR n) (cW a cy) own cc nL rt σo ov G)  {index : Nat} (hl : Cond.methodLink own index yX9_size ∈ uw) (hR : 2 ≤ n) (hW : (st.map fun v => v.category).sum ≤ 8) (d : decode cc pc = .ok (.invokevirtual index, 3)) (kk : G σ lv (pc + 3) (.int (f_X9_size σ) :: st)) : G σ lv pc (.ref (a 3) :: st) := z_callV M [] (m_X9_size (zM_hD M) σ ) (hC3 σ) rfl hl u89 u609 u607 u608 hd_X9_size hR (by decide) rfl hW d kk
set_option maxHeartbeats 4000000 in
set_option maxRecDepth 100000 in
theorem m_X2_couldEnd (hD : ∀ σ, va_D A (cW a cy σ)) (σ0 : Zst) : zT l D zcl (zty cy) A ad (cW a cy) yX2_couldEnd cX2_couldEnd 1 (some .boolean) 1 [.ref (a 13)] σ0 σ0 (some (.int (f_X2_couldEnd σ0))) := by
  obtain ⟨o, h⟩ : ∃ o, f_X2_couldEnd σ0 = o := ⟨_, rfl⟩
  rw [h]
  refine z_met pn_X2 hD (Nat.le_of_ble_eq_true rfl) rfl (fun G M => ?_)
  refine z_aload_n M dt_X2_couldEnd_0.1.1.1.1 rfl 0 rfl ?_
  refine gf_X2_awaits (σ := σ0) M u187 dt_X2_couldEnd_0.1.1.1.2 (v := (σ0.1 4)) rfl ?_
  have hJ3 : G σ0 [(0, .ref (a 13))] 19 [.int (if (σ0.1 4) = (0 : Int32) then (if (σ0.1 5) = (0 : Int32) then (1 : Int32) else (0 : Int32)) else (0 : Int32))] := by
    subst h
    exact z_zret M (nBo (boIte (boIte (Or.inr rfl) (Or.inl rfl)) (Or.inl rfl))) dt_X2_couldEnd_0.2.2.2
  refine z_if_ne (tgt := 18) M dt_X2_couldEnd_0.1.1.2 (by decide) (fun hc1 => ?_) (fun hc1 => ?_)
  · refine z_iconst M dt_X2_couldEnd_0.2.2.1 ki_0 ?_
    exact (zTf hc1 hJ3)
  · refine z_aload_n M dt_X2_couldEnd_0.1.2.1 rfl 0 rfl ?_
    refine gf_X2_open (σ := σ0) M u188 dt_X2_couldEnd_0.1.2.2 (v := (σ0.1 5)) rfl ?_
    refine z_if_ne (tgt := 18) M dt_X2_couldEnd_0.2.1.1.1 (by decide) (fun hc2 => ?_) (fun hc2 => ?_)
    · refine z_iconst M dt_X2_couldEnd_0.2.2.1 ki_0 ?_
      exact (zTf hc2 (zTt hc1 hJ3))
    · refine z_iconst M dt_X2_couldEnd_0.2.1.1.2 ki_1 ?_
      refine z_goto (tgt := 19) M dt_X2_couldEnd_0.2.1.2 (by decide) ?_
      exact (zTt hc2 (zTt hc1 hJ3))
theorem ku_Book_couldEnd_X2_couldEnd {n : Nat} (M : zM l D zcl (zty cy) A ad (zR n) (cW a cy) own cc nL rt σo ov G)  {index : Nat} (hl : Cond.methodLink own index (⟨RX1, "couldEnd", "()Z"⟩ : MethodName) ∈ uw) (hR : 2 ≤ n) (hW : (st.map fun v => v.category).sum ≤ 8) (d : decode cc pc = .ok (.invokevirtual index, 3)) (kk : G σ lv (pc + 3) (.int (f_X2_couldEnd σ) :: st)) : G σ lv pc (.ref (a 13) :: st) := z_callA M (owner := RX1) [] (m_X2_couldEnd (zM_hD M) σ ) (hC13 σ) rfl hl u736 u737 u738 u92 u739 u735 (by refine ⟨by decide +kernel, by decide +kernel, ?_⟩; exact hp___Z) hR (by decide) rfl hW d kk
set_option maxHeartbeats 4000000 in
set_option maxRecDepth 100000 in
theorem m_X9_at (hD : ∀ σ, va_D A (cW a cy σ)) {σ0 : Zst} {p0 : Int32} {o : Int32} (h : f_X9_at σ0 p0 = some o) : zT l D zcl (zty cy) A ad (cW a cy) yX9_at cX9_at 2 (some .int) 1 [.ref (a 3), .int p0] σ0 σ0 (some (.int o)) := by
  refine z_met pn_X9 hD (Nat.le_of_ble_eq_true rfl) rfl (fun G M => ?_)
  refine z_iload_n M dt_X9_at_0.1.1.1.1 rfl 1 rfl ?_
  refine z_if_lt (tgt := 21) M dt_X9_at_0.1.1.1.2 (by decide) (fun hc => ?_) (fun hc => ?_)
  · have h := gIt hc h
    refine z_iconst M dt_X9_at_0.2.2.1.2 ki_m1 ?_
    obtain rfl := Option.some.inj h
    exact z_iret M dt_X9_at_0.2.2.2
  · have h := gIf hc h
    refine z_iload_n M dt_X9_at_0.1.1.2.1 rfl 1 rfl ?_
    refine z_aload_n M dt_X9_at_0.1.1.2.2 rfl 0 rfl ?_
    refine gf_X9_size (σ := σ0) M u143 dt_X9_at_0.1.2.1.1 (v := (σ0.1 1)) rfl ?_
    refine z_icmp_ge (tgt := 21) M dt_X9_at_0.1.2.1.2 (by decide) (fun hc => ?_) (fun hc => ?_)
    · have h := gIt hc h
      refine z_iconst M dt_X9_at_0.2.2.1.2 ki_m1 ?_
      obtain rfl := Option.some.inj h
      exact z_iret M dt_X9_at_0.2.2.2
    · have h := gIf hc h
      refine z_aload_n M dt_X9_at_0.1.2.2 rfl 0 rfl ?_
      refine gf_X9_signs M u142 dt_X9_at_0.2.1.1.1 ?_
      refine z_iload_n M dt_X9_at_0.2.1.1.2 rfl 1 rfl ?_
      have ⟨hg, h⟩ := gIx_s h
      refine al_C4 (σ := σ0) M (f := (σ0.2.1 0)) rfl hg dt_X9_at_0.2.1.2 ?_
      refine z_goto (tgt := 22) M dt_X9_at_0.2.2.1.1 (by decide) ?_
      obtain rfl := Option.some.inj h
      exact z_iret M dt_X9_at_0.2.2.2
theorem k_X9_at {n : Nat} (M : zM l D zcl (zty cy) A ad (zR n) (cW a cy) own cc nL rt σo ov G) {p0 : Int32} {o : Int32} (h : f_X9_at σ p0 = some o) {index : Nat} (hl : Cond.methodLink own index yX9_at ∈ uw) (hR : 2 ≤ n) (hW : (st.map fun v => v.category).sum ≤ 8) (d : decode cc pc = .ok (.invokevirtual index, 3)) (kk : G σ lv (pc + 3) (.int o :: st)) : G σ lv pc (.int p0 :: .ref (a 3) :: st) := z_callV M [.int p0] (m_X9_at (zM_hD M) h) (hC3 σ) rfl hl u89 u613 u611 u612 hd_X9_at hR (by decide) rfl hW d kk
set_option maxHeartbeats 4000000 in
set_option maxRecDepth 100000 in
theorem m_X2_isDigit (hD : ∀ σ, va_D A (wf σ)) (σ0 : Zst) (p0 : Int32) : zT l D zcl0 tys A ad wf yX2_isDigit cX2_isDigit 1 (some .boolean) 1 [.int p0] σ0 σ0 (some (.int (f_X2_isDigit p0))) := by
  obtain ⟨o, h⟩ : ∃ o, f_X2_isDigit p0 = o := ⟨_, rfl⟩
  rw [h]
  refine z_met pn_X2 hD (Nat.le_of_ble_eq_true rfl) rfl (fun G M => ?_)
  refine z_iload_n M dt_X2_isDigit_0.1.1.1.1 rfl 0 rfl ?_
  refine z_bipush M dt_X2_isDigit_0.1.1.1.2 kb_48 ?_
  have hJ3 : G σ0 [(0, .int p0)] 17 [.int (if p0 < (48 : Int32) then (0 : Int32) else (if (57 : Int32) < p0 then (0 : Int32) else (1 : Int32)))] := by
    subst h
    exact z_zret M (nBo (boIte (Or.inl rfl) (boIte (Or.inl rfl) (Or.inr rfl)))) dt_X2_isDigit_0.2.2.2
  refine z_icmp_lt (tgt := 16) M dt_X2_isDigit_0.1.1.2 (by decide) (fun hc1 => ?_) (fun hc1 => ?_)
  · refine z_iconst M dt_X2_isDigit_0.2.2.1 ki_0 ?_
    exact (zTt hc1 hJ3)
  · refine z_iload_n M dt_X2_isDigit_0.1.2.1 rfl 0 rfl ?_
    refine z_bipush M dt_X2_isDigit_0.1.2.2 kb_57 ?_
    refine z_icmp_gt (tgt := 16) M dt_X2_isDigit_0.2.1.1.1 (by decide) (fun hc2 => ?_) (fun hc2 => ?_)
    · refine z_iconst M dt_X2_isDigit_0.2.2.1 ki_0 ?_
      exact (zTt hc2 (zTf hc1 hJ3))
    · refine z_iconst M dt_X2_isDigit_0.2.1.1.2 ki_1 ?_
      refine z_goto (tgt := 17) M dt_X2_isDigit_0.2.1.2 (by decide) ?_
      exact (zTf hc2 (zTf hc1 hJ3))
theorem k_X2_isDigit {n : Nat} (M : zM l D zcl0 tys A ad (zR n) wf own cc nL rt σo ov G) {p0 : Int32} {index : Nat} (hl : Cond.methodLink own index yX2_isDigit ∈ uw) (hR : 2 ≤ n) (hW : (st.map fun v => v.category).sum ≤ 8) (d : decode cc pc = .ok (.invokestatic index, 3)) (kk : G σ lv (pc + 3) (.int (f_X2_isDigit p0) :: st)) : G σ lv pc (.int p0 :: st) := z_callS M [.int p0] (m_X2_isDigit (zM_hD M) σ p0) hl u92 u626 u625 hd_X2_isDigit hR (by decide) rfl hW d kk
set_option maxHeartbeats 4000000 in
set_option maxRecDepth 100000 in
theorem m_X2_isComparison (hD : ∀ σ, va_D A (wf σ)) (σ0 : Zst) (p0 : Int32) : zT l D zcl0 tys A ad wf yX2_isComparison cX2_isComparison 1 (some .boolean) 1 [.int p0] σ0 σ0 (some (.int (f_X2_isComparison p0))) := by
  obtain ⟨o, h⟩ : ∃ o, f_X2_isComparison p0 = o := ⟨_, rfl⟩
  rw [h]
  refine z_met pn_X2 hD (Nat.le_of_ble_eq_true rfl) rfl (fun G M => ?_)
  refine z_iload_n M dt_X2_isComparison_0.1.1.1.1 rfl 0 rfl ?_
  refine z_bipush M dt_X2_isComparison_0.1.1.1.2 kb_60 ?_
  have hJ4 : G σ0 [(0, .int p0)] 23 [.int (if p0 = (60 : Int32) then (1 : Int32) else (if p0 = (62 : Int32) then (1 : Int32) else (if p0 = (61 : Int32) then (1 : Int32) else (0 : Int32))))] := by
    subst h
    exact z_zret M (nBo (boIte (Or.inr rfl) (boIte (Or.inr rfl) (boIte (Or.inr rfl) (Or.inl rfl))))) dt_X2_isComparison_0.2.2.2
  refine z_icmp_eq (tgt := 18) M dt_X2_isComparison_0.1.1.2.1 (by decide) (fun hc1 => ?_) (fun hc1 => ?_)
  · refine z_iconst M dt_X2_isComparison_0.2.1.2 ki_1 ?_
    refine z_goto (tgt := 23) M dt_X2_isComparison_0.2.2.1.1 (by decide) ?_
    exact (zTt hc1 hJ4)
  · refine z_iload_n M dt_X2_isComparison_0.1.1.2.2 rfl 0 rfl ?_
    refine z_bipush M dt_X2_isComparison_0.1.2.1.1 kb_62 ?_
    refine z_icmp_eq (tgt := 18) M dt_X2_isComparison_0.1.2.1.2 (by decide) (fun hc2 => ?_) (fun hc2 => ?_)
    · refine z_iconst M dt_X2_isComparison_0.2.1.2 ki_1 ?_
      refine z_goto (tgt := 23) M dt_X2_isComparison_0.2.2.1.1 (by decide) ?_
      exact (zTt hc2 (zTf hc1 hJ4))
    · refine z_iload_n M dt_X2_isComparison_0.1.2.2 rfl 0 rfl ?_
      refine z_bipush M dt_X2_isComparison_0.2.1.1.1 kb_61 ?_
      refine z_icmp_ne (tgt := 22) M dt_X2_isComparison_0.2.1.1.2 (by decide) (fun hc3 => ?_) (fun hc3 => ?_)
      · refine z_iconst M dt_X2_isComparison_0.2.2.1.2 ki_0 ?_
        exact (zTf hc3 (zTf hc2 (zTf hc1 hJ4)))
      · refine z_iconst M dt_X2_isComparison_0.2.1.2 ki_1 ?_
        refine z_goto (tgt := 23) M dt_X2_isComparison_0.2.2.1.1 (by decide) ?_
        exact (zTt hc3 (zTf hc2 (zTf hc1 hJ4)))
theorem k_X2_isComparison {n : Nat} (M : zM l D zcl0 tys A ad (zR n) wf own cc nL rt σo ov G) {p0 : Int32} {index : Nat} (hl : Cond.methodLink own index yX2_isComparison ∈ uw) (hR : 2 ≤ n) (hW : (st.map fun v => v.category).sum ≤ 8) (d : decode cc pc = .ok (.invokestatic index, 3)) (kk : G σ lv (pc + 3) (.int (f_X2_isComparison p0) :: st)) : G σ lv pc (.int p0 :: st) := z_callS M [.int p0] (m_X2_isComparison (zM_hD M) σ p0) hl u92 u637 u636 hd_X2_isComparison hR (by decide) rfl hW d kk
set_option maxHeartbeats 4000000 in
set_option maxRecDepth 100000 in
theorem m_X11_hasBit (hD : ∀ σ, va_D A (wf σ)) (σ0 : Zst) (p0 : Int32) (p1 : Int32) : zT l D zcl0 tys A ad wf yX11_hasBit cX11_hasBit 2 (some .boolean) 1 [.int p0, .int p1] σ0 σ0 (some (.int (f_X11_hasBit p0 p1))) := by
  obtain ⟨o, h⟩ : ∃ o, f_X11_hasBit p0 p1 = o := ⟨_, rfl⟩
  rw [h]
  refine z_met pn_X11 hD (Nat.le_of_ble_eq_true rfl) rfl (fun G M => ?_)
  refine z_iload_n M dt_X11_hasBit_0.1.1.1.1 rfl 0 rfl ?_
  refine z_iload_n M dt_X11_hasBit_0.1.1.1.2 rfl 1 rfl ?_
  refine z_ishr M dt_X11_hasBit_0.1.1.2 ?_
  refine z_iconst M dt_X11_hasBit_0.1.2.1.1 ki_1 ?_
  refine z_iand M dt_X11_hasBit_0.1.2.1.2 ?_
  refine z_iconst M dt_X11_hasBit_0.1.2.2 ki_1 ?_
  have hJ2 : G σ0 [(0, .int p0), (1, .int p1)] 14 [.int (if ((jShr p0 p1) &&& (1 : Int32)) = (1 : Int32) then (1 : Int32) else (0 : Int32))] := by
    subst h
    exact z_zret M (nBo (boIte (Or.inr rfl) (Or.inl rfl))) dt_X11_hasBit_0.2.2.2
  refine z_icmp_ne (tgt := 13) M dt_X11_hasBit_0.2.1.1.1 (by decide) (fun hc1 => ?_) (fun hc1 => ?_)
  · refine z_iconst M dt_X11_hasBit_0.2.2.1 ki_0 ?_
    exact (zTf hc1 hJ2)
  · refine z_iconst M dt_X11_hasBit_0.2.1.1.2 ki_1 ?_
    refine z_goto (tgt := 14) M dt_X11_hasBit_0.2.1.2 (by decide) ?_
    exact (zTt hc1 hJ2)
theorem kn_X11_hasBit {n : Nat} (M : zM l D zcl0 tys A ad (zR n) wf own cc nL rt σo ov G) {p0 : Int32} {p1 : Int32} {index : Nat} {host : String} (hl : Cond.methodLinkNest own index yX11_hasBit host ∈ zNw) (hR : 2 ≤ n) (hW : (st.map fun v => v.category).sum ≤ 8) (d : decode cc pc = .ok (.invokestatic index, 3)) (kk : G σ lv (pc + 3) (.int (f_X11_hasBit p0 p1) :: st)) : G σ lv pc (.int p1 :: .int p0 :: st) := z_callSN M [.int p0, .int p1] (m_X11_hasBit (zM_hD M) σ p0 p1) hl u87 u640 u639 hd_X11_hasBit hR (by decide) rfl hW d kk
set_option maxHeartbeats 4000000 in
set_option maxRecDepth 100000 in
theorem wJ_X2_takesBehind_134 {o : (Zst × Int32)} (M : zM l D zcl (zty cy) A ad (zR 2) (cW a cy) RX2 cX2_takesBehind 3 (some .boolean) o.1 (some (.int o.2)) G) (σ : Zst)   (h : J_X2_takesBehind_134 σ = some o) : G σ [(0, .ref (a 13))] 134 [] := by
  refine z_aload_n M dt_X2_takesBehind_4.2.1.1.2 rfl 0 rfl ?_
  refine z_dup M dt_X2_takesBehind_4.2.1.2.1 rfl ?_
  refine gf_X2_compared (σ := σ) M u190 dt_X2_takesBehind_4.2.1.2.2 (v := (σ.1 7)) rfl ?_
  refine z_iconst M dt_X2_takesBehind_4.2.2.1.1 ki_1 ?_
  refine z_aload_n M dt_X2_takesBehind_4.2.2.1.2 rfl 0 rfl ?_
  refine gf_X2_open (σ := σ) M u188 dt_X2_takesBehind_4.2.2.2.1 (v := (σ.1 5)) rfl ?_
  refine z_ishl M dt_X2_takesBehind_4.2.2.2.2 ?_
  refine z_iconst M dt_X2_takesBehind_5.1.1.1.1 ki_m1 ?_
  refine z_ixor M dt_X2_takesBehind_5.1.1.1.2 ?_
  refine z_iand M dt_X2_takesBehind_5.1.1.2.1 ?_
  refine pf_X2_compared M u190 dt_X2_takesBehind_5.1.1.2.2 ?_
  refine z_iconst M dt_X2_takesBehind_5.1.2.1.1 ki_1 ?_
  obtain rfl := Option.some.inj h
  exact z_zret M (nBo (Or.inr rfl)) dt_X2_takesBehind_5.1.2.1.2
set_option maxHeartbeats 4000000 in
set_option maxRecDepth 100000 in
theorem m_X2_takesBehind (hD : ∀ σ, va_D A (cW a cy σ)) {σ : Zst} {p0 : Int32} {o : (Zst × Int32)} (h : f_X2_takesBehind σ p0 = some o) : zT l D zcl (zty cy) A ad (cW a cy) yX2_takesBehind cX2_takesBehind 3 (some .boolean) 2 [.ref (a 13), .int p0] σ o.1 (some (.int o.2)) := by
  refine z_met pn_X2 hD (Nat.le_of_ble_eq_true rfl) rfl (fun G M => ?_)
  refine z_iload_n M dt_X2_takesBehind_0.1.1.1.1 rfl 1 rfl ?_
  refine k_X2_isDigit M u624 (Nat.le_of_ble_eq_true rfl) (Nat.le_of_ble_eq_true rfl) dt_X2_takesBehind_0.1.1.1.2 ?_
  refine z_if_eq (tgt := 39) M dt_X2_takesBehind_0.1.1.2.1 (by decide) (fun hc => ?_) (fun hc => ?_)
  · have h := gIt hc h
    refine z_aload_n M dt_X2_takesBehind_1.1.2.1.2 rfl 0 rfl ?_
    refine z_iconst M dt_X2_takesBehind_1.1.2.2.1 ki_0 ?_
    refine pf_X2_digits M u189 dt_X2_takesBehind_1.1.2.2.2 ?_
    refine z_iload_n M dt_X2_takesBehind_1.2.1.1.1 rfl 1 rfl ?_
    refine z_bipush M dt_X2_takesBehind_1.2.1.1.2 kb_41 ?_
    refine z_icmp_ne (tgt := 73) M dt_X2_takesBehind_1.2.1.2.1 (by decide) (fun hc => ?_) (fun hc => ?_)
    · have h := gIf hc h
      refine z_aload_n M dt_X2_takesBehind_2.2.1.1.1 rfl 0 rfl ?_
      refine z_iconst M dt_X2_takesBehind_2.2.1.1.2 ki_1 ?_
      refine pf_X2_awaits M u187 rfl rfl dt_X2_takesBehind_2.2.1.2.1 ?_
      refine z_iload_n M dt_X2_takesBehind_2.2.1.2.2 rfl 1 rfl ?_
      refine k_X2_isComparison M u635 (Nat.le_of_ble_eq_true rfl) (Nat.le_of_ble_eq_true rfl) dt_X2_takesBehind_2.2.2.1.1 ?_
      refine z_if_eq (tgt := 122) M dt_X2_takesBehind_2.2.2.1.2 (by decide) (fun hc => ?_) (fun hc => ?_)
      · have h := gIt hc h
        refine z_iload_n M dt_X2_takesBehind_4.1.1.2.2 rfl 1 rfl ?_
        refine z_bipush M dt_X2_takesBehind_4.1.2.1.1 kb_124 ?_
        refine z_icmp_eq (tgt := 134) M dt_X2_takesBehind_4.1.2.1.2 (by decide) (fun hc => ?_) (fun hc => ?_)
        · have h := gIt hc h
          refine z_sub M [0] (lv' := [(0, .ref (a 13))]) rfl ?_
          exact wJ_X2_takesBehind_134 M  (zI (zI σ 6 (0 : Int32)) 4 (1 : Int32)) h
        · have h := gIf hc h
          refine z_iload_n M dt_X2_takesBehind_4.1.2.2.1 rfl 1 rfl ?_
          refine z_bipush M dt_X2_takesBehind_4.1.2.2.2 kb_38 ?_
          refine z_icmp_ne (tgt := 153) M dt_X2_takesBehind_4.2.1.1.1 (by decide) (fun hc => ?_) (fun hc => ?_)
          · have h := gIf hc h
            refine z_iload_n M dt_X2_takesBehind_5.1.2.2.1 rfl 1 rfl ?_
            refine z_bipush M dt_X2_takesBehind_5.1.2.2.2 kb_43 ?_
            have hJ7 : G (zI (zI σ 6 (0 : Int32)) 4 (1 : Int32)) [(0, .ref (a 13)), (1, .int p0)] 182 [.int (if p0 = (43 : Int32) then (1 : Int32) else (if p0 = (45 : Int32) then (1 : Int32) else (if p0 = (42 : Int32) then (1 : Int32) else (if p0 = (47 : Int32) then (1 : Int32) else (0 : Int32)))))] := by
              obtain rfl := Option.some.inj h
              exact z_zret M (nBo (boIte (Or.inr rfl) (boIte (Or.inr rfl) (boIte (Or.inr rfl) (boIte (Or.inr rfl) (Or.inl rfl)))))) dt_X2_takesBehind_6.2.2
            refine z_icmp_eq (tgt := 177) M dt_X2_takesBehind_5.2.1.1.1 (by decide) (fun hc3 => ?_) (fun hc3 => ?_)
            · refine z_iconst M dt_X2_takesBehind_6.1.2 ki_1 ?_
              refine z_goto (tgt := 182) M dt_X2_takesBehind_6.2.1.1 (by decide) ?_
              exact (zTt hc3 hJ7)
            · refine z_iload_n M dt_X2_takesBehind_5.2.1.1.2 rfl 1 rfl ?_
              refine z_bipush M dt_X2_takesBehind_5.2.1.2.1 kb_45 ?_
              refine z_icmp_eq (tgt := 177) M dt_X2_takesBehind_5.2.1.2.2 (by decide) (fun hc4 => ?_) (fun hc4 => ?_)
              · refine z_iconst M dt_X2_takesBehind_6.1.2 ki_1 ?_
                refine z_goto (tgt := 182) M dt_X2_takesBehind_6.2.1.1 (by decide) ?_
                exact (zTt hc4 (zTf hc3 hJ7))
              · refine z_iload_n M dt_X2_takesBehind_5.2.2.1.1 rfl 1 rfl ?_
                refine z_bipush M dt_X2_takesBehind_5.2.2.1.2 kb_42 ?_
                refine z_icmp_eq (tgt := 177) M dt_X2_takesBehind_5.2.2.2.1 (by decide) (fun hc5 => ?_) (fun hc5 => ?_)
                · refine z_iconst M dt_X2_takesBehind_6.1.2 ki_1 ?_
                  refine z_goto (tgt := 182) M dt_X2_takesBehind_6.2.1.1 (by decide) ?_
                  exact (zTt hc5 (zTf hc4 (zTf hc3 hJ7)))
                · refine z_iload_n M dt_X2_takesBehind_5.2.2.2.2 rfl 1 rfl ?_
                  refine z_bipush M dt_X2_takesBehind_6.1.1.1 kb_47 ?_
                  refine z_icmp_ne (tgt := 181) M dt_X2_takesBehind_6.1.1.2 (by decide) (fun hc6 => ?_) (fun hc6 => ?_)
                  · refine z_iconst M dt_X2_takesBehind_6.2.1.2 ki_0 ?_
                    exact (zTf hc6 (zTf hc5 (zTf hc4 (zTf hc3 hJ7))))
                  · refine z_iconst M dt_X2_takesBehind_6.1.2 ki_1 ?_
                    refine z_goto (tgt := 182) M dt_X2_takesBehind_6.2.1.1 (by decide) ?_
                    exact (zTt hc6 (zTf hc5 (zTf hc4 (zTf hc3 hJ7))))
          · have h := gIt hc h
            refine z_sub M [0] (lv' := [(0, .ref (a 13))]) rfl ?_
            exact wJ_X2_takesBehind_134 M  (zI (zI σ 6 (0 : Int32)) 4 (1 : Int32)) h
      · have h := gIf hc h
        refine z_aload_n M dt_X2_takesBehind_2.2.2.2.1 rfl 0 rfl ?_
        refine gf_X2_compared (σ := (zI (zI σ 6 (0 : Int32)) 4 (1 : Int32))) M u190 dt_X2_takesBehind_2.2.2.2.2 (v := (σ.1 7)) rfl ?_
        refine z_aload_n M dt_X2_takesBehind_3.1.1.1.1 rfl 0 rfl ?_
        refine gf_X2_open (σ := (zI (zI σ 6 (0 : Int32)) 4 (1 : Int32))) M u188 dt_X2_takesBehind_3.1.1.1.2 (v := (σ.1 5)) rfl ?_
        refine kn_X11_hasBit M u638 (Nat.le_of_ble_eq_true rfl) (Nat.le_of_ble_eq_true rfl) dt_X2_takesBehind_3.1.1.2.1 ?_
        have hJ9 : G (zI (zI σ 6 (0 : Int32)) 4 (1 : Int32)) [(0, .ref (a 13)), (1, .int p0)] 104 [.int (if (f_X11_hasBit (σ.1 7) (σ.1 5)) = (0 : Int32) then (1 : Int32) else (0 : Int32))] := by
          refine z_istore_n (lv' := [(2, .int (if (f_X11_hasBit (σ.1 7) (σ.1 5)) = (0 : Int32) then (1 : Int32) else (0 : Int32))), (0, .ref (a 13)), (1, .int p0)]) M dt_X2_takesBehind_3.1.2.2.2 rfl (by decide) rfl ?_
          refine z_aload_n M dt_X2_takesBehind_3.2.1.1.1 rfl 1 rfl ?_
          refine z_dup M dt_X2_takesBehind_3.2.1.1.2 rfl ?_
          refine gf_X2_compared (σ := (zI (zI σ 6 (0 : Int32)) 4 (1 : Int32))) M u190 dt_X2_takesBehind_3.2.1.2.1 (v := (σ.1 7)) rfl ?_
          refine z_iconst M dt_X2_takesBehind_3.2.1.2.2 ki_1 ?_
          refine z_aload_n M dt_X2_takesBehind_3.2.2.1.1 rfl 1 rfl ?_
          refine gf_X2_open (σ := (zI (zI σ 6 (0 : Int32)) 4 (1 : Int32))) M u188 dt_X2_takesBehind_3.2.2.1.2 (v := (σ.1 5)) rfl ?_
          refine z_ishl M dt_X2_takesBehind_3.2.2.2.1 ?_
          refine z_ior M dt_X2_takesBehind_3.2.2.2.2 ?_
          refine pf_X2_compared M u190 dt_X2_takesBehind_4.1.1.1.1 ?_
          refine z_iload_n M dt_X2_takesBehind_4.1.1.1.2 rfl 0 rfl ?_
          obtain rfl := Option.some.inj h
          exact z_zret M (nBo (boIte (Or.inr rfl) (Or.inl rfl))) dt_X2_takesBehind_4.1.1.2.1
        refine z_if_ne (tgt := 103) M dt_X2_takesBehind_3.1.1.2.2 (by decide) (fun hc8 => ?_) (fun hc8 => ?_)
        · refine z_iconst M dt_X2_takesBehind_3.1.2.2.1 ki_0 ?_
          exact (zTf hc8 hJ9)
        · refine z_iconst M dt_X2_takesBehind_3.1.2.1.1 ki_1 ?_
          refine z_goto (tgt := 104) M dt_X2_takesBehind_3.1.2.1.2 (by decide) ?_
          exact (zTt hc8 hJ9)
    · have h := gIt hc h
      refine z_aload_n M dt_X2_takesBehind_1.2.1.2.2 rfl 0 rfl ?_
      refine z_dup M dt_X2_takesBehind_1.2.2.1.1 rfl ?_
      refine gf_X2_open (σ := (zI σ 6 (0 : Int32))) M u188 dt_X2_takesBehind_1.2.2.1.2 (v := (σ.1 5)) rfl ?_
      refine z_iconst M dt_X2_takesBehind_1.2.2.2.1 ki_1 ?_
      refine z_isub M dt_X2_takesBehind_1.2.2.2.2 ?_
      refine pf_X2_open M u188 dt_X2_takesBehind_2.1.1.1.1 ?_
      refine z_aload_n M dt_X2_takesBehind_2.1.1.1.2 rfl 0 rfl ?_
      refine gf_X2_open (σ := (zI (zI σ 6 (0 : Int32)) 5 ((σ.1 5) - (1 : Int32)))) M u188 dt_X2_takesBehind_2.1.1.2.1 (v := ((σ.1 5) - (1 : Int32))) rfl ?_
      have hJ2 : G (zI (zI σ 6 (0 : Int32)) 5 ((σ.1 5) - (1 : Int32))) [(0, .ref (a 13)), (1, .int p0)] 72 [.int (if ((σ.1 5) - (1 : Int32)) < (0 : Int32) then (0 : Int32) else (1 : Int32))] := by
        obtain rfl := Option.some.inj h
        exact z_zret M (nBo (boIte (Or.inl rfl) (Or.inr rfl))) dt_X2_takesBehind_2.1.2.2.2
      refine z_if_lt (tgt := 71) M dt_X2_takesBehind_2.1.1.2.2 (by decide) (fun hc1 => ?_) (fun hc1 => ?_)
      · refine z_iconst M dt_X2_takesBehind_2.1.2.2.1 ki_0 ?_
        exact (zTt hc1 hJ2)
      · refine z_iconst M dt_X2_takesBehind_2.1.2.1.1 ki_1 ?_
        refine z_goto (tgt := 72) M dt_X2_takesBehind_2.1.2.1.2 (by decide) ?_
        exact (zTf hc1 hJ2)
  · have h := gIf hc h
    refine z_aload_n M dt_X2_takesBehind_0.1.1.2.2 rfl 0 rfl ?_
    refine z_dup M dt_X2_takesBehind_0.1.2.1.1 rfl ?_
    refine gf_X2_digits (σ := σ) M u189 dt_X2_takesBehind_0.1.2.1.2 (v := (σ.1 6)) rfl ?_
    refine z_iconst M dt_X2_takesBehind_0.1.2.2.1 ki_1 ?_
    refine z_iadd M dt_X2_takesBehind_0.1.2.2.2 ?_
    refine pf_X2_digits M u189 dt_X2_takesBehind_0.2.1.1.1 ?_
    refine z_aload_n M dt_X2_takesBehind_0.2.1.1.2 rfl 0 rfl ?_
    refine gf_X2_digits (σ := (zI σ 6 ((σ.1 6) + (1 : Int32)))) M u189 dt_X2_takesBehind_0.2.1.2.1 (v := ((σ.1 6) + (1 : Int32))) rfl ?_
    refine z_iconst M dt_X2_takesBehind_0.2.1.2.2 ki_1 ?_
    have hJ12 : G (zI σ 6 ((σ.1 6) + (1 : Int32))) [(0, .ref (a 13)), (1, .int p0)] 38 [.int (if ((σ.1 6) + (1 : Int32)) ≤ (1 : Int32) then (0 : Int32) else (if (3 : Int32) < ((σ.1 6) + (1 : Int32)) then (0 : Int32) else (1 : Int32)))] := by
      obtain rfl := Option.some.inj h
      exact z_zret M (nBo (boIte (Or.inl rfl) (boIte (Or.inl rfl) (Or.inr rfl)))) dt_X2_takesBehind_1.1.2.1.1
    refine z_icmp_le (tgt := 37) M dt_X2_takesBehind_0.2.2.1.1 (by decide) (fun hc10 => ?_) (fun hc10 => ?_)
    · refine z_iconst M dt_X2_takesBehind_1.1.1.2.2 ki_0 ?_
      exact (zTt hc10 hJ12)
    · refine z_aload_n M dt_X2_takesBehind_0.2.2.1.2 rfl 0 rfl ?_
      refine gf_X2_digits (σ := (zI σ 6 ((σ.1 6) + (1 : Int32)))) M u189 dt_X2_takesBehind_0.2.2.2.1 (v := ((σ.1 6) + (1 : Int32))) rfl ?_
      refine z_iconst M dt_X2_takesBehind_0.2.2.2.2 ki_3 ?_
      refine z_icmp_gt (tgt := 37) M dt_X2_takesBehind_1.1.1.1.1 (by decide) (fun hc11 => ?_) (fun hc11 => ?_)
      · refine z_iconst M dt_X2_takesBehind_1.1.1.2.2 ki_0 ?_
        exact (zTt hc11 (zTf hc10 hJ12))
      · refine z_iconst M dt_X2_takesBehind_1.1.1.1.2 ki_1 ?_
        refine z_goto (tgt := 38) M dt_X2_takesBehind_1.1.1.2.1 (by decide) ?_
        exact (zTf hc11 (zTf hc10 hJ12))
theorem k_X2_takesBehind {n : Nat} (M : zM l D zcl (zty cy) A ad (zR n) (cW a cy) own cc nL rt σo ov G) {p0 : Int32} {o : (Zst × Int32)} (h : f_X2_takesBehind σ p0 = some o) {index : Nat} (hl : Cond.methodLink own index yX2_takesBehind ∈ uw) (hR : 3 ≤ n) (hW : (st.map fun v => v.category).sum ≤ 8) (d : decode cc pc = .ok (.invokevirtual index, 3)) (kk : G o.1 lv (pc + 3) (.int o.2 :: st)) : G σ lv pc (.int p0 :: .ref (a 13) :: st) := z_callV M [.int p0] (m_X2_takesBehind (zM_hD M) h) (hC13 σ) rfl hl u92 u634 u633 u2 hd_X2_takesBehind hR (by decide) rfl hW d kk
set_option maxHeartbeats 4000000 in
set_option maxRecDepth 100000 in
theorem m_X2_isThing (hD : ∀ σ, va_D A (cW a cy σ)) (σ0 : Zst) (p0 : Int32) : zT l D zcl (zty cy) A ad (cW a cy) yX2_isThing cX2_isThing 2 (some .boolean) 1 [.ref (a 13), .int p0] σ0 σ0 (some (.int (f_X2_isThing σ0 p0))) := by
  obtain ⟨o, h⟩ : ∃ o, f_X2_isThing σ0 p0 = o := ⟨_, rfl⟩
  rw [h]
  refine z_met pn_X2 hD (Nat.le_of_ble_eq_true rfl) rfl (fun G M => ?_)
  refine z_iload_n M dt_X2_isThing_0.1.1.1.1 rfl 1 rfl ?_
  -- switch
  by_cases hs1 : p0 = (98 : Int32)
  · have h := gTt hs1 h
    refine z_tabIn (off := 117) (tgt := 118) M dt_X2_isThing_0.1.1.1.2 (by rw [hs1]; decide) (by rw [hs1]; decide) (by rw [hs1]; rfl) (by decide) ?_
    refine z_aload_n M dt_X2_isThing_0.1.2.1.1 rfl 0 rfl ?_
    refine gf_X2_which (σ := σ0) M u186 dt_X2_isThing_0.1.2.1.2 (v := (σ0.1 3)) rfl ?_
    have hJ3 : G σ0 [(0, .ref (a 13)), (1, .int p0)] 130 [.int (if (σ0.1 3) ≤ (0 : Int32) then (0 : Int32) else (1 : Int32))] := by
      subst h
      exact z_zret M (nBo (boIte (Or.inl rfl) (Or.inr rfl))) dt_X2_isThing_0.2.1.2.1
    refine z_if_le (tgt := 129) M dt_X2_isThing_0.1.2.2.1 (by decide) (fun hc2 => ?_) (fun hc2 => ?_)
    · refine z_iconst M dt_X2_isThing_0.2.1.1.2 ki_0 ?_
      exact (zTt hc2 hJ3)
    · refine z_iconst M dt_X2_isThing_0.1.2.2.2 ki_1 ?_
      refine z_goto (tgt := 130) M dt_X2_isThing_0.2.1.1.1 (by decide) ?_
      exact (zTf hc2 hJ3)
  · have h := gTf hs1 h
    by_cases hs4 : p0 = (101 : Int32)
    · have h := gTt hs4 h
      refine z_tabIn (off := 130) (tgt := 131) M dt_X2_isThing_0.1.1.1.2 (by rw [hs4]; decide) (by rw [hs4]; decide) (by rw [hs4]; rfl) (by decide) ?_
      refine z_aload_n M dt_X2_isThing_0.2.1.2.2 rfl 0 rfl ?_
      refine gf_X2_which (σ := σ0) M u186 dt_X2_isThing_0.2.2.1.1 (v := (σ0.1 3)) rfl ?_
      refine z_iconst M dt_X2_isThing_0.2.2.1.2 ki_1 ?_
      have hJ6 : G σ0 [(0, .ref (a 13)), (1, .int p0)] 144 [.int (if (σ0.1 3) ≤ (1 : Int32) then (0 : Int32) else (1 : Int32))] := by
        subst h
        exact z_zret M (nBo (boIte (Or.inl rfl) (Or.inr rfl))) dt_X2_isThing_1.1.2
      refine z_icmp_le (tgt := 143) M dt_X2_isThing_0.2.2.2.1 (by decide) (fun hc5 => ?_) (fun hc5 => ?_)
      · refine z_iconst M dt_X2_isThing_1.1.1.2 ki_0 ?_
        exact (zTt hc5 hJ6)
      · refine z_iconst M dt_X2_isThing_0.2.2.2.2 ki_1 ?_
        refine z_goto (tgt := 144) M dt_X2_isThing_1.1.1.1 (by decide) ?_
        exact (zTf hc5 hJ6)
    · have h := gTf hs4 h
      by_cases hs7 : p0 = (104 : Int32)
      · have h := gTt hs7 h
        refine z_tabIn (off := 115) (tgt := 116) M dt_X2_isThing_0.1.1.1.2 (by rw [hs7]; decide) (by rw [hs7]; decide) (by rw [hs7]; rfl) (by decide) ?_
        refine z_iconst M dt_X2_isThing_0.1.1.2.1 ki_1 ?_
        subst h
        exact z_zret M (nBo (Or.inr rfl)) dt_X2_isThing_0.1.1.2.2
      · have h := gTf hs7 h
        by_cases hs8 : p0 = (107 : Int32)
        · have h := gTt hs8 h
          refine z_tabIn (off := 115) (tgt := 116) M dt_X2_isThing_0.1.1.1.2 (by rw [hs8]; decide) (by rw [hs8]; decide) (by rw [hs8]; rfl) (by decide) ?_
          refine z_iconst M dt_X2_isThing_0.1.1.2.1 ki_1 ?_
          subst h
          exact z_zret M (nBo (Or.inr rfl)) dt_X2_isThing_0.1.1.2.2
        · have h := gTf hs8 h
          by_cases hs9 : p0 = (108 : Int32)
          · have h := gTt hs9 h
            refine z_tabIn (off := 115) (tgt := 116) M dt_X2_isThing_0.1.1.1.2 (by rw [hs9]; decide) (by rw [hs9]; decide) (by rw [hs9]; rfl) (by decide) ?_
            refine z_iconst M dt_X2_isThing_0.1.1.2.1 ki_1 ?_
            subst h
            exact z_zret M (nBo (Or.inr rfl)) dt_X2_isThing_0.1.1.2.2
          · have h := gTf hs9 h
            by_cases hs10 : p0 = (113 : Int32)
            · have h := gTt hs10 h
              refine z_tabIn (off := 115) (tgt := 116) M dt_X2_isThing_0.1.1.1.2 (by rw [hs10]; decide) (by rw [hs10]; decide) (by rw [hs10]; rfl) (by decide) ?_
              refine z_iconst M dt_X2_isThing_0.1.1.2.1 ki_1 ?_
              subst h
              exact z_zret M (nBo (Or.inr rfl)) dt_X2_isThing_0.1.1.2.2
            · have h := gTf hs10 h
              by_cases hs11 : p0 = (114 : Int32)
              · have h := gTt hs11 h
                refine z_tabIn (off := 115) (tgt := 116) M dt_X2_isThing_0.1.1.1.2 (by rw [hs11]; decide) (by rw [hs11]; decide) (by rw [hs11]; rfl) (by decide) ?_
                refine z_iconst M dt_X2_isThing_0.1.1.2.1 ki_1 ?_
                subst h
                exact z_zret M (nBo (Or.inr rfl)) dt_X2_isThing_0.1.1.2.2
              · have h := gTf hs11 h
                by_cases hs12 : p0 = (116 : Int32)
                · have h := gTt hs12 h
                  refine z_tabIn (off := 115) (tgt := 116) M dt_X2_isThing_0.1.1.1.2 (by rw [hs12]; decide) (by rw [hs12]; decide) (by rw [hs12]; rfl) (by decide) ?_
                  refine z_iconst M dt_X2_isThing_0.1.1.2.1 ki_1 ?_
                  subst h
                  exact z_zret M (nBo (Or.inr rfl)) dt_X2_isThing_0.1.1.2.2
                · have h := gTf hs12 h
                  by_cases hs13 : p0 = (119 : Int32)
                  · have h := gTt hs13 h
                    refine z_tabIn (off := 115) (tgt := 116) M dt_X2_isThing_0.1.1.1.2 (by rw [hs13]; decide) (by rw [hs13]; decide) (by rw [hs13]; rfl) (by decide) ?_
                    refine z_iconst M dt_X2_isThing_0.1.1.2.1 ki_1 ?_
                    subst h
                    exact z_zret M (nBo (Or.inr rfl)) dt_X2_isThing_0.1.1.2.2
                  · have h := gTf hs13 h
                    by_cases hs14 : p0 = (122 : Int32)
                    · have h := gTt hs14 h
                      refine z_tabIn (off := 115) (tgt := 116) M dt_X2_isThing_0.1.1.1.2 (by rw [hs14]; decide) (by rw [hs14]; decide) (by rw [hs14]; rfl) (by decide) ?_
                      refine z_iconst M dt_X2_isThing_0.1.1.2.1 ki_1 ?_
                      subst h
                      exact z_zret M (nBo (Or.inr rfl)) dt_X2_isThing_0.1.1.2.2
                    · have h := gTf hs14 h
                      have hD15 : G σ0 [(0, .ref (a 13)), (1, .int p0)] 145 [] := by
                        refine z_iconst M dt_X2_isThing_1.2.1 ki_0 ?_
                        subst h
                        exact z_zret M (nBo (Or.inl rfl)) dt_X2_isThing_1.2.2
                      by_cases hx : (Int32.toInt p0) < 98 ∨ 122 < (Int32.toInt p0)
                      · exact z_tabOut (tgt := 145) M dt_X2_isThing_0.1.1.1.2 hx (by decide) hD15
                      · obtain ⟨hx1, hx2⟩ := z_tabX hx
                        have hs1 : ¬ (Int32.toInt p0) = 98 := fun q => hs1 (Int32.toInt_inj.mp (q.trans (by decide)))
                        have hs4 : ¬ (Int32.toInt p0) = 101 := fun q => hs4 (Int32.toInt_inj.mp (q.trans (by decide)))
                        have hs7 : ¬ (Int32.toInt p0) = 104 := fun q => hs7 (Int32.toInt_inj.mp (q.trans (by decide)))
                        have hs8 : ¬ (Int32.toInt p0) = 107 := fun q => hs8 (Int32.toInt_inj.mp (q.trans (by decide)))
                        have hs9 : ¬ (Int32.toInt p0) = 108 := fun q => hs9 (Int32.toInt_inj.mp (q.trans (by decide)))
                        have hs10 : ¬ (Int32.toInt p0) = 113 := fun q => hs10 (Int32.toInt_inj.mp (q.trans (by decide)))
                        have hs11 : ¬ (Int32.toInt p0) = 114 := fun q => hs11 (Int32.toInt_inj.mp (q.trans (by decide)))
                        have hs12 : ¬ (Int32.toInt p0) = 116 := fun q => hs12 (Int32.toInt_inj.mp (q.trans (by decide)))
                        have hs13 : ¬ (Int32.toInt p0) = 119 := fun q => hs13 (Int32.toInt_inj.mp (q.trans (by decide)))
                        have hs14 : ¬ (Int32.toInt p0) = 122 := fun q => hs14 (Int32.toInt_inj.mp (q.trans (by decide)))
                        have hy : (Int32.toInt p0) = 99 ∨ (Int32.toInt p0) = 100 ∨ (Int32.toInt p0) = 102 ∨ (Int32.toInt p0) = 103 ∨ (Int32.toInt p0) = 105 ∨ (Int32.toInt p0) = 106 ∨ (Int32.toInt p0) = 109 ∨ (Int32.toInt p0) = 110 ∨ (Int32.toInt p0) = 111 ∨ (Int32.toInt p0) = 112 ∨ (Int32.toInt p0) = 115 ∨ (Int32.toInt p0) = 117 ∨ (Int32.toInt p0) = 118 ∨ (Int32.toInt p0) = 120 ∨ (Int32.toInt p0) = 121 := by omega
                        rcases hy with hy | hy | hy | hy | hy | hy | hy | hy | hy | hy | hy | hy | hy | hy | hy
                        · exact z_tabIn (off := 144) (tgt := 145) M dt_X2_isThing_0.1.1.1.2 hx1 hx2 (by rw [hy]; rfl) (by decide) hD15
                        · exact z_tabIn (off := 144) (tgt := 145) M dt_X2_isThing_0.1.1.1.2 hx1 hx2 (by rw [hy]; rfl) (by decide) hD15
                        · exact z_tabIn (off := 144) (tgt := 145) M dt_X2_isThing_0.1.1.1.2 hx1 hx2 (by rw [hy]; rfl) (by decide) hD15
                        · exact z_tabIn (off := 144) (tgt := 145) M dt_X2_isThing_0.1.1.1.2 hx1 hx2 (by rw [hy]; rfl) (by decide) hD15
                        · exact z_tabIn (off := 144) (tgt := 145) M dt_X2_isThing_0.1.1.1.2 hx1 hx2 (by rw [hy]; rfl) (by decide) hD15
                        · exact z_tabIn (off := 144) (tgt := 145) M dt_X2_isThing_0.1.1.1.2 hx1 hx2 (by rw [hy]; rfl) (by decide) hD15
                        · exact z_tabIn (off := 144) (tgt := 145) M dt_X2_isThing_0.1.1.1.2 hx1 hx2 (by rw [hy]; rfl) (by decide) hD15
                        · exact z_tabIn (off := 144) (tgt := 145) M dt_X2_isThing_0.1.1.1.2 hx1 hx2 (by rw [hy]; rfl) (by decide) hD15
                        · exact z_tabIn (off := 144) (tgt := 145) M dt_X2_isThing_0.1.1.1.2 hx1 hx2 (by rw [hy]; rfl) (by decide) hD15
                        · exact z_tabIn (off := 144) (tgt := 145) M dt_X2_isThing_0.1.1.1.2 hx1 hx2 (by rw [hy]; rfl) (by decide) hD15
                        · exact z_tabIn (off := 144) (tgt := 145) M dt_X2_isThing_0.1.1.1.2 hx1 hx2 (by rw [hy]; rfl) (by decide) hD15
                        · exact z_tabIn (off := 144) (tgt := 145) M dt_X2_isThing_0.1.1.1.2 hx1 hx2 (by rw [hy]; rfl) (by decide) hD15
                        · exact z_tabIn (off := 144) (tgt := 145) M dt_X2_isThing_0.1.1.1.2 hx1 hx2 (by rw [hy]; rfl) (by decide) hD15
                        · exact z_tabIn (off := 144) (tgt := 145) M dt_X2_isThing_0.1.1.1.2 hx1 hx2 (by rw [hy]; rfl) (by decide) hD15
                        · exact z_tabIn (off := 144) (tgt := 145) M dt_X2_isThing_0.1.1.1.2 hx1 hx2 (by rw [hy]; rfl) (by decide) hD15
theorem k_X2_isThing {n : Nat} (M : zM l D zcl (zty cy) A ad (zR n) (cW a cy) own cc nL rt σo ov G) {p0 : Int32} {index : Nat} (hl : Cond.methodLink own index yX2_isThing ∈ uw) (hR : 2 ≤ n) (hW : (st.map fun v => v.category).sum ≤ 8) (d : decode cc pc = .ok (.invokevirtual index, 3)) (kk : G σ lv (pc + 3) (.int (f_X2_isThing σ p0) :: st)) : G σ lv pc (.int p0 :: .ref (a 13) :: st) := z_callV M [.int p0] (m_X2_isThing (zM_hD M) σ p0) (hC13 σ) rfl hl u92 u630 u629 u1 hd_X2_isThing hR (by decide) rfl hW d kk
set_option maxHeartbeats 4000000 in
set_option maxRecDepth 100000 in
theorem m_X2_takesAhead (hD : ∀ σ, va_D A (cW a cy σ)) {σ : Zst} {p0 : Int32} {o : (Zst × Int32)} (h : f_X2_takesAhead σ p0 = some o) : zT l D zcl (zty cy) A ad (cW a cy) yX2_takesAhead cX2_takesAhead 2 (some .boolean) 2 [.ref (a 13), .int p0] σ o.1 (some (.int o.2)) := by
  refine z_met pn_X2 hD (Nat.le_of_ble_eq_true rfl) rfl (fun G M => ?_)
  refine z_iload_n M dt_X2_takesAhead_0.1.1.1.1 rfl 1 rfl ?_
  refine z_bipush M dt_X2_takesAhead_0.1.1.1.2 kb_33 ?_
  refine z_icmp_eq (tgt := 12) M dt_X2_takesAhead_0.1.1.2.1 (by decide) (fun hc => ?_) (fun hc => ?_)
  · have h := gIt hc h
    refine z_iconst M dt_X2_takesAhead_0.1.2.2.1 ki_1 ?_
    obtain rfl := Option.some.inj h
    exact z_zret M (nBo (Or.inr rfl)) dt_X2_takesAhead_0.1.2.2.2
  · have h := gIf hc h
    refine z_iload_n M dt_X2_takesAhead_0.1.1.2.2 rfl 1 rfl ?_
    refine z_bipush M dt_X2_takesAhead_0.1.2.1.1 kb_45 ?_
    refine z_icmp_ne (tgt := 14) M dt_X2_takesAhead_0.1.2.1.2 (by decide) (fun hc => ?_) (fun hc => ?_)
    · have h := gIf hc h
      refine z_iload_n M dt_X2_takesAhead_0.2.1.1.1 rfl 1 rfl ?_
      refine z_bipush M dt_X2_takesAhead_0.2.1.1.2 kb_40 ?_
      refine z_icmp_ne (tgt := 61) M dt_X2_takesAhead_0.2.1.2.1 (by decide) (fun hc => ?_) (fun hc => ?_)
      · have h := gIf hc h
        refine z_aload_n M dt_X2_takesAhead_2.1.2.1.1 rfl 0 rfl ?_
        refine z_iload_n M dt_X2_takesAhead_2.1.2.1.2 rfl 1 rfl ?_
        refine k_X2_isDigit M u624 (Nat.le_of_ble_eq_true rfl) (Nat.le_of_ble_eq_true rfl) dt_X2_takesAhead_2.1.2.2.1 ?_
        have hJ4 : G σ [(0, .ref (a 13)), (1, .int p0)] 74 [.int (if (f_X2_isDigit p0) = (0 : Int32) then (0 : Int32) else (1 : Int32)), .ref (a 13)] := by
          refine pf_X2_digits M u189 dt_X2_takesAhead_2.2.1.2.2 ?_
          refine z_aload_n M dt_X2_takesAhead_2.2.2.1.1 rfl 0 rfl ?_
          refine z_iconst M dt_X2_takesAhead_2.2.2.1.2 ki_0 ?_
          refine pf_X2_awaits M u187 rfl rfl dt_X2_takesAhead_2.2.2.2.1 ?_
          refine z_aload_n M dt_X2_takesAhead_2.2.2.2.2 rfl 0 rfl ?_
          refine gf_X2_digits (σ := (zI (zI σ 6 (if (f_X2_isDigit p0) = (0 : Int32) then (0 : Int32) else (1 : Int32))) 4 (0 : Int32))) M u189 dt_X2_takesAhead_3.1.1.1.1 (v := (if (f_X2_isDigit p0) = (0 : Int32) then (0 : Int32) else (1 : Int32))) rfl ?_
          refine z_iconst M dt_X2_takesAhead_3.1.1.1.2 ki_1 ?_
          have hJ7 : G (zI (zI σ 6 (if (f_X2_isDigit p0) = (0 : Int32) then (0 : Int32) else (1 : Int32))) 4 (0 : Int32)) [(0, .ref (a 13)), (1, .int p0)] 103 [.int (if (if (f_X2_isDigit p0) = (0 : Int32) then (0 : Int32) else (1 : Int32)) = (1 : Int32) then (1 : Int32) else (if (f_X2_isThing (zI (zI σ 6 (if (f_X2_isDigit p0) = (0 : Int32) then (0 : Int32) else (1 : Int32))) 4 (0 : Int32)) p0) = (0 : Int32) then (0 : Int32) else (1 : Int32)))] := by
            obtain rfl := Option.some.inj h
            exact z_zret M (nBo (boIte (Or.inr rfl) (boIte (Or.inl rfl) (Or.inr rfl)))) dt_X2_takesAhead_3.2.2.2
          refine z_icmp_eq (tgt := 98) M dt_X2_takesAhead_3.1.1.2 (by decide) (fun hc5 => ?_) (fun hc5 => ?_)
          · refine z_iconst M dt_X2_takesAhead_3.2.1.1.2 ki_1 ?_
            refine z_goto (tgt := 103) M dt_X2_takesAhead_3.2.1.2 (by decide) ?_
            exact (zTt hc5 hJ7)
          · refine z_aload_n M dt_X2_takesAhead_3.1.2.1.1 rfl 0 rfl ?_
            refine z_iload_n M dt_X2_takesAhead_3.1.2.1.2 rfl 1 rfl ?_
            refine k_X2_isThing M u627 (Nat.le_of_ble_eq_true rfl) (Nat.le_of_ble_eq_true rfl) dt_X2_takesAhead_3.1.2.2 ?_
            refine z_if_eq (tgt := 102) M dt_X2_takesAhead_3.2.1.1.1 (by decide) (fun hc6 => ?_) (fun hc6 => ?_)
            · refine z_iconst M dt_X2_takesAhead_3.2.2.1 ki_0 ?_
              exact (zTt hc6 (zTf hc5 hJ7))
            · refine z_iconst M dt_X2_takesAhead_3.2.1.1.2 ki_1 ?_
              refine z_goto (tgt := 103) M dt_X2_takesAhead_3.2.1.2 (by decide) ?_
              exact (zTf hc6 (zTf hc5 hJ7))
        refine z_if_eq (tgt := 73) M dt_X2_takesAhead_2.1.2.2.2 (by decide) (fun hc3 => ?_) (fun hc3 => ?_)
        · refine z_iconst M dt_X2_takesAhead_2.2.1.2.1 ki_0 ?_
          exact (zTt hc3 hJ4)
        · refine z_iconst M dt_X2_takesAhead_2.2.1.1.1 ki_1 ?_
          refine z_goto (tgt := 74) M dt_X2_takesAhead_2.2.1.1.2 (by decide) ?_
          exact (zTf hc3 hJ4)
      · have h := gIt hc h
        refine z_aload_n M dt_X2_takesAhead_0.2.1.2.2 rfl 0 rfl ?_
        refine z_dup M dt_X2_takesAhead_0.2.2.1.1 rfl ?_
        refine gf_X2_open (σ := σ) M u188 dt_X2_takesAhead_0.2.2.1.2 (v := (σ.1 5)) rfl ?_
        refine z_iconst M dt_X2_takesAhead_0.2.2.2.1 ki_1 ?_
        refine z_iadd M dt_X2_takesAhead_0.2.2.2.2 ?_
        refine pf_X2_open M u188 dt_X2_takesAhead_1.1.1.1.1 ?_
        refine z_aload_n M dt_X2_takesAhead_1.1.1.1.2 rfl 0 rfl ?_
        refine z_dup M dt_X2_takesAhead_1.1.1.2.1 rfl ?_
        refine gf_X2_compared (σ := (zI σ 5 ((σ.1 5) + (1 : Int32)))) M u190 dt_X2_takesAhead_1.1.1.2.2 (v := (σ.1 7)) rfl ?_
        refine z_iconst M dt_X2_takesAhead_1.1.2.1.1 ki_1 ?_
        refine z_aload_n M dt_X2_takesAhead_1.1.2.1.2 rfl 0 rfl ?_
        refine gf_X2_open (σ := (zI σ 5 ((σ.1 5) + (1 : Int32)))) M u188 dt_X2_takesAhead_1.1.2.2.1 (v := ((σ.1 5) + (1 : Int32))) rfl ?_
        refine z_ishl M dt_X2_takesAhead_1.1.2.2.2 ?_
        refine z_iconst M dt_X2_takesAhead_1.2.1.1.1 ki_m1 ?_
        refine z_ixor M dt_X2_takesAhead_1.2.1.1.2 ?_
        refine z_iand M dt_X2_takesAhead_1.2.1.2.1 ?_
        refine pf_X2_compared M u190 dt_X2_takesAhead_1.2.1.2.2 ?_
        refine z_aload_n M dt_X2_takesAhead_1.2.2.1.1 rfl 0 rfl ?_
        refine gf_X2_open (σ := (zI (zI σ 5 ((σ.1 5) + (1 : Int32))) 7 ((σ.1 7) &&& ((jShl (1 : Int32) ((σ.1 5) + (1 : Int32))) ^^^ (-1 : Int32))))) M u188 dt_X2_takesAhead_1.2.2.1.2 (v := ((σ.1 5) + (1 : Int32))) rfl ?_
        refine z_iconst M dt_X2_takesAhead_1.2.2.2.1 ki_5 ?_
        have hJ2 : G (zI (zI σ 5 ((σ.1 5) + (1 : Int32))) 7 ((σ.1 7) &&& ((jShl (1 : Int32) ((σ.1 5) + (1 : Int32))) ^^^ (-1 : Int32)))) [(0, .ref (a 13)), (1, .int p0)] 60 [.int (if (5 : Int32) < ((σ.1 5) + (1 : Int32)) then (0 : Int32) else (1 : Int32))] := by
          obtain rfl := Option.some.inj h
          exact z_zret M (nBo (boIte (Or.inl rfl) (Or.inr rfl))) dt_X2_takesAhead_2.1.1.2.2
        refine z_icmp_gt (tgt := 59) M dt_X2_takesAhead_1.2.2.2.2 (by decide) (fun hc1 => ?_) (fun hc1 => ?_)
        · refine z_iconst M dt_X2_takesAhead_2.1.1.2.1 ki_0 ?_
          exact (zTt hc1 hJ2)
        · refine z_iconst M dt_X2_takesAhead_2.1.1.1.1 ki_1 ?_
          refine z_goto (tgt := 60) M dt_X2_takesAhead_2.1.1.1.2 (by decide) ?_
          exact (zTf hc1 hJ2)
    · have h := gIt hc h
      refine z_iconst M dt_X2_takesAhead_0.1.2.2.1 ki_1 ?_
      obtain rfl := Option.some.inj h
      exact z_zret M (nBo (Or.inr rfl)) dt_X2_takesAhead_0.1.2.2.2
theorem k_X2_takesAhead {n : Nat} (M : zM l D zcl (zty cy) A ad (zR n) (cW a cy) own cc nL rt σo ov G) {p0 : Int32} {o : (Zst × Int32)} (h : f_X2_takesAhead σ p0 = some o) {index : Nat} (hl : Cond.methodLink own index yX2_takesAhead ∈ uw) (hR : 3 ≤ n) (hW : (st.map fun v => v.category).sum ≤ 8) (d : decode cc pc = .ok (.invokevirtual index, 3)) (kk : G o.1 lv (pc + 3) (.int o.2 :: st)) : G σ lv pc (.int p0 :: .ref (a 13) :: st) := z_callV M [.int p0] (m_X2_takesAhead (zM_hD M) h) (hC13 σ) rfl hl u92 u623 u622 u0 hd_X2_takesAhead hR (by decide) rfl hW d kk
set_option maxHeartbeats 4000000 in
set_option maxRecDepth 100000 in
theorem m_X2_takes (hD : ∀ σ, va_D A (cW a cy σ)) {σ : Zst} {p0 : Int32} {o : (Zst × Int32)} (h : f_X2_takes σ p0 = some o) : zT l D zcl (zty cy) A ad (cW a cy) yX2_takes cX2_takes 2 (some .boolean) 3 [.ref (a 13), .int p0] σ o.1 (some (.int o.2)) := by
  refine z_met pn_X2 hD (Nat.le_of_ble_eq_true rfl) rfl (fun G M => ?_)
  refine z_aload_n M dt_X2_takes_0.1.1.1.1 rfl 0 rfl ?_
  refine gf_X2_awaits (σ := σ) M u187 dt_X2_takes_0.1.1.1.2 (v := (σ.1 4)) rfl ?_
  refine z_if_eq (tgt := 15) M dt_X2_takes_0.1.1.2 (by decide) (fun hc => ?_) (fun hc => ?_)
  · have h := gIt hc h
    refine z_aload_n M dt_X2_takes_0.2.1.1.2 rfl 0 rfl ?_
    refine z_iload_n M dt_X2_takes_0.2.1.2 rfl 1 rfl ?_
    obtain ⟨t1, hc, h⟩ := gBd h
    refine k_X2_takesBehind M hc u631 (Nat.le_of_ble_eq_true rfl) (Nat.le_of_ble_eq_true rfl) dt_X2_takes_0.2.2.1 ?_
    have ⟨hg, h⟩ := gBo_s h
    obtain rfl := Option.some.inj h
    exact z_zret M (nBo hg) dt_X2_takes_0.2.2.2
  · have h := gIf hc h
    refine z_aload_n M dt_X2_takes_0.1.2.1.1 rfl 0 rfl ?_
    refine z_iload_n M dt_X2_takes_0.1.2.1.2 rfl 1 rfl ?_
    obtain ⟨t2, hc, h⟩ := gBd h
    refine k_X2_takesAhead M hc u620 (Nat.le_of_ble_eq_true rfl) (Nat.le_of_ble_eq_true rfl) dt_X2_takes_0.1.2.2 ?_
    refine z_goto (tgt := 20) M dt_X2_takes_0.2.1.1.1 (by decide) ?_
    have ⟨hg, h⟩ := gBo_s h
    obtain rfl := Option.some.inj h
    exact z_zret M (nBo hg) dt_X2_takes_0.2.2.2
theorem ku_Book_takes_X2_takes {n : Nat} (M : zM l D zcl (zty cy) A ad (zR n) (cW a cy) own cc nL rt σo ov G) {p0 : Int32} {o : (Zst × Int32)} (h : f_X2_takes σ p0 = some o) {index : Nat} (hl : Cond.methodLink own index (⟨RX1, "takes", "(I)Z"⟩ : MethodName) ∈ uw) (hR : 4 ≤ n) (hW : (st.map fun v => v.category).sum ≤ 8) (d : decode cc pc = .ok (.invokevirtual index, 3)) (kk : G o.1 lv (pc + 3) (.int o.2 :: st)) : G σ lv pc (.int p0 :: .ref (a 13) :: st) := z_callA M (owner := RX1) [.int p0] (m_X2_takes (zM_hD M) h) (hC13 σ) rfl hl u616 u617 u618 u92 u619 u615 (by refine ⟨by decide +kernel, by decide +kernel, ?_⟩; exact hp__I_Z) hR (by decide) rfl hW d kk
set_option maxHeartbeats 4000000 in
set_option maxRecDepth 100000 in
theorem wL_X1_wrongPlace_L_6 {o : (Zst × Int32)} (M : zM l D zcl (zty cy) A ad (zR 4) (cW a cy) RX1 cX1_wrongPlace 3 (some .int) o.1 (some (.int o.2)) G) {k40 : Zst → Option (Zst × Int32)}   (Hk40 : ∀ (σ : Zst), k40 σ = some o → G σ [(0, .ref (a 13)), (1, .ref (a 3))] 40 []) :
    ∀ (n6 : Nat) (σ : Zst) (v2 : Int32), L_X1_wrongPlace_L_6 k40 n6 σ v2 = some o → G σ [(0, .ref (a 13)), (1, .ref (a 3)), (2, .int v2)] 6 [] := by
  intro n6
  induction n6 with
  | zero => intro σ v2 h; exact nomatch (show (none : Option (Zst × Int32)) = some _ from h)
  | succ n6 ih =>
    intro σ v2 h
    refine z_iload_n M dt_X1_wrongPlace_0.1.2.1.1 rfl 2 rfl ?_
    refine z_aload_n M dt_X1_wrongPlace_0.1.2.1.2 rfl 1 rfl ?_
    refine k_X9_size M u606 (Nat.le_of_ble_eq_true rfl) (Nat.le_of_ble_eq_true rfl) dt_X1_wrongPlace_0.1.2.2.1 ?_
    refine z_icmp_ge (tgt := 40) M dt_X1_wrongPlace_0.1.2.2.2 (by decide) (fun hc => ?_) (fun hc => ?_)
    · have h := gIt hc h
      refine z_sub M [0, 1] (lv' := [(0, .ref (a 13)), (1, .ref (a 3))]) rfl ?_
      exact Hk40 σ h
    · have h := gIf hc h
      refine z_iload_n M dt_X1_wrongPlace_0.2.1.1.1 rfl 2 rfl ?_
      refine z_bipush M dt_X1_wrongPlace_0.2.1.1.2 kb_40 ?_
      refine z_icmp_ge (tgt := 40) M dt_X1_wrongPlace_0.2.1.2.1 (by decide) (fun hc => ?_) (fun hc => ?_)
      · have h := gIt hc h
        refine z_sub M [0, 1] (lv' := [(0, .ref (a 13)), (1, .ref (a 3))]) rfl ?_
        exact Hk40 σ h
      · have h := gIf hc h
        refine z_aload_n M dt_X1_wrongPlace_0.2.1.2.2 rfl 0 rfl ?_
        refine z_aload_n M dt_X1_wrongPlace_0.2.2.1.1 rfl 1 rfl ?_
        refine z_iload_n M dt_X1_wrongPlace_0.2.2.1.2 rfl 2 rfl ?_
        obtain ⟨t1, hc, h⟩ := gBd h
        refine k_X9_at M hc u610 (Nat.le_of_ble_eq_true rfl) (Nat.le_of_ble_eq_true rfl) dt_X1_wrongPlace_0.2.2.2.1 ?_
        obtain ⟨t2, hc, h⟩ := gBd h
        refine ku_Book_takes_X2_takes M hc u614 (Nat.le_of_ble_eq_true rfl) (Nat.le_of_ble_eq_true rfl) dt_X1_wrongPlace_0.2.2.2.2 ?_
        refine z_if_ne (tgt := 34) M dt_X1_wrongPlace_1.1.1.1.1 (by decide) (fun hc => ?_) (fun hc => ?_)
        · have h := gIf hc h
          refine z_iinc (v := (v2 + (1 : Int32))) (lv' := [(2, .int (v2 + (1 : Int32))), (0, .ref (a 13)), (1, .ref (a 3))]) M dt_X1_wrongPlace_1.1.1.2.2 (k := 2) rfl (congrArg (fun q => v2 + q) ki_1) (by decide) rfl ?_
          refine z_goto (tgt := 6) M dt_X1_wrongPlace_1.1.2.1.1 (by decide) ?_
          refine z_sub M [1, 2, 0] (lv' := [(0, .ref (a 13)), (1, .ref (a 3)), (2, .int (v2 + (1 : Int32)))]) rfl ?_
          exact ih t2.1 (v2 + (1 : Int32)) h
        · have h := gIt hc h
          refine z_iload_n M dt_X1_wrongPlace_1.1.1.1.2 rfl 2 rfl ?_
          obtain rfl := Option.some.inj h
          exact z_iret M dt_X1_wrongPlace_1.1.1.2.1
set_option maxHeartbeats 4000000 in
set_option maxRecDepth 100000 in
theorem wJ_X1_wrongPlace_L_40 {o : (Zst × Int32)} (M : zM l D zcl (zty cy) A ad (zR 4) (cW a cy) RX1 cX1_wrongPlace 3 (some .int) o.1 (some (.int o.2)) G) (σ : Zst)   (h : J_X1_wrongPlace_L_40 σ = some o) : G σ [(0, .ref (a 13)), (1, .ref (a 3))] 40 [] := by
  refine z_aload_n M dt_X1_wrongPlace_1.1.2.1.2 rfl 1 rfl ?_
  refine k_X9_size M u606 (Nat.le_of_ble_eq_true rfl) (Nat.le_of_ble_eq_true rfl) dt_X1_wrongPlace_1.1.2.2.1 ?_
  refine z_bipush M dt_X1_wrongPlace_1.1.2.2.2 kb_40 ?_
  refine z_icmp_le (tgt := 52) M dt_X1_wrongPlace_1.2.1.1.1 (by decide) (fun hc => ?_) (fun hc => ?_)
  · have h := gIt hc h
    refine z_aload_n M dt_X1_wrongPlace_1.2.1.2.2 rfl 0 rfl ?_
    refine ku_Book_couldEnd_X2_couldEnd M u734 (Nat.le_of_ble_eq_true rfl) (Nat.le_of_ble_eq_true rfl) dt_X1_wrongPlace_1.2.2.1.1 ?_
    have hJ4 : G σ [(0, .ref (a 13)), (1, .ref (a 3))] 67 [.int (if (f_X2_couldEnd σ) = (0 : Int32) then (f_X9_size σ) else (-1 : Int32))] := by
      obtain rfl := Option.some.inj h
      exact z_iret M dt_X1_wrongPlace_2.2
    refine z_if_eq (tgt := 63) M dt_X1_wrongPlace_1.2.2.1.2 (by decide) (fun hc3 => ?_) (fun hc3 => ?_)
    · refine z_aload_n M dt_X1_wrongPlace_2.1.1 rfl 1 rfl ?_
      refine k_X9_size M u606 (Nat.le_of_ble_eq_true rfl) (Nat.le_of_ble_eq_true rfl) dt_X1_wrongPlace_2.1.2 ?_
      exact (zTt hc3 hJ4)
    · refine z_iconst M dt_X1_wrongPlace_1.2.2.2.1 ki_m1 ?_
      refine z_goto (tgt := 67) M dt_X1_wrongPlace_1.2.2.2.2 (by decide) ?_
      exact (zTf hc3 hJ4)
  · have h := gIf hc h
    refine z_bipush M dt_X1_wrongPlace_1.2.1.1.2 kb_40 ?_
    obtain rfl := Option.some.inj h
    exact z_iret M dt_X1_wrongPlace_1.2.1.2.1
set_option maxHeartbeats 4000000 in
set_option maxRecDepth 100000 in
theorem m_X1_wrongPlace_L (hD : ∀ σ, va_D A (cW a cy σ)) {σ : Zst}  {o : (Zst × Int32)} (h : f_X1_wrongPlace_L σ = some o) : zT l D zcl (zty cy) A ad (cW a cy) yX1_wrongPlace cX1_wrongPlace 3 (some .int) 4 [.ref (a 13), .ref (a 3)] σ o.1 (some (.int o.2)) := by
  refine z_met pn_X1 hD (Nat.le_of_ble_eq_true rfl) rfl (fun G M => ?_)
  refine z_aload_n M dt_X1_wrongPlace_0.1.1.1.1 rfl 0 rfl ?_
  obtain ⟨t5, hc, h⟩ := gBd h
  refine ku_Book_begin_X2_begin M hc u597 (Nat.le_of_ble_eq_true rfl) (Nat.le_of_ble_eq_true rfl) dt_X1_wrongPlace_0.1.1.1.2 ?_
  refine z_iconst M dt_X1_wrongPlace_0.1.1.2.1 ki_0 ?_
  refine z_istore_n (lv' := [(2, .int (0 : Int32)), (0, .ref (a 13)), (1, .ref (a 3))]) M dt_X1_wrongPlace_0.1.1.2.2 rfl (by decide) rfl ?_
  refine z_sub M [1, 2, 0] (lv' := [(0, .ref (a 13)), (1, .ref (a 3)), (2, .int (0 : Int32))]) rfl ?_
  exact wL_X1_wrongPlace_L_6 M (k40 := (fun σ6 => J_X1_wrongPlace_L_40 σ6)) (fun σ6 h => by
      exact wJ_X1_wrongPlace_L_40 M  σ6 h) zFu t5 (0 : Int32) h
theorem ku_X1_wrongPlace_X1_wrongPlace_L {n : Nat} (M : zM l D zcl (zty cy) A ad (zR n) (cW a cy) own cc nL rt σo ov G)  {o : (Zst × Int32)} (h : f_X1_wrongPlace_L σ = some o) {index : Nat} (hl : Cond.methodLink own index (⟨RX1, "wrongPlace", "(LBinsThatTell$Text;)I"⟩ : MethodName) ∈ uw) (hR : 5 ≤ n) (hW : (st.map fun v => v.category).sum ≤ 8) (d : decode cc pc = .ok (.invokevirtual index, 3)) (kk : G o.1 lv (pc + 3) (.int o.2 :: st)) : G σ lv pc (.ref (a 3) :: .ref (a 13) :: st) := z_callU M (owner := RX1) [.ref (a 3)] (m_X1_wrongPlace_L (zM_hD M) h) (hC13 σ) rfl hl u2163 uX0 u595 u91 u596 rfl (by refine ⟨by decide +kernel, by decide +kernel, ?_⟩; exact hp__LBinsThatTell_Text__I) hR (by decide) rfl hW d kk
set_option maxHeartbeats 4000000 in
set_option maxRecDepth 100000 in
theorem wL_X1_write_L_25 {o : (Zst × Int32)} (M : zM l D zcl (zty cy) A ad (zR 5) (cW a cy) RX1 cX1_write 5 (some .int) o.1 (some (.int o.2)) G) {k65 : Zst → Option (Zst × Int32)}  (v1 : Int32) (Hk65 : ∀ (σ : Zst), k65 σ = some o → G σ [(0, .ref (a 13)), (1, .int v1), (2, .ref (a 3))] 65 []) :
    ∀ (n25 : Nat) (σ : Zst) (v4 : Int32), L_X1_write_L_25 k65 v1 n25 σ v4 = some o → G σ [(0, .ref (a 13)), (1, .int v1), (2, .ref (a 3)), (4, .int v4)] 25 [] := by
  intro n25
  induction n25 with
  | zero => intro σ v4 h; exact nomatch (show (none : Option (Zst × Int32)) = some _ from h)
  | succ n25 ih =>
    intro σ v4 h
    refine z_iload M dt_X1_write_1.1.1.1.1 3 rfl ?_
    refine z_aload_n M dt_X1_write_1.1.1.1.2 rfl 2 rfl ?_
    refine k_X9_size M u606 (Nat.le_of_ble_eq_true rfl) (Nat.le_of_ble_eq_true rfl) dt_X1_write_1.1.1.2.1 ?_
    refine z_icmp_ge (tgt := 65) M dt_X1_write_1.1.1.2.2 (by decide) (fun hc => ?_) (fun hc => ?_)
    · have h := gIt hc h
      refine z_sub M [0, 1, 2] (lv' := [(0, .ref (a 13)), (1, .int v1), (2, .ref (a 3))]) rfl ?_
      exact Hk65 σ h
    · have h := gIf hc h
      refine z_iload M dt_X1_write_1.1.2.1.1 3 rfl ?_
      refine z_bipush M dt_X1_write_1.1.2.1.2 kb_40 ?_
      refine z_icmp_ge (tgt := 65) M dt_X1_write_1.1.2.2.1 (by decide) (fun hc => ?_) (fun hc => ?_)
      · have h := gIt hc h
        refine z_sub M [0, 1, 2] (lv' := [(0, .ref (a 13)), (1, .int v1), (2, .ref (a 3))]) rfl ?_
        exact Hk65 σ h
      · have h := gIf hc h
        refine z_aload_n M dt_X1_write_1.1.2.2.2 rfl 0 rfl ?_
        refine gf_X2_signs M u193 dt_X1_write_1.2.1.1.1 ?_
        refine z_iload_n M dt_X1_write_1.2.1.1.2 rfl 1 rfl ?_
        refine z_bipush M dt_X1_write_1.2.1.2.1 kb_40 ?_
        refine z_imul M dt_X1_write_1.2.1.2.2 ?_
        refine z_iload M dt_X1_write_1.2.2.1.1 3 rfl ?_
        refine z_iadd M dt_X1_write_1.2.2.1.2 ?_
        refine z_aload_n M dt_X1_write_1.2.2.2.1 rfl 2 rfl ?_
        refine z_iload M dt_X1_write_1.2.2.2.2 3 rfl ?_
        obtain ⟨t1, hc, h⟩ := gBd h
        refine k_X9_at M hc u610 (Nat.le_of_ble_eq_true rfl) (Nat.le_of_ble_eq_true rfl) dt_X1_write_2.1.1.1.1 ?_
        have ⟨hg, h⟩ := gIx_s h
        refine as_C14 (σ := σ) M (f := (σ.2.1 7)) rfl hg dt_X1_write_2.1.1.1.2 ?_
        refine z_iinc (v := (v4 + (1 : Int32))) (lv' := [(4, .int (v4 + (1 : Int32))), (0, .ref (a 13)), (1, .int v1), (2, .ref (a 3))]) M dt_X1_write_2.1.1.2 (k := 3) rfl (congrArg (fun q => v4 + q) ki_1) (by decide) rfl ?_
        refine z_goto (tgt := 25) M dt_X1_write_2.1.2.1.1 (by decide) ?_
        refine z_sub M [1, 2, 3, 0] (lv' := [(0, .ref (a 13)), (1, .int v1), (2, .ref (a 3)), (4, .int (v4 + (1 : Int32)))]) rfl ?_
        exact ih (zA σ 7 (upd (σ.2.1 7) (Int32.toNatClampNeg ((v1 * (40 : Int32)) + v4)) t1)) (v4 + (1 : Int32)) h
set_option maxHeartbeats 4000000 in
set_option maxRecDepth 100000 in
theorem wJ_X1_write_L_65 {o : (Zst × Int32)} (M : zM l D zcl (zty cy) A ad (zR 5) (cW a cy) RX1 cX1_write 5 (some .int) o.1 (some (.int o.2)) G) (σ : Zst) (v1 : Int32)  (h : J_X1_write_L_65 σ v1 = some o) : G σ [(0, .ref (a 13)), (1, .int v1), (2, .ref (a 3))] 65 [] := by
  refine z_aload_n M dt_X1_write_2.1.2.1.2 rfl 0 rfl ?_
  refine gf_X2_sizes M u194 dt_X1_write_2.1.2.2 ?_
  refine z_iload_n M dt_X1_write_2.2.1.1.1 rfl 1 rfl ?_
  refine z_aload_n M dt_X1_write_2.2.1.1.2 rfl 2 rfl ?_
  refine k_X9_size M u606 (Nat.le_of_ble_eq_true rfl) (Nat.le_of_ble_eq_true rfl) dt_X1_write_2.2.1.2 ?_
  have ⟨hg, h⟩ := gIx_s h
  refine as_C15 (σ := σ) M (f := (σ.2.1 8)) rfl hg dt_X1_write_2.2.2.1.1 ?_
  refine z_iconst M dt_X1_write_2.2.2.1.2 ki_0 ?_
  obtain rfl := Option.some.inj h
  exact z_iret M dt_X1_write_2.2.2.2
set_option maxHeartbeats 4000000 in
set_option maxRecDepth 100000 in
theorem m_X1_write_L (hD : ∀ σ, va_D A (cW a cy σ)) {σ : Zst} {p0 : Int32} {o : (Zst × Int32)} (h : f_X1_write_L σ p0 = some o) : zT l D zcl (zty cy) A ad (cW a cy) yX1_write cX1_write 5 (some .int) 5 [.ref (a 13), .int p0, .ref (a 3)] σ o.1 (some (.int o.2)) := by
  refine z_met pn_X1 hD (Nat.le_of_ble_eq_true rfl) rfl (fun G M => ?_)
  refine z_aload_n M dt_X1_write_0.1.1.1.1 rfl 0 rfl ?_
  refine z_aload_n M dt_X1_write_0.1.1.1.2 rfl 2 rfl ?_
  obtain ⟨t2, hc, h⟩ := gBd h
  refine ku_X1_wrongPlace_X1_wrongPlace_L M hc u593 (Nat.le_of_ble_eq_true rfl) (Nat.le_of_ble_eq_true rfl) dt_X1_write_0.1.1.2.1 ?_
  refine z_istore_n (lv' := [(3, .int t2.2), (0, .ref (a 13)), (1, .int p0), (2, .ref (a 3))]) M dt_X1_write_0.1.1.2.2 rfl (by decide) rfl ?_
  refine z_iload_n M dt_X1_write_0.1.2.1.1 rfl 0 rfl ?_
  refine z_if_lt (tgt := 14) M dt_X1_write_0.1.2.1.2 (by decide) (fun hc => ?_) (fun hc => ?_)
  · have h := gIt hc h
    refine z_aload_n M dt_X1_write_0.2.1.2.1 rfl 1 rfl ?_
    refine z_iload_n M dt_X1_write_0.2.1.2.2 rfl 2 rfl ?_
    refine ku_X1_isText_X1_isText_L M u743 (Nat.le_of_ble_eq_true rfl) (Nat.le_of_ble_eq_true rfl) dt_X1_write_0.2.2.1.1 ?_
    refine z_if_eq (tgt := 75) M dt_X1_write_0.2.2.1.2 (by decide) (fun hc => ?_) (fun hc => ?_)
    · have h := gIt hc h
      refine z_iconst M dt_X1_write_2.2.2.1.2 ki_0 ?_
      obtain rfl := Option.some.inj h
      exact z_iret M dt_X1_write_2.2.2.2
    · have h := gIf hc h
      refine z_iconst M dt_X1_write_0.2.2.2.1 ki_0 ?_
      refine z_istore (lv' := [(4, .int (0 : Int32)), (3, .int t2.2), (0, .ref (a 13)), (1, .int p0), (2, .ref (a 3))]) M dt_X1_write_0.2.2.2.2 (by decide) rfl ?_
      refine z_sub M [2, 3, 4, 0] (lv' := [(0, .ref (a 13)), (1, .int p0), (2, .ref (a 3)), (4, .int (0 : Int32))]) rfl ?_
      exact wL_X1_write_L_25 M (k65 := (fun σ3 => J_X1_write_L_65 σ3 p0)) p0 (fun σ3 h => by
          exact wJ_X1_write_L_65 M  σ3 p0 h) zFu t2.1 (0 : Int32) h
  · have h := gIf hc h
    refine z_iconst M dt_X1_write_0.1.2.2.1 ki_m1 ?_
    refine z_iload_n M dt_X1_write_0.1.2.2.2 rfl 0 rfl ?_
    refine z_isub M dt_X1_write_0.2.1.1.1 ?_
    obtain rfl := Option.some.inj h
    exact z_iret M dt_X1_write_0.2.1.1.2
theorem ku_Laws_write_X1_write_L {n : Nat} (M : zM l D zcl (zty cy) A ad (zR n) (cW a cy) own cc nL rt σo ov G) {p0 : Int32} {o : (Zst × Int32)} (h : f_X1_write_L σ p0 = some o) {index : Nat} (hl : Cond.methodLink own index (⟨RX2, "write", "(ILBinsThatTell$Text;)I"⟩ : MethodName) ∈ uw) (hR : 6 ≤ n) (hW : (st.map fun v => v.category).sum ≤ 8) (d : decode cc pc = .ok (.invokevirtual index, 3)) (kk : G o.1 lv (pc + 3) (.int o.2 :: st)) : G σ lv pc (.ref (a 3) :: .int p0 :: .ref (a 13) :: st) := z_callU M (owner := RX1) [.int p0, .ref (a 3)] (m_X1_write_L (zM_hD M) h) (hC13 σ) rfl hl u588 u590 u591 u91 u592 rfl (by refine ⟨by decide +kernel, by decide +kernel, ?_⟩; exact hp__ILBinsThatTell_Text__I) hR (by decide) rfl hW d kk
set_option maxHeartbeats 4000000 in
set_option maxRecDepth 100000 in
theorem m_X2_enact (hD : ∀ σ, va_D A (cW a cy σ)) {σ : Zst} {p0 : Int32} {o : (Zst × Int32)} (h : f_X2_enact σ p0 = some o) : zT l D zcl (zty cy) A ad (cW a cy) yX2_enact cX2_enact 3 (some .int) 6 [.ref (a 13), .int p0, .ref (a 3)] σ o.1 (some (.int o.2)) := by
  refine z_met pn_X2 hD (Nat.le_of_ble_eq_true rfl) rfl (fun G M => ?_)
  refine z_aload_n M dt_X2_enact_0.1.1.1 rfl 0 rfl ?_
  refine z_iload_n M dt_X2_enact_0.1.1.2 rfl 1 rfl ?_
  refine pf_X2_which M u186 dt_X2_enact_0.1.2.1 ?_
  refine z_aload_n M dt_X2_enact_0.1.2.2 rfl 0 rfl ?_
  refine z_iload_n M dt_X2_enact_0.2.1.1 rfl 1 rfl ?_
  refine z_aload_n M dt_X2_enact_0.2.1.2 rfl 2 rfl ?_
  obtain ⟨t1, hc, h⟩ := gBd h
  refine ku_Laws_write_X1_write_L M hc u587 (Nat.le_of_ble_eq_true rfl) (Nat.le_of_ble_eq_true rfl) dt_X2_enact_0.2.2.1 ?_
  obtain rfl := Option.some.inj h
  exact z_iret M dt_X2_enact_0.2.2.2
theorem k_X2_enact {n : Nat} (M : zM l D zcl (zty cy) A ad (zR n) (cW a cy) own cc nL rt σo ov G) {p0 : Int32} {o : (Zst × Int32)} (h : f_X2_enact σ p0 = some o) {index : Nat} (hl : Cond.methodLink own index yX2_enact ∈ uw) (hR : 7 ≤ n) (hW : (st.map fun v => v.category).sum ≤ 8) (d : decode cc pc = .ok (.invokevirtual index, 3)) (kk : G o.1 lv (pc + 3) (.int o.2 :: st)) : G σ lv pc (.ref (a 3) :: .int p0 :: .ref (a 13) :: st) := z_callV M [.int p0, .ref (a 3)] (m_X2_enact (zM_hD M) h) (hC13 σ) rfl hl u92 u586 u584 u585 hd_X2_enact hR (by decide) rfl hW d kk
set_option maxHeartbeats 4000000 in
set_option maxRecDepth 100000 in
theorem wJ_X11_law_28 {o : (Zst × Int32)} (M : zM l D zcl (zty cy) A ad (zR 7) (cW a cy) RX11 cX11_law 3 (some .int) o.1 (some (.int o.2)) G) (σ : Zst) (s0 : Int32)  (h : J_X11_law_28 σ s0 = some o) : G σ [(0, .ref (a 0))] 28 [.int s0] := by
  refine z_istore_n (lv' := [(2, .int s0), (0, .ref (a 0))]) M dt_X11_law_0.2.2.1.2 rfl (by decide) rfl ?_
  refine z_aload_n M dt_X11_law_0.2.2.2.1 rfl 1 rfl ?_
  refine gf_X11_theText M u431 dt_X11_law_0.2.2.2.2 ?_
  refine z_iconst M dt_X11_law_1.1.1.1 ki_0 ?_
  obtain ⟨t1, hc, h⟩ := gBd h
  refine k_X9_cut M hc u565 (Nat.le_of_ble_eq_true rfl) (Nat.le_of_ble_eq_true rfl) dt_X11_law_1.1.1.2 ?_
  refine z_pop M dt_X11_law_1.1.2 rfl ?_
  refine z_iload_n M dt_X11_law_1.2.1 rfl 0 rfl ?_
  obtain rfl := Option.some.inj h
  exact z_iret M dt_X11_law_1.2.2
set_option maxHeartbeats 4000000 in
set_option maxRecDepth 100000 in
theorem m_X11_law (hD : ∀ σ, va_D A (cW a cy σ)) {σ : Zst} {p0 : Int32} {o : (Zst × Int32)} (h : f_X11_law σ p0 = some o) : zT l D zcl (zty cy) A ad (cW a cy) yX11_law cX11_law 3 (some .int) 7 [.ref (a 0), .int p0] σ o.1 (some (.int o.2)) := by
  refine z_met pn_X11 hD (Nat.le_of_ble_eq_true rfl) rfl (fun G M => ?_)
  refine z_aload_n M dt_X11_law_0.1.1.1.1 rfl 0 rfl ?_
  refine gf_X11_laws M u433 dt_X11_law_0.1.1.1.2 ?_
  refine z_iload_n M dt_X11_law_0.1.1.2.1 rfl 1 rfl ?_
  refine k_X2_isLaw M u573 (Nat.le_of_ble_eq_true rfl) (Nat.le_of_ble_eq_true rfl) dt_X11_law_0.1.1.2.2 ?_
  refine z_if_eq (tgt := 26) M dt_X11_law_0.1.2.1.1 (by decide) (fun hc => ?_) (fun hc => ?_)
  · have h := gIt hc h
    refine z_bipush M dt_X11_law_0.2.2.1.1 kb_m100 ?_
    refine z_sub M [0] (lv' := [(0, .ref (a 0))]) rfl ?_
    exact wJ_X11_law_28 M  σ (-100 : Int32) h
  · have h := gIf hc h
    refine z_aload_n M dt_X11_law_0.1.2.1.2 rfl 0 rfl ?_
    refine gf_X11_laws M u433 dt_X11_law_0.1.2.2.1 ?_
    refine z_iload_n M dt_X11_law_0.1.2.2.2 rfl 1 rfl ?_
    refine z_aload_n M dt_X11_law_0.2.1.1.1 rfl 0 rfl ?_
    refine gf_X11_theText M u431 dt_X11_law_0.2.1.1.2 ?_
    obtain ⟨t2, hc, h⟩ := gBd h
    refine k_X2_enact M hc u583 (Nat.le_of_ble_eq_true rfl) (Nat.le_of_ble_eq_true rfl) dt_X11_law_0.2.1.2.1 ?_
    refine z_goto (tgt := 28) M dt_X11_law_0.2.1.2.2 (by decide) ?_
    refine z_sub M [0] (lv' := [(0, .ref (a 0))]) rfl ?_
    exact wJ_X11_law_28 M  t2.1 t2.2 h
set_option maxHeartbeats 4000000 in
set_option maxRecDepth 100000 in
theorem m_X10_hasStreet (hD : ∀ σ, va_D A (cW a cy σ)) (σ0 : Zst) (p0 : Int32) : zT l D zcl (zty cy) A ad (cW a cy) yX10_hasStreet cX10_hasStreet 2 (some .boolean) 1 [.ref (a 17), .int p0] σ0 σ0 (some (.int (f_X10_hasStreet σ0 p0))) := by
  obtain ⟨o, h⟩ : ∃ o, f_X10_hasStreet σ0 p0 = o := ⟨_, rfl⟩
  rw [h]
  refine z_met pn_X10 hD (Nat.le_of_ble_eq_true rfl) rfl (fun G M => ?_)
  refine z_iload_n M dt_X10_hasStreet_0.1.1.1.1 rfl 1 rfl ?_
  have hJ3 : G σ0 [(0, .ref (a 17)), (1, .int p0)] 17 [.int (if p0 < (0 : Int32) then (0 : Int32) else (if (σ0.1 11) ≤ p0 then (0 : Int32) else (1 : Int32)))] := by
    subst h
    exact z_zret M (nBo (boIte (Or.inl rfl) (boIte (Or.inl rfl) (Or.inr rfl)))) dt_X10_hasStreet_0.2.2.2
  refine z_if_lt (tgt := 16) M dt_X10_hasStreet_0.1.1.1.2 (by decide) (fun hc1 => ?_) (fun hc1 => ?_)
  · refine z_iconst M dt_X10_hasStreet_0.2.2.1 ki_0 ?_
    exact (zTt hc1 hJ3)
  · refine z_iload_n M dt_X10_hasStreet_0.1.1.2 rfl 1 rfl ?_
    refine z_aload_n M dt_X10_hasStreet_0.1.2.1 rfl 0 rfl ?_
    refine gf_X10_streets (σ := σ0) M u236 dt_X10_hasStreet_0.1.2.2 (v := (σ0.1 11)) rfl ?_
    refine z_icmp_ge (tgt := 16) M dt_X10_hasStreet_0.2.1.1.1 (by decide) (fun hc2 => ?_) (fun hc2 => ?_)
    · refine z_iconst M dt_X10_hasStreet_0.2.2.1 ki_0 ?_
      exact (zTt hc2 (zTf hc1 hJ3))
    · refine z_iconst M dt_X10_hasStreet_0.2.1.1.2 ki_1 ?_
      refine z_goto (tgt := 17) M dt_X10_hasStreet_0.2.1.2 (by decide) ?_
      exact (zTf hc2 (zTf hc1 hJ3))
theorem k_X10_hasStreet {n : Nat} (M : zM l D zcl (zty cy) A ad (zR n) (cW a cy) own cc nL rt σo ov G) {p0 : Int32} {index : Nat} (hl : Cond.methodLink own index yX10_hasStreet ∈ uw) (hR : 2 ≤ n) (hW : (st.map fun v => v.category).sum ≤ 8) (d : decode cc pc = .ok (.invokevirtual index, 3)) (kk : G σ lv (pc + 3) (.int (f_X10_hasStreet σ p0) :: st)) : G σ lv pc (.int p0 :: .ref (a 17) :: st) := z_callV M [.int p0] (m_X10_hasStreet (zM_hD M) σ p0) (hC17 σ) rfl hl u93 u756 u754 u755 hd_X10_hasStreet hR (by decide) rfl hW d kk
set_option maxHeartbeats 4000000 in
set_option maxRecDepth 100000 in
theorem m_X2_let (hD : ∀ σ, va_D A (cW a cy σ)) {σ : Zst} {p0 : Int32} {p1 : Int32} {o : Zst} (h : f_X2_let σ p0 p1 = some o) : zT l D zcl (zty cy) A ad (cW a cy) yX2_let cX2_let 4 none 1 [.ref (a 13), .int p0, .int p1] σ o none := by
  refine z_met pn_X2 hD (Nat.le_of_ble_eq_true rfl) rfl (fun G M => ?_)
  refine z_iload_n M dt_X2_let_0.1.1.1.1 rfl 1 rfl ?_
  refine z_bipush M dt_X2_let_0.1.1.1.2 kb_97 ?_
  refine z_isub M dt_X2_let_0.1.1.2.1 ?_
  refine z_istore_n (lv' := [(3, .int (p0 - (97 : Int32))), (0, .ref (a 13)), (1, .int p0), (2, .int p1)]) M dt_X2_let_0.1.1.2.2 rfl (by decide) rfl ?_
  refine z_iload_n M dt_X2_let_0.1.2.1.1 rfl 0 rfl ?_
  refine z_if_lt (tgt := 25) M dt_X2_let_0.1.2.1.2 (by decide) (fun hc => ?_) (fun hc => ?_)
  · have h := gIt hc h
    obtain rfl := Option.some.inj h
    exact z_vret M dt_X2_let_1
  · have h := gIf hc h
    refine z_iload_n M dt_X2_let_0.1.2.2.1 rfl 0 rfl ?_
    refine z_aload_n M dt_X2_let_0.1.2.2.2 rfl 1 rfl ?_
    refine gf_X2_known M u185 dt_X2_let_0.2.1.1.1 ?_
    refine ln_C16 M dt_X2_let_0.2.1.1.2 ?_
    refine z_icmp_ge (tgt := 25) M dt_X2_let_0.2.1.2.1 (by decide) (fun hc => ?_) (fun hc => ?_)
    · have h := gIt hc h
      obtain rfl := Option.some.inj h
      exact z_vret M dt_X2_let_1
    · have h := gIf hc h
      refine z_aload_n M dt_X2_let_0.2.1.2.2 rfl 1 rfl ?_
      refine gf_X2_known M u185 dt_X2_let_0.2.2.1.1 ?_
      refine z_iload_n M dt_X2_let_0.2.2.1.2 rfl 0 rfl ?_
      refine z_iload_n M dt_X2_let_0.2.2.2.1 rfl 3 rfl ?_
      have ⟨hg, h⟩ := gIx_s h
      refine as_C16 (σ := σ) M (f := (σ.2.1 9)) rfl hg dt_X2_let_0.2.2.2.2 ?_
      obtain rfl := Option.some.inj h
      exact z_vret M dt_X2_let_1
theorem k_X2_let {n : Nat} (M : zM l D zcl (zty cy) A ad (zR n) (cW a cy) own cc nL rt σo ov G) {p0 : Int32} {p1 : Int32} {o : Zst} (h : f_X2_let σ p0 p1 = some o) {index : Nat} (hl : Cond.methodLink own index yX2_let ∈ uw) (hR : 2 ≤ n) (hW : (st.map fun v => v.category).sum ≤ 8) (d : decode cc pc = .ok (.invokevirtual index, 3)) (kk : G o lv (pc + 3) (st)) : G σ lv pc (.int p1 :: .int p0 :: .ref (a 13) :: st) := z_callV M [.int p0, .int p1] (m_X2_let (zM_hD M) h) (hC13 σ) rfl hl u92 u760 u758 u759 hd_X2_let hR (by decide) rfl hW d kk
set_option maxHeartbeats 4000000 in
set_option maxRecDepth 100000 in
theorem m_X10_rightOf (hD : ∀ σ, va_D A (cW a cy σ)) {σ0 : Zst} {p0 : Int32} {o : Int32} (h : f_X10_rightOf σ0 p0 = some o) : zT l D zcl (zty cy) A ad (cW a cy) yX10_rightOf cX10_rightOf 2 (some .int) 2 [.ref (a 17), .int p0] σ0 σ0 (some (.int o)) := by
  refine z_met pn_X10 hD (Nat.le_of_ble_eq_true rfl) rfl (fun G M => ?_)
  refine z_aload_n M dt_X10_rightOf_0.1.1.1.1 rfl 0 rfl ?_
  refine z_iload_n M dt_X10_rightOf_0.1.1.1.2 rfl 1 rfl ?_
  refine k_X10_hasSort M u480 (Nat.le_of_ble_eq_true rfl) (Nat.le_of_ble_eq_true rfl) dt_X10_rightOf_0.1.1.2 ?_
  refine z_if_eq (tgt := 17) M dt_X10_rightOf_0.1.2.1.1 (by decide) (fun hc => ?_) (fun hc => ?_)
  · have h := gIt hc h
    refine z_iconst M dt_X10_rightOf_0.2.2.1 ki_0 ?_
    obtain rfl := Option.some.inj h
    exact z_iret M dt_X10_rightOf_0.2.2.2
  · have h := gIf hc h
    refine z_aload_n M dt_X10_rightOf_0.1.2.1.2 rfl 0 rfl ?_
    refine gf_X10_rights M u227 dt_X10_rightOf_0.1.2.2 ?_
    refine z_iload_n M dt_X10_rightOf_0.2.1.1.1 rfl 1 rfl ?_
    have ⟨hg, h⟩ := gIx_s h
    refine al_C19 (σ := σ0) M (f := (σ0.2.1 11)) rfl hg dt_X10_rightOf_0.2.1.1.2 ?_
    refine z_goto (tgt := 18) M dt_X10_rightOf_0.2.1.2 (by decide) ?_
    obtain rfl := Option.some.inj h
    exact z_iret M dt_X10_rightOf_0.2.2.2
theorem k_X10_rightOf {n : Nat} (M : zM l D zcl (zty cy) A ad (zR n) (cW a cy) own cc nL rt σo ov G) {p0 : Int32} {o : Int32} (h : f_X10_rightOf σ p0 = some o) {index : Nat} (hl : Cond.methodLink own index yX10_rightOf ∈ uw) (hR : 3 ≤ n) (hW : (st.map fun v => v.category).sum ≤ 8) (d : decode cc pc = .ok (.invokevirtual index, 3)) (kk : G σ lv (pc + 3) (.int o :: st)) : G σ lv pc (.int p0 :: .ref (a 17) :: st) := z_callV M [.int p0] (m_X10_rightOf (zM_hD M) h) (hC17 σ) rfl hl u93 u768 u766 u767 hd_X10_rightOf hR (by decide) rfl hW d kk
set_option maxHeartbeats 4000000 in
set_option maxRecDepth 100000 in
theorem m_X10_leavesOf (hD : ∀ σ, va_D A (cW a cy σ)) {σ0 : Zst} {p0 : Int32} {o : Int32} (h : f_X10_leavesOf σ0 p0 = some o) : zT l D zcl (zty cy) A ad (cW a cy) yX10_leavesOf cX10_leavesOf 2 (some .int) 2 [.ref (a 17), .int p0] σ0 σ0 (some (.int o)) := by
  refine z_met pn_X10 hD (Nat.le_of_ble_eq_true rfl) rfl (fun G M => ?_)
  refine z_aload_n M dt_X10_leavesOf_0.1.1.1.1 rfl 0 rfl ?_
  refine z_iload_n M dt_X10_leavesOf_0.1.1.1.2 rfl 1 rfl ?_
  refine k_X10_hasSort M u480 (Nat.le_of_ble_eq_true rfl) (Nat.le_of_ble_eq_true rfl) dt_X10_leavesOf_0.1.1.2 ?_
  refine z_if_eq (tgt := 17) M dt_X10_leavesOf_0.1.2.1.1 (by decide) (fun hc => ?_) (fun hc => ?_)
  · have h := gIt hc h
    refine z_iconst M dt_X10_leavesOf_0.2.2.1 ki_1 ?_
    obtain rfl := Option.some.inj h
    exact z_iret M dt_X10_leavesOf_0.2.2.2
  · have h := gIf hc h
    refine z_aload_n M dt_X10_leavesOf_0.1.2.1.2 rfl 0 rfl ?_
    refine gf_X10_leaves M u226 dt_X10_leavesOf_0.1.2.2 ?_
    refine z_iload_n M dt_X10_leavesOf_0.2.1.1.1 rfl 1 rfl ?_
    have ⟨hg, h⟩ := gIx_s h
    refine al_C18 (σ := σ0) M (f := (σ0.2.1 10)) rfl hg dt_X10_leavesOf_0.2.1.1.2 ?_
    refine z_goto (tgt := 18) M dt_X10_leavesOf_0.2.1.2 (by decide) ?_
    obtain rfl := Option.some.inj h
    exact z_iret M dt_X10_leavesOf_0.2.2.2
theorem k_X10_leavesOf {n : Nat} (M : zM l D zcl (zty cy) A ad (zR n) (cW a cy) own cc nL rt σo ov G) {p0 : Int32} {o : Int32} (h : f_X10_leavesOf σ p0 = some o) {index : Nat} (hl : Cond.methodLink own index yX10_leavesOf ∈ uw) (hR : 3 ≤ n) (hW : (st.map fun v => v.category).sum ≤ 8) (d : decode cc pc = .ok (.invokevirtual index, 3)) (kk : G σ lv (pc + 3) (.int o :: st)) : G σ lv pc (.int p0 :: .ref (a 17) :: st) := z_callV M [.int p0] (m_X10_leavesOf (zM_hD M) h) (hC17 σ) rfl hl u93 u772 u770 u771 hd_X10_leavesOf hR (by decide) rfl hW d kk
set_option maxHeartbeats 4000000 in
set_option maxRecDepth 100000 in
theorem m_X10_isLack (hD : ∀ σ, va_D A (cW a cy σ)) {σ0 : Zst} {p0 : Int32} {p1 : Int32} {o : Int32} (h : f_X10_isLack σ0 p0 p1 = some o) : zT l D zcl (zty cy) A ad (cW a cy) yX10_isLack cX10_isLack 3 (some .boolean) 3 [.ref (a 17), .int p0, .int p1] σ0 σ0 (some (.int o)) := by
  refine z_met pn_X10 hD (Nat.le_of_ble_eq_true rfl) rfl (fun G M => ?_)
  refine z_aload_n M dt_X10_isLack_0.1.1.1.1 rfl 0 rfl ?_
  refine z_iload_n M dt_X10_isLack_0.1.1.1.2 rfl 1 rfl ?_
  refine k_X10_hasSort M u480 (Nat.le_of_ble_eq_true rfl) (Nat.le_of_ble_eq_true rfl) dt_X10_isLack_0.1.1.2.1 ?_
  refine z_if_eq (tgt := 32) M dt_X10_isLack_0.1.1.2.2 (by decide) (fun hc => ?_) (fun hc => ?_)
  · have h := gIt hc h
    refine z_iconst M dt_X10_isLack_1.1 ki_0 ?_
    obtain rfl := Option.some.inj h
    exact z_zret M (nBo (Or.inl rfl)) dt_X10_isLack_1.2
  · have h := gIf hc h
    refine z_iload_n M dt_X10_isLack_0.1.2.1.1 rfl 2 rfl ?_
    refine kn_X11_isWeek M u500 (Nat.le_of_ble_eq_true rfl) (Nat.le_of_ble_eq_true rfl) dt_X10_isLack_0.1.2.1.2 ?_
    refine z_if_eq (tgt := 32) M dt_X10_isLack_0.1.2.2.1 (by decide) (fun hc => ?_) (fun hc => ?_)
    · have h := gIt hc h
      refine z_iconst M dt_X10_isLack_1.1 ki_0 ?_
      obtain rfl := Option.some.inj h
      exact z_zret M (nBo (Or.inl rfl)) dt_X10_isLack_1.2
    · have h := gIf hc h
      refine z_aload_n M dt_X10_isLack_0.1.2.2.2 rfl 0 rfl ?_
      refine gf_X10_lackWeeks M u232 dt_X10_isLack_0.2.1.1.1 ?_
      refine z_iload_n M dt_X10_isLack_0.2.1.1.2 rfl 1 rfl ?_
      have ⟨hg, h⟩ := gIx_s h
      refine al_C24 (σ := σ0) M (f := (σ0.2.1 16)) rfl hg dt_X10_isLack_0.2.1.2.1 ?_
      refine z_iload_n M dt_X10_isLack_0.2.1.2.2 rfl 2 rfl ?_
      refine kn_X11_hasBit M u777 (Nat.le_of_ble_eq_true rfl) (Nat.le_of_ble_eq_true rfl) dt_X10_isLack_0.2.2.1.1 ?_
      have hJ2 : G σ0 [(0, .ref (a 17)), (1, .int p0), (2, .int p1)] 33 [.int (if (f_X11_hasBit ((σ0.2.1 16) (Int32.toNatClampNeg p0)) p1) = (0 : Int32) then (0 : Int32) else (1 : Int32))] := by
        obtain rfl := Option.some.inj h
        exact z_zret M (nBo (boIte (Or.inl rfl) (Or.inr rfl))) dt_X10_isLack_1.2
      refine z_if_eq (tgt := 32) M dt_X10_isLack_0.2.2.1.2 (by decide) (fun hc1 => ?_) (fun hc1 => ?_)
      · refine z_iconst M dt_X10_isLack_1.1 ki_0 ?_
        exact (zTt hc1 hJ2)
      · refine z_iconst M dt_X10_isLack_0.2.2.2.1 ki_1 ?_
        refine z_goto (tgt := 33) M dt_X10_isLack_0.2.2.2.2 (by decide) ?_
        exact (zTf hc1 hJ2)
theorem k_X10_isLack {n : Nat} (M : zM l D zcl (zty cy) A ad (zR n) (cW a cy) own cc nL rt σo ov G) {p0 : Int32} {p1 : Int32} {o : Int32} (h : f_X10_isLack σ p0 p1 = some o) {index : Nat} (hl : Cond.methodLink own index yX10_isLack ∈ uw) (hR : 4 ≤ n) (hW : (st.map fun v => v.category).sum ≤ 8) (d : decode cc pc = .ok (.invokevirtual index, 3)) (kk : G σ lv (pc + 3) (.int o :: st)) : G σ lv pc (.int p1 :: .int p0 :: .ref (a 17) :: st) := z_callV M [.int p0, .int p1] (m_X10_isLack (zM_hD M) h) (hC17 σ) rfl hl u93 u776 u774 u775 hd_X10_isLack hR (by decide) rfl hW d kk
set_option maxHeartbeats 4000000 in
set_option maxRecDepth 100000 in
theorem m_X1_sizeOf_L (hD : ∀ σ, va_D A (cW a cy σ)) {σ0 : Zst} {p0 : Int32} {o : Int32} (h : f_X1_sizeOf_L σ0 p0 = some o) : zT l D zcl (zty cy) A ad (cW a cy) yX1_sizeOf cX1_sizeOf 2 (some .int) 2 [.ref (a 13), .int p0] σ0 σ0 (some (.int o)) := by
  refine z_met pn_X1 hD (Nat.le_of_ble_eq_true rfl) rfl (fun G M => ?_)
  refine z_aload_n M dt_X1_sizeOf_0.1.1.1.1 rfl 0 rfl ?_
  refine z_iload_n M dt_X1_sizeOf_0.1.1.1.2 rfl 1 rfl ?_
  refine ku_X1_isText_X1_isText_L M u743 (Nat.le_of_ble_eq_true rfl) (Nat.le_of_ble_eq_true rfl) dt_X1_sizeOf_0.1.1.2 ?_
  refine z_if_eq (tgt := 17) M dt_X1_sizeOf_0.1.2.1.1 (by decide) (fun hc => ?_) (fun hc => ?_)
  · have h := gIt hc h
    refine z_iconst M dt_X1_sizeOf_0.2.2.1 ki_0 ?_
    obtain rfl := Option.some.inj h
    exact z_iret M dt_X1_sizeOf_0.2.2.2
  · have h := gIf hc h
    refine z_aload_n M dt_X1_sizeOf_0.1.2.1.2 rfl 0 rfl ?_
    refine gf_X2_sizes M u194 dt_X1_sizeOf_0.1.2.2 ?_
    refine z_iload_n M dt_X1_sizeOf_0.2.1.1.1 rfl 1 rfl ?_
    have ⟨hg, h⟩ := gIx_s h
    refine al_C15 (σ := σ0) M (f := (σ0.2.1 8)) rfl hg dt_X1_sizeOf_0.2.1.1.2 ?_
    refine z_goto (tgt := 18) M dt_X1_sizeOf_0.2.1.2 (by decide) ?_
    obtain rfl := Option.some.inj h
    exact z_iret M dt_X1_sizeOf_0.2.2.2
theorem ku_Laws_sizeOf_X1_sizeOf_L {n : Nat} (M : zM l D zcl (zty cy) A ad (zR n) (cW a cy) own cc nL rt σo ov G) {p0 : Int32} {o : Int32} (h : f_X1_sizeOf_L σ p0 = some o) {index : Nat} (hl : Cond.methodLink own index (⟨RX2, "sizeOf", "(I)I"⟩ : MethodName) ∈ uw) (hR : 3 ≤ n) (hW : (st.map fun v => v.category).sum ≤ 8) (d : decode cc pc = .ok (.invokevirtual index, 3)) (kk : G σ lv (pc + 3) (.int o :: st)) : G σ lv pc (.int p0 :: .ref (a 13) :: st) := z_callU M (owner := RX1) [.int p0] (m_X1_sizeOf_L (zM_hD M) h) (hC13 σ) rfl hl u783 u785 u786 u91 u787 rfl (by refine ⟨by decide +kernel, by decide +kernel, ?_⟩; exact hp__I_I) hR (by decide) rfl hW d kk
set_option maxHeartbeats 4000000 in
set_option maxRecDepth 100000 in
theorem m_X1_signAt_L (hD : ∀ σ, va_D A (cW a cy σ)) {σ0 : Zst} {p0 : Int32} {p1 : Int32} {o : Int32} (h : f_X1_signAt_L σ0 p0 p1 = some o) : zT l D zcl (zty cy) A ad (cW a cy) yX1_signAt cX1_signAt 4 (some .int) 1 [.ref (a 13), .int p0, .int p1] σ0 σ0 (some (.int o)) := by
  refine z_met pn_X1 hD (Nat.le_of_ble_eq_true rfl) rfl (fun G M => ?_)
  refine z_iload_n M dt_X1_signAt_0.1.1.1.1 rfl 1 rfl ?_
  refine z_if_lt (tgt := 28) M dt_X1_signAt_0.1.1.1.2 (by decide) (fun hc => ?_) (fun hc => ?_)
  · have h := gIt hc h
    refine z_iconst M dt_X1_signAt_0.2.2.2.2 ki_0 ?_
    refine z_istore_n (lv' := [(3, .int (0 : Int32)), (0, .ref (a 13)), (1, .int p0), (2, .int p1)]) M dt_X1_signAt_1.1.1.1.1 rfl (by decide) rfl ?_
    refine z_iload_n M dt_X1_signAt_1.1.1.1.2 rfl 0 rfl ?_
    refine z_if_eq (tgt := 48) M dt_X1_signAt_1.1.1.2.1 (by decide) (fun hc => ?_) (fun hc => ?_)
    · have h := gIt hc h
      refine z_iconst M dt_X1_signAt_1.2.2.1.2 ki_m1 ?_
      obtain rfl := Option.some.inj h
      exact z_iret M dt_X1_signAt_1.2.2.2
    · have h := gIf hc h
      refine z_aload_n M dt_X1_signAt_1.1.1.2.2 rfl 1 rfl ?_
      refine gf_X2_signs M u193 dt_X1_signAt_1.1.2.1.1 ?_
      refine z_iload_n M dt_X1_signAt_1.1.2.1.2 rfl 2 rfl ?_
      refine z_bipush M dt_X1_signAt_1.1.2.2 kb_40 ?_
      refine z_imul M dt_X1_signAt_1.2.1.1.1 ?_
      refine z_iload_n M dt_X1_signAt_1.2.1.1.2 rfl 3 rfl ?_
      refine z_iadd M dt_X1_signAt_1.2.1.2.1 ?_
      have ⟨hg, h⟩ := gIx_s h
      refine al_C14 (σ := σ0) M (f := (σ0.2.1 7)) rfl hg dt_X1_signAt_1.2.1.2.2 ?_
      refine z_goto (tgt := 49) M dt_X1_signAt_1.2.2.1.1 (by decide) ?_
      obtain rfl := Option.some.inj h
      exact z_iret M dt_X1_signAt_1.2.2.2
  · have h := gIf hc h
    refine z_iload_n M dt_X1_signAt_0.1.1.2.1 rfl 1 rfl ?_
    refine z_bipush M dt_X1_signAt_0.1.1.2.2 kb_6 ?_
    refine z_icmp_ge (tgt := 28) M dt_X1_signAt_0.1.2.1.1 (by decide) (fun hc => ?_) (fun hc => ?_)
    · have h := gIt hc h
      refine z_iconst M dt_X1_signAt_0.2.2.2.2 ki_0 ?_
      refine z_istore_n (lv' := [(3, .int (0 : Int32)), (0, .ref (a 13)), (1, .int p0), (2, .int p1)]) M dt_X1_signAt_1.1.1.1.1 rfl (by decide) rfl ?_
      refine z_iload_n M dt_X1_signAt_1.1.1.1.2 rfl 0 rfl ?_
      refine z_if_eq (tgt := 48) M dt_X1_signAt_1.1.1.2.1 (by decide) (fun hc => ?_) (fun hc => ?_)
      · have h := gIt hc h
        refine z_iconst M dt_X1_signAt_1.2.2.1.2 ki_m1 ?_
        obtain rfl := Option.some.inj h
        exact z_iret M dt_X1_signAt_1.2.2.2
      · have h := gIf hc h
        refine z_aload_n M dt_X1_signAt_1.1.1.2.2 rfl 1 rfl ?_
        refine gf_X2_signs M u193 dt_X1_signAt_1.1.2.1.1 ?_
        refine z_iload_n M dt_X1_signAt_1.1.2.1.2 rfl 2 rfl ?_
        refine z_bipush M dt_X1_signAt_1.1.2.2 kb_40 ?_
        refine z_imul M dt_X1_signAt_1.2.1.1.1 ?_
        refine z_iload_n M dt_X1_signAt_1.2.1.1.2 rfl 3 rfl ?_
        refine z_iadd M dt_X1_signAt_1.2.1.2.1 ?_
        have ⟨hg, h⟩ := gIx_s h
        refine al_C14 (σ := σ0) M (f := (σ0.2.1 7)) rfl hg dt_X1_signAt_1.2.1.2.2 ?_
        refine z_goto (tgt := 49) M dt_X1_signAt_1.2.2.1.1 (by decide) ?_
        obtain rfl := Option.some.inj h
        exact z_iret M dt_X1_signAt_1.2.2.2
    · have h := gIf hc h
      refine z_iload_n M dt_X1_signAt_0.1.2.1.2 rfl 2 rfl ?_
      refine z_if_lt (tgt := 28) M dt_X1_signAt_0.1.2.2.1 (by decide) (fun hc => ?_) (fun hc => ?_)
      · have h := gIt hc h
        refine z_iconst M dt_X1_signAt_0.2.2.2.2 ki_0 ?_
        refine z_istore_n (lv' := [(3, .int (0 : Int32)), (0, .ref (a 13)), (1, .int p0), (2, .int p1)]) M dt_X1_signAt_1.1.1.1.1 rfl (by decide) rfl ?_
        refine z_iload_n M dt_X1_signAt_1.1.1.1.2 rfl 0 rfl ?_
        refine z_if_eq (tgt := 48) M dt_X1_signAt_1.1.1.2.1 (by decide) (fun hc => ?_) (fun hc => ?_)
        · have h := gIt hc h
          refine z_iconst M dt_X1_signAt_1.2.2.1.2 ki_m1 ?_
          obtain rfl := Option.some.inj h
          exact z_iret M dt_X1_signAt_1.2.2.2
        · have h := gIf hc h
          refine z_aload_n M dt_X1_signAt_1.1.1.2.2 rfl 1 rfl ?_
          refine gf_X2_signs M u193 dt_X1_signAt_1.1.2.1.1 ?_
          refine z_iload_n M dt_X1_signAt_1.1.2.1.2 rfl 2 rfl ?_
          refine z_bipush M dt_X1_signAt_1.1.2.2 kb_40 ?_
          refine z_imul M dt_X1_signAt_1.2.1.1.1 ?_
          refine z_iload_n M dt_X1_signAt_1.2.1.1.2 rfl 3 rfl ?_
          refine z_iadd M dt_X1_signAt_1.2.1.2.1 ?_
          have ⟨hg, h⟩ := gIx_s h
          refine al_C14 (σ := σ0) M (f := (σ0.2.1 7)) rfl hg dt_X1_signAt_1.2.1.2.2 ?_
          refine z_goto (tgt := 49) M dt_X1_signAt_1.2.2.1.1 (by decide) ?_
          obtain rfl := Option.some.inj h
          exact z_iret M dt_X1_signAt_1.2.2.2
      · have h := gIf hc h
        refine z_iload_n M dt_X1_signAt_0.1.2.2.2 rfl 2 rfl ?_
        refine z_aload_n M dt_X1_signAt_0.2.1.1.1 rfl 0 rfl ?_
        refine gf_X2_sizes M u194 dt_X1_signAt_0.2.1.1.2 ?_
        refine z_iload_n M dt_X1_signAt_0.2.1.2.1 rfl 1 rfl ?_
        have ⟨hg, h⟩ := gIx_s h
        refine al_C15 (σ := σ0) M (f := (σ0.2.1 8)) rfl hg dt_X1_signAt_0.2.1.2.2 ?_
        have hJ2 : G σ0 [(0, .ref (a 13)), (1, .int p0), (2, .int p1)] 29 [.int (if ((σ0.2.1 8) (Int32.toNatClampNeg p0)) ≤ p1 then (0 : Int32) else (1 : Int32))] := by
          refine z_istore_n (lv' := [(3, .int (if ((σ0.2.1 8) (Int32.toNatClampNeg p0)) ≤ p1 then (0 : Int32) else (1 : Int32))), (0, .ref (a 13)), (1, .int p0), (2, .int p1)]) M dt_X1_signAt_1.1.1.1.1 rfl (by decide) rfl ?_
          refine z_iload_n M dt_X1_signAt_1.1.1.1.2 rfl 0 rfl ?_
          refine z_if_eq (tgt := 48) M dt_X1_signAt_1.1.1.2.1 (by decide) (fun hc => ?_) (fun hc => ?_)
          · have h := gIt hc h
            refine z_iconst M dt_X1_signAt_1.2.2.1.2 ki_m1 ?_
            obtain rfl := Option.some.inj h
            exact z_iret M dt_X1_signAt_1.2.2.2
          · have h := gIf hc h
            refine z_aload_n M dt_X1_signAt_1.1.1.2.2 rfl 1 rfl ?_
            refine gf_X2_signs M u193 dt_X1_signAt_1.1.2.1.1 ?_
            refine z_iload_n M dt_X1_signAt_1.1.2.1.2 rfl 2 rfl ?_
            refine z_bipush M dt_X1_signAt_1.1.2.2 kb_40 ?_
            refine z_imul M dt_X1_signAt_1.2.1.1.1 ?_
            refine z_iload_n M dt_X1_signAt_1.2.1.1.2 rfl 3 rfl ?_
            refine z_iadd M dt_X1_signAt_1.2.1.2.1 ?_
            have ⟨hg, h⟩ := gIx_s h
            refine al_C14 (σ := σ0) M (f := (σ0.2.1 7)) rfl hg dt_X1_signAt_1.2.1.2.2 ?_
            refine z_goto (tgt := 49) M dt_X1_signAt_1.2.2.1.1 (by decide) ?_
            obtain rfl := Option.some.inj h
            exact z_iret M dt_X1_signAt_1.2.2.2
        refine z_icmp_ge (tgt := 28) M dt_X1_signAt_0.2.2.1.1 (by decide) (fun hc1 => ?_) (fun hc1 => ?_)
        · refine z_iconst M dt_X1_signAt_0.2.2.2.2 ki_0 ?_
          exact (zTt hc1 hJ2)
        · refine z_iconst M dt_X1_signAt_0.2.2.1.2 ki_1 ?_
          refine z_goto (tgt := 29) M dt_X1_signAt_0.2.2.2.1 (by decide) ?_
          exact (zTf hc1 hJ2)
theorem ku_Laws_signAt_X1_signAt_L {n : Nat} (M : zM l D zcl (zty cy) A ad (zR n) (cW a cy) own cc nL rt σo ov G) {p0 : Int32} {p1 : Int32} {o : Int32} (h : f_X1_signAt_L σ p0 p1 = some o) {index : Nat} (hl : Cond.methodLink own index (⟨RX2, "signAt", "(II)I"⟩ : MethodName) ∈ uw) (hR : 2 ≤ n) (hW : (st.map fun v => v.category).sum ≤ 8) (d : decode cc pc = .ok (.invokevirtual index, 3)) (kk : G σ lv (pc + 3) (.int o :: st)) : G σ lv pc (.int p1 :: .int p0 :: .ref (a 13) :: st) := z_callU M (owner := RX1) [.int p0, .int p1] (m_X1_signAt_L (zM_hD M) h) (hC13 σ) rfl hl u817 u819 u820 u91 u821 rfl (by refine ⟨by decide +kernel, by decide +kernel, ?_⟩; exact hp__II_I) hR (by decide) rfl hW d kk
end ZWK
