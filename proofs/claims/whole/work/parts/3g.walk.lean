section ZWK
variable {l : Launch} {D : va_G} {A : Nat → Prop} {ad : (Nat → Nat) × (Nat → Nat)} {a : Nat → Nat} {cy : ClassId × (ClassId × (ClassId × ClassId))} {own : String} {cc : ByteArray} {nL : Nat} {rt : Option FieldType} {σo : Zst} {ov : Option Value} {G : Zst → List (Nat × Value) → Nat → List Value → Prop}
variable {σ σ0 : Zst} {lv : List (Nat × Value)} {pc : Nat} {st : List Value} {zcl0 : List vw_C} {tys : List (ClassId × FieldType)} {wf : Zst → va_W}
set_option maxHeartbeats 4000000 in
set_option maxRecDepth 100000 in
theorem m_X12_isSort (hD : ∀ σ, va_D A (mW a cy ad σ)) (σ0 : Zst) (p0 : Int32) : zT l D zcl (zty cy) A ad (mW a cy ad) yX12_isSort cX12_isSort 2 (some .boolean) 2 [.ref (a 0), .int p0] σ0 σ0 (some (.int (f_X12_isSort σ0 p0))) := by
  obtain ⟨o, h⟩ : ∃ o, f_X12_isSort σ0 p0 = o := ⟨_, rfl⟩
  rw [h]
  refine z_met pn_X12 hD (Nat.le_of_ble_eq_true rfl) rfl (fun G M => ?_)
  refine z_iload_n M dt_X12_isSort_0.1.1.1.1 rfl 1 rfl ?_
  refine z_i2l M dt_X12_isSort_0.1.1.1.2 ?_
  refine z_lconst (v := 0) M dt_X12_isSort_0.1.1.2 (by decide) ?_
  refine z_aload_n M dt_X12_isSort_0.1.2.1 rfl 0 rfl ?_
  refine gf_X12_sorts (σ := σ0) M u1963 dt_X12_isSort_0.1.2.2 (v := (σ0.1 2)) rfl ?_
  refine z_iconst M dt_X12_isSort_0.2.1.1.1 ki_1 ?_
  refine z_isub M dt_X12_isSort_0.2.1.1.2 ?_
  refine z_i2l M dt_X12_isSort_0.2.1.2 ?_
  refine k_X12_in M u1517 (Nat.le_of_ble_eq_true rfl) (Nat.le_of_ble_eq_true rfl) dt_X12_isSort_0.2.2.1 ?_
  subst h
  exact z_zret M (nBo (bo_X12_in (Int32.toInt64 p0) (0 : Int64) (Int32.toInt64 ((σ0.1 2) - (1 : Int32))))) dt_X12_isSort_0.2.2.2
theorem k_X12_isSort {n : Nat} (M : zM l D zcl (zty cy) A ad (zR n) (mW a cy ad) own cc nL rt σo ov G) {p0 : Int32} {index : Nat} (hl : Cond.methodLink own index yX12_isSort ∈ uw) (hR : 3 ≤ n) (hW : (st.map fun v => v.category).sum ≤ 8) (d : decode cc pc = .ok (.invokevirtual index, 3)) (kk : G σ lv (pc + 3) (.int (f_X12_isSort σ p0) :: st)) : G σ lv pc (.int p0 :: .ref (a 0) :: st) := z_callV M [.int p0] (m_X12_isSort (zM_hD M) σ p0) (hM0 σ) rfl hl u99 u1530 u1528 u46 hd_X12_isSort hR (by decide) rfl hW d kk
set_option maxHeartbeats 4000000 in
set_option maxRecDepth 100000 in
theorem m_X12_goes (hD : ∀ σ, va_D A (mW a cy ad σ)) {σ : Zst} {p0 : Int32} {p1 : Int32} {p2 : Int32} {p3 : Int32} {o : (Zst × Int32)} (h : f_X12_goes σ p0 p1 p2 p3 = some o) : zT l D zcl (zty cy) A ad (mW a cy ad) yX12_goes cX12_goes 6 (some .boolean) 3 [.ref (a 0), .int p0, .int p1, .int p2, .int p3] σ o.1 (some (.int o.2)) := by
  refine z_met pn_X12 hD (Nat.le_of_ble_eq_true rfl) rfl (fun G M => ?_)
  refine z_aload_n M dt_X12_goes_0.1.1.1.1 rfl 0 rfl ?_
  refine z_iconst M dt_X12_goes_0.1.1.1.2 ki_0 ?_
  refine pf_X12_thrown M u1960 dt_X12_goes_0.1.1.2.1 ?_
  refine z_aload_n M dt_X12_goes_0.1.1.2.2 rfl 0 rfl ?_
  refine z_iload_n M dt_X12_goes_0.1.2.1.1 rfl 1 rfl ?_
  refine k_X12_isSort M u1526 (Nat.le_of_ble_eq_true rfl) (Nat.le_of_ble_eq_true rfl) dt_X12_goes_0.1.2.1.2 ?_
  have hJ5 : G (zI σ 0 (0 : Int32)) [(0, .ref (a 0)), (1, .int p0), (2, .int p1), (3, .int p2), (4, .int p3)] 55 [.int (if (f_X12_isSort (zI σ 0 (0 : Int32)) p0) = (0 : Int32) then (0 : Int32) else (if (f_X12_in (Int32.toInt64 p1) (0 : Int64) (100 : Int64)) = (0 : Int32) then (0 : Int32) else (if (f_X12_in (Int32.toInt64 p2) (0 : Int64) (100 : Int64)) = (0 : Int32) then (0 : Int32) else (if (f_X12_in (Int32.toInt64 p3) (0 : Int64) (100 : Int64)) = (0 : Int32) then (0 : Int32) else (1 : Int32)))))] := by
    refine z_istore (lv' := [(5, .int (if (f_X12_isSort (zI σ 0 (0 : Int32)) p0) = (0 : Int32) then (0 : Int32) else (if (f_X12_in (Int32.toInt64 p1) (0 : Int64) (100 : Int64)) = (0 : Int32) then (0 : Int32) else (if (f_X12_in (Int32.toInt64 p2) (0 : Int64) (100 : Int64)) = (0 : Int32) then (0 : Int32) else (if (f_X12_in (Int32.toInt64 p3) (0 : Int64) (100 : Int64)) = (0 : Int32) then (0 : Int32) else (1 : Int32)))))), (0, .ref (a 0)), (1, .int p0), (2, .int p1), (3, .int p2), (4, .int p3)]) M dt_X12_goes_1.2.2.1.1 (by decide) rfl ?_
    refine z_iload M dt_X12_goes_1.2.2.1.2 0 rfl ?_
    refine z_if_eq (tgt := 73) M dt_X12_goes_1.2.2.2.1 (by decide) (fun hc => ?_) (fun hc => ?_)
    · have h := gIt hc h
      refine z_iconst M dt_X12_goes_2.1.2.2.1 ki_0 ?_
      obtain rfl := Option.some.inj h
      exact z_zret M (nBo (Or.inl rfl)) dt_X12_goes_2.1.2.2.2
    · have h := gIf hc h
      refine z_iload_n M dt_X12_goes_1.2.2.2.2 rfl 3 rfl ?_
      refine z_iload_n M dt_X12_goes_2.1.1.1.1 rfl 4 rfl ?_
      refine z_iadd M dt_X12_goes_2.1.1.1.2 ?_
      refine z_iload M dt_X12_goes_2.1.1.2.1 5 rfl ?_
      refine z_iadd M dt_X12_goes_2.1.1.2.2 ?_
      refine z_bipush M dt_X12_goes_2.1.2.1.1 kb_100 ?_
      refine z_icmp_le (tgt := 75) M dt_X12_goes_2.1.2.1.2 (by decide) (fun hc => ?_) (fun hc => ?_)
      · have h := gIt hc h
        refine z_aload_n M dt_X12_goes_2.2.1.1.1 rfl 1 rfl ?_
        refine gf_X12_sink M u1967 dt_X12_goes_2.2.1.1.2 ?_
        refine z_iload_n M dt_X12_goes_2.2.1.2.1 rfl 2 rfl ?_
        refine z_iload_n M dt_X12_goes_2.2.1.2.2 rfl 3 rfl ?_
        have ⟨hg, h⟩ := gIx_s h
        refine as_M5 (σ := (zI σ 0 (0 : Int32))) M (f := (σ.2.1 3)) rfl hg dt_X12_goes_2.2.2.1.1 ?_
        refine z_aload_n M dt_X12_goes_2.2.2.1.2 rfl 1 rfl ?_
        refine gf_X12_back M u1968 dt_X12_goes_2.2.2.2.1 ?_
        refine z_iload_n M dt_X12_goes_2.2.2.2.2 rfl 2 rfl ?_
        refine z_iload_n M dt_X12_goes_3.1.1.1.1 rfl 4 rfl ?_
        have ⟨hg, h⟩ := gIx_s h
        refine as_M6 (σ := (zA (zI σ 0 (0 : Int32)) 3 (upd (σ.2.1 3) (Int32.toNatClampNeg p0) p1))) M (f := (σ.2.1 4)) rfl hg dt_X12_goes_3.1.1.1.2 ?_
        refine z_aload_n M dt_X12_goes_3.1.1.2 rfl 1 rfl ?_
        refine gf_X12_corner M u1969 dt_X12_goes_3.1.2.1 ?_
        refine z_iload_n M dt_X12_goes_3.1.2.2 rfl 2 rfl ?_
        refine z_iload M dt_X12_goes_3.2.1.1 5 rfl ?_
        have ⟨hg, h⟩ := gIx_s h
        refine as_M7 (σ := (zA (zA (zI σ 0 (0 : Int32)) 3 (upd (σ.2.1 3) (Int32.toNatClampNeg p0) p1)) 4 (upd (σ.2.1 4) (Int32.toNatClampNeg p0) p2))) M (f := (σ.2.1 5)) rfl hg dt_X12_goes_3.2.1.2 ?_
        refine z_iconst M dt_X12_goes_3.2.2.1 ki_1 ?_
        obtain rfl := Option.some.inj h
        exact z_zret M (nBo (Or.inr rfl)) dt_X12_goes_3.2.2.2
      · have h := gIf hc h
        refine z_iconst M dt_X12_goes_2.1.2.2.1 ki_0 ?_
        obtain rfl := Option.some.inj h
        exact z_zret M (nBo (Or.inl rfl)) dt_X12_goes_2.1.2.2.2
  refine z_if_eq (tgt := 54) M dt_X12_goes_0.1.2.2.1 (by decide) (fun hc1 => ?_) (fun hc1 => ?_)
  · refine z_iconst M dt_X12_goes_1.2.1.2.2 ki_0 ?_
    exact (zTt hc1 hJ5)
  · refine z_iload_n M dt_X12_goes_0.1.2.2.2 rfl 2 rfl ?_
    refine z_i2l M dt_X12_goes_0.2.1.1.1 ?_
    refine z_lconst (v := 0) M dt_X12_goes_0.2.1.1.2 (by decide) ?_
    refine z_ldc2 M dt_X12_goes_0.2.1.2.1 u1516 ?_
    refine k_X12_in M u1517 (Nat.le_of_ble_eq_true rfl) (Nat.le_of_ble_eq_true rfl) dt_X12_goes_0.2.1.2.2 ?_
    refine z_if_eq (tgt := 54) M dt_X12_goes_0.2.2.1.1 (by decide) (fun hc2 => ?_) (fun hc2 => ?_)
    · refine z_iconst M dt_X12_goes_1.2.1.2.2 ki_0 ?_
      exact (zTt hc2 (zTf hc1 hJ5))
    · refine z_iload_n M dt_X12_goes_0.2.2.1.2 rfl 3 rfl ?_
      refine z_i2l M dt_X12_goes_0.2.2.2.1 ?_
      refine z_lconst (v := 0) M dt_X12_goes_0.2.2.2.2 (by decide) ?_
      refine z_ldc2 M dt_X12_goes_1.1.1.1.1 u1516 ?_
      refine k_X12_in M u1517 (Nat.le_of_ble_eq_true rfl) (Nat.le_of_ble_eq_true rfl) dt_X12_goes_1.1.1.1.2 ?_
      refine z_if_eq (tgt := 54) M dt_X12_goes_1.1.1.2.1 (by decide) (fun hc3 => ?_) (fun hc3 => ?_)
      · refine z_iconst M dt_X12_goes_1.2.1.2.2 ki_0 ?_
        exact (zTt hc3 (zTf hc2 (zTf hc1 hJ5)))
      · refine z_iload M dt_X12_goes_1.1.1.2.2 4 rfl ?_
        refine z_i2l M dt_X12_goes_1.1.2.1.1 ?_
        refine z_lconst (v := 0) M dt_X12_goes_1.1.2.1.2 (by decide) ?_
        refine z_ldc2 M dt_X12_goes_1.1.2.2.1 u1516 ?_
        refine k_X12_in M u1517 (Nat.le_of_ble_eq_true rfl) (Nat.le_of_ble_eq_true rfl) dt_X12_goes_1.1.2.2.2 ?_
        refine z_if_eq (tgt := 54) M dt_X12_goes_1.2.1.1.1 (by decide) (fun hc4 => ?_) (fun hc4 => ?_)
        · refine z_iconst M dt_X12_goes_1.2.1.2.2 ki_0 ?_
          exact (zTt hc4 (zTf hc3 (zTf hc2 (zTf hc1 hJ5))))
        · refine z_iconst M dt_X12_goes_1.2.1.1.2 ki_1 ?_
          refine z_goto (tgt := 55) M dt_X12_goes_1.2.1.2.1 (by decide) ?_
          exact (zTf hc4 (zTf hc3 (zTf hc2 (zTf hc1 hJ5))))
set_option maxHeartbeats 4000000 in
set_option maxRecDepth 100000 in
theorem m_X12_street (hD : ∀ σ, va_D A (mW a cy ad σ)) {σ : Zst} {p0 : Int32} {o : (Zst × Int32)} (h : f_X12_street σ p0 = some o) : zT l D zcl (zty cy) A ad (mW a cy ad) yX12_street cX12_street 2 (some .int) 2 [.ref (a 0), .int p0] σ o.1 (some (.int o.2)) := by
  refine z_met pn_X12 hD (Nat.le_of_ble_eq_true rfl) rfl (fun G M => ?_)
  refine z_aload_n M dt_X12_street_0.1.1.1.1 rfl 0 rfl ?_
  refine z_iconst M dt_X12_street_0.1.1.1.2 ki_0 ?_
  refine pf_X12_thrown M u1960 dt_X12_street_0.1.1.2.1 ?_
  refine z_iload_n M dt_X12_street_0.1.1.2.2 rfl 1 rfl ?_
  refine z_i2l M dt_X12_street_0.1.2.1.1 ?_
  refine z_lconst (v := 1) M dt_X12_street_0.1.2.1.2 (by decide) ?_
  refine z_ldc2 M dt_X12_street_0.1.2.2.1 u1516 ?_
  refine k_X12_in M u1517 (Nat.le_of_ble_eq_true rfl) (Nat.le_of_ble_eq_true rfl) dt_X12_street_0.1.2.2.2 ?_
  refine z_if_eq (tgt := 26) M dt_X12_street_0.2.1.1.1 (by decide) (fun hc => ?_) (fun hc => ?_)
  · have h := gIt hc h
    refine z_iconst M dt_X12_street_0.2.2.1.2 ki_m1 ?_
    obtain rfl := Option.some.inj h
    exact z_iret M dt_X12_street_0.2.2.2.1
  · have h := gIf hc h
    refine z_aload_n M dt_X12_street_0.2.1.1.2 rfl 0 rfl ?_
    refine gf_X12_streets (σ := (zI σ 0 (0 : Int32))) M u1970 dt_X12_street_0.2.1.2.1 (v := (σ.1 3)) rfl ?_
    refine z_bipush M dt_X12_street_0.2.1.2.2 kb_8 ?_
    refine z_icmp_ne (tgt := 28) M dt_X12_street_0.2.2.1.1 (by decide) (fun hc => ?_) (fun hc => ?_)
    · have h := gIf hc h
      refine z_aload_n M dt_X12_street_0.2.2.2.2 rfl 0 rfl ?_
      refine gf_X12_houses M u1971 dt_X12_street_1.1.1.1.1 ?_
      refine z_aload_n M dt_X12_street_1.1.1.1.2 rfl 0 rfl ?_
      refine gf_X12_streets (σ := (zI σ 0 (0 : Int32))) M u1970 dt_X12_street_1.1.1.2.1 (v := (σ.1 3)) rfl ?_
      refine z_iload_n M dt_X12_street_1.1.1.2.2 rfl 1 rfl ?_
      have ⟨hg, h⟩ := gIx_s h
      refine as_M8 (σ := (zI σ 0 (0 : Int32))) M (f := (σ.2.1 6)) rfl hg dt_X12_street_1.1.2.1.1 ?_
      refine z_aload_n M dt_X12_street_1.1.2.1.2 rfl 0 rfl ?_
      refine z_dup M dt_X12_street_1.1.2.2.1 rfl ?_
      refine gf_X12_streets (σ := (zA (zI σ 0 (0 : Int32)) 6 (upd (σ.2.1 6) (Int32.toNatClampNeg (σ.1 3)) p0))) M u1970 dt_X12_street_1.1.2.2.2 (v := (σ.1 3)) rfl ?_
      refine z_iconst M dt_X12_street_1.2.1.1.1 ki_1 ?_
      refine z_iadd M dt_X12_street_1.2.1.1.2 ?_
      refine pf_X12_streets M u1970 dt_X12_street_1.2.1.2.1 ?_
      refine z_aload_n M dt_X12_street_1.2.1.2.2 rfl 0 rfl ?_
      refine gf_X12_streets (σ := (zI (zA (zI σ 0 (0 : Int32)) 6 (upd (σ.2.1 6) (Int32.toNatClampNeg (σ.1 3)) p0)) 3 ((σ.1 3) + (1 : Int32)))) M u1970 dt_X12_street_1.2.2.1.1 (v := ((σ.1 3) + (1 : Int32))) rfl ?_
      refine z_iconst M dt_X12_street_1.2.2.1.2 ki_1 ?_
      refine z_isub M dt_X12_street_1.2.2.2.1 ?_
      obtain rfl := Option.some.inj h
      exact z_iret M dt_X12_street_1.2.2.2.2
    · have h := gIt hc h
      refine z_iconst M dt_X12_street_0.2.2.1.2 ki_m1 ?_
      obtain rfl := Option.some.inj h
      exact z_iret M dt_X12_street_0.2.2.2.1
set_option maxHeartbeats 4000000 in
set_option maxRecDepth 100000 in
theorem m_X12_isWeek (hD : ∀ σ, va_D A (wf σ)) (σ0 : Zst) (p0 : Int32) : zT l D zcl0 tys A ad wf yX12_isWeek cX12_isWeek 1 (some .boolean) 2 [.int p0] σ0 σ0 (some (.int (f_X12_isWeek p0))) := by
  obtain ⟨o, h⟩ : ∃ o, f_X12_isWeek p0 = o := ⟨_, rfl⟩
  rw [h]
  refine z_met pn_X12 hD (Nat.le_of_ble_eq_true rfl) rfl (fun G M => ?_)
  refine z_iload_n M dt_X12_isWeek_0.1.1.1 rfl 0 rfl ?_
  refine z_i2l M dt_X12_isWeek_0.1.1.2 ?_
  refine z_lconst (v := 0) M dt_X12_isWeek_0.1.2 (by decide) ?_
  refine z_ldc2 M dt_X12_isWeek_0.2.1.1 u1542 ?_
  refine k_X12_in M u1517 (Nat.le_of_ble_eq_true rfl) (Nat.le_of_ble_eq_true rfl) dt_X12_isWeek_0.2.1.2 ?_
  subst h
  exact z_zret M (nBo (bo_X12_in (Int32.toInt64 p0) (0 : Int64) (11 : Int64))) dt_X12_isWeek_0.2.2
theorem k_X12_isWeek {n : Nat} (M : zM l D zcl0 tys A ad (zR n) wf own cc nL rt σo ov G) {p0 : Int32} {index : Nat} (hl : Cond.methodLink own index yX12_isWeek ∈ uw) (hR : 3 ≤ n) (hW : (st.map fun v => v.category).sum ≤ 8) (d : decode cc pc = .ok (.invokestatic index, 3)) (kk : G σ lv (pc + 3) (.int (f_X12_isWeek p0) :: st)) : G σ lv pc (.int p0 :: st) := z_callS M [.int p0] (m_X12_isWeek (zM_hD M) σ p0) hl u99 u1541 u1540 hd_X12_isWeek hR (by decide) rfl hW d kk
set_option maxHeartbeats 4000000 in
set_option maxRecDepth 100000 in
theorem m_X12_lack (hD : ∀ σ, va_D A (mW a cy ad σ)) {σ : Zst} {p0 : Int32} {p1 : Int32} {p2 : Int32} {o : (Zst × Int32)} (h : f_X12_lack σ p0 p1 p2 = some o) : zT l D zcl (zty cy) A ad (mW a cy ad) yX12_lack cX12_lack 4 (some .boolean) 3 [.ref (a 0), .int p0, .int p1, .int p2] σ o.1 (some (.int o.2)) := by
  refine z_met pn_X12 hD (Nat.le_of_ble_eq_true rfl) rfl (fun G M => ?_)
  refine z_aload_n M dt_X12_lack_0.1.1.1.1 rfl 0 rfl ?_
  refine z_iconst M dt_X12_lack_0.1.1.1.2 ki_0 ?_
  refine pf_X12_thrown M u1960 dt_X12_lack_0.1.1.2.1 ?_
  refine z_aload_n M dt_X12_lack_0.1.1.2.2 rfl 0 rfl ?_
  refine z_iload_n M dt_X12_lack_0.1.2.1.1 rfl 1 rfl ?_
  refine k_X12_isSort M u1526 (Nat.le_of_ble_eq_true rfl) (Nat.le_of_ble_eq_true rfl) dt_X12_lack_0.1.2.1.2 ?_
  refine z_if_eq (tgt := 20) M dt_X12_lack_0.1.2.2.1 (by decide) (fun hc => ?_) (fun hc => ?_)
  · have h := gIt hc h
    refine z_iconst M dt_X12_lack_0.2.1.2.1 ki_0 ?_
    obtain rfl := Option.some.inj h
    exact z_zret M (nBo (Or.inl rfl)) dt_X12_lack_0.2.1.2.2
  · have h := gIf hc h
    refine z_iload_n M dt_X12_lack_0.1.2.2.2 rfl 2 rfl ?_
    refine k_X12_isWeek M u1539 (Nat.le_of_ble_eq_true rfl) (Nat.le_of_ble_eq_true rfl) dt_X12_lack_0.2.1.1.1 ?_
    refine z_if_ne (tgt := 22) M dt_X12_lack_0.2.1.1.2 (by decide) (fun hc => ?_) (fun hc => ?_)
    · have h := gIf hc h
      refine z_aload_n M dt_X12_lack_0.2.2.1.1 rfl 0 rfl ?_
      refine gf_X12_isLack M u1972 dt_X12_lack_0.2.2.1.2 ?_
      refine z_bipush M dt_X12_lack_0.2.2.2.1 kb_12 ?_
      refine z_iload_n M dt_X12_lack_0.2.2.2.2 rfl 1 rfl ?_
      refine z_imul M dt_X12_lack_1.1.1.1 ?_
      refine z_iload_n M dt_X12_lack_1.1.1.2 rfl 2 rfl ?_
      refine z_iadd M dt_X12_lack_1.1.2.1 ?_
      refine z_iload_n M dt_X12_lack_1.1.2.2 rfl 3 rfl ?_
      have ⟨hg, h⟩ := gIx_s h
      refine as_M9 (σ := (zI σ 0 (0 : Int32))) M (f := (σ.2.1 7)) rfl hg dt_X12_lack_1.2.1.1 ?_
      refine z_iconst M dt_X12_lack_1.2.1.2 ki_1 ?_
      obtain rfl := Option.some.inj h
      exact z_zret M (nBo (Or.inr rfl)) dt_X12_lack_1.2.2
    · have h := gIt hc h
      refine z_iconst M dt_X12_lack_0.2.1.2.1 ki_0 ?_
      obtain rfl := Option.some.inj h
      exact z_zret M (nBo (Or.inl rfl)) dt_X12_lack_0.2.1.2.2
set_option maxHeartbeats 4000000 in
set_option maxRecDepth 100000 in
theorem m_X12_isKind (hD : ∀ σ, va_D A (wf σ)) (σ0 : Zst) (p0 : Int32) : zT l D zcl0 tys A ad wf yX12_isKind cX12_isKind 1 (some .boolean) 2 [.int p0] σ0 σ0 (some (.int (f_X12_isKind p0))) := by
  obtain ⟨o, h⟩ : ∃ o, f_X12_isKind p0 = o := ⟨_, rfl⟩
  rw [h]
  refine z_met pn_X12 hD (Nat.le_of_ble_eq_true rfl) rfl (fun G M => ?_)
  refine z_iload_n M dt_X12_isKind_0.1.1.1 rfl 0 rfl ?_
  refine z_i2l M dt_X12_isKind_0.1.1.2 ?_
  refine z_lconst (v := 0) M dt_X12_isKind_0.1.2 (by decide) ?_
  refine z_ldc2 M dt_X12_isKind_0.2.1.1 u1521 ?_
  refine k_X12_in M u1517 (Nat.le_of_ble_eq_true rfl) (Nat.le_of_ble_eq_true rfl) dt_X12_isKind_0.2.1.2 ?_
  subst h
  exact z_zret M (nBo (bo_X12_in (Int32.toInt64 p0) (0 : Int64) (5 : Int64))) dt_X12_isKind_0.2.2
theorem k_X12_isKind {n : Nat} (M : zM l D zcl0 tys A ad (zR n) wf own cc nL rt σo ov G) {p0 : Int32} {index : Nat} (hl : Cond.methodLink own index yX12_isKind ∈ uw) (hR : 3 ≤ n) (hW : (st.map fun v => v.category).sum ≤ 8) (d : decode cc pc = .ok (.invokestatic index, 3)) (kk : G σ lv (pc + 3) (.int (f_X12_isKind p0) :: st)) : G σ lv pc (.int p0 :: st) := z_callS M [.int p0] (m_X12_isKind (zM_hD M) σ p0) hl u99 u1549 u1548 hd_X12_isKind hR (by decide) rfl hW d kk
set_option maxHeartbeats 4000000 in
set_option maxRecDepth 100000 in
theorem m_X12_isCell (hD : ∀ σ, va_D A (mW a cy ad σ)) (σ0 : Zst) (p0 : Int32) : zT l D zcl (zty cy) A ad (mW a cy ad) yX12_isCell cX12_isCell 2 (some .boolean) 2 [.ref (a 0), .int p0] σ0 σ0 (some (.int (f_X12_isCell σ0 p0))) := by
  obtain ⟨o, h⟩ : ∃ o, f_X12_isCell σ0 p0 = o := ⟨_, rfl⟩
  rw [h]
  refine z_met pn_X12 hD (Nat.le_of_ble_eq_true rfl) rfl (fun G M => ?_)
  refine z_iload_n M dt_X12_isCell_0.1.1.1.1 rfl 1 rfl ?_
  refine z_i2l M dt_X12_isCell_0.1.1.1.2 ?_
  refine z_lconst (v := 0) M dt_X12_isCell_0.1.1.2 (by decide) ?_
  refine z_bipush M dt_X12_isCell_0.1.2.1.1 kb_12 ?_
  refine z_aload_n M dt_X12_isCell_0.1.2.1.2 rfl 0 rfl ?_
  refine gf_X12_streets (σ := σ0) M u1970 dt_X12_isCell_0.1.2.2 (v := (σ0.1 3)) rfl ?_
  refine z_imul M dt_X12_isCell_0.2.1.1.1 ?_
  refine z_iconst M dt_X12_isCell_0.2.1.1.2 ki_1 ?_
  refine z_isub M dt_X12_isCell_0.2.1.2 ?_
  refine z_i2l M dt_X12_isCell_0.2.2.1.1 ?_
  refine k_X12_in M u1517 (Nat.le_of_ble_eq_true rfl) (Nat.le_of_ble_eq_true rfl) dt_X12_isCell_0.2.2.1.2 ?_
  subst h
  exact z_zret M (nBo (bo_X12_in (Int32.toInt64 p0) (0 : Int64) (Int32.toInt64 (((12 : Int32) * (σ0.1 3)) - (1 : Int32))))) dt_X12_isCell_0.2.2.2
theorem k_X12_isCell {n : Nat} (M : zM l D zcl (zty cy) A ad (zR n) (mW a cy ad) own cc nL rt σo ov G) {p0 : Int32} {index : Nat} (hl : Cond.methodLink own index yX12_isCell ∈ uw) (hR : 3 ≤ n) (hW : (st.map fun v => v.category).sum ≤ 8) (d : decode cc pc = .ok (.invokevirtual index, 3)) (kk : G σ lv (pc + 3) (.int (f_X12_isCell σ p0) :: st)) : G σ lv pc (.int p0 :: .ref (a 0) :: st) := z_callV M [.int p0] (m_X12_isCell (zM_hD M) σ p0) (hM0 σ) rfl hl u99 u1553 u1552 u47 hd_X12_isCell hR (by decide) rfl hW d kk
set_option maxHeartbeats 4000000 in
set_option maxRecDepth 100000 in
theorem m_X12_placeOf (hD : ∀ σ, va_D A (wf σ)) (σ0 : Zst) (p0 : Int32) (p1 : Int32) (p2 : Int32) : zT l D zcl0 tys A ad wf yX12_placeOf cX12_placeOf 3 (some .int) 1 [.int p0, .int p1, .int p2] σ0 σ0 (some (.int (f_X12_placeOf p0 p1 p2))) := by
  obtain ⟨o, h⟩ : ∃ o, f_X12_placeOf p0 p1 p2 = o := ⟨_, rfl⟩
  rw [h]
  refine z_met pn_X12 hD (Nat.le_of_ble_eq_true rfl) rfl (fun G M => ?_)
  refine z_iload_n M dt_X12_placeOf_0.1.1.1.1 rfl 0 rfl ?_
  refine z_bipush M dt_X12_placeOf_0.1.1.1.2 kb_96 ?_
  refine z_imul M dt_X12_placeOf_0.1.1.2 ?_
  refine z_iload_n M dt_X12_placeOf_0.1.2.1 rfl 1 rfl ?_
  refine z_iadd M dt_X12_placeOf_0.1.2.2 ?_
  refine z_bipush M dt_X12_placeOf_0.2.1.1.1 kb_8 ?_
  refine z_imul M dt_X12_placeOf_0.2.1.1.2 ?_
  refine z_iload_n M dt_X12_placeOf_0.2.1.2 rfl 2 rfl ?_
  refine z_iadd M dt_X12_placeOf_0.2.2.1 ?_
  subst h
  exact z_iret M dt_X12_placeOf_0.2.2.2
theorem k_X12_placeOf {n : Nat} (M : zM l D zcl0 tys A ad (zR n) wf own cc nL rt σo ov G) {p0 : Int32} {p1 : Int32} {p2 : Int32} {index : Nat} (hl : Cond.methodLink own index yX12_placeOf ∈ uw) (hR : 2 ≤ n) (hW : (st.map fun v => v.category).sum ≤ 8) (d : decode cc pc = .ok (.invokestatic index, 3)) (kk : G σ lv (pc + 3) (.int (f_X12_placeOf p0 p1 p2) :: st)) : G σ lv pc (.int p2 :: .int p1 :: .int p0 :: st) := z_callS M [.int p0, .int p1, .int p2] (m_X12_placeOf (zM_hD M) σ p0 p1 p2) hl u99 u1562 u1561 hd_X12_placeOf hR (by decide) rfl hW d kk
set_option maxHeartbeats 4000000 in
set_option maxRecDepth 100000 in
theorem m_X12_at (hD : ∀ σ, va_D A (mW a cy ad σ)) {σ0 : Zst} {p0 : Int32} {p1 : Int32} {p2 : Int32} {o : Int32} (h : f_X12_at σ0 p0 p1 p2 = some o) : zT l D zcl (zty cy) A ad (mW a cy ad) yX12_at cX12_at 4 (some .int) 2 [.ref (a 0), .int p0, .int p1, .int p2] σ0 σ0 (some (.int o)) := by
  refine z_met pn_X12 hD (Nat.le_of_ble_eq_true rfl) rfl (fun G M => ?_)
  refine z_aload_n M dt_X12_at_0.1.1.1.1 rfl 0 rfl ?_
  refine gf_X12_number M u1973 dt_X12_at_0.1.1.1.2 ?_
  refine z_iload_n M dt_X12_at_0.1.1.2 rfl 1 rfl ?_
  refine z_iload_n M dt_X12_at_0.1.2.1 rfl 2 rfl ?_
  refine z_iload_n M dt_X12_at_0.1.2.2 rfl 3 rfl ?_
  refine k_X12_placeOf M u1560 (Nat.le_of_ble_eq_true rfl) (Nat.le_of_ble_eq_true rfl) dt_X12_at_0.2.1.1.1 ?_
  have ⟨hg, h⟩ := gIx_s h
  refine al_M10 (σ := σ0) M (f := (σ0.2.1 8)) rfl hg dt_X12_at_0.2.1.1.2 ?_
  refine z_iconst M dt_X12_at_0.2.1.2 ki_1 ?_
  refine z_isub M dt_X12_at_0.2.2.1 ?_
  obtain rfl := Option.some.inj h
  exact z_iret M dt_X12_at_0.2.2.2
theorem k_X12_at {n : Nat} (M : zM l D zcl (zty cy) A ad (zR n) (mW a cy ad) own cc nL rt σo ov G) {p0 : Int32} {p1 : Int32} {p2 : Int32} {o : Int32} (h : f_X12_at σ p0 p1 p2 = some o) {index : Nat} (hl : Cond.methodLink own index yX12_at ∈ uw) (hR : 3 ≤ n) (hW : (st.map fun v => v.category).sum ≤ 8) (d : decode cc pc = .ok (.invokevirtual index, 3)) (kk : G σ lv (pc + 3) (.int o :: st)) : G σ lv pc (.int p2 :: .int p1 :: .int p0 :: .ref (a 0) :: st) := z_callV M [.int p0, .int p1, .int p2] (m_X12_at (zM_hD M) h) (hM0 σ) rfl hl u99 u1559 u1558 u48 hd_X12_at hR (by decide) rfl hW d kk
set_option maxHeartbeats 4000000 in
set_option maxRecDepth 100000 in
theorem m_X12_sets (hD : ∀ σ, va_D A (mW a cy ad σ)) {σ : Zst} {p0 : Int32} {p1 : Int32} {p2 : Int32} {p3 : Int32} {o : Zst} (h : f_X12_sets σ p0 p1 p2 p3 = some o) : zT l D zcl (zty cy) A ad (mW a cy ad) yX12_sets cX12_sets 5 none 2 [.ref (a 0), .int p0, .int p1, .int p2, .int p3] σ o none := by
  refine z_met pn_X12 hD (Nat.le_of_ble_eq_true rfl) rfl (fun G M => ?_)
  refine z_aload_n M dt_X12_sets_0.1.1.1.1 rfl 0 rfl ?_
  refine gf_X12_number M u1973 dt_X12_sets_0.1.1.1.2 ?_
  refine z_iload_n M dt_X12_sets_0.1.1.2 rfl 1 rfl ?_
  refine z_iload_n M dt_X12_sets_0.1.2.1.1 rfl 2 rfl ?_
  refine z_iload_n M dt_X12_sets_0.1.2.1.2 rfl 3 rfl ?_
  refine k_X12_placeOf M u1560 (Nat.le_of_ble_eq_true rfl) (Nat.le_of_ble_eq_true rfl) dt_X12_sets_0.1.2.2 ?_
  refine z_iload M dt_X12_sets_0.2.1.1.1 4 rfl ?_
  refine z_iconst M dt_X12_sets_0.2.1.1.2 ki_1 ?_
  refine z_iadd M dt_X12_sets_0.2.1.2 ?_
  have ⟨hg, h⟩ := gIx_s h
  refine as_M10 (σ := σ) M (f := (σ.2.1 8)) rfl hg dt_X12_sets_0.2.2.1 ?_
  obtain rfl := Option.some.inj h
  exact z_vret M dt_X12_sets_0.2.2.2
theorem k_X12_sets {n : Nat} (M : zM l D zcl (zty cy) A ad (zR n) (mW a cy ad) own cc nL rt σo ov G) {p0 : Int32} {p1 : Int32} {p2 : Int32} {p3 : Int32} {o : Zst} (h : f_X12_sets σ p0 p1 p2 p3 = some o) {index : Nat} (hl : Cond.methodLink own index yX12_sets ∈ uw) (hR : 3 ≤ n) (hW : (st.map fun v => v.category).sum ≤ 8) (d : decode cc pc = .ok (.invokevirtual index, 3)) (kk : G o lv (pc + 3) (st)) : G σ lv pc (.int p3 :: .int p2 :: .int p1 :: .int p0 :: .ref (a 0) :: st) := z_callV M [.int p0, .int p1, .int p2, .int p3] (m_X12_sets (zM_hD M) h) (hM0 σ) rfl hl u99 u1566 u1565 u49 hd_X12_sets hR (by decide) rfl hW d kk
set_option maxHeartbeats 4000000 in
set_option maxRecDepth 100000 in
theorem m_X12_put (hD : ∀ σ, va_D A (mW a cy ad σ)) {σ : Zst} {p0 : Int32} {p1 : Int32} {p2 : Int32} {p3 : Int32} {o : (Zst × Int32)} (h : f_X12_put σ p0 p1 p2 p3 = some o) : zT l D zcl (zty cy) A ad (mW a cy ad) yX12_put cX12_put 6 (some .int) 3 [.ref (a 0), .int p0, .int p1, .int p2, .int p3] σ o.1 (some (.int o.2)) := by
  refine z_met pn_X12 hD (Nat.le_of_ble_eq_true rfl) rfl (fun G M => ?_)
  refine z_aload_n M dt_X12_put_0.1.1.1.1 rfl 0 rfl ?_
  refine z_iconst M dt_X12_put_0.1.1.1.2 ki_0 ?_
  refine pf_X12_thrown M u1960 dt_X12_put_0.1.1.2.1 ?_
  refine z_iload_n M dt_X12_put_0.1.1.2.2 rfl 1 rfl ?_
  refine k_X12_isKind M u1547 (Nat.le_of_ble_eq_true rfl) (Nat.le_of_ble_eq_true rfl) dt_X12_put_0.1.2.1.1 ?_
  refine z_if_eq (tgt := 43) M dt_X12_put_0.1.2.1.2 (by decide) (fun hc => ?_) (fun hc => ?_)
  · have h := gIt hc h
    refine z_bipush M dt_X12_put_1.1.2.1.1 kb_m2 ?_
    obtain rfl := Option.some.inj h
    exact z_iret M dt_X12_put_1.1.2.1.2
  · have h := gIf hc h
    refine z_aload_n M dt_X12_put_0.1.2.2.1 rfl 0 rfl ?_
    refine z_iload_n M dt_X12_put_0.1.2.2.2 rfl 2 rfl ?_
    refine k_X12_isCell M u1550 (Nat.le_of_ble_eq_true rfl) (Nat.le_of_ble_eq_true rfl) dt_X12_put_0.2.1.1.1 ?_
    refine z_if_eq (tgt := 43) M dt_X12_put_0.2.1.1.2 (by decide) (fun hc => ?_) (fun hc => ?_)
    · have h := gIt hc h
      refine z_bipush M dt_X12_put_1.1.2.1.1 kb_m2 ?_
      obtain rfl := Option.some.inj h
      exact z_iret M dt_X12_put_1.1.2.1.2
    · have h := gIf hc h
      refine z_aload_n M dt_X12_put_0.2.1.2.1 rfl 0 rfl ?_
      refine z_iload_n M dt_X12_put_0.2.1.2.2 rfl 3 rfl ?_
      refine k_X12_isSort M u1526 (Nat.le_of_ble_eq_true rfl) (Nat.le_of_ble_eq_true rfl) dt_X12_put_0.2.2.1.1 ?_
      refine z_if_eq (tgt := 43) M dt_X12_put_0.2.2.1.2 (by decide) (fun hc => ?_) (fun hc => ?_)
      · have h := gIt hc h
        refine z_bipush M dt_X12_put_1.1.2.1.1 kb_m2 ?_
        obtain rfl := Option.some.inj h
        exact z_iret M dt_X12_put_1.1.2.1.2
      · have h := gIf hc h
        refine z_iload M dt_X12_put_0.2.2.2.1 4 rfl ?_
        refine z_i2l M dt_X12_put_0.2.2.2.2 ?_
        refine z_ldc2 M dt_X12_put_1.1.1.1.1 u1554 ?_
        refine z_ldc2 M dt_X12_put_1.1.1.1.2 u1555 ?_
        refine k_X12_in M u1517 (Nat.le_of_ble_eq_true rfl) (Nat.le_of_ble_eq_true rfl) dt_X12_put_1.1.1.2.1 ?_
        refine z_if_ne (tgt := 46) M dt_X12_put_1.1.1.2.2 (by decide) (fun hc => ?_) (fun hc => ?_)
        · have h := gIf hc h
          refine z_aload_n M dt_X12_put_1.1.2.2.1 rfl 0 rfl ?_
          refine z_iload_n M dt_X12_put_1.1.2.2.2 rfl 1 rfl ?_
          refine z_iload_n M dt_X12_put_1.2.1.1.1 rfl 2 rfl ?_
          refine z_iload_n M dt_X12_put_1.2.1.1.2 rfl 3 rfl ?_
          obtain ⟨t1, hc, h⟩ := gBd h
          refine k_X12_at M hc u1556 (Nat.le_of_ble_eq_true rfl) (Nat.le_of_ble_eq_true rfl) dt_X12_put_1.2.1.2.1 ?_
          refine z_istore (lv' := [(5, .int t1), (0, .ref (a 0)), (1, .int p0), (2, .int p1), (3, .int p2), (4, .int p3)]) M dt_X12_put_1.2.1.2.2 (by decide) rfl ?_
          refine z_aload_n M dt_X12_put_1.2.2.1.1 rfl 1 rfl ?_
          refine z_iload_n M dt_X12_put_1.2.2.1.2 rfl 2 rfl ?_
          refine z_iload_n M dt_X12_put_1.2.2.2.1 rfl 3 rfl ?_
          refine z_iload_n M dt_X12_put_1.2.2.2.2 rfl 4 rfl ?_
          refine z_iload M dt_X12_put_2.1.1 5 rfl ?_
          obtain ⟨t2, hc, h⟩ := gBd h
          refine k_X12_sets M hc u1563 (Nat.le_of_ble_eq_true rfl) (Nat.le_of_ble_eq_true rfl) dt_X12_put_2.1.2 ?_
          refine z_iload M dt_X12_put_2.2.1 0 rfl ?_
          obtain rfl := Option.some.inj h
          exact z_iret M dt_X12_put_2.2.2
        · have h := gIt hc h
          refine z_bipush M dt_X12_put_1.1.2.1.1 kb_m2 ?_
          obtain rfl := Option.some.inj h
          exact z_iret M dt_X12_put_1.1.2.1.2
set_option maxHeartbeats 4000000 in
set_option maxRecDepth 100000 in
theorem m_X12_get (hD : ∀ σ, va_D A (mW a cy ad σ)) {σ : Zst} {p0 : Int32} {p1 : Int32} {p2 : Int32} {o : (Zst × Int32)} (h : f_X12_get σ p0 p1 p2 = some o) : zT l D zcl (zty cy) A ad (mW a cy ad) yX12_get cX12_get 4 (some .int) 3 [.ref (a 0), .int p0, .int p1, .int p2] σ o.1 (some (.int o.2)) := by
  refine z_met pn_X12 hD (Nat.le_of_ble_eq_true rfl) rfl (fun G M => ?_)
  refine z_aload_n M dt_X12_get_0.1.1.1.1 rfl 0 rfl ?_
  refine z_iconst M dt_X12_get_0.1.1.1.2 ki_0 ?_
  refine pf_X12_thrown M u1960 dt_X12_get_0.1.1.2.1 ?_
  refine z_iload_n M dt_X12_get_0.1.1.2.2 rfl 1 rfl ?_
  refine k_X12_isKind M u1547 (Nat.le_of_ble_eq_true rfl) (Nat.le_of_ble_eq_true rfl) dt_X12_get_0.1.2.1.1 ?_
  refine z_if_eq (tgt := 38) M dt_X12_get_0.1.2.1.2 (by decide) (fun hc => ?_) (fun hc => ?_)
  · have h := gIt hc h
    refine z_bipush M dt_X12_get_1.2.1.2 kb_m2 ?_
    obtain rfl := Option.some.inj h
    exact z_iret M dt_X12_get_1.2.2
  · have h := gIf hc h
    refine z_aload_n M dt_X12_get_0.1.2.2.1 rfl 0 rfl ?_
    refine z_iload_n M dt_X12_get_0.1.2.2.2 rfl 2 rfl ?_
    refine k_X12_isCell M u1550 (Nat.le_of_ble_eq_true rfl) (Nat.le_of_ble_eq_true rfl) dt_X12_get_0.2.1.1.1 ?_
    refine z_if_eq (tgt := 38) M dt_X12_get_0.2.1.1.2 (by decide) (fun hc => ?_) (fun hc => ?_)
    · have h := gIt hc h
      refine z_bipush M dt_X12_get_1.2.1.2 kb_m2 ?_
      obtain rfl := Option.some.inj h
      exact z_iret M dt_X12_get_1.2.2
    · have h := gIf hc h
      refine z_aload_n M dt_X12_get_0.2.1.2.1 rfl 0 rfl ?_
      refine z_iload_n M dt_X12_get_0.2.1.2.2 rfl 3 rfl ?_
      refine k_X12_isSort M u1526 (Nat.le_of_ble_eq_true rfl) (Nat.le_of_ble_eq_true rfl) dt_X12_get_0.2.2.1.1 ?_
      refine z_if_eq (tgt := 38) M dt_X12_get_0.2.2.1.2 (by decide) (fun hc => ?_) (fun hc => ?_)
      · have h := gIt hc h
        refine z_bipush M dt_X12_get_1.2.1.2 kb_m2 ?_
        obtain rfl := Option.some.inj h
        exact z_iret M dt_X12_get_1.2.2
      · have h := gIf hc h
        refine z_aload_n M dt_X12_get_0.2.2.2.1 rfl 0 rfl ?_
        refine z_iload_n M dt_X12_get_0.2.2.2.2 rfl 1 rfl ?_
        refine z_iload_n M dt_X12_get_1.1.1.1 rfl 2 rfl ?_
        refine z_iload_n M dt_X12_get_1.1.1.2 rfl 3 rfl ?_
        obtain ⟨t1, hc, h⟩ := gBd h
        refine k_X12_at M hc u1556 (Nat.le_of_ble_eq_true rfl) (Nat.le_of_ble_eq_true rfl) dt_X12_get_1.1.2 ?_
        refine z_goto (tgt := 40) M dt_X12_get_1.2.1.1 (by decide) ?_
        obtain rfl := Option.some.inj h
        exact z_iret M dt_X12_get_1.2.2
set_option maxHeartbeats 4000000 in
set_option maxRecDepth 100000 in
theorem wJ_X12_sheet_75 {o : (Zst × Int32)} (M : zM l D zcl (zty cy) A ad (zR 3) (mW a cy ad) RX12 cX12_sheet 9 (some .int) o.1 (some (.int o.2)) G) {k52 : Zst → Int32 → Int32 → Option (Zst × Int32)} (σ : Zst) (v1 : Int32) (v2 : Int32) (v3 : Int32) (v5 : Int32) (v6 : Int32) (v7 : Int32) (Hk52 : ∀ (σ : Zst) (w6 : Int32) (w7 : Int32), k52 σ w6 w7 = some o → G σ [(0, .ref (a 0)), (1, .int v1), (2, .int v2), (3, .int v3), (5, .int v5), (6, .int w6), (7, .int w7)] 52 []) (h : J_X12_sheet_75 k52 σ v1 v2 v3 v5 v6 v7 = some o) : G σ [(0, .ref (a 0)), (1, .int v1), (2, .int v2), (3, .int v3), (5, .int v5), (6, .int v6), (7, .int v7)] 75 [] := by
  refine z_iload_n M dt_X12_sheet_2.2.1.1.2 rfl 2 rfl ?_
  refine z_iconst M dt_X12_sheet_2.2.1.2.1 ki_3 ?_
  have hJ4 : G σ [(0, .ref (a 0)), (1, .int v1), (2, .int v2), (3, .int v3), (5, .int v5), (6, .int v6), (7, .int v7)] 107 [.int (if v2 = (3 : Int32) then (-1 : Int32) else (if v2 = (0 : Int32) then (Int8.toInt32 (Int32.toInt8 v6)) else (if v2 = (1 : Int32) then (Int16.toInt32 (Int32.toInt16 v6)) else v6)))] := by
    refine z_istore (lv' := [(8, .int (if v2 = (3 : Int32) then (-1 : Int32) else (if v2 = (0 : Int32) then (Int8.toInt32 (Int32.toInt8 v6)) else (if v2 = (1 : Int32) then (Int16.toInt32 (Int32.toInt16 v6)) else v6)))), (0, .ref (a 0)), (1, .int v1), (2, .int v2), (3, .int v3), (5, .int v5), (6, .int v6), (7, .int v7)]) M dt_X12_sheet_3.2.1.2.1 (by decide) rfl ?_
    refine z_aload_n M dt_X12_sheet_3.2.1.2.2 rfl 1 rfl ?_
    refine z_iconst M dt_X12_sheet_3.2.2.1.1 ki_0 ?_
    refine z_iload M dt_X12_sheet_3.2.2.1.2 7 rfl ?_
    refine z_iload_n M dt_X12_sheet_3.2.2.2.1 rfl 2 rfl ?_
    refine z_iload M dt_X12_sheet_3.2.2.2.2 0 rfl ?_
    have hJ6 : G σ [(8, .int (if v2 = (3 : Int32) then (-1 : Int32) else (if v2 = (0 : Int32) then (Int8.toInt32 (Int32.toInt8 v6)) else (if v2 = (1 : Int32) then (Int16.toInt32 (Int32.toInt16 v6)) else v6)))), (0, .ref (a 0)), (1, .int v1), (2, .int v2), (3, .int v3), (5, .int v5), (6, .int v6), (7, .int v7)] 131 [.int (if (0 : Int32) ≤ (if v2 = (3 : Int32) then (-1 : Int32) else (if v2 = (0 : Int32) then (Int8.toInt32 (Int32.toInt8 v6)) else (if v2 = (1 : Int32) then (Int16.toInt32 (Int32.toInt16 v6)) else v6))) then (jMin (999 : Int32) (if v2 = (3 : Int32) then (-1 : Int32) else (if v2 = (0 : Int32) then (Int8.toInt32 (Int32.toInt8 v6)) else (if v2 = (1 : Int32) then (Int16.toInt32 (Int32.toInt16 v6)) else v6)))) else (-1 : Int32)), .int v1, .int v7, .int (0 : Int32), .ref (a 0)] := by
      obtain ⟨t7, hc, h⟩ := gBd h
      refine k_X12_sets M hc u1563 (Nat.le_of_ble_eq_true rfl) (Nat.le_of_ble_eq_true rfl) dt_X12_sheet_4.1.2.2.1 ?_
      refine z_iload M dt_X12_sheet_4.1.2.2.2 6 rfl ?_
      refine z_iload M dt_X12_sheet_4.2.1.1.1 5 rfl ?_
      refine z_iadd M dt_X12_sheet_4.2.1.1.2 ?_
      refine z_istore (lv' := [(6, .int (v6 + v5)), (8, .int (if v2 = (3 : Int32) then (-1 : Int32) else (if v2 = (0 : Int32) then (Int8.toInt32 (Int32.toInt8 v6)) else (if v2 = (1 : Int32) then (Int16.toInt32 (Int32.toInt16 v6)) else v6)))), (0, .ref (a 0)), (1, .int v1), (2, .int v2), (3, .int v3), (5, .int v5), (7, .int v7)]) M dt_X12_sheet_4.2.1.2.1 (by decide) rfl ?_
      refine z_iinc (v := (v7 + (1 : Int32))) (lv' := [(7, .int (v7 + (1 : Int32))), (6, .int (v6 + v5)), (8, .int (if v2 = (3 : Int32) then (-1 : Int32) else (if v2 = (0 : Int32) then (Int8.toInt32 (Int32.toInt8 v6)) else (if v2 = (1 : Int32) then (Int16.toInt32 (Int32.toInt16 v6)) else v6)))), (0, .ref (a 0)), (1, .int v1), (2, .int v2), (3, .int v3), (5, .int v5)]) M dt_X12_sheet_4.2.1.2.2 (k := 7) rfl (congrArg (fun q => v7 + q) ki_1) (by decide) rfl ?_
      refine z_goto (tgt := 52) M dt_X12_sheet_4.2.2.1.1 (by decide) ?_
      refine z_sub M [3, 4, 5, 6, 7, 1, 0] (lv' := [(0, .ref (a 0)), (1, .int v1), (2, .int v2), (3, .int v3), (5, .int v5), (6, .int (v6 + v5)), (7, .int (v7 + (1 : Int32)))]) rfl ?_
      exact Hk52 t7 (v6 + v5) (v7 + (1 : Int32)) h
    refine z_if_ge (tgt := 123) M dt_X12_sheet_4.1.1.1.1 (by decide) (fun hc5 => ?_) (fun hc5 => ?_)
    · refine z_sipush M dt_X12_sheet_4.1.1.2.2 ks_999 ?_
      refine z_iload M dt_X12_sheet_4.1.2.1.1 0 rfl ?_
      refine z_mmin M u1576 u680 u100 u681 (Nat.le_of_ble_eq_true rfl) (Nat.le_of_ble_eq_true rfl) dt_X12_sheet_4.1.2.1.2 ?_
      exact (zTt hc5 hJ6)
    · refine z_iconst M dt_X12_sheet_4.1.1.1.2 ki_m1 ?_
      refine z_goto (tgt := 131) M dt_X12_sheet_4.1.1.2.1 (by decide) ?_
      exact (zTf hc5 hJ6)
  refine z_icmp_ne (tgt := 84) M dt_X12_sheet_2.2.1.2.2 (by decide) (fun hc1 => ?_) (fun hc1 => ?_)
  · refine z_iload_n M dt_X12_sheet_2.2.2.2.1 rfl 2 rfl ?_
    refine z_if_ne (tgt := 94) M dt_X12_sheet_2.2.2.2.2 (by decide) (fun hc2 => ?_) (fun hc2 => ?_)
    · refine z_iload_n M dt_X12_sheet_3.1.1.2.2 rfl 2 rfl ?_
      refine z_iconst M dt_X12_sheet_3.1.2.1.1 ki_1 ?_
      refine z_icmp_ne (tgt := 105) M dt_X12_sheet_3.1.2.1.2 (by decide) (fun hc3 => ?_) (fun hc3 => ?_)
      · refine z_iload M dt_X12_sheet_3.2.1.1.2 5 rfl ?_
        exact (zTf hc3 (zTf hc2 (zTf hc1 hJ4)))
      · refine z_iload M dt_X12_sheet_3.1.2.2.1 5 rfl ?_
        refine z_i2s M dt_X12_sheet_3.1.2.2.2 ?_
        refine z_goto (tgt := 107) M dt_X12_sheet_3.2.1.1.1 (by decide) ?_
        exact (zTt hc3 (zTf hc2 (zTf hc1 hJ4)))
    · refine z_iload M dt_X12_sheet_3.1.1.1.1 5 rfl ?_
      refine z_i2b M dt_X12_sheet_3.1.1.1.2 ?_
      refine z_goto (tgt := 107) M dt_X12_sheet_3.1.1.2.1 (by decide) ?_
      exact (zTt hc2 (zTf hc1 hJ4))
  · refine z_iconst M dt_X12_sheet_2.2.2.1.1 ki_m1 ?_
    refine z_goto (tgt := 107) M dt_X12_sheet_2.2.2.1.2 (by decide) ?_
    exact (zTt hc1 hJ4)
set_option maxHeartbeats 4000000 in
set_option maxRecDepth 100000 in
theorem wL_X12_sheet_52 {o : (Zst × Int32)} (M : zM l D zcl (zty cy) A ad (zR 3) (mW a cy ad) RX12 cX12_sheet 9 (some .int) o.1 (some (.int o.2)) G) {k147 : Zst → Option (Zst × Int32)}  (v1 : Int32) (v2 : Int32) (v3 : Int32) (v5 : Int32) (Hk147 : ∀ (σ : Zst), k147 σ = some o → G σ [(0, .ref (a 0)), (2, .int v2), (3, .int v3)] 147 []) :
    ∀ (n52 : Nat) (σ : Zst) (v6 : Int32) (v7 : Int32), L_X12_sheet_52 k147 v1 v2 v3 v5 n52 σ v6 v7 = some o → G σ [(0, .ref (a 0)), (1, .int v1), (2, .int v2), (3, .int v3), (5, .int v5), (6, .int v6), (7, .int v7)] 52 [] := by
  intro n52
  induction n52 with
  | zero => intro σ v6 v7 h; exact nomatch (show (none : Option (Zst × Int32)) = some _ from h)
  | succ n52 ih =>
    intro σ v6 v7 h
    refine z_iload M dt_X12_sheet_1.2.2.1.2 6 rfl ?_
    refine z_bipush M dt_X12_sheet_1.2.2.2.1 kb_12 ?_
    refine z_aload_n M dt_X12_sheet_1.2.2.2.2 rfl 0 rfl ?_
    refine gf_X12_streets (σ := σ) M u1970 dt_X12_sheet_2.1.1.1.1 (v := (σ.1 3)) rfl ?_
    refine z_imul M dt_X12_sheet_2.1.1.1.2 ?_
    refine z_icmp_ge (tgt := 147) M dt_X12_sheet_2.1.1.2.1 (by decide) (fun hc => ?_) (fun hc => ?_)
    · have h := gIt hc h
      refine z_sub M [0, 2, 3] (lv' := [(0, .ref (a 0)), (2, .int v2), (3, .int v3)]) rfl ?_
      exact Hk147 σ h
    · have h := gIf hc h
      refine z_iload_n M dt_X12_sheet_2.1.1.2.2 rfl 2 rfl ?_
      refine z_iconst M dt_X12_sheet_2.1.2.1.1 ki_3 ?_
      refine z_icmp_eq (tgt := 75) M dt_X12_sheet_2.1.2.1.2 (by decide) (fun hc => ?_) (fun hc => ?_)
      · have h := gIt hc h
        exact wJ_X12_sheet_75 M (k52 := (fun σ w6 w7 => L_X12_sheet_52 k147 v1 v2 v3 v5 n52 σ w6 w7)) σ v1 v2 v3 v5 v6 v7 ih h
      · have h := gIf hc h
        refine z_iload M dt_X12_sheet_2.1.2.2.1 6 rfl ?_
        refine z_iload_n M dt_X12_sheet_2.1.2.2.2 rfl 3 rfl ?_
        refine z_icmp_ge (tgt := 147) M dt_X12_sheet_2.2.1.1.1 (by decide) (fun hc => ?_) (fun hc => ?_)
        · have h := gIt hc h
          refine z_sub M [0, 2, 3] (lv' := [(0, .ref (a 0)), (2, .int v2), (3, .int v3)]) rfl ?_
          exact Hk147 σ h
        · have h := gIf hc h
          exact wJ_X12_sheet_75 M (k52 := (fun σ w6 w7 => L_X12_sheet_52 k147 v1 v2 v3 v5 n52 σ w6 w7)) σ v1 v2 v3 v5 v6 v7 ih h
set_option maxHeartbeats 4000000 in
set_option maxRecDepth 100000 in
theorem wJ_X12_sheet_147 {o : (Zst × Int32)} (M : zM l D zcl (zty cy) A ad (zR 3) (mW a cy ad) RX12 cX12_sheet 9 (some .int) o.1 (some (.int o.2)) G) (σ : Zst) (v2 : Int32) (v3 : Int32)  (h : J_X12_sheet_147 σ v2 v3 = some o) : G σ [(0, .ref (a 0)), (2, .int v2), (3, .int v3)] 147 [] := by
  refine z_iload_n M dt_X12_sheet_4.2.2.1.2 rfl 1 rfl ?_
  refine z_iconst M dt_X12_sheet_4.2.2.2.1 ki_3 ?_
  have hJ9 : G σ [(0, .ref (a 0)), (2, .int v2), (3, .int v3)] 173 [.int (if v2 = (3 : Int32) then ((12 : Int32) * (σ.1 3)) else (jMin v3 ((12 : Int32) * (σ.1 3))))] := by
    obtain rfl := Option.some.inj h
    exact z_iret M dt_X12_sheet_5.2.2.2
  refine z_icmp_ne (tgt := 162) M dt_X12_sheet_4.2.2.2.2 (by decide) (fun hc8 => ?_) (fun hc8 => ?_)
  · refine z_iload_n M dt_X12_sheet_5.1.2.2 rfl 2 rfl ?_
    refine z_bipush M dt_X12_sheet_5.2.1.1.1 kb_12 ?_
    refine z_aload_n M dt_X12_sheet_5.2.1.1.2 rfl 0 rfl ?_
    refine gf_X12_streets (σ := σ) M u1970 dt_X12_sheet_5.2.1.2 (v := (σ.1 3)) rfl ?_
    refine z_imul M dt_X12_sheet_5.2.2.1.1 ?_
    refine z_mmin M u1576 u680 u100 u681 (Nat.le_of_ble_eq_true rfl) (Nat.le_of_ble_eq_true rfl) dt_X12_sheet_5.2.2.1.2 ?_
    exact (zTf hc8 hJ9)
  · refine z_bipush M dt_X12_sheet_5.1.1.1.1 kb_12 ?_
    refine z_aload_n M dt_X12_sheet_5.1.1.1.2 rfl 0 rfl ?_
    refine gf_X12_streets (σ := σ) M u1970 dt_X12_sheet_5.1.1.2 (v := (σ.1 3)) rfl ?_
    refine z_imul M dt_X12_sheet_5.1.2.1.1 ?_
    refine z_goto (tgt := 173) M dt_X12_sheet_5.1.2.1.2 (by decide) ?_
    exact (zTt hc8 hJ9)
set_option maxHeartbeats 4000000 in
set_option maxRecDepth 100000 in
theorem m_X12_sheet (hD : ∀ σ, va_D A (mW a cy ad σ)) {σ : Zst} {p0 : Int32} {p1 : Int32} {p2 : Int32} {p3 : Int32} {p4 : Int32} {o : (Zst × Int32)} (h : f_X12_sheet σ p0 p1 p2 p3 p4 = some o) : zT l D zcl (zty cy) A ad (mW a cy ad) yX12_sheet cX12_sheet 9 (some .int) 3 [.ref (a 0), .int p0, .int p1, .int p2, .int p3, .int p4] σ o.1 (some (.int o.2)) := by
  refine z_met pn_X12 hD (Nat.le_of_ble_eq_true rfl) rfl (fun G M => ?_)
  refine z_aload_n M dt_X12_sheet_0.1.1.1.1 rfl 0 rfl ?_
  refine z_iconst M dt_X12_sheet_0.1.1.1.2 ki_0 ?_
  refine pf_X12_thrown M u1960 dt_X12_sheet_0.1.1.2.1 ?_
  refine z_aload_n M dt_X12_sheet_0.1.1.2.2 rfl 0 rfl ?_
  refine z_iload_n M dt_X12_sheet_0.1.2.1.1 rfl 1 rfl ?_
  refine k_X12_isSort M u1526 (Nat.le_of_ble_eq_true rfl) (Nat.le_of_ble_eq_true rfl) dt_X12_sheet_0.1.2.1.2 ?_
  refine z_if_eq (tgt := 31) M dt_X12_sheet_0.1.2.2.1 (by decide) (fun hc => ?_) (fun hc => ?_)
  · have h := gIt hc h
    refine z_iconst M dt_X12_sheet_1.1.1.1.1 ki_m1 ?_
    obtain rfl := Option.some.inj h
    exact z_iret M dt_X12_sheet_1.1.1.1.2
  · have h := gIf hc h
    refine z_iload_n M dt_X12_sheet_0.1.2.2.2 rfl 2 rfl ?_
    refine z_i2l M dt_X12_sheet_0.2.1.1.1 ?_
    refine z_lconst (v := 0) M dt_X12_sheet_0.2.1.1.2 (by decide) ?_
    refine z_ldc2 M dt_X12_sheet_0.2.1.2.1 u1575 ?_
    refine k_X12_in M u1517 (Nat.le_of_ble_eq_true rfl) (Nat.le_of_ble_eq_true rfl) dt_X12_sheet_0.2.1.2.2 ?_
    refine z_if_eq (tgt := 31) M dt_X12_sheet_0.2.2.1.1 (by decide) (fun hc => ?_) (fun hc => ?_)
    · have h := gIt hc h
      refine z_iconst M dt_X12_sheet_1.1.1.1.1 ki_m1 ?_
      obtain rfl := Option.some.inj h
      exact z_iret M dt_X12_sheet_1.1.1.1.2
    · have h := gIf hc h
      refine z_iload_n M dt_X12_sheet_0.2.2.1.2 rfl 3 rfl ?_
      refine z_bipush M dt_X12_sheet_0.2.2.2.1 kb_96 ?_
      refine z_icmp_le (tgt := 33) M dt_X12_sheet_0.2.2.2.2 (by decide) (fun hc => ?_) (fun hc => ?_)
      · have h := gIt hc h
        refine z_iload_n M dt_X12_sheet_1.1.1.2.1 rfl 2 rfl ?_
        refine z_iconst M dt_X12_sheet_1.1.1.2.2 ki_3 ?_
        refine z_icmp_eq (tgt := 45) M dt_X12_sheet_1.1.2.1.1 (by decide) (fun hc => ?_) (fun hc => ?_)
        · have h := gIt hc h
          refine z_iload M dt_X12_sheet_1.2.1.1.2 4 rfl ?_
          refine z_istore (lv' := [(6, .int p3), (0, .ref (a 0)), (1, .int p0), (2, .int p1), (3, .int p2), (4, .int p3), (5, .int p4)]) M dt_X12_sheet_1.2.1.2.1 (by decide) rfl ?_
          refine z_iconst M dt_X12_sheet_1.2.1.2.2 ki_0 ?_
          refine z_istore (lv' := [(7, .int (0 : Int32)), (6, .int p3), (0, .ref (a 0)), (1, .int p0), (2, .int p1), (3, .int p2), (4, .int p3), (5, .int p4)]) M dt_X12_sheet_1.2.2.1.1 (by decide) rfl ?_
          refine z_sub M [2, 3, 4, 5, 7, 1, 0] (lv' := [(0, .ref (a 0)), (1, .int p0), (2, .int p1), (3, .int p2), (5, .int p4), (6, .int p3), (7, .int (0 : Int32))]) rfl ?_
          exact wL_X12_sheet_52 M (k147 := (fun σ10 => J_X12_sheet_147 σ10 p1 p2)) p0 p1 p2 p4 (fun σ10 h => by
              exact wJ_X12_sheet_147 M  σ10 p1 p2 h) zFu (zI σ 0 (0 : Int32)) p3 (0 : Int32) h
        · have h := gIf hc h
          refine z_iload_n M dt_X12_sheet_1.1.2.1.2 rfl 3 rfl ?_
          refine z_if_ge (tgt := 45) M dt_X12_sheet_1.1.2.2.1 (by decide) (fun hc => ?_) (fun hc => ?_)
          · have h := gIt hc h
            refine z_iload M dt_X12_sheet_1.2.1.1.2 4 rfl ?_
            refine z_istore (lv' := [(6, .int p3), (0, .ref (a 0)), (1, .int p0), (2, .int p1), (3, .int p2), (4, .int p3), (5, .int p4)]) M dt_X12_sheet_1.2.1.2.1 (by decide) rfl ?_
            refine z_iconst M dt_X12_sheet_1.2.1.2.2 ki_0 ?_
            refine z_istore (lv' := [(7, .int (0 : Int32)), (6, .int p3), (0, .ref (a 0)), (1, .int p0), (2, .int p1), (3, .int p2), (4, .int p3), (5, .int p4)]) M dt_X12_sheet_1.2.2.1.1 (by decide) rfl ?_
            refine z_sub M [2, 3, 4, 5, 7, 1, 0] (lv' := [(0, .ref (a 0)), (1, .int p0), (2, .int p1), (3, .int p2), (5, .int p4), (6, .int p3), (7, .int (0 : Int32))]) rfl ?_
            exact wL_X12_sheet_52 M (k147 := (fun σ11 => J_X12_sheet_147 σ11 p1 p2)) p0 p1 p2 p4 (fun σ11 h => by
                exact wJ_X12_sheet_147 M  σ11 p1 p2 h) zFu (zI σ 0 (0 : Int32)) p3 (0 : Int32) h
          · have h := gIf hc h
            refine z_bipush M dt_X12_sheet_1.1.2.2.2 kb_m2 ?_
            obtain rfl := Option.some.inj h
            exact z_iret M dt_X12_sheet_1.2.1.1.1
      · have h := gIf hc h
        refine z_iconst M dt_X12_sheet_1.1.1.1.1 ki_m1 ?_
        obtain rfl := Option.some.inj h
        exact z_iret M dt_X12_sheet_1.1.1.1.2
set_option maxHeartbeats 4000000 in
set_option maxRecDepth 100000 in
theorem wL_X12_sign_18 {o : (Zst × Int32)} (M : zM l D zcl (zty cy) A ad (zR 1) (mW a cy ad) RX12 cX12_sign 3 (some .int) o.1 (some (.int o.2)) G) {k53 : Zst → Option (Zst × Int32)}  (v1 : Int32) (Hk53 : ∀ (σ : Zst), k53 σ = some o → G σ [(0, .ref (a 0))] 53 []) :
    ∀ (n18 : Nat) (σ : Zst) (v2 : Int32), L_X12_sign_18 k53 v1 n18 σ v2 = some o → G σ [(0, .ref (a 0)), (1, .int v1), (2, .int v2)] 18 [] := by
  intro n18
  induction n18 with
  | zero => intro σ v2 h; exact nomatch (show (none : Option (Zst × Int32)) = some _ from h)
  | succ n18 ih =>
    intro σ v2 h
    refine z_iload_n M dt_X12_sign_0.2.1.2.2 rfl 2 rfl ?_
    refine z_iconst M dt_X12_sign_0.2.2.1.1 ki_4 ?_
    refine z_icmp_ge (tgt := 53) M dt_X12_sign_0.2.2.1.2 (by decide) (fun hc => ?_) (fun hc => ?_)
    · have h := gIt hc h
      refine z_sub M [0] (lv' := [(0, .ref (a 0))]) rfl ?_
      exact Hk53 σ h
    · have h := gIf hc h
      refine z_aload_n M dt_X12_sign_0.2.2.2.1 rfl 0 rfl ?_
      refine gf_X12_tape M u1978 dt_X12_sign_0.2.2.2.2 ?_
      refine z_aload_n M dt_X12_sign_1.1.1.1.1 rfl 0 rfl ?_
      refine gf_X12_taped (σ := σ) M u1979 dt_X12_sign_1.1.1.1.2 (v := (σ.1 5)) rfl ?_
      refine z_iload_n M dt_X12_sign_1.1.1.2.1 rfl 2 rfl ?_
      refine z_iadd M dt_X12_sign_1.1.1.2.2 ?_
      refine z_iload_n M dt_X12_sign_1.1.2.1.1 rfl 1 rfl ?_
      refine z_bipush M dt_X12_sign_1.1.2.1.2 kb_24 ?_
      refine z_bipush M dt_X12_sign_1.1.2.2.1 kb_8 ?_
      refine z_iload_n M dt_X12_sign_1.1.2.2.2 rfl 2 rfl ?_
      refine z_imul M dt_X12_sign_1.2.1.1.1 ?_
      refine z_isub M dt_X12_sign_1.2.1.1.2 ?_
      refine z_ishr M dt_X12_sign_1.2.1.2.1 ?_
      refine z_sipush M dt_X12_sign_1.2.1.2.2 ks_255 ?_
      refine z_iand M dt_X12_sign_1.2.2.1.1 ?_
      have ⟨hg, h⟩ := gIx_s h
      refine as_M14 (σ := σ) M (f := (σ.2.1 12)) rfl hg dt_X12_sign_1.2.2.1.2 ?_
      refine z_iinc (v := (v2 + (1 : Int32))) (lv' := [(2, .int (v2 + (1 : Int32))), (0, .ref (a 0)), (1, .int v1)]) M dt_X12_sign_1.2.2.2.1 (k := 2) rfl (congrArg (fun q => v2 + q) ki_1) (by decide) rfl ?_
      refine z_goto (tgt := 18) M dt_X12_sign_1.2.2.2.2 (by decide) ?_
      refine z_sub M [1, 2, 0] (lv' := [(0, .ref (a 0)), (1, .int v1), (2, .int (v2 + (1 : Int32)))]) rfl ?_
      exact ih (zA σ 12 (upd (σ.2.1 12) (Int32.toNatClampNeg ((σ.1 5) + v2)) ((jShr v1 ((24 : Int32) - ((8 : Int32) * v2))) &&& (255 : Int32)))) (v2 + (1 : Int32)) h
set_option maxHeartbeats 4000000 in
set_option maxRecDepth 100000 in
theorem wJ_X12_sign_53 {o : (Zst × Int32)} (M : zM l D zcl (zty cy) A ad (zR 1) (mW a cy ad) RX12 cX12_sign 3 (some .int) o.1 (some (.int o.2)) G) (σ : Zst)   (h : J_X12_sign_53 σ = some o) : G σ [(0, .ref (a 0))] 53 [] := by
  refine z_aload_n M dt_X12_sign_2.1.1.1.1 rfl 0 rfl ?_
  refine z_dup M dt_X12_sign_2.1.1.1.2 rfl ?_
  refine gf_X12_taped (σ := σ) M u1979 dt_X12_sign_2.1.1.2 (v := (σ.1 5)) rfl ?_
  refine z_iconst M dt_X12_sign_2.1.2.1 ki_4 ?_
  refine z_iadd M dt_X12_sign_2.1.2.2 ?_
  refine pf_X12_taped M u1979 dt_X12_sign_2.2.1.1 ?_
  refine z_aload_n M dt_X12_sign_2.2.1.2 rfl 0 rfl ?_
  refine gf_X12_taped (σ := (zI σ 5 ((σ.1 5) + (4 : Int32)))) M u1979 dt_X12_sign_2.2.2.1 (v := ((σ.1 5) + (4 : Int32))) rfl ?_
  obtain rfl := Option.some.inj h
  exact z_iret M dt_X12_sign_2.2.2.2
set_option maxHeartbeats 4000000 in
set_option maxRecDepth 100000 in
theorem m_X12_sign (hD : ∀ σ, va_D A (mW a cy ad σ)) {σ : Zst} {p0 : Int32} {o : (Zst × Int32)} (h : f_X12_sign σ p0 = some o) : zT l D zcl (zty cy) A ad (mW a cy ad) yX12_sign cX12_sign 3 (some .int) 1 [.ref (a 0), .int p0] σ o.1 (some (.int o.2)) := by
  refine z_met pn_X12 hD (Nat.le_of_ble_eq_true rfl) rfl (fun G M => ?_)
  refine z_aload_n M dt_X12_sign_0.1.1.1.1 rfl 0 rfl ?_
  refine z_iconst M dt_X12_sign_0.1.1.1.2 ki_0 ?_
  refine pf_X12_thrown M u1960 dt_X12_sign_0.1.1.2.1 ?_
  refine z_aload_n M dt_X12_sign_0.1.1.2.2 rfl 0 rfl ?_
  refine gf_X12_taped (σ := (zI σ 0 (0 : Int32))) M u1979 dt_X12_sign_0.1.2.1.1 (v := (σ.1 5)) rfl ?_
  refine z_bipush M dt_X12_sign_0.1.2.1.2 kb_56 ?_
  refine z_icmp_le (tgt := 16) M dt_X12_sign_0.1.2.2.1 (by decide) (fun hc => ?_) (fun hc => ?_)
  · have h := gIt hc h
    refine z_iconst M dt_X12_sign_0.2.1.1.2 ki_0 ?_
    refine z_istore_n (lv' := [(2, .int (0 : Int32)), (0, .ref (a 0)), (1, .int p0)]) M dt_X12_sign_0.2.1.2.1 rfl (by decide) rfl ?_
    refine z_sub M [1, 2, 0] (lv' := [(0, .ref (a 0)), (1, .int p0), (2, .int (0 : Int32))]) rfl ?_
    exact wL_X12_sign_18 M (k53 := (fun σ1 => J_X12_sign_53 σ1)) p0 (fun σ1 h => by
        exact wJ_X12_sign_53 M  σ1 h) zFu (zI σ 0 (0 : Int32)) (0 : Int32) h
  · have h := gIf hc h
    refine z_iconst M dt_X12_sign_0.1.2.2.2 ki_m1 ?_
    obtain rfl := Option.some.inj h
    exact z_iret M dt_X12_sign_0.2.1.1.1
set_option maxHeartbeats 4000000 in
set_option maxRecDepth 100000 in
theorem m_X12_end (hD : ∀ σ, va_D A (mW a cy ad σ)) {σ : Zst} {p0 : Int32} {o : (Zst × Int32)} (h : f_X12_end σ p0 = some o) : zT l D zcl (zty cy) A ad (mW a cy ad) yX12_end cX12_end 2 (some .boolean) 2 [.ref (a 0), .int p0] σ o.1 (some (.int o.2)) := by
  refine z_met pn_X12 hD (Nat.le_of_ble_eq_true rfl) rfl (fun G M => ?_)
  refine z_aload_n M dt_X12_end_0.1.1.1.1 rfl 0 rfl ?_
  refine z_iconst M dt_X12_end_0.1.1.1.2 ki_0 ?_
  refine pf_X12_thrown M u1960 dt_X12_end_0.1.1.2.1 ?_
  refine z_iload_n M dt_X12_end_0.1.1.2.2 rfl 1 rfl ?_
  refine z_i2l M dt_X12_end_0.1.2.1.1 ?_
  refine z_lconst (v := 0) M dt_X12_end_0.1.2.1.2 (by decide) ?_
  refine z_aload_n M dt_X12_end_0.1.2.2.1 rfl 0 rfl ?_
  refine gf_X12_taped (σ := (zI σ 0 (0 : Int32))) M u1979 dt_X12_end_0.1.2.2.2 (v := (σ.1 5)) rfl ?_
  refine z_i2l M dt_X12_end_0.2.1.1.1 ?_
  refine k_X12_in M u1517 (Nat.le_of_ble_eq_true rfl) (Nat.le_of_ble_eq_true rfl) dt_X12_end_0.2.1.1.2 ?_
  refine z_if_ne (tgt := 21) M dt_X12_end_0.2.1.2.1 (by decide) (fun hc => ?_) (fun hc => ?_)
  · have h := gIf hc h
    refine z_aload_n M dt_X12_end_0.2.2.1.2 rfl 0 rfl ?_
    refine z_iload_n M dt_X12_end_0.2.2.2.1 rfl 1 rfl ?_
    refine pf_X12_taped M u1979 dt_X12_end_0.2.2.2.2 ?_
    refine z_iconst M dt_X12_end_1.1 ki_1 ?_
    obtain rfl := Option.some.inj h
    exact z_zret M (nBo (Or.inr rfl)) dt_X12_end_1.2
  · have h := gIt hc h
    refine z_iconst M dt_X12_end_0.2.1.2.2 ki_0 ?_
    obtain rfl := Option.some.inj h
    exact z_zret M (nBo (Or.inl rfl)) dt_X12_end_0.2.2.1.1
set_option maxHeartbeats 4000000 in
set_option maxRecDepth 100000 in
theorem m_X12_begins (hD : ∀ σ, va_D A (mW a cy ad σ)) {σ : Zst}  {o : (Zst × Int32)} (h : f_X12_begins σ = some o) : zT l D zcl (zty cy) A ad (mW a cy ad) yX12_begins cX12_begins 2 (some .int) 2 [.ref (a 0)] σ o.1 (some (.int o.2)) := by
  refine z_met pn_X12 hD (Nat.le_of_ble_eq_true rfl) rfl (fun G M => ?_)
  refine z_aload_n M dt_X12_begins_0.1.1.1.1 rfl 0 rfl ?_
  refine gf_X12_taped (σ := σ) M u1979 dt_X12_begins_0.1.1.1.2 (v := (σ.1 5)) rfl ?_
  refine z_istore_n (lv' := [(1, .int (σ.1 5)), (0, .ref (a 0))]) M dt_X12_begins_0.1.1.2.1 rfl (by decide) rfl ?_
  refine z_aload_n M dt_X12_begins_0.1.1.2.2 rfl 1 rfl ?_
  refine z_iconst M dt_X12_begins_0.1.2.1.1 ki_0 ?_
  refine pf_X12_taped M u1979 dt_X12_begins_0.1.2.1.2 ?_
  refine z_aload_n M dt_X12_begins_0.1.2.2.1 rfl 1 rfl ?_
  refine z_iconst M dt_X12_begins_0.1.2.2.2 ki_0 ?_
  refine pf_X12_place M u1980 dt_X12_begins_0.2.1.1.1 ?_
  refine z_aload_n M dt_X12_begins_0.2.1.1.2 rfl 1 rfl ?_
  refine z_iconst M dt_X12_begins_0.2.1.2.1 ki_0 ?_
  refine pf_X12_open M u1982 dt_X12_begins_0.2.1.2.2 ?_
  refine z_aload_n M dt_X12_begins_0.2.2.1.1 rfl 1 rfl ?_
  refine z_iload_n M dt_X12_begins_0.2.2.1.2 rfl 0 rfl ?_
  refine z_bipush M dt_X12_begins_0.2.2.2.1 kb_40 ?_
  refine z_mmin M u1576 u680 u100 u681 (Nat.le_of_ble_eq_true rfl) (Nat.le_of_ble_eq_true rfl) dt_X12_begins_0.2.2.2.2 ?_
  refine pf_X12_to M u1981 dt_X12_begins_1.1.1 ?_
  refine z_iload_n M dt_X12_begins_1.1.2 rfl 0 rfl ?_
  obtain rfl := Option.some.inj h
  exact z_iret M dt_X12_begins_1.2
theorem k_X12_begins {n : Nat} (M : zM l D zcl (zty cy) A ad (zR n) (mW a cy ad) own cc nL rt σo ov G)  {o : (Zst × Int32)} (h : f_X12_begins σ = some o) {index : Nat} (hl : Cond.methodLink own index yX12_begins ∈ uw) (hR : 3 ≤ n) (hW : (st.map fun v => v.category).sum ≤ 8) (d : decode cc pc = .ok (.invokevirtual index, 3)) (kk : G o.1 lv (pc + 3) (.int o.2 :: st)) : G σ lv pc (.ref (a 0) :: st) := z_callV M [] (m_X12_begins (zM_hD M) h) (hM0 σ) rfl hl u99 u1592 u1591 u50 hd_X12_begins hR (by decide) rfl hW d kk
set_option maxHeartbeats 4000000 in
set_option maxRecDepth 100000 in
theorem wL_X12_among_2 {o : Int32} (M : zM l D zcl (zty cy) A ad (zR 6) (mW a cy ad) RX12 cX12_among 3 (some .int) σ0 (some (.int o)) G)  (v1 : Nat)  :
    ∀ (n2 : Nat) (v2 : Int32), L_X12_among_2 σ0 v1 n2 v2 = some o → G σ0 [(0, .ref (a 0)), (1, .ref (ad.1 v1)), (2, .int v2)] 2 [] := by
  intro n2
  induction n2 with
  | zero => intro v2 h; exact nomatch (show (none : Option Int32) = some _ from h)
  | succ n2 ih =>
    intro v2 h
    refine z_iload_n M dt_X12_among_0.1.1.2.1 rfl 2 rfl ?_
    refine z_aload_n M dt_X12_among_0.1.1.2.2 rfl 1 rfl ?_
    have ⟨hg, h⟩ := gLe_s h
    refine k_strlen M hg u1609 (Nat.le_of_ble_eq_true rfl) (Nat.le_of_ble_eq_true rfl) dt_X12_among_0.1.2.1.1 ?_
    refine z_icmp_ge (tgt := 46) M dt_X12_among_0.1.2.1.2 (by decide) (fun hc => ?_) (fun hc => ?_)
    · have h := gIt hc h
      refine z_iconst M dt_X12_among_1.2.2.1 ki_m1 ?_
      obtain rfl := Option.some.inj h
      exact z_iret M dt_X12_among_1.2.2.2
    · have h := gIf hc h
      refine z_aload_n M dt_X12_among_0.1.2.2.1 rfl 0 rfl ?_
      refine gf_X12_place (σ := σ0) M u1980 dt_X12_among_0.1.2.2.2 (v := (σ0.1 6)) rfl ?_
      refine z_aload_n M dt_X12_among_0.2.1.1.1 rfl 0 rfl ?_
      refine gf_X12_to (σ := σ0) M u1981 dt_X12_among_0.2.1.1.2 (v := (σ0.1 7)) rfl ?_
      refine z_icmp_ge (tgt := 46) M dt_X12_among_0.2.1.2.1 (by decide) (fun hc => ?_) (fun hc => ?_)
      · have h := gIt hc h
        refine z_iconst M dt_X12_among_1.2.2.1 ki_m1 ?_
        obtain rfl := Option.some.inj h
        exact z_iret M dt_X12_among_1.2.2.2
      · have h := gIf hc h
        refine z_aload_n M dt_X12_among_0.2.1.2.2 rfl 1 rfl ?_
        refine z_iload_n M dt_X12_among_0.2.2.1.1 rfl 2 rfl ?_
        have ⟨hg, h⟩ := gLe_s h
        have ⟨hg2, h⟩ := gIx_s h
        refine k_strchar M hg hg2 u1610 (Nat.le_of_ble_eq_true rfl) (Nat.le_of_ble_eq_true rfl) dt_X12_among_0.2.2.1.2 ?_
        refine z_aload_n M dt_X12_among_0.2.2.2.1 rfl 0 rfl ?_
        refine gf_X12_tape M u1978 dt_X12_among_0.2.2.2.2 ?_
        refine z_aload_n M dt_X12_among_1.1.1.1.1 rfl 0 rfl ?_
        refine gf_X12_place (σ := σ0) M u1980 dt_X12_among_1.1.1.1.2 (v := (σ0.1 6)) rfl ?_
        have ⟨hg, h⟩ := gIx_s h
        refine al_M14 (σ := σ0) M (f := (σ0.2.1 12)) rfl hg dt_X12_among_1.1.1.2 ?_
        refine z_icmp_ne (tgt := 40) M dt_X12_among_1.1.2.1 (by decide) (fun hc => ?_) (fun hc => ?_)
        · have h := gIf hc h
          refine z_iinc (v := (v2 + (1 : Int32))) (lv' := [(2, .int (v2 + (1 : Int32))), (0, .ref (a 0)), (1, .ref (ad.1 v1))]) M dt_X12_among_1.2.1.1.2 (k := 2) rfl (congrArg (fun q => v2 + q) ki_1) (by decide) rfl ?_
          refine z_goto (tgt := 2) M dt_X12_among_1.2.1.2 (by decide) ?_
          refine z_sub M [1, 2, 0] (lv' := [(0, .ref (a 0)), (1, .ref (ad.1 v1)), (2, .int (v2 + (1 : Int32)))]) rfl ?_
          exact ih (v2 + (1 : Int32)) h
        · have h := gIt hc h
          refine z_iload_n M dt_X12_among_1.1.2.2 rfl 2 rfl ?_
          obtain rfl := Option.some.inj h
          exact z_iret M dt_X12_among_1.2.1.1.1
set_option maxHeartbeats 4000000 in
set_option maxRecDepth 100000 in
theorem m_X12_among (hD : ∀ σ, va_D A (mW a cy ad σ)) {σ0 : Zst} {p0 : Nat} {o : Int32} (h : f_X12_among σ0 p0 = some o) : zT l D zcl (zty cy) A ad (mW a cy ad) yX12_among cX12_among 3 (some .int) 6 [.ref (a 0), .ref (ad.1 p0)] σ0 σ0 (some (.int o)) := by
  refine z_met pn_X12 hD (Nat.le_of_ble_eq_true rfl) rfl (fun G M => ?_)
  refine z_iconst M dt_X12_among_0.1.1.1.1 ki_0 ?_
  refine z_istore_n (lv' := [(2, .int (0 : Int32)), (0, .ref (a 0)), (1, .ref (ad.1 p0))]) M dt_X12_among_0.1.1.1.2 rfl (by decide) rfl ?_
  refine z_sub M [1, 2, 0] (lv' := [(0, .ref (a 0)), (1, .ref (ad.1 p0)), (2, .int (0 : Int32))]) rfl ?_
  exact wL_X12_among_2 M  p0 zFu (0 : Int32) h
theorem k_X12_among {n : Nat} (M : zM l D zcl (zty cy) A ad (zR n) (mW a cy ad) own cc nL rt σo ov G) {p0 : Nat} {o : Int32} (h : f_X12_among σ p0 = some o) {index : Nat} (hl : Cond.methodLink own index yX12_among ∈ uw) (hR : 7 ≤ n) (hW : (st.map fun v => v.category).sum ≤ 8) (d : decode cc pc = .ok (.invokevirtual index, 3)) (kk : G σ lv (pc + 3) (.int o :: st)) : G σ lv pc (.ref (ad.1 p0) :: .ref (a 0) :: st) := z_callV M [.ref (ad.1 p0)] (m_X12_among (zM_hD M) h) (hM0 σ) rfl hl u99 u1608 u1607 u53 hd_X12_among hR (by decide) rfl hW d kk
set_option maxHeartbeats 4000000 in
set_option maxRecDepth 100000 in
theorem m_X12_marks (hD : ∀ σ, va_D A (mW a cy ad σ)) {σ : Zst} {p0 : Int32} {o : Zst} (h : f_X12_marks σ p0 = some o) : zT l D zcl (zty cy) A ad (mW a cy ad) yX12_marks cX12_marks 2 none 1 [.ref (a 0), .int p0] σ o none := by
  refine z_met pn_X12 hD (Nat.le_of_ble_eq_true rfl) rfl (fun G M => ?_)
  refine z_aload_n M dt_X12_marks_0.1.1.1.1 rfl 0 rfl ?_
  refine gf_X12_code M u1975 dt_X12_marks_0.1.1.1.2 ?_
  refine z_sipush M dt_X12_marks_0.1.1.2.1 ks_288 ?_
  refine z_aload_n M dt_X12_marks_0.1.1.2.2 rfl 0 rfl ?_
  refine gf_X12_codes M u1976 dt_X12_marks_0.1.2.1.1 ?_
  refine z_bipush M dt_X12_marks_0.1.2.1.2 kb_6 ?_
  refine al_M12 (σ := σ) M (f := (σ.2.1 10)) rfl (show ¬ (_ ∨ _) by decide) dt_X12_marks_0.1.2.2.1 ?_
  refine z_iadd M dt_X12_marks_0.1.2.2.2 ?_
  refine z_iload_n M dt_X12_marks_0.2.1.1.1 rfl 1 rfl ?_
  have ⟨hg, h⟩ := gIx_s h
  refine as_M11 (σ := σ) M (f := (σ.2.1 9)) rfl hg dt_X12_marks_0.2.1.1.2 ?_
  refine z_aload_n M dt_X12_marks_0.2.1.2.1 rfl 0 rfl ?_
  refine gf_X12_codes M u1976 dt_X12_marks_0.2.1.2.2 ?_
  refine z_bipush M dt_X12_marks_0.2.2.1.1 kb_6 ?_
  refine z_dup2_11 M dt_X12_marks_0.2.2.1.2 rfl rfl ?_
  refine al_M12 (σ := (zA σ 9 (upd (σ.2.1 9) (Int32.toNatClampNeg ((288 : Int32) + ((σ.2.1 10) (Int32.toNatClampNeg (6 : Int32))))) p0))) M (f := (σ.2.1 10)) rfl (show ¬ (_ ∨ _) by decide) dt_X12_marks_0.2.2.2.1 ?_
  refine z_iconst M dt_X12_marks_0.2.2.2.2 ki_1 ?_
  refine z_iadd M dt_X12_marks_1.1.1 ?_
  refine as_M12 (σ := (zA σ 9 (upd (σ.2.1 9) (Int32.toNatClampNeg ((288 : Int32) + ((σ.2.1 10) (Int32.toNatClampNeg (6 : Int32))))) p0))) M (f := (σ.2.1 10)) rfl (show ¬ (_ ∨ _) by decide) dt_X12_marks_1.1.2 ?_
  obtain rfl := Option.some.inj h
  exact z_vret M dt_X12_marks_1.2
theorem k_X12_marks {n : Nat} (M : zM l D zcl (zty cy) A ad (zR n) (mW a cy ad) own cc nL rt σo ov G) {p0 : Int32} {o : Zst} (h : f_X12_marks σ p0 = some o) {index : Nat} (hl : Cond.methodLink own index yX12_marks ∈ uw) (hR : 2 ≤ n) (hW : (st.map fun v => v.category).sum ≤ 8) (d : decode cc pc = .ok (.invokevirtual index, 3)) (kk : G o lv (pc + 3) (st)) : G σ lv pc (.int p0 :: .ref (a 0) :: st) := z_callV M [.int p0] (m_X12_marks (zM_hD M) h) (hM0 σ) rfl hl u99 u1643 u1642 u56 hd_X12_marks hR (by decide) rfl hW d kk
abbrev zHF_X12rec (l : Launch) (D : va_G) (A : Nat → Prop) (ad : (Nat → Nat) × (Nat → Nat)) (a : Nat → Nat) (cy : ClassId × (ClassId × (ClassId × ClassId))) (n : Nat) (F : Nat → Zst → Int32 → Option (Zst × Int32)) : Prop :=
  (∀ (σ : Zst) (x : Int32) (o : Zst × Int32), F 0 σ x = some o → zT l D zcl (zty cy) A ad (mW a cy ad) yX12_ranked cX12_ranked 6 (some .boolean) n [.ref (a 0), .int x] σ o.1 (some (.int o.2))) ∧
  (∀ (σ : Zst) (x : Int32) (o : Zst × Int32), F 1 σ x = some o → zT l D zcl (zty cy) A ad (mW a cy ad) yX12_ahead cX12_ahead 3 (some .boolean) n [.ref (a 0)] σ o.1 (some (.int o.2))) ∧
  (∀ (σ : Zst) (x : Int32) (o : Zst × Int32), F 2 σ x = some o → zT l D zcl (zty cy) A ad (mW a cy ad) yX12_thing cX12_thing 3 (some .boolean) n [.ref (a 0)] σ o.1 (some (.int o.2)))
theorem kr_X12_ranked {n0 n : Nat} (M : zM l D zcl (zty cy) A ad (zR n) (mW a cy ad) own cc nL rt σo ov G) {p0 : Int32} {o : Zst × Int32} (hT : zT l D zcl (zty cy) A ad (mW a cy ad) yX12_ranked cX12_ranked 6 (some .boolean) n0 [.ref (a 0), .int p0] σ o.1 (some (.int o.2))) {index : Nat} (hl : Cond.methodLink own index yX12_ranked ∈ uw) (hR : n0 + 1 ≤ n) (hW : (st.map fun v => v.category).sum ≤ 8) (d : decode cc pc = .ok (.invokevirtual index, 3)) (kk : G o.1 lv (pc + 3) (.int o.2 :: st)) : G σ lv pc (.int p0 :: .ref (a 0) :: st) := z_callV M [.int p0] hT (hM0 σ) rfl hl u99 u1599 u1598 u51 hd_X12_ranked hR (by decide) rfl hW d kk
theorem kr_X12_ahead {n0 n : Nat} (M : zM l D zcl (zty cy) A ad (zR n) (mW a cy ad) own cc nL rt σo ov G) {o : Zst × Int32} (hT : zT l D zcl (zty cy) A ad (mW a cy ad) yX12_ahead cX12_ahead 3 (some .boolean) n0 [.ref (a 0)] σ o.1 (some (.int o.2))) {index : Nat} (hl : Cond.methodLink own index yX12_ahead ∈ uw) (hR : n0 + 1 ≤ n) (hW : (st.map fun v => v.category).sum ≤ 8) (d : decode cc pc = .ok (.invokevirtual index, 3)) (kk : G o.1 lv (pc + 3) (.int o.2 :: st)) : G σ lv pc (.ref (a 0) :: st) := z_callV M [] hT (hM0 σ) rfl hl u99 u1603 u1602 u52 hd_X12_ahead hR (by decide) rfl hW d kk
theorem kr_X12_thing {n0 n : Nat} (M : zM l D zcl (zty cy) A ad (zR n) (mW a cy ad) own cc nL rt σo ov G) {o : Zst × Int32} (hT : zT l D zcl (zty cy) A ad (mW a cy ad) yX12_thing cX12_thing 3 (some .boolean) n0 [.ref (a 0)] σ o.1 (some (.int o.2))) {index : Nat} (hl : Cond.methodLink own index yX12_thing ∈ uw) (hR : n0 + 1 ≤ n) (hW : (st.map fun v => v.category).sum ≤ 8) (d : decode cc pc = .ok (.invokevirtual index, 3)) (kk : G o.1 lv (pc + 3) (.int o.2 :: st)) : G σ lv pc (.ref (a 0) :: st) := z_callV M [] hT (hM0 σ) rfl hl u99 u1633 u1632 u54 hd_X12_thing hR (by decide) rfl hW d kk
set_option maxHeartbeats 4000000 in
set_option maxRecDepth 100000 in
theorem wJ_X12_ranked_123 {n : Nat} (hn : 6 ≤ n) {F : Nat → Zst → Int32 → Option (Zst × Int32)} (HF : zHF_X12rec l D A ad a cy n F) {o : (Zst × Int32)} (M : zM l D zcl (zty cy) A ad (zR (n + 1)) (mW a cy ad) RX12 cX12_ranked 6 (some .boolean) o.1 (some (.int o.2)) G) {k63 : Zst → Int32 → Int32 → Option (Zst × Int32)} (σ : Zst) (v1 : Int32) (v2 : Nat) (v3 : Int32) (Hk63 : ∀ (σ : Zst) (w3 : Int32) (w4 : Int32), k63 σ w3 w4 = some o → G σ [(0, .ref (a 0)), (1, .int v1), (2, .ref (ad.1 v2)), (3, .int w3), (4, .int w4)] 63 []) (h : J_X12_ranked_123 F k63 σ v1 v2 v3 = some o) : G σ [(0, .ref (a 0)), (1, .int v1), (2, .ref (ad.1 v2)), (3, .int v3)] 123 [] := by
  refine z_iload_n M dt_X12_ranked_4.1.2.1.1 rfl 1 rfl ?_
  refine z_iconst M dt_X12_ranked_4.1.2.1.2 ki_2 ?_
  have hJ2 : G σ [(0, .ref (a 0)), (1, .int v1), (2, .ref (ad.1 v2)), (3, .int v3)] 133 [.int (if v1 = (2 : Int32) then (0 : Int32) else (1 : Int32))] := by
    refine z_istore (lv' := [(4, .int (if v1 = (2 : Int32) then (0 : Int32) else (1 : Int32))), (0, .ref (a 0)), (1, .int v1), (2, .ref (ad.1 v2)), (3, .int v3)]) M dt_X12_ranked_4.2.1.2.2 (by decide) rfl ?_
    refine z_goto (tgt := 63) M dt_X12_ranked_4.2.2.1.1 (by decide) ?_
    refine z_sub M [1, 2, 3, 4, 0] (lv' := [(0, .ref (a 0)), (1, .int v1), (2, .ref (ad.1 v2)), (3, .int v3), (4, .int (if v1 = (2 : Int32) then (0 : Int32) else (1 : Int32)))]) rfl ?_
    exact Hk63 σ v3 (if v1 = (2 : Int32) then (0 : Int32) else (1 : Int32)) h
  refine z_icmp_eq (tgt := 132) M dt_X12_ranked_4.1.2.2 (by decide) (fun hc1 => ?_) (fun hc1 => ?_)
  · refine z_iconst M dt_X12_ranked_4.2.1.2.1 ki_0 ?_
    exact (zTt hc1 hJ2)
  · refine z_iconst M dt_X12_ranked_4.2.1.1.1 ki_1 ?_
    refine z_goto (tgt := 133) M dt_X12_ranked_4.2.1.1.2 (by decide) ?_
    exact (zTf hc1 hJ2)
set_option maxHeartbeats 4000000 in
set_option maxRecDepth 100000 in
theorem wL_X12_ranked_63 {n : Nat} (hn : 6 ≤ n) {F : Nat → Zst → Int32 → Option (Zst × Int32)} (HF : zHF_X12rec l D A ad a cy n F) {o : (Zst × Int32)} (M : zM l D zcl (zty cy) A ad (zR (n + 1)) (mW a cy ad) RX12 cX12_ranked 6 (some .boolean) o.1 (some (.int o.2)) G)  (v1 : Int32) (v2 : Nat)  :
    ∀ (n63 : Nat) (σ : Zst) (v3 : Int32) (v4 : Int32), L_X12_ranked_63 F v1 v2 n63 σ v3 v4 = some o → G σ [(0, .ref (a 0)), (1, .int v1), (2, .ref (ad.1 v2)), (3, .int v3), (4, .int v4)] 63 [] := by
  intro n63
  induction n63 with
  | zero => intro σ v3 v4 h; exact nomatch (show (none : Option (Zst × Int32)) = some _ from h)
  | succ n63 ih =>
    intro σ v3 v4 h
    refine z_iload_n M dt_X12_ranked_2.1.1.2.2 rfl 3 rfl ?_
    refine z_if_eq (tgt := 138) M dt_X12_ranked_2.1.2.1.1 (by decide) (fun hc => ?_) (fun hc => ?_)
    · have h := gIt hc h
      refine z_iload_n M dt_X12_ranked_4.2.2.1.2 rfl 3 rfl ?_
      have ⟨hg, h⟩ := gBo_s h
      obtain rfl := Option.some.inj h
      exact z_zret M (nBo hg) dt_X12_ranked_4.2.2.2
    · have h := gIf hc h
      refine z_iload M dt_X12_ranked_2.1.2.1.2 4 rfl ?_
      refine z_if_eq (tgt := 138) M dt_X12_ranked_2.1.2.2.1 (by decide) (fun hc => ?_) (fun hc => ?_)
      · have h := gIt hc h
        refine z_iload_n M dt_X12_ranked_4.2.2.1.2 rfl 3 rfl ?_
        have ⟨hg, h⟩ := gBo_s h
        obtain rfl := Option.some.inj h
        exact z_zret M (nBo hg) dt_X12_ranked_4.2.2.2
      · have h := gIf hc h
        refine z_aload_n M dt_X12_ranked_2.1.2.2.2 rfl 0 rfl ?_
        refine z_aload_n M dt_X12_ranked_2.2.1.1.1 rfl 2 rfl ?_
        obtain ⟨t3, hc, h⟩ := gBd h
        refine k_X12_among M hc u1605 (by omega) (Nat.le_of_ble_eq_true rfl) dt_X12_ranked_2.2.1.1.2 ?_
        refine z_if_lt (tgt := 138) M dt_X12_ranked_2.2.1.2.1 (by decide) (fun hc => ?_) (fun hc => ?_)
        · have h := gIt hc h
          refine z_iload_n M dt_X12_ranked_4.2.2.1.2 rfl 3 rfl ?_
          have ⟨hg, h⟩ := gBo_s h
          obtain rfl := Option.some.inj h
          exact z_zret M (nBo hg) dt_X12_ranked_4.2.2.2
        · have h := gIf hc h
          refine z_aload_n M dt_X12_ranked_2.2.1.2.2 rfl 0 rfl ?_
          refine gf_X12_tape M u1978 dt_X12_ranked_2.2.2.1.1 ?_
          refine z_aload_n M dt_X12_ranked_2.2.2.1.2 rfl 0 rfl ?_
          refine gf_X12_place (σ := σ) M u1980 dt_X12_ranked_2.2.2.2.1 (v := (σ.1 6)) rfl ?_
          have ⟨hg, h⟩ := gIx_s h
          refine al_M14 (σ := σ) M (f := (σ.2.1 12)) rfl hg dt_X12_ranked_2.2.2.2.2 ?_
          refine z_istore (lv' := [(5, .int ((σ.2.1 12) (Int32.toNatClampNeg (σ.1 6)))), (0, .ref (a 0)), (1, .int v1), (2, .ref (ad.1 v2)), (3, .int v3), (4, .int v4)]) M dt_X12_ranked_3.1.1.1.1 (by decide) rfl ?_
          refine z_aload_n M dt_X12_ranked_3.1.1.1.2 rfl 1 rfl ?_
          refine z_dup M dt_X12_ranked_3.1.1.2.1 rfl ?_
          refine gf_X12_place (σ := σ) M u1980 dt_X12_ranked_3.1.1.2.2 (v := (σ.1 6)) rfl ?_
          refine z_iconst M dt_X12_ranked_3.1.2.1.1 ki_1 ?_
          refine z_iadd M dt_X12_ranked_3.1.2.1.2 ?_
          refine pf_X12_place M u1980 dt_X12_ranked_3.1.2.2.1 ?_
          refine z_aload_n M dt_X12_ranked_3.1.2.2.2 rfl 1 rfl ?_
          refine z_iload_n M dt_X12_ranked_3.2.1.1.1 rfl 2 rfl ?_
          refine z_iconst M dt_X12_ranked_3.2.1.1.2 ki_1 ?_
          refine z_iadd M dt_X12_ranked_3.2.1.2.1 ?_
          obtain ⟨t4, hc, h⟩ := gBd h
          refine kr_X12_ranked M (HF.1 _ _ _ hc) u1596 (Nat.le_refl _) (Nat.le_of_ble_eq_true rfl) dt_X12_ranked_3.2.1.2.2 ?_
          refine z_istore_n (lv' := [(3, .int t4.2), (5, .int ((σ.2.1 12) (Int32.toNatClampNeg (σ.1 6)))), (0, .ref (a 0)), (1, .int v1), (2, .ref (ad.1 v2)), (4, .int v4)]) M dt_X12_ranked_3.2.2.1.1 rfl (by decide) rfl ?_
          refine z_iload_n M dt_X12_ranked_3.2.2.1.2 rfl 0 rfl ?_
          refine z_if_eq (tgt := 123) M dt_X12_ranked_3.2.2.2.1 (by decide) (fun hc => ?_) (fun hc => ?_)
          · have h := gIt hc h
            refine z_sub M [2, 3, 4, 0] (lv' := [(0, .ref (a 0)), (1, .int v1), (2, .ref (ad.1 v2)), (3, .int t4.2)]) rfl ?_
            exact wJ_X12_ranked_123 hn HF M (k63 := (fun σ w3 w4 => L_X12_ranked_63 F v1 v2 n63 σ w3 w4)) t4.1 v1 v2 t4.2 ih h
          · have h := gIf hc h
            refine z_aload_n M dt_X12_ranked_3.2.2.2.2 rfl 2 rfl ?_
            refine z_sipush M dt_X12_ranked_4.1.1.1.1 ks_2000 ?_
            refine z_iload M dt_X12_ranked_4.1.1.1.2 1 rfl ?_
            refine z_iadd M dt_X12_ranked_4.1.1.2.1 ?_
            obtain ⟨t5, hc, h⟩ := gBd h
            refine k_X12_marks M hc u1640 (by omega) (Nat.le_of_ble_eq_true rfl) dt_X12_ranked_4.1.1.2.2 ?_
            refine z_sub M [2, 3, 4, 0] (lv' := [(0, .ref (a 0)), (1, .int v1), (2, .ref (ad.1 v2)), (3, .int t4.2)]) rfl ?_
            exact wJ_X12_ranked_123 hn HF M (k63 := (fun σ w3 w4 => L_X12_ranked_63 F v1 v2 n63 σ w3 w4)) t5 v1 v2 t4.2 ih h
set_option maxHeartbeats 4000000 in
set_option maxRecDepth 100000 in
theorem wJ_X12_ranked_51 {n : Nat} (hn : 6 ≤ n) {F : Nat → Zst → Int32 → Option (Zst × Int32)} (HF : zHF_X12rec l D A ad a cy n F) {o : (Zst × Int32)} (M : zM l D zcl (zty cy) A ad (zR (n + 1)) (mW a cy ad) RX12 cX12_ranked 6 (some .boolean) o.1 (some (.int o.2)) G) (σ : Zst) (v1 : Int32) (s0 : Nat)  (h : J_X12_ranked_51 F σ v1 s0 = some o) : G σ [(0, .ref (a 0)), (1, .int v1)] 51 [.ref (ad.1 s0)] := by
  refine z_astore_n (lv' := [(2, .ref (ad.1 s0)), (0, .ref (a 0)), (1, .int v1)]) M dt_X12_ranked_1.2.1.2.1 rfl (by decide) rfl ?_
  refine z_aload_n M dt_X12_ranked_1.2.1.2.2 rfl 1 rfl ?_
  refine z_iload_n M dt_X12_ranked_1.2.2.1.1 rfl 2 rfl ?_
  refine z_iconst M dt_X12_ranked_1.2.2.1.2 ki_1 ?_
  refine z_iadd M dt_X12_ranked_1.2.2.2.1 ?_
  obtain ⟨t6, hc, h⟩ := gBd h
  refine kr_X12_ranked M (HF.1 _ _ _ hc) u1596 (Nat.le_refl _) (Nat.le_of_ble_eq_true rfl) dt_X12_ranked_1.2.2.2.2 ?_
  refine z_istore_n (lv' := [(3, .int t6.2), (2, .ref (ad.1 s0)), (0, .ref (a 0)), (1, .int v1)]) M dt_X12_ranked_2.1.1.1.1 rfl (by decide) rfl ?_
  refine z_iconst M dt_X12_ranked_2.1.1.1.2 ki_1 ?_
  refine z_istore (lv' := [(4, .int (1 : Int32)), (3, .int t6.2), (2, .ref (ad.1 s0)), (0, .ref (a 0)), (1, .int v1)]) M dt_X12_ranked_2.1.1.2.1 (by decide) rfl ?_
  refine z_sub M [3, 4, 2, 1, 0] (lv' := [(0, .ref (a 0)), (1, .int v1), (2, .ref (ad.1 s0)), (3, .int t6.2), (4, .int (1 : Int32))]) rfl ?_
  exact wL_X12_ranked_63 hn HF M  v1 s0 zFu t6.1 t6.2 (1 : Int32) h
set_option maxHeartbeats 4000000 in
set_option maxRecDepth 100000 in
theorem m_X12_ranked {n : Nat} (hn : 6 ≤ n) {F : Nat → Zst → Int32 → Option (Zst × Int32)} (HF : zHF_X12rec l D A ad a cy n F) (hD : ∀ σ, va_D A (mW a cy ad σ)) {σ : Zst} {p0 : Int32} {o : (Zst × Int32)} (h : f_X12_ranked F σ p0 = some o) : zT l D zcl (zty cy) A ad (mW a cy ad) yX12_ranked cX12_ranked 6 (some .boolean) (n + 1) [.ref (a 0), .int p0] σ o.1 (some (.int o.2)) := by
  refine z_met pn_X12 hD (Nat.le_of_ble_eq_true rfl) rfl (fun G M => ?_)
  refine z_iload_n M dt_X12_ranked_0.1.1.1.1 rfl 1 rfl ?_
  refine z_iconst M dt_X12_ranked_0.1.1.1.2 ki_5 ?_
  refine z_icmp_ne (tgt := 10) M dt_X12_ranked_0.1.1.2.1 (by decide) (fun hc => ?_) (fun hc => ?_)
  · have h := gIf hc h
    refine z_iload_n M dt_X12_ranked_0.1.2.2.1 rfl 1 rfl ?_
    refine z_if_ne (tgt := 19) M dt_X12_ranked_0.1.2.2.2 (by decide) (fun hc => ?_) (fun hc => ?_)
    · have h := gIf hc h
      refine z_iload_n M dt_X12_ranked_0.2.1.2.1 rfl 1 rfl ?_
      refine z_iconst M dt_X12_ranked_0.2.1.2.2 ki_1 ?_
      refine z_icmp_ne (tgt := 29) M dt_X12_ranked_0.2.2.1.1 (by decide) (fun hc => ?_) (fun hc => ?_)
      · have h := gIf hc h
        refine z_iload_n M dt_X12_ranked_0.2.2.2.2 rfl 1 rfl ?_
        refine z_iconst M dt_X12_ranked_1.1.1.1.1 ki_2 ?_
        refine z_icmp_ne (tgt := 39) M dt_X12_ranked_1.1.1.1.2 (by decide) (fun hc => ?_) (fun hc => ?_)
        · have h := gIf hc h
          refine z_iload_n M dt_X12_ranked_1.1.2.1.1 rfl 1 rfl ?_
          refine z_iconst M dt_X12_ranked_1.1.2.1.2 ki_3 ?_
          refine z_icmp_ne (tgt := 49) M dt_X12_ranked_1.1.2.2.1 (by decide) (fun hc => ?_) (fun hc => ?_)
          · have h := gIf hc h
            refine z_ldcS (tx := "*/") (i := 11) M (by decide +kernel) dt_X12_ranked_1.2.1.1.2 ?_
            exact wJ_X12_ranked_51 hn HF M  σ p0 11 h
          · have h := gIt hc h
            refine z_ldcS (tx := "+-") (i := 10) M (by decide +kernel) dt_X12_ranked_1.1.2.2.2 ?_
            refine z_goto (tgt := 51) M dt_X12_ranked_1.2.1.1.1 (by decide) ?_
            exact wJ_X12_ranked_51 hn HF M  σ p0 10 h
        · have h := gIt hc h
          refine z_ldcS (tx := "<>=") (i := 9) M (by decide +kernel) dt_X12_ranked_1.1.1.2.1 ?_
          refine z_goto (tgt := 51) M dt_X12_ranked_1.1.1.2.2 (by decide) ?_
          exact wJ_X12_ranked_51 hn HF M  σ p0 9 h
      · have h := gIt hc h
        refine z_ldcS (tx := "&") (i := 8) M (by decide +kernel) dt_X12_ranked_0.2.2.1.2 ?_
        refine z_goto (tgt := 51) M dt_X12_ranked_0.2.2.2.1 (by decide) ?_
        exact wJ_X12_ranked_51 hn HF M  σ p0 8 h
    · have h := gIt hc h
      refine z_ldcS (tx := "|") (i := 7) M (by decide +kernel) dt_X12_ranked_0.2.1.1.1 ?_
      refine z_goto (tgt := 51) M dt_X12_ranked_0.2.1.1.2 (by decide) ?_
      exact wJ_X12_ranked_51 hn HF M  σ p0 7 h
  · have h := gIt hc h
    refine z_aload_n M dt_X12_ranked_0.1.1.2.2 rfl 0 rfl ?_
    obtain ⟨t7, hc, h⟩ := gBd h
    refine kr_X12_ahead M (HF.2.1 _ _ _ hc) u1600 (Nat.le_refl _) (Nat.le_of_ble_eq_true rfl) dt_X12_ranked_0.1.2.1.1 ?_
    have ⟨hg, h⟩ := gBo_s h
    obtain rfl := Option.some.inj h
    exact z_zret M (nBo hg) dt_X12_ranked_0.1.2.1.2
set_option maxHeartbeats 4000000 in
set_option maxRecDepth 100000 in
theorem m_X12_ahead {n : Nat} (hn : 6 ≤ n) {F : Nat → Zst → Int32 → Option (Zst × Int32)} (HF : zHF_X12rec l D A ad a cy n F) (hD : ∀ σ, va_D A (mW a cy ad σ)) {σ : Zst}  {o : (Zst × Int32)} (h : f_X12_ahead F σ = some o) : zT l D zcl (zty cy) A ad (mW a cy ad) yX12_ahead cX12_ahead 3 (some .boolean) (n + 1) [.ref (a 0)] σ o.1 (some (.int o.2)) := by
  refine z_met pn_X12 hD (Nat.le_of_ble_eq_true rfl) rfl (fun G M => ?_)
  refine z_aload_n M dt_X12_ahead_0.1.1.1.1 rfl 0 rfl ?_
  refine z_ldcS (tx := "!-") (i := 4) M (by decide +kernel) dt_X12_ahead_0.1.1.1.2 ?_
  obtain ⟨t1, hc, h⟩ := gBd h
  refine k_X12_among M hc u1605 (by omega) (Nat.le_of_ble_eq_true rfl) dt_X12_ahead_0.1.1.2.1 ?_
  refine z_istore_n (lv' := [(1, .int t1), (0, .ref (a 0))]) M dt_X12_ahead_0.1.1.2.2 rfl (by decide) rfl ?_
  refine z_iload_n M dt_X12_ahead_0.1.2.1.1 rfl 0 rfl ?_
  refine z_if_ge (tgt := 16) M dt_X12_ahead_0.1.2.1.2 (by decide) (fun hc => ?_) (fun hc => ?_)
  · have h := gIt hc h
    refine z_aload_n M dt_X12_ahead_0.2.1.1.2 rfl 1 rfl ?_
    refine z_dup M dt_X12_ahead_0.2.1.2.1 rfl ?_
    refine gf_X12_place (σ := σ) M u1980 dt_X12_ahead_0.2.1.2.2 (v := (σ.1 6)) rfl ?_
    refine z_iconst M dt_X12_ahead_0.2.2.1.1 ki_1 ?_
    refine z_iadd M dt_X12_ahead_0.2.2.1.2 ?_
    refine pf_X12_place M u1980 dt_X12_ahead_0.2.2.2.1 ?_
    refine z_aload_n M dt_X12_ahead_0.2.2.2.2 rfl 1 rfl ?_
    obtain ⟨t2, hc, h⟩ := gBd h
    refine kr_X12_ahead M (HF.2.1 _ _ _ hc) u1600 (Nat.le_refl _) (Nat.le_of_ble_eq_true rfl) dt_X12_ahead_1.1.1.1.1 ?_
    refine z_istore_n (lv' := [(2, .int t2.2), (1, .int t1), (0, .ref (a 0))]) M dt_X12_ahead_1.1.1.1.2 rfl (by decide) rfl ?_
    refine z_iload_n M dt_X12_ahead_1.1.1.2.1 rfl 0 rfl ?_
    refine z_if_eq (tgt := 54) M dt_X12_ahead_1.1.1.2.2 (by decide) (fun hc => ?_) (fun hc => ?_)
    · have h := gIt hc h
      refine z_iload_n M dt_X12_ahead_1.2.2.1.2 rfl 0 rfl ?_
      have ⟨hg, h⟩ := gBo_s h
      obtain rfl := Option.some.inj h
      exact z_zret M (nBo hg) dt_X12_ahead_1.2.2.2
    · have h := gIf hc h
      refine z_aload_n M dt_X12_ahead_1.1.2.1.1 rfl 2 rfl ?_
      refine z_sipush M dt_X12_ahead_1.1.2.1.2 ks_2000 ?_
      refine z_iload_n M dt_X12_ahead_1.1.2.2.1 rfl 1 rfl ?_
      have hJ4 : G t2.1 [(2, .int t2.2), (1, .int t1), (0, .ref (a 0))] 50 [.int (if t1 = (0 : Int32) then (33 : Int32) else (126 : Int32)), .int (2000 : Int32), .ref (a 0)] := by
        refine z_iadd M dt_X12_ahead_1.2.1.2.2 ?_
        obtain ⟨t5, hc, h⟩ := gBd h
        refine k_X12_marks M hc u1640 (by omega) (Nat.le_of_ble_eq_true rfl) dt_X12_ahead_1.2.2.1.1 ?_
        refine z_iload_n M dt_X12_ahead_1.2.2.1.2 rfl 0 rfl ?_
        have ⟨hg, h⟩ := gBo_s h
        obtain rfl := Option.some.inj h
        exact z_zret M (nBo hg) dt_X12_ahead_1.2.2.2
      refine z_if_ne (tgt := 48) M dt_X12_ahead_1.1.2.2.2 (by decide) (fun hc3 => ?_) (fun hc3 => ?_)
      · refine z_bipush M dt_X12_ahead_1.2.1.2.1 kb_126 ?_
        exact (zTf hc3 hJ4)
      · refine z_bipush M dt_X12_ahead_1.2.1.1.1 kb_33 ?_
        refine z_goto (tgt := 50) M dt_X12_ahead_1.2.1.1.2 (by decide) ?_
        exact (zTt hc3 hJ4)
  · have h := gIf hc h
    refine z_aload_n M dt_X12_ahead_0.1.2.2.1 rfl 1 rfl ?_
    obtain ⟨t6, hc, h⟩ := gBd h
    refine kr_X12_thing M (HF.2.2 _ _ _ hc) u1630 (Nat.le_refl _) (Nat.le_of_ble_eq_true rfl) dt_X12_ahead_0.1.2.2.2 ?_
    have ⟨hg, h⟩ := gBo_s h
    obtain rfl := Option.some.inj h
    exact z_zret M (nBo hg) dt_X12_ahead_0.2.1.1.1
set_option maxHeartbeats 4000000 in
set_option maxRecDepth 100000 in
theorem m_X12_isDigit (hD : ∀ σ, va_D A (mW a cy ad σ)) {σ0 : Zst}  {o : Int32} (h : f_X12_isDigit σ0 = some o) : zT l D zcl (zty cy) A ad (mW a cy ad) yX12_isDigit cX12_isDigit 1 (some .boolean) 2 [.ref (a 0)] σ0 σ0 (some (.int o)) := by
  refine z_met pn_X12 hD (Nat.le_of_ble_eq_true rfl) rfl (fun G M => ?_)
  refine z_aload_n M dt_X12_isDigit_0.1.1.1.1 rfl 0 rfl ?_
  refine gf_X12_place (σ := σ0) M u1980 dt_X12_isDigit_0.1.1.1.2 (v := (σ0.1 6)) rfl ?_
  refine z_aload_n M dt_X12_isDigit_0.1.1.2.1 rfl 0 rfl ?_
  refine gf_X12_to (σ := σ0) M u1981 dt_X12_isDigit_0.1.1.2.2 (v := (σ0.1 7)) rfl ?_
  refine z_icmp_ge (tgt := 37) M dt_X12_isDigit_0.1.2.1.1 (by decide) (fun hc => ?_) (fun hc => ?_)
  · have h := gIt hc h
    refine z_iconst M dt_X12_isDigit_1.1.2 ki_0 ?_
    obtain rfl := Option.some.inj h
    exact z_zret M (nBo (Or.inl rfl)) dt_X12_isDigit_1.2
  · have h := gIf hc h
    refine z_aload_n M dt_X12_isDigit_0.1.2.1.2 rfl 0 rfl ?_
    refine gf_X12_tape M u1978 dt_X12_isDigit_0.1.2.2.1 ?_
    refine z_aload_n M dt_X12_isDigit_0.1.2.2.2 rfl 0 rfl ?_
    refine gf_X12_place (σ := σ0) M u1980 dt_X12_isDigit_0.2.1.1.1 (v := (σ0.1 6)) rfl ?_
    have ⟨hg, h⟩ := gIx_s h
    refine al_M14 (σ := σ0) M (f := (σ0.2.1 12)) rfl hg dt_X12_isDigit_0.2.1.1.2 ?_
    refine z_i2l M dt_X12_isDigit_0.2.1.2.1 ?_
    refine z_ldc2 M dt_X12_isDigit_0.2.1.2.2 u1638 ?_
    refine z_ldc2 M dt_X12_isDigit_0.2.2.1.1 u1639 ?_
    refine k_X12_in M u1517 (Nat.le_of_ble_eq_true rfl) (Nat.le_of_ble_eq_true rfl) dt_X12_isDigit_0.2.2.1.2 ?_
    have hJ2 : G σ0 [(0, .ref (a 0))] 38 [.int (if (f_X12_in (Int32.toInt64 ((σ0.2.1 12) (Int32.toNatClampNeg (σ0.1 6)))) (48 : Int64) (57 : Int64)) = (0 : Int32) then (0 : Int32) else (1 : Int32))] := by
      obtain rfl := Option.some.inj h
      exact z_zret M (nBo (boIte (Or.inl rfl) (Or.inr rfl))) dt_X12_isDigit_1.2
    refine z_if_eq (tgt := 37) M dt_X12_isDigit_0.2.2.2.1 (by decide) (fun hc1 => ?_) (fun hc1 => ?_)
    · refine z_iconst M dt_X12_isDigit_1.1.2 ki_0 ?_
      exact (zTt hc1 hJ2)
    · refine z_iconst M dt_X12_isDigit_0.2.2.2.2 ki_1 ?_
      refine z_goto (tgt := 38) M dt_X12_isDigit_1.1.1 (by decide) ?_
      exact (zTf hc1 hJ2)
theorem k_X12_isDigit {n : Nat} (M : zM l D zcl (zty cy) A ad (zR n) (mW a cy ad) own cc nL rt σo ov G)  {o : Int32} (h : f_X12_isDigit σ = some o) {index : Nat} (hl : Cond.methodLink own index yX12_isDigit ∈ uw) (hR : 3 ≤ n) (hW : (st.map fun v => v.category).sum ≤ 8) (d : decode cc pc = .ok (.invokevirtual index, 3)) (kk : G σ lv (pc + 3) (.int o :: st)) : G σ lv pc (.ref (a 0) :: st) := z_callV M [] (m_X12_isDigit (zM_hD M) h) (hM0 σ) rfl hl u99 u1637 u1636 u55 hd_X12_isDigit hR (by decide) rfl hW d kk
set_option maxHeartbeats 4000000 in
set_option maxRecDepth 100000 in
theorem wL_X12_thing_11 {n : Nat} (hn : 6 ≤ n) {F : Nat → Zst → Int32 → Option (Zst × Int32)} (HF : zHF_X12rec l D A ad a cy n F) {o : (Zst × Int32)} (M : zM l D zcl (zty cy) A ad (zR (n + 1)) (mW a cy ad) RX12 cX12_thing 3 (some .boolean) o.1 (some (.int o.2)) G) {k57 : Zst → Int32 → Option (Zst × Int32)}   (Hk57 : ∀ (σ : Zst) (w1 : Int32), k57 σ w1 = some o → G σ [(0, .ref (a 0)), (1, .int w1)] 57 []) :
    ∀ (n11 : Nat) (σ : Zst) (v1 : Int32) (v2 : Int32), L_X12_thing_11 F k57 n11 σ v1 v2 = some o → G σ [(0, .ref (a 0)), (1, .int v1), (2, .int v2)] 11 [] := by
  intro n11
  induction n11 with
  | zero => intro σ v1 v2 h; exact nomatch (show (none : Option (Zst × Int32)) = some _ from h)
  | succ n11 ih =>
    intro σ v1 v2 h
    refine z_iload_n M dt_X12_thing_0.1.2.2.2 rfl 2 rfl ?_
    refine z_iconst M dt_X12_thing_0.2.1.1.1 ki_3 ?_
    refine z_icmp_ge (tgt := 57) M dt_X12_thing_0.2.1.1.2 (by decide) (fun hc => ?_) (fun hc => ?_)
    · have h := gIt hc h
      refine z_sub M [0, 1] (lv' := [(0, .ref (a 0)), (1, .int v1)]) rfl ?_
      exact Hk57 σ v1 h
    · have h := gIf hc h
      refine z_aload_n M dt_X12_thing_0.2.1.2.1 rfl 0 rfl ?_
      obtain ⟨t1, hc, h⟩ := gBd h
      refine k_X12_isDigit M hc u1634 (by omega) (Nat.le_of_ble_eq_true rfl) dt_X12_thing_0.2.1.2.2 ?_
      refine z_if_eq (tgt := 57) M dt_X12_thing_0.2.2.1.1 (by decide) (fun hc => ?_) (fun hc => ?_)
      · have h := gIt hc h
        refine z_sub M [0, 1] (lv' := [(0, .ref (a 0)), (1, .int v1)]) rfl ?_
        exact Hk57 σ v1 h
      · have h := gIf hc h
        refine z_bipush M dt_X12_thing_0.2.2.1.2 kb_10 ?_
        refine z_iload_n M dt_X12_thing_0.2.2.2.1 rfl 1 rfl ?_
        refine z_imul M dt_X12_thing_0.2.2.2.2 ?_
        refine z_aload_n M dt_X12_thing_1.1.1.1.1 rfl 0 rfl ?_
        refine gf_X12_tape M u1978 dt_X12_thing_1.1.1.1.2 ?_
        refine z_aload_n M dt_X12_thing_1.1.1.2.1 rfl 0 rfl ?_
        refine gf_X12_place (σ := σ) M u1980 dt_X12_thing_1.1.1.2.2 (v := (σ.1 6)) rfl ?_
        have ⟨hg, h⟩ := gIx_s h
        refine al_M14 (σ := σ) M (f := (σ.2.1 12)) rfl hg dt_X12_thing_1.1.2.1.1 ?_
        refine z_iadd M dt_X12_thing_1.1.2.1.2 ?_
        refine z_bipush M dt_X12_thing_1.1.2.2.1 kb_48 ?_
        refine z_isub M dt_X12_thing_1.1.2.2.2 ?_
        refine z_istore_n (lv' := [(1, .int ((((10 : Int32) * v1) + ((σ.2.1 12) (Int32.toNatClampNeg (σ.1 6)))) - (48 : Int32))), (0, .ref (a 0)), (2, .int v2)]) M dt_X12_thing_1.2.1.1.1 rfl (by decide) rfl ?_
        refine z_aload_n M dt_X12_thing_1.2.1.1.2 rfl 1 rfl ?_
        refine z_dup M dt_X12_thing_1.2.1.2.1 rfl ?_
        refine gf_X12_place (σ := σ) M u1980 dt_X12_thing_1.2.1.2.2 (v := (σ.1 6)) rfl ?_
        refine z_iconst M dt_X12_thing_1.2.2.1.1 ki_1 ?_
        refine z_iadd M dt_X12_thing_1.2.2.1.2 ?_
        refine pf_X12_place M u1980 dt_X12_thing_1.2.2.2.1 ?_
        refine z_iinc (v := (v2 + (1 : Int32))) (lv' := [(2, .int (v2 + (1 : Int32))), (1, .int ((((10 : Int32) * v1) + ((σ.2.1 12) (Int32.toNatClampNeg (σ.1 6)))) - (48 : Int32))), (0, .ref (a 0))]) M dt_X12_thing_1.2.2.2.2 (k := 2) rfl (congrArg (fun q => v2 + q) ki_1) (by decide) rfl ?_
        refine z_goto (tgt := 11) M dt_X12_thing_2.1.1.1.1 (by decide) ?_
        refine z_sub M [2, 1, 0] (lv' := [(0, .ref (a 0)), (1, .int ((((10 : Int32) * v1) + ((σ.2.1 12) (Int32.toNatClampNeg (σ.1 6)))) - (48 : Int32))), (2, .int (v2 + (1 : Int32)))]) rfl ?_
        exact ih (zI σ 6 ((σ.1 6) + (1 : Int32))) ((((10 : Int32) * v1) + ((σ.2.1 12) (Int32.toNatClampNeg (σ.1 6)))) - (48 : Int32)) (v2 + (1 : Int32)) h
set_option maxHeartbeats 4000000 in
set_option maxRecDepth 100000 in
theorem wJ_X12_thing_57 {n : Nat} (hn : 6 ≤ n) {F : Nat → Zst → Int32 → Option (Zst × Int32)} (HF : zHF_X12rec l D A ad a cy n F) {o : (Zst × Int32)} (M : zM l D zcl (zty cy) A ad (zR (n + 1)) (mW a cy ad) RX12 cX12_thing 3 (some .boolean) o.1 (some (.int o.2)) G) (σ : Zst) (v1 : Int32)  (h : J_X12_thing_57 F σ v1 = some o) : G σ [(0, .ref (a 0)), (1, .int v1)] 57 [] := by
  refine z_aload_n M dt_X12_thing_2.1.1.1.2 rfl 0 rfl ?_
  refine z_iload_n M dt_X12_thing_2.1.1.2.1 rfl 1 rfl ?_
  obtain ⟨t2, hc, h⟩ := gBd h
  refine k_X12_marks M hc u1640 (by omega) (Nat.le_of_ble_eq_true rfl) dt_X12_thing_2.1.1.2.2 ?_
  refine z_iconst M dt_X12_thing_2.1.2.1.1 ki_1 ?_
  obtain rfl := Option.some.inj h
  exact z_zret M (nBo (Or.inr rfl)) dt_X12_thing_2.1.2.1.2
set_option maxHeartbeats 4000000 in
set_option maxRecDepth 100000 in
theorem m_X12_thing {n : Nat} (hn : 6 ≤ n) {F : Nat → Zst → Int32 → Option (Zst × Int32)} (HF : zHF_X12rec l D A ad a cy n F) (hD : ∀ σ, va_D A (mW a cy ad σ)) {σ : Zst}  {o : (Zst × Int32)} (h : f_X12_thing F σ = some o) : zT l D zcl (zty cy) A ad (mW a cy ad) yX12_thing cX12_thing 3 (some .boolean) (n + 1) [.ref (a 0)] σ o.1 (some (.int o.2)) := by
  refine z_met pn_X12 hD (Nat.le_of_ble_eq_true rfl) rfl (fun G M => ?_)
  refine z_aload_n M dt_X12_thing_0.1.1.1.1 rfl 0 rfl ?_
  obtain ⟨t3, hc, h⟩ := gBd h
  refine k_X12_isDigit M hc u1634 (by omega) (Nat.le_of_ble_eq_true rfl) dt_X12_thing_0.1.1.1.2 ?_
  refine z_if_eq (tgt := 64) M dt_X12_thing_0.1.1.2.1 (by decide) (fun hc => ?_) (fun hc => ?_)
  · have h := gIt hc h
    refine z_aload_n M dt_X12_thing_2.1.2.2.1 rfl 0 rfl ?_
    refine z_aload_n M dt_X12_thing_2.1.2.2.2 rfl 0 rfl ?_
    obtain ⟨i4, hg, h⟩ := gSg_s h
    refine gf_X12_signs M u1983 hg dt_X12_thing_2.2.1.1.1 ?_
    obtain ⟨t5, hc, h⟩ := gBd h
    refine k_X12_among M hc u1605 (by omega) (Nat.le_of_ble_eq_true rfl) dt_X12_thing_2.2.1.1.2 ?_
    refine z_istore_n (lv' := [(1, .int t5), (0, .ref (a 0))]) M dt_X12_thing_2.2.1.2.1 rfl (by decide) rfl ?_
    refine z_iload_n M dt_X12_thing_2.2.1.2.2 rfl 0 rfl ?_
    refine z_if_lt (tgt := 98) M dt_X12_thing_2.2.2.1.1 (by decide) (fun hc => ?_) (fun hc => ?_)
    · have h := gIt hc h
      refine z_aload_n M dt_X12_thing_3.2.1.2.1 rfl 1 rfl ?_
      refine z_ldcS (tx := "(") (i := 5) M (by decide +kernel) dt_X12_thing_3.2.1.2.2 ?_
      obtain ⟨t6, hc, h⟩ := gBd h
      refine k_X12_among M hc u1605 (by omega) (Nat.le_of_ble_eq_true rfl) dt_X12_thing_3.2.2.1.1 ?_
      refine z_if_lt (tgt := 115) M dt_X12_thing_3.2.2.1.2 (by decide) (fun hc => ?_) (fun hc => ?_)
      · have h := gIt hc h
        refine z_iconst M dt_X12_thing_4.1.1.2.1 ki_0 ?_
        obtain rfl := Option.some.inj h
        exact z_zret M (nBo (Or.inl rfl)) dt_X12_thing_4.1.1.2.2
      · have h := gIf hc h
        refine z_aload_n M dt_X12_thing_3.2.2.2.1 rfl 1 rfl ?_
        refine gf_X12_open (σ := σ) M u1982 dt_X12_thing_3.2.2.2.2 (v := (σ.1 8)) rfl ?_
        refine z_iconst M dt_X12_thing_4.1.1.1.1 ki_5 ?_
        refine z_icmp_ne (tgt := 117) M dt_X12_thing_4.1.1.1.2 (by decide) (fun hc => ?_) (fun hc => ?_)
        · have h := gIf hc h
          refine z_aload_n M dt_X12_thing_4.1.2.1.1 rfl 1 rfl ?_
          refine z_dup M dt_X12_thing_4.1.2.1.2 rfl ?_
          refine gf_X12_place (σ := σ) M u1980 dt_X12_thing_4.1.2.2.1 (v := (σ.1 6)) rfl ?_
          refine z_iconst M dt_X12_thing_4.1.2.2.2 ki_1 ?_
          refine z_iadd M dt_X12_thing_4.2.1.1.1 ?_
          refine pf_X12_place M u1980 dt_X12_thing_4.2.1.1.2 ?_
          refine z_aload_n M dt_X12_thing_4.2.1.2.1 rfl 1 rfl ?_
          refine z_dup M dt_X12_thing_4.2.1.2.2 rfl ?_
          refine gf_X12_open (σ := (zI σ 6 ((σ.1 6) + (1 : Int32)))) M u1982 dt_X12_thing_4.2.2.1.1 (v := (σ.1 8)) rfl ?_
          refine z_iconst M dt_X12_thing_4.2.2.1.2 ki_1 ?_
          refine z_iadd M dt_X12_thing_4.2.2.2.1 ?_
          refine pf_X12_open M u1982 dt_X12_thing_4.2.2.2.2 ?_
          refine z_aload_n M dt_X12_thing_5.1.1.1.1 rfl 1 rfl ?_
          refine z_iconst M dt_X12_thing_5.1.1.1.2 ki_0 ?_
          obtain ⟨t7, hc, h⟩ := gBd h
          refine kr_X12_ranked M (HF.1 _ _ _ hc) u1596 (Nat.le_refl _) (Nat.le_of_ble_eq_true rfl) dt_X12_thing_5.1.1.2.1 ?_
          refine z_if_eq (tgt := 154) M dt_X12_thing_5.1.1.2.2 (by decide) (fun hc => ?_) (fun hc => ?_)
          · have h := gIt hc h
            refine z_iconst M dt_X12_thing_5.2.1.1.1 ki_0 ?_
            obtain rfl := Option.some.inj h
            exact z_zret M (nBo (Or.inl rfl)) dt_X12_thing_5.2.1.1.2
          · have h := gIf hc h
            refine z_aload_n M dt_X12_thing_5.1.2.1.1 rfl 1 rfl ?_
            refine z_ldcS (tx := ")") (i := 6) M (by decide +kernel) dt_X12_thing_5.1.2.1.2 ?_
            obtain ⟨t8, hc, h⟩ := gBd h
            refine k_X12_among M hc u1605 (by omega) (Nat.le_of_ble_eq_true rfl) dt_X12_thing_5.1.2.2.1 ?_
            refine z_if_ge (tgt := 156) M dt_X12_thing_5.1.2.2.2 (by decide) (fun hc => ?_) (fun hc => ?_)
            · have h := gIt hc h
              refine z_aload_n M dt_X12_thing_5.2.1.2.1 rfl 1 rfl ?_
              refine z_dup M dt_X12_thing_5.2.1.2.2 rfl ?_
              refine gf_X12_place (σ := t7.1) M u1980 dt_X12_thing_5.2.2.1.1 (v := (t7.1.1 6)) rfl ?_
              refine z_iconst M dt_X12_thing_5.2.2.1.2 ki_1 ?_
              refine z_iadd M dt_X12_thing_5.2.2.2.1 ?_
              refine pf_X12_place M u1980 dt_X12_thing_5.2.2.2.2 ?_
              refine z_aload_n M dt_X12_thing_6.1.1.1 rfl 1 rfl ?_
              refine z_dup M dt_X12_thing_6.1.1.2 rfl ?_
              refine gf_X12_open (σ := (zI t7.1 6 ((t7.1.1 6) + (1 : Int32)))) M u1982 dt_X12_thing_6.1.2.1 (v := (t7.1.1 8)) rfl ?_
              refine z_iconst M dt_X12_thing_6.1.2.2 ki_1 ?_
              refine z_isub M dt_X12_thing_6.2.1.1 ?_
              refine pf_X12_open M u1982 dt_X12_thing_6.2.1.2 ?_
              refine z_iconst M dt_X12_thing_6.2.2.1 ki_1 ?_
              obtain rfl := Option.some.inj h
              exact z_zret M (nBo (Or.inr rfl)) dt_X12_thing_6.2.2.2
            · have h := gIf hc h
              refine z_iconst M dt_X12_thing_5.2.1.1.1 ki_0 ?_
              obtain rfl := Option.some.inj h
              exact z_zret M (nBo (Or.inl rfl)) dt_X12_thing_5.2.1.1.2
        · have h := gIt hc h
          refine z_iconst M dt_X12_thing_4.1.1.2.1 ki_0 ?_
          obtain rfl := Option.some.inj h
          exact z_zret M (nBo (Or.inl rfl)) dt_X12_thing_4.1.1.2.2
    · have h := gIf hc h
      refine z_aload_n M dt_X12_thing_2.2.2.1.2 rfl 1 rfl ?_
      refine z_sipush M dt_X12_thing_2.2.2.2.1 ks_1000 ?_
      refine z_iload_n M dt_X12_thing_2.2.2.2.2 rfl 0 rfl ?_
      refine z_iadd M dt_X12_thing_3.1.1.1.1 ?_
      obtain ⟨t9, hc, h⟩ := gBd h
      refine k_X12_marks M hc u1640 (by omega) (Nat.le_of_ble_eq_true rfl) dt_X12_thing_3.1.1.1.2 ?_
      refine z_aload_n M dt_X12_thing_3.1.1.2.1 rfl 1 rfl ?_
      refine z_dup M dt_X12_thing_3.1.1.2.2 rfl ?_
      refine gf_X12_place (σ := t9) M u1980 dt_X12_thing_3.1.2.1.1 (v := (t9.1 6)) rfl ?_
      refine z_iconst M dt_X12_thing_3.1.2.1.2 ki_1 ?_
      refine z_iadd M dt_X12_thing_3.1.2.2.1 ?_
      refine pf_X12_place M u1980 dt_X12_thing_3.1.2.2.2 ?_
      refine z_iconst M dt_X12_thing_3.2.1.1.1 ki_1 ?_
      obtain rfl := Option.some.inj h
      exact z_zret M (nBo (Or.inr rfl)) dt_X12_thing_3.2.1.1.2
  · have h := gIf hc h
    refine z_iconst M dt_X12_thing_0.1.1.2.2 ki_0 ?_
    refine z_istore_n (lv' := [(1, .int (0 : Int32)), (0, .ref (a 0))]) M dt_X12_thing_0.1.2.1.1 rfl (by decide) rfl ?_
    refine z_iconst M dt_X12_thing_0.1.2.1.2 ki_0 ?_
    refine z_istore_n (lv' := [(2, .int (0 : Int32)), (1, .int (0 : Int32)), (0, .ref (a 0))]) M dt_X12_thing_0.1.2.2.1 rfl (by decide) rfl ?_
    refine z_sub M [2, 1, 0] (lv' := [(0, .ref (a 0)), (1, .int (0 : Int32)), (2, .int (0 : Int32))]) rfl ?_
    exact wL_X12_thing_11 hn HF M (k57 := (fun σ11 w10 => J_X12_thing_57 F σ11 w10)) (fun σ11 w10 h => by
        exact wJ_X12_thing_57 hn HF M  σ11 w10 h) zFu σ (0 : Int32) (0 : Int32) h
theorem f_X12rec_0 (d : Nat) (σ : Zst) (x : Int32) : f_X12rec (d + 1) 0 σ x = f_X12_ranked (f_X12rec d) σ x := by
  unfold f_X12rec
  rw [if_pos rfl]
theorem f_X12rec_1 (d : Nat) (σ : Zst) (x : Int32) : f_X12rec (d + 1) 1 σ x = f_X12_ahead (f_X12rec d) σ := by
  unfold f_X12rec
  rw [if_neg (by decide), if_pos rfl]
theorem f_X12rec_2 (d : Nat) (σ : Zst) (x : Int32) : f_X12rec (d + 1) 2 σ x = f_X12_thing (f_X12rec d) σ := by
  unfold f_X12rec
  rw [if_neg (by decide), if_neg (by decide), if_pos rfl]
set_option maxRecDepth 100000 in
theorem mg_X12rec (hD : ∀ σ, va_D A (mW a cy ad σ)) : ∀ d, zHF_X12rec l D A ad a cy (6 + d) (f_X12rec d) := by
  intro d
  induction d with
  | zero => refine ⟨?_, ?_, ?_⟩ <;> (intro σ x o h; exact nomatch (show (none : Option (Zst × Int32)) = some _ from h))
  | succ d ih =>
    refine ⟨?_, ?_, ?_⟩
    · intro σ x o h
      exact m_X12_ranked (n := 6 + d) (by omega) ih hD ((f_X12rec_0 d σ x).symm.trans h)
    · intro σ x o h
      exact m_X12_ahead (n := 6 + d) (by omega) ih hD ((f_X12rec_1 d σ x).symm.trans h)
    · intro σ x o h
      exact m_X12_thing (n := 6 + d) (by omega) ih hD ((f_X12rec_2 d σ x).symm.trans h)
theorem m_X12_ranked_top (hD : ∀ σ, va_D A (mW a cy ad σ)) {σ : Zst} {p0 : Int32} {o : Zst × Int32} (h : f_X12rec zDp 0 σ p0 = some o) : zT l D zcl (zty cy) A ad (mW a cy ad) yX12_ranked cX12_ranked 6 (some .boolean) 206 [.ref (a 0), .int p0] σ o.1 (some (.int o.2)) := by
  have q := (mg_X12rec (l := l) (D := D) (ad := ad) hD zDp).1 _ _ _ h
  rw [zDp_eq] at q
  exact q
theorem m_X12_ahead_top (hD : ∀ σ, va_D A (mW a cy ad σ)) {σ : Zst} {o : Zst × Int32} (h : f_X12rec zDp 1 σ 0 = some o) : zT l D zcl (zty cy) A ad (mW a cy ad) yX12_ahead cX12_ahead 3 (some .boolean) 206 [.ref (a 0)] σ o.1 (some (.int o.2)) := by
  have q := (mg_X12rec (l := l) (D := D) (ad := ad) hD zDp).2.1 _ _ _ h
  rw [zDp_eq] at q
  exact q
theorem m_X12_thing_top (hD : ∀ σ, va_D A (mW a cy ad σ)) {σ : Zst} {o : Zst × Int32} (h : f_X12rec zDp 2 σ 0 = some o) : zT l D zcl (zty cy) A ad (mW a cy ad) yX12_thing cX12_thing 3 (some .boolean) 206 [.ref (a 0)] σ o.1 (some (.int o.2)) := by
  have q := (mg_X12rec (l := l) (D := D) (ad := ad) hD zDp).2.2 _ _ _ h
  rw [zDp_eq] at q
  exact q
theorem k_X12_ranked_top {n : Nat} (M : zM l D zcl (zty cy) A ad (zR n) (mW a cy ad) own cc nL rt σo ov G) {p0 : Int32} {o : (Zst × Int32)} (h : f_X12rec zDp 0 σ p0 = some o) {index : Nat} (hl : Cond.methodLink own index yX12_ranked ∈ uw) (hR : 207 ≤ n) (hW : (st.map fun v => v.category).sum ≤ 8) (d : decode cc pc = .ok (.invokevirtual index, 3)) (kk : G o.1 lv (pc + 3) (.int o.2 :: st)) : G σ lv pc (.int p0 :: .ref (a 0) :: st) := z_callV M [.int p0] (m_X12_ranked_top (zM_hD M) h) (hM0 σ) rfl hl u99 u1599 u1598 u51 hd_X12_ranked hR (by decide) rfl hW d kk
set_option maxHeartbeats 4000000 in
set_option maxRecDepth 100000 in
theorem wJ_X12_fault_43 {o : Int32} (M : zM l D zcl (zty cy) A ad (zR 1) (mW a cy ad) RX12 cX12_fault 4 (some .int) σ0 (some (.int o)) G)  (v3 : Int32)  (h : J_X12_fault_43 σ0 v3 = o) : G σ0 [(0, .ref (a 0)), (3, .int v3)] 43 [] := by
  refine z_iload_n M dt_X12_fault_1.1.2.2.1 rfl 1 rfl ?_
  have hJ2 : G σ0 [(0, .ref (a 0)), (3, .int v3)] 57 [.int (if v3 = (0 : Int32) then ((-1 : Int32) - (σ0.1 6)) else (0 : Int32))] := by
    subst h
    exact z_iret M dt_X12_fault_1.2.2.2
  refine z_if_eq (tgt := 51) M dt_X12_fault_1.1.2.2.2 (by decide) (fun hc1 => ?_) (fun hc1 => ?_)
  · refine z_iconst M dt_X12_fault_1.2.1.2.1 ki_m1 ?_
    refine z_aload_n M dt_X12_fault_1.2.1.2.2 rfl 0 rfl ?_
    refine gf_X12_place (σ := σ0) M u1980 dt_X12_fault_1.2.2.1.1 (v := (σ0.1 6)) rfl ?_
    refine z_isub M dt_X12_fault_1.2.2.1.2 ?_
    exact (zTt hc1 hJ2)
  · refine z_iconst M dt_X12_fault_1.2.1.1.1 ki_0 ?_
    refine z_goto (tgt := 57) M dt_X12_fault_1.2.1.1.2 (by decide) ?_
    exact (zTf hc1 hJ2)
set_option maxHeartbeats 4000000 in
set_option maxRecDepth 100000 in
theorem m_X12_fault (hD : ∀ σ, va_D A (mW a cy ad σ)) (σ0 : Zst) (p0 : Int32) (p1 : Int32) : zT l D zcl (zty cy) A ad (mW a cy ad) yX12_fault cX12_fault 4 (some .int) 1 [.ref (a 0), .int p0, .int p1] σ0 σ0 (some (.int (f_X12_fault σ0 p0 p1))) := by
  obtain ⟨o, h⟩ : ∃ o, f_X12_fault σ0 p0 p1 = o := ⟨_, rfl⟩
  rw [h]
  refine z_met pn_X12 hD (Nat.le_of_ble_eq_true rfl) rfl (fun G M => ?_)
  refine z_iload_n M dt_X12_fault_0.1.1.1.1 rfl 2 rfl ?_
  have hJ5 : G σ0 [(0, .ref (a 0)), (1, .int p0), (2, .int p1)] 20 [.int (if p1 = (0 : Int32) then (0 : Int32) else (if (σ0.1 6) = (σ0.1 7) then (1 : Int32) else (0 : Int32)))] := by
    refine z_istore_n (lv' := [(3, .int (if p1 = (0 : Int32) then (0 : Int32) else (if (σ0.1 6) = (σ0.1 7) then (1 : Int32) else (0 : Int32)))), (0, .ref (a 0)), (1, .int p0), (2, .int p1)]) M dt_X12_fault_0.2.1.2.1 rfl (by decide) rfl ?_
    refine z_iload_n M dt_X12_fault_0.2.1.2.2 rfl 2 rfl ?_
    refine z_bipush M dt_X12_fault_0.2.2.1.1 kb_40 ?_
    refine z_icmp_le (tgt := 43) M dt_X12_fault_0.2.2.1.2 (by decide) (fun hc => ?_) (fun hc => ?_)
    · have h := gTt hc h
      refine z_sub M [1, 0] (lv' := [(0, .ref (a 0)), (3, .int (if p1 = (0 : Int32) then (0 : Int32) else (if (σ0.1 6) = (σ0.1 7) then (1 : Int32) else (0 : Int32))))]) rfl ?_
      exact wJ_X12_fault_43 M  (if p1 = (0 : Int32) then (0 : Int32) else (if (σ0.1 6) = (σ0.1 7) then (1 : Int32) else (0 : Int32))) h
    · have h := gTf hc h
      refine z_iload_n M dt_X12_fault_0.2.2.2.1 rfl 0 rfl ?_
      refine z_if_ne (tgt := 40) M dt_X12_fault_0.2.2.2.2 (by decide) (fun hc => ?_) (fun hc => ?_)
      · have h := gTf hc h
        refine z_bipush M dt_X12_fault_1.1.2.1.1 kb_m41 ?_
        subst h
        exact z_iret M dt_X12_fault_1.1.2.1.2
      · have h := gTt hc h
        refine z_aload_n M dt_X12_fault_1.1.1.1.1 rfl 1 rfl ?_
        refine gf_X12_place (σ := σ0) M u1980 dt_X12_fault_1.1.1.1.2 (v := (σ0.1 6)) rfl ?_
        refine z_bipush M dt_X12_fault_1.1.1.2.1 kb_40 ?_
        refine z_icmp_lt (tgt := 43) M dt_X12_fault_1.1.1.2.2 (by decide) (fun hc => ?_) (fun hc => ?_)
        · have h := gTt hc h
          refine z_sub M [1, 0] (lv' := [(0, .ref (a 0)), (3, .int (if p1 = (0 : Int32) then (0 : Int32) else (if (σ0.1 6) = (σ0.1 7) then (1 : Int32) else (0 : Int32))))]) rfl ?_
          exact wJ_X12_fault_43 M  (if p1 = (0 : Int32) then (0 : Int32) else (if (σ0.1 6) = (σ0.1 7) then (1 : Int32) else (0 : Int32))) h
        · have h := gTf hc h
          refine z_bipush M dt_X12_fault_1.1.2.1.1 kb_m41 ?_
          subst h
          exact z_iret M dt_X12_fault_1.1.2.1.2
  refine z_if_eq (tgt := 19) M dt_X12_fault_0.1.1.1.2 (by decide) (fun hc3 => ?_) (fun hc3 => ?_)
  · refine z_iconst M dt_X12_fault_0.2.1.1.2 ki_0 ?_
    exact (zTt hc3 hJ5)
  · refine z_aload_n M dt_X12_fault_0.1.1.2.1 rfl 0 rfl ?_
    refine gf_X12_place (σ := σ0) M u1980 dt_X12_fault_0.1.1.2.2 (v := (σ0.1 6)) rfl ?_
    refine z_aload_n M dt_X12_fault_0.1.2.1.1 rfl 0 rfl ?_
    refine gf_X12_to (σ := σ0) M u1981 dt_X12_fault_0.1.2.1.2 (v := (σ0.1 7)) rfl ?_
    refine z_icmp_ne (tgt := 19) M dt_X12_fault_0.1.2.2.1 (by decide) (fun hc4 => ?_) (fun hc4 => ?_)
    · refine z_iconst M dt_X12_fault_0.2.1.1.2 ki_0 ?_
      exact (zTf hc4 (zTf hc3 hJ5))
    · refine z_iconst M dt_X12_fault_0.1.2.2.2 ki_1 ?_
      refine z_goto (tgt := 20) M dt_X12_fault_0.2.1.1.1 (by decide) ?_
      exact (zTt hc4 (zTf hc3 hJ5))
theorem k_X12_fault {n : Nat} (M : zM l D zcl (zty cy) A ad (zR n) (mW a cy ad) own cc nL rt σo ov G) {p0 : Int32} {p1 : Int32} {index : Nat} (hl : Cond.methodLink own index yX12_fault ∈ uw) (hR : 2 ≤ n) (hW : (st.map fun v => v.category).sum ≤ 8) (d : decode cc pc = .ok (.invokevirtual index, 3)) (kk : G σ lv (pc + 3) (.int (f_X12_fault σ p0 p1) :: st)) : G σ lv pc (.int p1 :: .int p0 :: .ref (a 0) :: st) := z_callV M [.int p0, .int p1] (m_X12_fault (zM_hD M) σ p0 p1) (hM0 σ) rfl hl u99 u1654 u1653 u57 hd_X12_fault hR (by decide) rfl hW d kk
set_option maxHeartbeats 4000000 in
set_option maxRecDepth 100000 in
theorem wL_X12_law_91 {o : (Zst × Int32)} (M : zM l D zcl (zty cy) A ad (zR 207) (mW a cy ad) RX12 cX12_law 5 (some .int) o.1 (some (.int o.2)) G)  (v1 : Int32)  :
    ∀ (n91 : Nat) (σ : Zst) (v4 : Int32), L_X12_law_91 v1 n91 σ v4 = some o → G σ [(0, .ref (a 0)), (1, .int v1), (4, .int v4)] 91 [] := by
  intro n91
  induction n91 with
  | zero => intro σ v4 h; exact nomatch (show (none : Option (Zst × Int32)) = some _ from h)
  | succ n91 ih =>
    intro σ v4 h
    refine z_iload M dt_X12_law_3.1.2.1.1 2 rfl ?_
    refine z_bipush M dt_X12_law_3.1.2.1.2 kb_48 ?_
    refine z_icmp_ge (tgt := 127) M dt_X12_law_3.1.2.2.1 (by decide) (fun hc => ?_) (fun hc => ?_)
    · have h := gIt hc h
      refine z_iconst M dt_X12_law_4.2.2.1 ki_0 ?_
      obtain rfl := Option.some.inj h
      exact z_iret M dt_X12_law_4.2.2.2
    · have h := gIf hc h
      refine z_aload_n M dt_X12_law_3.1.2.2.2 rfl 0 rfl ?_
      refine gf_X12_code M u1975 dt_X12_law_3.2.1.1.1 ?_
      refine z_bipush M dt_X12_law_3.2.1.1.2 kb_48 ?_
      refine z_iload_n M dt_X12_law_3.2.1.2.1 rfl 1 rfl ?_
      refine z_imul M dt_X12_law_3.2.1.2.2 ?_
      refine z_iload M dt_X12_law_3.2.2.1.1 2 rfl ?_
      refine z_iadd M dt_X12_law_3.2.2.1.2 ?_
      refine z_aload_n M dt_X12_law_3.2.2.2.1 rfl 0 rfl ?_
      refine gf_X12_code M u1975 dt_X12_law_3.2.2.2.2 ?_
      refine z_sipush M dt_X12_law_4.1.1.1.1 ks_288 ?_
      refine z_iload M dt_X12_law_4.1.1.1.2 2 rfl ?_
      refine z_iadd M dt_X12_law_4.1.1.2 ?_
      have ⟨hg, h⟩ := gIx_s h
      refine al_M11 (σ := σ) M (f := (σ.2.1 9)) rfl hg dt_X12_law_4.1.2.1 ?_
      have ⟨hg, h⟩ := gIx_s h
      refine as_M11 (σ := σ) M (f := (σ.2.1 9)) rfl hg dt_X12_law_4.1.2.2 ?_
      refine z_iinc (v := (v4 + (1 : Int32))) (lv' := [(4, .int (v4 + (1 : Int32))), (0, .ref (a 0)), (1, .int v1)]) M dt_X12_law_4.2.1.1 (k := 2) rfl (congrArg (fun q => v4 + q) ki_1) (by decide) rfl ?_
      refine z_goto (tgt := 91) M dt_X12_law_4.2.1.2 (by decide) ?_
      refine z_sub M [1, 2, 0] (lv' := [(0, .ref (a 0)), (1, .int v1), (4, .int (v4 + (1 : Int32)))]) rfl ?_
      exact ih (zA σ 9 (upd (σ.2.1 9) (Int32.toNatClampNeg (((48 : Int32) * v1) + v4)) ((σ.2.1 9) (Int32.toNatClampNeg ((288 : Int32) + v4))))) (v4 + (1 : Int32)) h
set_option maxHeartbeats 4000000 in
set_option maxRecDepth 100000 in
theorem wJ_X12_law_47 {o : (Zst × Int32)} (M : zM l D zcl (zty cy) A ad (zR 207) (mW a cy ad) RX12 cX12_law 5 (some .int) o.1 (some (.int o.2)) G) (σ : Zst) (v1 : Int32) (v2 : Int32) (s0 : Nat)  (h : J_X12_law_47 σ v1 v2 s0 = some o) : G σ [(0, .ref (a 0)), (1, .int v1), (2, .int v2)] 47 [.ref (ad.1 s0), .ref (a 0)] := by
  refine pf_X12_signs M u1983 dt_X12_law_1.2.1.1.2 ?_
  refine z_aload_n M dt_X12_law_1.2.1.2.1 rfl 0 rfl ?_
  refine gf_X12_codes M u1976 dt_X12_law_1.2.1.2.2 ?_
  refine z_bipush M dt_X12_law_1.2.2.1.1 kb_6 ?_
  refine z_iconst M dt_X12_law_1.2.2.1.2 ki_0 ?_
  refine as_M12 (σ := (zN σ 0 (s0 + 1))) M (f := (σ.2.1 10)) rfl (show ¬ (_ ∨ _) by decide) dt_X12_law_1.2.2.2.1 ?_
  refine z_aload_n M dt_X12_law_1.2.2.2.2 rfl 0 rfl ?_
  refine z_iload_n M dt_X12_law_2.1.1.1.1 rfl 2 rfl ?_
  refine z_aload_n M dt_X12_law_2.1.1.1.2 rfl 0 rfl ?_
  refine z_iconst M dt_X12_law_2.1.1.2.1 ki_0 ?_
  obtain ⟨t1, hc, h⟩ := gBd h
  refine k_X12_ranked_top M hc u1596 (Nat.le_of_ble_eq_true rfl) (Nat.le_of_ble_eq_true rfl) dt_X12_law_2.1.1.2.2 ?_
  refine k_X12_fault M u1651 (Nat.le_of_ble_eq_true rfl) (Nat.le_of_ble_eq_true rfl) dt_X12_law_2.1.2.1.1 ?_
  refine z_istore_n (lv' := [(3, .int (f_X12_fault t1.1 v2 t1.2)), (0, .ref (a 0)), (1, .int v1), (2, .int v2)]) M dt_X12_law_2.1.2.1.2 rfl (by decide) rfl ?_
  refine z_iload_n M dt_X12_law_2.1.2.2.1 rfl 0 rfl ?_
  refine z_if_ge (tgt := 75) M dt_X12_law_2.1.2.2.2 (by decide) (fun hc => ?_) (fun hc => ?_)
  · have h := gIt hc h
    refine z_aload_n M dt_X12_law_2.2.1.2.1 rfl 1 rfl ?_
    refine gf_X12_codes M u1976 dt_X12_law_2.2.1.2.2 ?_
    refine z_iload_n M dt_X12_law_2.2.2.1.1 rfl 2 rfl ?_
    refine z_aload_n M dt_X12_law_2.2.2.1.2 rfl 1 rfl ?_
    refine gf_X12_codes M u1976 dt_X12_law_2.2.2.2.1 ?_
    refine z_bipush M dt_X12_law_2.2.2.2.2 kb_6 ?_
    refine al_M12 (σ := t1.1) M (f := (t1.1.2.1 10)) rfl (show ¬ (_ ∨ _) by decide) dt_X12_law_3.1.1.1.1 ?_
    have ⟨hg, h⟩ := gIx_s h
    refine as_M12 (σ := t1.1) M (f := (t1.1.2.1 10)) rfl hg dt_X12_law_3.1.1.1.2 ?_
    refine z_iconst M dt_X12_law_3.1.1.2.1 ki_0 ?_
    refine z_istore (lv' := [(4, .int (0 : Int32)), (3, .int (f_X12_fault t1.1 v2 t1.2)), (0, .ref (a 0)), (1, .int v1), (2, .int v2)]) M dt_X12_law_3.1.1.2.2 (by decide) rfl ?_
    refine z_sub M [2, 3, 0] (lv' := [(0, .ref (a 0)), (1, .int v1), (4, .int (0 : Int32))]) rfl ?_
    exact wL_X12_law_91 M  v1 zFu (zA t1.1 10 (upd (t1.1.2.1 10) (Int32.toNatClampNeg v1) ((t1.1.2.1 10) (Int32.toNatClampNeg (6 : Int32))))) (0 : Int32) h
  · have h := gIf hc h
    refine z_iload_n M dt_X12_law_2.2.1.1.1 rfl 0 rfl ?_
    obtain rfl := Option.some.inj h
    exact z_iret M dt_X12_law_2.2.1.1.2
set_option maxHeartbeats 4000000 in
set_option maxRecDepth 100000 in
theorem m_X12_law (hD : ∀ σ, va_D A (mW a cy ad σ)) {σ : Zst} {p0 : Int32} {o : (Zst × Int32)} (h : f_X12_law σ p0 = some o) : zT l D zcl (zty cy) A ad (mW a cy ad) yX12_law cX12_law 5 (some .int) 207 [.ref (a 0), .int p0] σ o.1 (some (.int o.2)) := by
  refine z_met pn_X12 hD (Nat.le_of_ble_eq_true rfl) rfl (fun G M => ?_)
  refine z_aload_n M dt_X12_law_0.1.1.1.1 rfl 0 rfl ?_
  refine z_iconst M dt_X12_law_0.1.1.1.2 ki_0 ?_
  refine pf_X12_thrown M u1960 dt_X12_law_0.1.1.2.1 ?_
  refine z_aload_n M dt_X12_law_0.1.1.2.2 rfl 0 rfl ?_
  obtain ⟨t2, hc, h⟩ := gBd h
  refine k_X12_begins M hc u1589 (Nat.le_of_ble_eq_true rfl) (Nat.le_of_ble_eq_true rfl) dt_X12_law_0.1.2.1.1 ?_
  refine z_istore_n (lv' := [(2, .int t2.2), (0, .ref (a 0)), (1, .int p0)]) M dt_X12_law_0.1.2.1.2 rfl (by decide) rfl ?_
  refine z_iload_n M dt_X12_law_0.1.2.2.1 rfl 2 rfl ?_
  refine z_i2l M dt_X12_law_0.1.2.2.2 ?_
  refine z_lconst (v := 0) M dt_X12_law_0.2.1.1.1 (by decide) ?_
  refine z_ldc2 M dt_X12_law_0.2.1.1.2 u1521 ?_
  refine k_X12_in M u1517 (Nat.le_of_ble_eq_true rfl) (Nat.le_of_ble_eq_true rfl) dt_X12_law_0.2.1.2.1 ?_
  refine z_if_ne (tgt := 25) M dt_X12_law_0.2.1.2.2 (by decide) (fun hc => ?_) (fun hc => ?_)
  · have h := gIf hc h
    refine z_aload_n M dt_X12_law_0.2.2.2.1 rfl 1 rfl ?_
    refine z_iload_n M dt_X12_law_0.2.2.2.2 rfl 2 rfl ?_
    refine z_if_ne (tgt := 35) M dt_X12_law_1.1.1.1.1 (by decide) (fun hc => ?_) (fun hc => ?_)
    · have h := gIf hc h
      refine z_iload_n M dt_X12_law_1.1.1.2.2 rfl 2 rfl ?_
      refine z_iconst M dt_X12_law_1.1.2.1.1 ki_1 ?_
      refine z_icmp_ne (tgt := 45) M dt_X12_law_1.1.2.1.2 (by decide) (fun hc => ?_) (fun hc => ?_)
      · have h := gIf hc h
        refine z_ldcS (tx := "htwkrlqzbe") (i := 3) M (by decide +kernel) dt_X12_law_1.2.1.1.1 ?_
        refine z_sub M [1, 2, 0] (lv' := [(0, .ref (a 0)), (1, .int p0), (2, .int t2.2)]) rfl ?_
        exact wJ_X12_law_47 M  t2.1 p0 t2.2 3 h
      · have h := gIt hc h
        refine z_ldcS (tx := "htwkrlqzb") (i := 2) M (by decide +kernel) dt_X12_law_1.1.2.2.1 ?_
        refine z_goto (tgt := 47) M dt_X12_law_1.1.2.2.2 (by decide) ?_
        refine z_sub M [1, 2, 0] (lv' := [(0, .ref (a 0)), (1, .int p0), (2, .int t2.2)]) rfl ?_
        exact wJ_X12_law_47 M  t2.1 p0 t2.2 2 h
    · have h := gIt hc h
      refine z_ldcS (tx := "htwkrlqz") (i := 1) M (by decide +kernel) dt_X12_law_1.1.1.1.2 ?_
      refine z_goto (tgt := 47) M dt_X12_law_1.1.1.2.1 (by decide) ?_
      refine z_sub M [1, 2, 0] (lv' := [(0, .ref (a 0)), (1, .int p0), (2, .int t2.2)]) rfl ?_
      exact wJ_X12_law_47 M  t2.1 p0 t2.2 1 h
  · have h := gIt hc h
    refine z_bipush M dt_X12_law_0.2.2.1.1 kb_m100 ?_
    obtain rfl := Option.some.inj h
    exact z_iret M dt_X12_law_0.2.2.1.2
set_option maxHeartbeats 4000000 in
set_option maxRecDepth 100000 in
theorem m_X12_isStreet (hD : ∀ σ, va_D A (mW a cy ad σ)) (σ0 : Zst) (p0 : Int32) : zT l D zcl (zty cy) A ad (mW a cy ad) yX12_isStreet cX12_isStreet 2 (some .boolean) 2 [.ref (a 0), .int p0] σ0 σ0 (some (.int (f_X12_isStreet σ0 p0))) := by
  obtain ⟨o, h⟩ : ∃ o, f_X12_isStreet σ0 p0 = o := ⟨_, rfl⟩
  rw [h]
  refine z_met pn_X12 hD (Nat.le_of_ble_eq_true rfl) rfl (fun G M => ?_)
  refine z_iload_n M dt_X12_isStreet_0.1.1.1.1 rfl 1 rfl ?_
  refine z_i2l M dt_X12_isStreet_0.1.1.1.2 ?_
  refine z_lconst (v := 0) M dt_X12_isStreet_0.1.1.2 (by decide) ?_
  refine z_aload_n M dt_X12_isStreet_0.1.2.1 rfl 0 rfl ?_
  refine gf_X12_streets (σ := σ0) M u1970 dt_X12_isStreet_0.1.2.2 (v := (σ0.1 3)) rfl ?_
  refine z_iconst M dt_X12_isStreet_0.2.1.1.1 ki_1 ?_
  refine z_isub M dt_X12_isStreet_0.2.1.1.2 ?_
  refine z_i2l M dt_X12_isStreet_0.2.1.2 ?_
  refine k_X12_in M u1517 (Nat.le_of_ble_eq_true rfl) (Nat.le_of_ble_eq_true rfl) dt_X12_isStreet_0.2.2.1 ?_
  subst h
  exact z_zret M (nBo (bo_X12_in (Int32.toInt64 p0) (0 : Int64) (Int32.toInt64 ((σ0.1 3) - (1 : Int32))))) dt_X12_isStreet_0.2.2.2
theorem k_X12_isStreet {n : Nat} (M : zM l D zcl (zty cy) A ad (zR n) (mW a cy ad) own cc nL rt σo ov G) {p0 : Int32} {index : Nat} (hl : Cond.methodLink own index yX12_isStreet ∈ uw) (hR : 3 ≤ n) (hW : (st.map fun v => v.category).sum ≤ 8) (d : decode cc pc = .ok (.invokevirtual index, 3)) (kk : G σ lv (pc + 3) (.int (f_X12_isStreet σ p0) :: st)) : G σ lv pc (.int p0 :: .ref (a 0) :: st) := z_callV M [.int p0] (m_X12_isStreet (zM_hD M) σ p0) (hM0 σ) rfl hl u99 u1662 u1661 u58 hd_X12_isStreet hR (by decide) rfl hW d kk
set_option maxHeartbeats 4000000 in
set_option maxRecDepth 100000 in
theorem m_X12_flag (hD : ∀ σ, va_D A (wf σ)) (σ0 : Zst) (p0 : Int32) : zT l D zcl0 tys A ad wf yX12_flag cX12_flag 1 (some .int) 1 [.int p0] σ0 σ0 (some (.int (f_X12_flag p0))) := by
  obtain ⟨o, h⟩ : ∃ o, f_X12_flag p0 = o := ⟨_, rfl⟩
  rw [h]
  refine z_met pn_X12 hD (Nat.le_of_ble_eq_true rfl) rfl (fun G M => ?_)
  refine z_iload_n M dt_X12_flag_0.1.1.1 rfl 0 rfl ?_
  have hJ2 : G σ0 [(0, .int p0)] 9 [.int (if p0 = (0 : Int32) then (0 : Int32) else (1 : Int32))] := by
    subst h
    exact z_iret M dt_X12_flag_0.2.2
  refine z_if_eq (tgt := 8) M dt_X12_flag_0.1.1.2 (by decide) (fun hc1 => ?_) (fun hc1 => ?_)
  · refine z_iconst M dt_X12_flag_0.2.1.2 ki_0 ?_
    exact (zTt hc1 hJ2)
  · refine z_iconst M dt_X12_flag_0.1.2 ki_1 ?_
    refine z_goto (tgt := 9) M dt_X12_flag_0.2.1.1 (by decide) ?_
    exact (zTf hc1 hJ2)
theorem k_X12_flag {n : Nat} (M : zM l D zcl0 tys A ad (zR n) wf own cc nL rt σo ov G) {p0 : Int32} {index : Nat} (hl : Cond.methodLink own index yX12_flag ∈ uw) (hR : 2 ≤ n) (hW : (st.map fun v => v.category).sum ≤ 8) (d : decode cc pc = .ok (.invokestatic index, 3)) (kk : G σ lv (pc + 3) (.int (f_X12_flag p0) :: st)) : G σ lv pc (.int p0 :: st) := z_callS M [.int p0] (m_X12_flag (zM_hD M) σ p0) hl u99 u1677 u1676 hd_X12_flag hR (by decide) rfl hW d kk
set_option maxHeartbeats 4000000 in
set_option maxRecDepth 100000 in
theorem m_X12_acted (hD : ∀ σ, va_D A (wf σ)) {σ0 : Zst} {p0 : Int32} {p1 : Int32} {p2 : Int32} {o : Int32} (h : f_X12_acted p0 p1 p2 = some o) : zT l D zcl0 tys A ad wf yX12_acted cX12_acted 3 (some .int) 2 [.int p0, .int p1, .int p2] σ0 σ0 (some (.int o)) := by
  refine z_met pn_X12 hD (Nat.le_of_ble_eq_true rfl) rfl (fun G M => ?_)
  refine z_iload_n M dt_X12_acted_0.1.1.1.1 rfl 0 rfl ?_
  -- switch
  by_cases hs1 : p0 = (38 : Int32)
  · have h := gIt hs1 h
    refine z_tabIn (off := 181) (tgt := 182) M dt_X12_acted_0.1.1.1.2 (by rw [hs1]; decide) (by rw [hs1]; decide) (by rw [hs1]; rfl) (by decide) ?_
    refine z_iload_n M dt_X12_acted_2.2.2.2.1 rfl 1 rfl ?_
    have hJ4 : G σ0 [(0, .int p0), (1, .int p1), (2, .int p2)] 195 [.int (if p1 = (0 : Int32) then (0 : Int32) else (if p2 = (0 : Int32) then (0 : Int32) else (1 : Int32)))] := by
      refine k_X12_flag M u1675 (Nat.le_of_ble_eq_true rfl) (Nat.le_of_ble_eq_true rfl) dt_X12_acted_3.1.2.1.2 ?_
      obtain rfl := Option.some.inj h
      exact z_iret M dt_X12_acted_3.1.2.2.1
    refine z_if_eq (tgt := 194) M dt_X12_acted_2.2.2.2.2 (by decide) (fun hc2 => ?_) (fun hc2 => ?_)
    · refine z_iconst M dt_X12_acted_3.1.2.1.1 ki_0 ?_
      exact (zTt hc2 hJ4)
    · refine z_iload_n M dt_X12_acted_3.1.1.1.1 rfl 2 rfl ?_
      refine z_if_eq (tgt := 194) M dt_X12_acted_3.1.1.1.2 (by decide) (fun hc3 => ?_) (fun hc3 => ?_)
      · refine z_iconst M dt_X12_acted_3.1.2.1.1 ki_0 ?_
        exact (zTt hc3 (zTf hc2 hJ4))
      · refine z_iconst M dt_X12_acted_3.1.1.2.1 ki_1 ?_
        refine z_goto (tgt := 195) M dt_X12_acted_3.1.1.2.2 (by decide) ?_
        exact (zTf hc3 (zTf hc2 hJ4))
  · have h := gIf hs1 h
    by_cases hs5 : p0 = (42 : Int32)
    · have h := gIt hs5 h
      refine z_tabIn (off := 123) (tgt := 124) M dt_X12_acted_0.1.1.1.2 (by rw [hs5]; decide) (by rw [hs5]; decide) (by rw [hs5]; rfl) (by decide) ?_
      refine z_iload_n M dt_X12_acted_0.2.1.2.1 rfl 1 rfl ?_
      refine z_iload_n M dt_X12_acted_0.2.1.2.2 rfl 2 rfl ?_
      refine z_imul M dt_X12_acted_0.2.2.1.1 ?_
      obtain rfl := Option.some.inj h
      exact z_iret M dt_X12_acted_0.2.2.1.2
    · have h := gIf hs5 h
      by_cases hs6 : p0 = (43 : Int32)
      · have h := gIt hs6 h
        refine z_tabIn (off := 115) (tgt := 116) M dt_X12_acted_0.1.1.1.2 (by rw [hs6]; decide) (by rw [hs6]; decide) (by rw [hs6]; rfl) (by decide) ?_
        refine z_iload_n M dt_X12_acted_0.1.1.2.1 rfl 1 rfl ?_
        refine z_iload_n M dt_X12_acted_0.1.1.2.2 rfl 2 rfl ?_
        refine z_iadd M dt_X12_acted_0.1.2.1.1 ?_
        obtain rfl := Option.some.inj h
        exact z_iret M dt_X12_acted_0.1.2.1.2
      · have h := gIf hs6 h
        by_cases hs7 : p0 = (45 : Int32)
        · have h := gIt hs7 h
          refine z_tabIn (off := 119) (tgt := 120) M dt_X12_acted_0.1.1.1.2 (by rw [hs7]; decide) (by rw [hs7]; decide) (by rw [hs7]; rfl) (by decide) ?_
          refine z_iload_n M dt_X12_acted_0.1.2.2.1 rfl 1 rfl ?_
          refine z_iload_n M dt_X12_acted_0.1.2.2.2 rfl 2 rfl ?_
          refine z_isub M dt_X12_acted_0.2.1.1.1 ?_
          obtain rfl := Option.some.inj h
          exact z_iret M dt_X12_acted_0.2.1.1.2
        · have h := gIf hs7 h
          by_cases hs8 : p0 = (47 : Int32)
          · have h := gIt hs8 h
            refine z_tabIn (off := 127) (tgt := 128) M dt_X12_acted_0.1.1.1.2 (by rw [hs8]; decide) (by rw [hs8]; decide) (by rw [hs8]; rfl) (by decide) ?_
            refine z_iload_n M dt_X12_acted_0.2.2.2.1 rfl 2 rfl ?_
            refine z_if_ne (tgt := 136) M dt_X12_acted_0.2.2.2.2 (by decide) (fun hc => ?_) (fun hc => ?_)
            · have h := gIf hc h
              refine z_iload_n M dt_X12_acted_1.1.1.2.1 rfl 1 rfl ?_
              refine z_iload_n M dt_X12_acted_1.1.1.2.2 rfl 2 rfl ?_
              have ⟨hg, h⟩ := gNz_s h
              refine z_idiv M dt_X12_acted_1.1.2.1.1 hg ?_
              obtain rfl := Option.some.inj h
              exact z_iret M dt_X12_acted_1.1.2.1.2
            · have h := gIt hc h
              refine z_iconst M dt_X12_acted_1.1.1.1.1 ki_0 ?_
              refine z_goto (tgt := 139) M dt_X12_acted_1.1.1.1.2 (by decide) ?_
              obtain rfl := Option.some.inj h
              exact z_iret M dt_X12_acted_1.1.2.1.2
          · have h := gIf hs8 h
            by_cases hs9 : p0 = (60 : Int32)
            · have h := gIt hs9 h
              refine z_tabIn (off := 139) (tgt := 140) M dt_X12_acted_0.1.1.1.2 (by rw [hs9]; decide) (by rw [hs9]; decide) (by rw [hs9]; rfl) (by decide) ?_
              refine z_iload_n M dt_X12_acted_1.1.2.2.1 rfl 1 rfl ?_
              refine z_iload_n M dt_X12_acted_1.1.2.2.2 rfl 2 rfl ?_
              have hJ11 : G σ0 [(0, .int p0), (1, .int p1), (2, .int p2)] 150 [.int (if p2 ≤ p1 then (0 : Int32) else (1 : Int32))] := by
                refine k_X12_flag M u1675 (Nat.le_of_ble_eq_true rfl) (Nat.le_of_ble_eq_true rfl) dt_X12_acted_1.2.2.1.1 ?_
                obtain rfl := Option.some.inj h
                exact z_iret M dt_X12_acted_1.2.2.1.2
              refine z_icmp_ge (tgt := 149) M dt_X12_acted_1.2.1.1.1 (by decide) (fun hc10 => ?_) (fun hc10 => ?_)
              · refine z_iconst M dt_X12_acted_1.2.1.2.2 ki_0 ?_
                exact (zTt hc10 hJ11)
              · refine z_iconst M dt_X12_acted_1.2.1.1.2 ki_1 ?_
                refine z_goto (tgt := 150) M dt_X12_acted_1.2.1.2.1 (by decide) ?_
                exact (zTf hc10 hJ11)
            · have h := gIf hs9 h
              by_cases hs12 : p0 = (61 : Int32)
              · have h := gIt hs12 h
                refine z_tabIn (off := 167) (tgt := 168) M dt_X12_acted_0.1.1.1.2 (by rw [hs12]; decide) (by rw [hs12]; decide) (by rw [hs12]; rfl) (by decide) ?_
                refine z_iload_n M dt_X12_acted_2.1.2.2.1 rfl 1 rfl ?_
                refine z_iload_n M dt_X12_acted_2.1.2.2.2 rfl 2 rfl ?_
                have hJ14 : G σ0 [(0, .int p0), (1, .int p1), (2, .int p2)] 178 [.int (if p1 = p2 then (1 : Int32) else (0 : Int32))] := by
                  refine k_X12_flag M u1675 (Nat.le_of_ble_eq_true rfl) (Nat.le_of_ble_eq_true rfl) dt_X12_acted_2.2.2.1.1 ?_
                  obtain rfl := Option.some.inj h
                  exact z_iret M dt_X12_acted_2.2.2.1.2
                refine z_icmp_ne (tgt := 177) M dt_X12_acted_2.2.1.1.1 (by decide) (fun hc13 => ?_) (fun hc13 => ?_)
                · refine z_iconst M dt_X12_acted_2.2.1.2.2 ki_0 ?_
                  exact (zTf hc13 hJ14)
                · refine z_iconst M dt_X12_acted_2.2.1.1.2 ki_1 ?_
                  refine z_goto (tgt := 178) M dt_X12_acted_2.2.1.2.1 (by decide) ?_
                  exact (zTt hc13 hJ14)
              · have h := gIf hs12 h
                by_cases hs15 : p0 = (62 : Int32)
                · have h := gIt hs15 h
                  refine z_tabIn (off := 153) (tgt := 154) M dt_X12_acted_0.1.1.1.2 (by rw [hs15]; decide) (by rw [hs15]; decide) (by rw [hs15]; rfl) (by decide) ?_
                  refine z_iload_n M dt_X12_acted_1.2.2.2.1 rfl 1 rfl ?_
                  refine z_iload_n M dt_X12_acted_1.2.2.2.2 rfl 2 rfl ?_
                  have hJ17 : G σ0 [(0, .int p0), (1, .int p1), (2, .int p2)] 164 [.int (if p1 ≤ p2 then (0 : Int32) else (1 : Int32))] := by
                    refine k_X12_flag M u1675 (Nat.le_of_ble_eq_true rfl) (Nat.le_of_ble_eq_true rfl) dt_X12_acted_2.1.2.1.1 ?_
                    obtain rfl := Option.some.inj h
                    exact z_iret M dt_X12_acted_2.1.2.1.2
                  refine z_icmp_le (tgt := 163) M dt_X12_acted_2.1.1.1.1 (by decide) (fun hc16 => ?_) (fun hc16 => ?_)
                  · refine z_iconst M dt_X12_acted_2.1.1.2.2 ki_0 ?_
                    exact (zTt hc16 hJ17)
                  · refine z_iconst M dt_X12_acted_2.1.1.1.2 ki_1 ?_
                    refine z_goto (tgt := 164) M dt_X12_acted_2.1.1.2.1 (by decide) ?_
                    exact (zTf hc16 hJ17)
                · have h := gIf hs15 h
                  have hD21 : G σ0 [(0, .int p0), (1, .int p1), (2, .int p2)] 199 [] := by
                    refine z_iload_n M dt_X12_acted_3.1.2.2.2 rfl 1 rfl ?_
                    have hJ20 : G σ0 [(0, .int p0), (1, .int p1), (2, .int p2)] 212 [.int (if p1 = (0 : Int32) then (if p2 = (0 : Int32) then (0 : Int32) else (1 : Int32)) else (1 : Int32))] := by
                      refine k_X12_flag M u1675 (Nat.le_of_ble_eq_true rfl) (Nat.le_of_ble_eq_true rfl) dt_X12_acted_3.2.2.2.1 ?_
                      obtain rfl := Option.some.inj h
                      exact z_iret M dt_X12_acted_3.2.2.2.2
                    refine z_if_ne (tgt := 207) M dt_X12_acted_3.2.1.1.1 (by decide) (fun hc18 => ?_) (fun hc18 => ?_)
                    · refine z_iconst M dt_X12_acted_3.2.1.2.2 ki_1 ?_
                      refine z_goto (tgt := 212) M dt_X12_acted_3.2.2.1.1 (by decide) ?_
                      exact (zTf hc18 hJ20)
                    · refine z_iload_n M dt_X12_acted_3.2.1.1.2 rfl 2 rfl ?_
                      refine z_if_eq (tgt := 211) M dt_X12_acted_3.2.1.2.1 (by decide) (fun hc19 => ?_) (fun hc19 => ?_)
                      · refine z_iconst M dt_X12_acted_3.2.2.1.2 ki_0 ?_
                        exact (zTt hc19 (zTt hc18 hJ20))
                      · refine z_iconst M dt_X12_acted_3.2.1.2.2 ki_1 ?_
                        refine z_goto (tgt := 212) M dt_X12_acted_3.2.2.1.1 (by decide) ?_
                        exact (zTf hc19 (zTt hc18 hJ20))
                  by_cases hx : (Int32.toInt p0) < 38 ∨ 62 < (Int32.toInt p0)
                  · exact z_tabOut (tgt := 199) M dt_X12_acted_0.1.1.1.2 hx (by decide) hD21
                  · obtain ⟨hx1, hx2⟩ := z_tabX hx
                    have hs1 : ¬ (Int32.toInt p0) = 38 := fun q => hs1 (Int32.toInt_inj.mp (q.trans (by decide)))
                    have hs5 : ¬ (Int32.toInt p0) = 42 := fun q => hs5 (Int32.toInt_inj.mp (q.trans (by decide)))
                    have hs6 : ¬ (Int32.toInt p0) = 43 := fun q => hs6 (Int32.toInt_inj.mp (q.trans (by decide)))
                    have hs7 : ¬ (Int32.toInt p0) = 45 := fun q => hs7 (Int32.toInt_inj.mp (q.trans (by decide)))
                    have hs8 : ¬ (Int32.toInt p0) = 47 := fun q => hs8 (Int32.toInt_inj.mp (q.trans (by decide)))
                    have hs9 : ¬ (Int32.toInt p0) = 60 := fun q => hs9 (Int32.toInt_inj.mp (q.trans (by decide)))
                    have hs12 : ¬ (Int32.toInt p0) = 61 := fun q => hs12 (Int32.toInt_inj.mp (q.trans (by decide)))
                    have hs15 : ¬ (Int32.toInt p0) = 62 := fun q => hs15 (Int32.toInt_inj.mp (q.trans (by decide)))
                    have hy : (Int32.toInt p0) = 39 ∨ (Int32.toInt p0) = 40 ∨ (Int32.toInt p0) = 41 ∨ (Int32.toInt p0) = 44 ∨ (Int32.toInt p0) = 46 ∨ (Int32.toInt p0) = 48 ∨ (Int32.toInt p0) = 49 ∨ (Int32.toInt p0) = 50 ∨ (Int32.toInt p0) = 51 ∨ (Int32.toInt p0) = 52 ∨ (Int32.toInt p0) = 53 ∨ (Int32.toInt p0) = 54 ∨ (Int32.toInt p0) = 55 ∨ (Int32.toInt p0) = 56 ∨ (Int32.toInt p0) = 57 ∨ (Int32.toInt p0) = 58 ∨ (Int32.toInt p0) = 59 := by omega
                    rcases hy with hy | hy | hy | hy | hy | hy | hy | hy | hy | hy | hy | hy | hy | hy | hy | hy | hy
                    · exact z_tabIn (off := 198) (tgt := 199) M dt_X12_acted_0.1.1.1.2 hx1 hx2 (by rw [hy]; rfl) (by decide) hD21
                    · exact z_tabIn (off := 198) (tgt := 199) M dt_X12_acted_0.1.1.1.2 hx1 hx2 (by rw [hy]; rfl) (by decide) hD21
                    · exact z_tabIn (off := 198) (tgt := 199) M dt_X12_acted_0.1.1.1.2 hx1 hx2 (by rw [hy]; rfl) (by decide) hD21
                    · exact z_tabIn (off := 198) (tgt := 199) M dt_X12_acted_0.1.1.1.2 hx1 hx2 (by rw [hy]; rfl) (by decide) hD21
                    · exact z_tabIn (off := 198) (tgt := 199) M dt_X12_acted_0.1.1.1.2 hx1 hx2 (by rw [hy]; rfl) (by decide) hD21
                    · exact z_tabIn (off := 198) (tgt := 199) M dt_X12_acted_0.1.1.1.2 hx1 hx2 (by rw [hy]; rfl) (by decide) hD21
                    · exact z_tabIn (off := 198) (tgt := 199) M dt_X12_acted_0.1.1.1.2 hx1 hx2 (by rw [hy]; rfl) (by decide) hD21
                    · exact z_tabIn (off := 198) (tgt := 199) M dt_X12_acted_0.1.1.1.2 hx1 hx2 (by rw [hy]; rfl) (by decide) hD21
                    · exact z_tabIn (off := 198) (tgt := 199) M dt_X12_acted_0.1.1.1.2 hx1 hx2 (by rw [hy]; rfl) (by decide) hD21
                    · exact z_tabIn (off := 198) (tgt := 199) M dt_X12_acted_0.1.1.1.2 hx1 hx2 (by rw [hy]; rfl) (by decide) hD21
                    · exact z_tabIn (off := 198) (tgt := 199) M dt_X12_acted_0.1.1.1.2 hx1 hx2 (by rw [hy]; rfl) (by decide) hD21
                    · exact z_tabIn (off := 198) (tgt := 199) M dt_X12_acted_0.1.1.1.2 hx1 hx2 (by rw [hy]; rfl) (by decide) hD21
                    · exact z_tabIn (off := 198) (tgt := 199) M dt_X12_acted_0.1.1.1.2 hx1 hx2 (by rw [hy]; rfl) (by decide) hD21
                    · exact z_tabIn (off := 198) (tgt := 199) M dt_X12_acted_0.1.1.1.2 hx1 hx2 (by rw [hy]; rfl) (by decide) hD21
                    · exact z_tabIn (off := 198) (tgt := 199) M dt_X12_acted_0.1.1.1.2 hx1 hx2 (by rw [hy]; rfl) (by decide) hD21
                    · exact z_tabIn (off := 198) (tgt := 199) M dt_X12_acted_0.1.1.1.2 hx1 hx2 (by rw [hy]; rfl) (by decide) hD21
                    · exact z_tabIn (off := 198) (tgt := 199) M dt_X12_acted_0.1.1.1.2 hx1 hx2 (by rw [hy]; rfl) (by decide) hD21
theorem k_X12_acted {n : Nat} (M : zM l D zcl0 tys A ad (zR n) wf own cc nL rt σo ov G) {p0 : Int32} {p1 : Int32} {p2 : Int32} {o : Int32} (h : f_X12_acted p0 p1 p2 = some o) {index : Nat} (hl : Cond.methodLink own index yX12_acted ∈ uw) (hR : 3 ≤ n) (hW : (st.map fun v => v.category).sum ≤ 8) (d : decode cc pc = .ok (.invokestatic index, 3)) (kk : G σ lv (pc + 3) (.int o :: st)) : G σ lv pc (.int p2 :: .int p1 :: .int p0 :: st) := z_callS M [.int p0, .int p1, .int p2] (m_X12_acted (zM_hD M) h) hl u99 u1685 u1684 hd_X12_acted hR (by decide) rfl hW d kk
set_option maxHeartbeats 4000000 in
set_option maxRecDepth 100000 in
theorem m_X12_draws (hD : ∀ σ, va_D A (mW a cy ad σ)) {σ : Zst} {p0 : Int32} {o : (Zst × Int32)} (h : f_X12_draws σ p0 = some o) : zT l D zcl (zty cy) A ad (mW a cy ad) yX12_draws cX12_draws 2 (some .int) 1 [.ref (a 0), .int p0] σ o.1 (some (.int o.2)) := by
  refine z_met pn_X12 hD (Nat.le_of_ble_eq_true rfl) rfl (fun G M => ?_)
  refine z_aload_n M dt_X12_draws_0.1.1.1.1 rfl 0 rfl ?_
  refine z_aload_n M dt_X12_draws_0.1.1.1.2 rfl 0 rfl ?_
  refine gf_X12_random (σ := σ) M u1974 dt_X12_draws_0.1.1.2.1 (v := (σ.1 4)) rfl ?_
  refine z_ldc M dt_X12_draws_0.1.1.2.2 u1682 ?_
  refine z_imul M dt_X12_draws_0.1.2.1.1 ?_
  refine z_sipush M dt_X12_draws_0.1.2.1.2 ks_12345 ?_
  refine z_iadd M dt_X12_draws_0.1.2.2.1 ?_
  refine pf_X12_random M u1974 dt_X12_draws_0.1.2.2.2 ?_
  refine z_aload_n M dt_X12_draws_0.2.1.1.1 rfl 0 rfl ?_
  refine gf_X12_random (σ := (zI σ 4 (((σ.1 4) * (1103515245 : Int32)) + (12345 : Int32)))) M u1974 dt_X12_draws_0.2.1.1.2 (v := (((σ.1 4) * (1103515245 : Int32)) + (12345 : Int32))) rfl ?_
  refine z_bipush M dt_X12_draws_0.2.1.2.1 kb_16 ?_
  refine z_iushr M dt_X12_draws_0.2.1.2.2 ?_
  refine z_iload_n M dt_X12_draws_0.2.2.1.1 rfl 1 rfl ?_
  have ⟨hg, h⟩ := gNz_s h
  refine z_irem M dt_X12_draws_0.2.2.1.2 hg ?_
  obtain rfl := Option.some.inj h
  exact z_iret M dt_X12_draws_0.2.2.2
theorem k_X12_draws {n : Nat} (M : zM l D zcl (zty cy) A ad (zR n) (mW a cy ad) own cc nL rt σo ov G) {p0 : Int32} {o : (Zst × Int32)} (h : f_X12_draws σ p0 = some o) {index : Nat} (hl : Cond.methodLink own index yX12_draws ∈ uw) (hR : 2 ≤ n) (hW : (st.map fun v => v.category).sum ≤ 8) (d : decode cc pc = .ok (.invokevirtual index, 3)) (kk : G o.1 lv (pc + 3) (.int o.2 :: st)) : G σ lv pc (.int p0 :: .ref (a 0) :: st) := z_callV M [.int p0] (m_X12_draws (zM_hD M) h) (hM0 σ) rfl hl u99 u1681 u1680 u62 hd_X12_draws hR (by decide) rfl hW d kk
set_option maxHeartbeats 4000000 in
set_option maxRecDepth 100000 in
theorem m_X12_valueOf (hD : ∀ σ, va_D A (mW a cy ad σ)) {σ : Zst} {p0 : Int32} {o : (Zst × Int32)} (h : f_X12_valueOf σ p0 = some o) : zT l D zcl (zty cy) A ad (mW a cy ad) yX12_valueOf cX12_valueOf 2 (some .int) 2 [.ref (a 0), .int p0] σ o.1 (some (.int o.2)) := by
  refine z_met pn_X12 hD (Nat.le_of_ble_eq_true rfl) rfl (fun G M => ?_)
  refine z_iload_n M dt_X12_valueOf_0.1.1.1.1 rfl 1 rfl ?_
  -- switch
  by_cases hs1 : p0 = (0 : Int32)
  · have h := gIt hs1 h
    refine z_tabIn (off := 51) (tgt := 52) M dt_X12_valueOf_0.1.1.1.2 (by rw [hs1]; decide) (by rw [hs1]; decide) (by rw [hs1]; rfl) (by decide) ?_
    refine z_aload_n M dt_X12_valueOf_0.1.1.2.1 rfl 0 rfl ?_
    refine gf_X12_houses M u1971 dt_X12_valueOf_0.1.1.2.2 ?_
    refine z_aload_n M dt_X12_valueOf_0.1.2.1.1 rfl 0 rfl ?_
    refine gf_X12_streetNow (σ := σ) M u1984 dt_X12_valueOf_0.1.2.1.2 (v := (σ.1 9)) rfl ?_
    have ⟨hg, h⟩ := gIx_s h
    refine al_M8 (σ := σ) M (f := (σ.2.1 6)) rfl hg dt_X12_valueOf_0.1.2.2.1 ?_
    obtain rfl := Option.some.inj h
    exact z_iret M dt_X12_valueOf_0.1.2.2.2
  · have h := gIf hs1 h
    by_cases hs2 : p0 = (1 : Int32)
    · have h := gIt hs2 h
      refine z_tabIn (off := 61) (tgt := 62) M dt_X12_valueOf_0.1.1.1.2 (by rw [hs2]; decide) (by rw [hs2]; decide) (by rw [hs2]; rfl) (by decide) ?_
      refine z_aload_n M dt_X12_valueOf_0.2.1.1.1 rfl 0 rfl ?_
      refine gf_X12_streetNow (σ := σ) M u1984 dt_X12_valueOf_0.2.1.1.2 (v := (σ.1 9)) rfl ?_
      obtain rfl := Option.some.inj h
      exact z_iret M dt_X12_valueOf_0.2.1.2.1
    · have h := gIf hs2 h
      by_cases hs3 : p0 = (2 : Int32)
      · have h := gIt hs3 h
        refine z_tabIn (off := 66) (tgt := 67) M dt_X12_valueOf_0.1.1.1.2 (by rw [hs3]; decide) (by rw [hs3]; decide) (by rw [hs3]; rfl) (by decide) ?_
        refine z_aload_n M dt_X12_valueOf_0.2.1.2.2 rfl 0 rfl ?_
        refine gf_X12_weekNow (σ := σ) M u1985 dt_X12_valueOf_0.2.2.1.1 (v := (σ.1 10)) rfl ?_
        obtain rfl := Option.some.inj h
        exact z_iret M dt_X12_valueOf_0.2.2.1.2
      · have h := gIf hs3 h
        by_cases hs4 : p0 = (3 : Int32)
        · have h := gIt hs4 h
          refine z_tabIn (off := 71) (tgt := 72) M dt_X12_valueOf_0.1.1.1.2 (by rw [hs4]; decide) (by rw [hs4]; decide) (by rw [hs4]; rfl) (by decide) ?_
          refine z_aload_n M dt_X12_valueOf_0.2.2.2.1 rfl 0 rfl ?_
          refine gf_X12_sortNow (σ := σ) M u1986 dt_X12_valueOf_0.2.2.2.2 (v := (σ.1 11)) rfl ?_
          obtain rfl := Option.some.inj h
          exact z_iret M dt_X12_valueOf_1.1.1.1.1
        · have h := gIf hs4 h
          by_cases hs5 : p0 = (4 : Int32)
          · have h := gIt hs5 h
            refine z_tabIn (off := 76) (tgt := 77) M dt_X12_valueOf_0.1.1.1.2 (by rw [hs5]; decide) (by rw [hs5]; decide) (by rw [hs5]; rfl) (by decide) ?_
            refine z_aload_n M dt_X12_valueOf_1.1.1.1.2 rfl 0 rfl ?_
            refine gf_X12_rightOf M u1965 dt_X12_valueOf_1.1.1.2.1 ?_
            refine z_aload_n M dt_X12_valueOf_1.1.1.2.2 rfl 0 rfl ?_
            refine gf_X12_sortNow (σ := σ) M u1986 dt_X12_valueOf_1.1.2.1.1 (v := (σ.1 11)) rfl ?_
            have ⟨hg, h⟩ := gIx_s h
            refine al_M3 (σ := σ) M (f := (σ.2.1 1)) rfl hg dt_X12_valueOf_1.1.2.1.2 ?_
            obtain rfl := Option.some.inj h
            exact z_iret M dt_X12_valueOf_1.1.2.2.1
          · have h := gIf hs5 h
            by_cases hs6 : p0 = (5 : Int32)
            · have h := gIt hs6 h
              refine z_tabIn (off := 86) (tgt := 87) M dt_X12_valueOf_0.1.1.1.2 (by rw [hs6]; decide) (by rw [hs6]; decide) (by rw [hs6]; rfl) (by decide) ?_
              refine z_aload_n M dt_X12_valueOf_1.1.2.2.2 rfl 0 rfl ?_
              refine gf_X12_leaves M u1964 dt_X12_valueOf_1.2.1.1.1 ?_
              refine z_aload_n M dt_X12_valueOf_1.2.1.1.2 rfl 0 rfl ?_
              refine gf_X12_sortNow (σ := σ) M u1986 dt_X12_valueOf_1.2.1.2.1 (v := (σ.1 11)) rfl ?_
              have ⟨hg, h⟩ := gIx_s h
              refine al_M2 (σ := σ) M (f := (σ.2.1 0)) rfl hg dt_X12_valueOf_1.2.1.2.2 ?_
              obtain rfl := Option.some.inj h
              exact z_iret M dt_X12_valueOf_1.2.2.1.1
            · have h := gIf hs6 h
              by_cases hs7 : p0 = (6 : Int32)
              · have h := gIt hs7 h
                refine z_tabIn (off := 96) (tgt := 97) M dt_X12_valueOf_0.1.1.1.2 (by rw [hs7]; decide) (by rw [hs7]; decide) (by rw [hs7]; rfl) (by decide) ?_
                refine z_aload_n M dt_X12_valueOf_1.2.2.1.2 rfl 0 rfl ?_
                refine gf_X12_isLack M u1972 dt_X12_valueOf_1.2.2.2.1 ?_
                refine z_bipush M dt_X12_valueOf_1.2.2.2.2 kb_12 ?_
                refine z_aload_n M dt_X12_valueOf_2.1.1.1.1 rfl 0 rfl ?_
                refine gf_X12_sortNow (σ := σ) M u1986 dt_X12_valueOf_2.1.1.1.2 (v := (σ.1 11)) rfl ?_
                refine z_imul M dt_X12_valueOf_2.1.1.2.1 ?_
                refine z_aload_n M dt_X12_valueOf_2.1.1.2.2 rfl 0 rfl ?_
                refine gf_X12_weekNow (σ := σ) M u1985 dt_X12_valueOf_2.1.2.1.1 (v := (σ.1 10)) rfl ?_
                refine z_iadd M dt_X12_valueOf_2.1.2.1.2 ?_
                have ⟨hg, h⟩ := gIx_s h
                refine al_M9 (σ := σ) M (f := (σ.2.1 7)) rfl hg dt_X12_valueOf_2.1.2.2.1 ?_
                refine k_X12_flag M u1675 (Nat.le_of_ble_eq_true rfl) (Nat.le_of_ble_eq_true rfl) dt_X12_valueOf_2.1.2.2.2 ?_
                obtain rfl := Option.some.inj h
                exact z_iret M dt_X12_valueOf_2.2.1.1.1
              · have h := gIf hs7 h
                by_cases hs8 : p0 = (7 : Int32)
                · have h := gIt hs8 h
                  refine z_tabIn (off := 117) (tgt := 118) M dt_X12_valueOf_0.1.1.1.2 (by rw [hs8]; decide) (by rw [hs8]; decide) (by rw [hs8]; rfl) (by decide) ?_
                  refine z_aload_n M dt_X12_valueOf_2.2.1.1.2 rfl 0 rfl ?_
                  refine z_bipush M dt_X12_valueOf_2.2.1.2.1 kb_10 ?_
                  obtain ⟨t9, hc, h⟩ := gBd h
                  refine k_X12_draws M hc u1678 (Nat.le_of_ble_eq_true rfl) (Nat.le_of_ble_eq_true rfl) dt_X12_valueOf_2.2.1.2.2 ?_
                  obtain rfl := Option.some.inj h
                  exact z_iret M dt_X12_valueOf_2.2.2.1.1
                · have h := gIf hs8 h
                  by_cases hs10 : p0 = (8 : Int32)
                  · have h := gIt hs10 h
                    refine z_tabIn (off := 124) (tgt := 125) M dt_X12_valueOf_0.1.1.1.2 (by rw [hs10]; decide) (by rw [hs10]; decide) (by rw [hs10]; rfl) (by decide) ?_
                    refine z_aload_n M dt_X12_valueOf_2.2.2.1.2 rfl 0 rfl ?_
                    refine gf_X12_bought (σ := σ) M u1987 dt_X12_valueOf_2.2.2.2.1 (v := (σ.1 12)) rfl ?_
                    obtain rfl := Option.some.inj h
                    exact z_iret M dt_X12_valueOf_2.2.2.2.2
                  · have h := gIf hs10 h
                    have hD11 : G σ [(0, .ref (a 0)), (1, .int p0)] 130 [] := by
                      refine z_aload_n M dt_X12_valueOf_3.1.1 rfl 0 rfl ?_
                      refine gf_X12_eaten (σ := σ) M u1988 dt_X12_valueOf_3.1.2 (v := (σ.1 13)) rfl ?_
                      obtain rfl := Option.some.inj h
                      exact z_iret M dt_X12_valueOf_3.2
                    by_cases hx : (Int32.toInt p0) < 0 ∨ 8 < (Int32.toInt p0)
                    · exact z_tabOut (tgt := 130) M dt_X12_valueOf_0.1.1.1.2 hx (by decide) hD11
                    · obtain ⟨hx1, hx2⟩ := z_tabX hx
                      have hs1 : ¬ (Int32.toInt p0) = 0 := fun q => hs1 (Int32.toInt_inj.mp (q.trans (by decide)))
                      have hs2 : ¬ (Int32.toInt p0) = 1 := fun q => hs2 (Int32.toInt_inj.mp (q.trans (by decide)))
                      have hs3 : ¬ (Int32.toInt p0) = 2 := fun q => hs3 (Int32.toInt_inj.mp (q.trans (by decide)))
                      have hs4 : ¬ (Int32.toInt p0) = 3 := fun q => hs4 (Int32.toInt_inj.mp (q.trans (by decide)))
                      have hs5 : ¬ (Int32.toInt p0) = 4 := fun q => hs5 (Int32.toInt_inj.mp (q.trans (by decide)))
                      have hs6 : ¬ (Int32.toInt p0) = 5 := fun q => hs6 (Int32.toInt_inj.mp (q.trans (by decide)))
                      have hs7 : ¬ (Int32.toInt p0) = 6 := fun q => hs7 (Int32.toInt_inj.mp (q.trans (by decide)))
                      have hs8 : ¬ (Int32.toInt p0) = 7 := fun q => hs8 (Int32.toInt_inj.mp (q.trans (by decide)))
                      have hs10 : ¬ (Int32.toInt p0) = 8 := fun q => hs10 (Int32.toInt_inj.mp (q.trans (by decide)))
                      omega
theorem k_X12_valueOf {n : Nat} (M : zM l D zcl (zty cy) A ad (zR n) (mW a cy ad) own cc nL rt σo ov G) {p0 : Int32} {o : (Zst × Int32)} (h : f_X12_valueOf σ p0 = some o) {index : Nat} (hl : Cond.methodLink own index yX12_valueOf ∈ uw) (hR : 3 ≤ n) (hW : (st.map fun v => v.category).sum ≤ 8) (d : decode cc pc = .ok (.invokevirtual index, 3)) (kk : G o.1 lv (pc + 3) (.int o.2 :: st)) : G σ lv pc (.int p0 :: .ref (a 0) :: st) := z_callV M [.int p0] (m_X12_valueOf (zM_hD M) h) (hM0 σ) rfl hl u99 u1674 u1673 u61 hd_X12_valueOf hR (by decide) rfl hW d kk
set_option maxHeartbeats 4000000 in
set_option maxRecDepth 100000 in
theorem wL_X12_worked_4 {o : (Zst × Int32)} (M : zM l D zcl (zty cy) A ad (zR 3) (mW a cy ad) RX12 cX12_worked 5 (some .int) o.1 (some (.int o.2)) G)  (v1 : Int32)  :
    ∀ (n4 : Nat) (σ : Zst) (v2 : Int32) (v3 : Int32), L_X12_worked_4 v1 n4 σ v2 v3 = some o → G σ [(0, .ref (a 0)), (1, .int v1), (2, .int v2), (3, .int v3)] 4 [] := by
  intro n4
  induction n4 with
  | zero => intro σ v2 v3 h; exact nomatch (show (none : Option (Zst × Int32)) = some _ from h)
  | succ n4 ih =>
    intro σ v2 v3 h
    refine z_iload_n M dt_X12_worked_0.1.2.1.1 rfl 3 rfl ?_
    refine z_aload_n M dt_X12_worked_0.1.2.1.2 rfl 0 rfl ?_
    refine gf_X12_codes M u1976 dt_X12_worked_0.1.2.2.1 ?_
    refine z_iload_n M dt_X12_worked_0.1.2.2.2 rfl 1 rfl ?_
    have ⟨hg, h⟩ := gIx_s h
    refine al_M12 (σ := σ) M (f := (σ.2.1 10)) rfl hg dt_X12_worked_0.2.1.1.1 ?_
    refine z_icmp_ge (tgt := 176) M dt_X12_worked_0.2.1.1.2 (by decide) (fun hc => ?_) (fun hc => ?_)
    · have h := gIt hc h
      refine z_aload_n M dt_X12_worked_6.1.2.2 rfl 0 rfl ?_
      refine gf_X12_stack M u1977 dt_X12_worked_6.2.1.1 ?_
      refine z_iconst M dt_X12_worked_6.2.1.2 ki_0 ?_
      refine al_M13 (σ := σ) M (f := (σ.2.1 11)) rfl (show ¬ (_ ∨ _) by decide) dt_X12_worked_6.2.2.1 ?_
      obtain rfl := Option.some.inj h
      exact z_iret M dt_X12_worked_6.2.2.2
    · have h := gIf hc h
      refine z_aload_n M dt_X12_worked_0.2.1.2.1 rfl 0 rfl ?_
      refine gf_X12_code M u1975 dt_X12_worked_0.2.1.2.2 ?_
      refine z_bipush M dt_X12_worked_0.2.2.1.1 kb_48 ?_
      refine z_iload_n M dt_X12_worked_0.2.2.1.2 rfl 1 rfl ?_
      refine z_imul M dt_X12_worked_0.2.2.2.1 ?_
      refine z_iload_n M dt_X12_worked_0.2.2.2.2 rfl 3 rfl ?_
      refine z_iadd M dt_X12_worked_1.1.1.1.1 ?_
      have ⟨hg, h⟩ := gIx_s h
      refine al_M11 (σ := σ) M (f := (σ.2.1 9)) rfl hg dt_X12_worked_1.1.1.1.2 ?_
      refine z_istore (lv' := [(4, .int ((σ.2.1 9) (Int32.toNatClampNeg (((48 : Int32) * v1) + v3)))), (0, .ref (a 0)), (1, .int v1), (2, .int v2), (3, .int v3)]) M dt_X12_worked_1.1.1.2.1 (by decide) rfl ?_
      refine z_iload M dt_X12_worked_1.1.1.2.2 0 rfl ?_
      refine z_sipush M dt_X12_worked_1.1.2.1.1 ks_2000 ?_
      refine z_icmp_ge (tgt := 70) M dt_X12_worked_1.1.2.1.2 (by decide) (fun hc => ?_) (fun hc => ?_)
      · have h := gIt hc h
        refine z_iload M dt_X12_worked_2.1.2.2.1 0 rfl ?_
        refine z_sipush M dt_X12_worked_2.1.2.2.2 ks_2033 ?_
        refine z_icmp_ne (tgt := 108) M dt_X12_worked_2.2.1.1.1 (by decide) (fun hc => ?_) (fun hc => ?_)
        · have h := gIf hc h
          refine z_iload M dt_X12_worked_3.2.1.2.2 0 rfl ?_
          refine z_sipush M dt_X12_worked_3.2.2.1.1 ks_2126 ?_
          refine z_icmp_ne (tgt := 136) M dt_X12_worked_3.2.2.1.2 (by decide) (fun hc => ?_) (fun hc => ?_)
          · have h := gIf hc h
            refine z_iinc (v := (v2 + (-1 : Int32))) (lv' := [(2, .int (v2 + (-1 : Int32))), (4, .int ((σ.2.1 9) (Int32.toNatClampNeg (((48 : Int32) * v1) + v3)))), (0, .ref (a 0)), (1, .int v1), (3, .int v3)]) M dt_X12_worked_4.2.2.1.1 (k := 3) rfl (congrArg (fun q => v2 + q) ki_m1) (by decide) rfl ?_
            refine z_aload_n M dt_X12_worked_4.2.2.1.2 rfl 2 rfl ?_
            refine gf_X12_stack M u1977 dt_X12_worked_4.2.2.2.1 ?_
            refine z_iload_n M dt_X12_worked_4.2.2.2.2 rfl 0 rfl ?_
            refine z_iconst M dt_X12_worked_5.1.1.1.1 ki_1 ?_
            refine z_isub M dt_X12_worked_5.1.1.1.2 ?_
            refine z_iload M dt_X12_worked_5.1.1.2.1 1 rfl ?_
            refine z_sipush M dt_X12_worked_5.1.1.2.2 ks_2000 ?_
            refine z_isub M dt_X12_worked_5.1.2.1.1 ?_
            refine z_aload_n M dt_X12_worked_5.1.2.1.2 rfl 2 rfl ?_
            refine gf_X12_stack M u1977 dt_X12_worked_5.1.2.2.1 ?_
            refine z_iload_n M dt_X12_worked_5.1.2.2.2 rfl 0 rfl ?_
            refine z_iconst M dt_X12_worked_5.2.1.1.1 ki_1 ?_
            refine z_isub M dt_X12_worked_5.2.1.1.2 ?_
            have ⟨hg, h⟩ := gIx_s h
            refine al_M13 (σ := σ) M (f := (σ.2.1 11)) rfl hg dt_X12_worked_5.2.1.2.1 ?_
            refine z_aload_n M dt_X12_worked_5.2.1.2.2 rfl 2 rfl ?_
            refine gf_X12_stack M u1977 dt_X12_worked_5.2.2.1.1 ?_
            refine z_iload_n M dt_X12_worked_5.2.2.1.2 rfl 0 rfl ?_
            have ⟨hg, h⟩ := gIx_s h
            refine al_M13 (σ := σ) M (f := (σ.2.1 11)) rfl hg dt_X12_worked_5.2.2.2.1 ?_
            obtain ⟨t3, hc, h⟩ := gBd h
            refine k_X12_acted M hc u1683 (Nat.le_of_ble_eq_true rfl) (Nat.le_of_ble_eq_true rfl) dt_X12_worked_5.2.2.2.2 ?_
            have ⟨hg, h⟩ := gIx_s h
            refine as_M13 (σ := σ) M (f := (σ.2.1 11)) rfl hg dt_X12_worked_6.1.1.1 ?_
            refine z_iinc (v := (v3 + (1 : Int32))) (lv' := [(3, .int (v3 + (1 : Int32))), (2, .int (v2 + (-1 : Int32))), (4, .int ((σ.2.1 9) (Int32.toNatClampNeg (((48 : Int32) * v1) + v3)))), (0, .ref (a 0)), (1, .int v1)]) M dt_X12_worked_6.1.1.2 (k := 4) rfl (congrArg (fun q => v3 + q) ki_1) (by decide) rfl ?_
            refine z_goto (tgt := 4) M dt_X12_worked_6.1.2.1 (by decide) ?_
            refine z_sub M [3, 4, 1, 0] (lv' := [(0, .ref (a 0)), (1, .int v1), (2, .int (v2 + (-1 : Int32))), (3, .int (v3 + (1 : Int32)))]) rfl ?_
            exact ih (zA σ 11 (upd (σ.2.1 11) (Int32.toNatClampNeg ((v2 + (-1 : Int32)) - (1 : Int32))) t3)) (v2 + (-1 : Int32)) (v3 + (1 : Int32)) h
          · have h := gIt hc h
            refine z_aload_n M dt_X12_worked_3.2.2.2.1 rfl 1 rfl ?_
            refine gf_X12_stack M u1977 dt_X12_worked_3.2.2.2.2 ?_
            refine z_iload_n M dt_X12_worked_4.1.1.1.1 rfl 3 rfl ?_
            refine z_iconst M dt_X12_worked_4.1.1.1.2 ki_1 ?_
            refine z_isub M dt_X12_worked_4.1.1.2.1 ?_
            refine z_aload_n M dt_X12_worked_4.1.1.2.2 rfl 1 rfl ?_
            refine gf_X12_stack M u1977 dt_X12_worked_4.1.2.1.1 ?_
            refine z_iload_n M dt_X12_worked_4.1.2.1.2 rfl 3 rfl ?_
            refine z_iconst M dt_X12_worked_4.1.2.2.1 ki_1 ?_
            refine z_isub M dt_X12_worked_4.1.2.2.2 ?_
            have ⟨hg, h⟩ := gIx_s h
            refine al_M13 (σ := σ) M (f := (σ.2.1 11)) rfl hg dt_X12_worked_4.2.1.1.1 ?_
            refine z_ineg M dt_X12_worked_4.2.1.1.2 ?_
            have ⟨hg, h⟩ := gIx_s h
            refine as_M13 (σ := σ) M (f := (σ.2.1 11)) rfl hg dt_X12_worked_4.2.1.2.1 ?_
            refine z_goto (tgt := 170) M dt_X12_worked_4.2.1.2.2 (by decide) ?_
            refine z_iinc (v := (v3 + (1 : Int32))) (lv' := [(3, .int (v3 + (1 : Int32))), (4, .int ((σ.2.1 9) (Int32.toNatClampNeg (((48 : Int32) * v1) + v3)))), (0, .ref (a 0)), (1, .int v1), (2, .int v2)]) M dt_X12_worked_6.1.1.2 (k := 4) rfl (congrArg (fun q => v3 + q) ki_1) (by decide) rfl ?_
            refine z_goto (tgt := 4) M dt_X12_worked_6.1.2.1 (by decide) ?_
            refine z_sub M [2, 3, 4, 0] (lv' := [(0, .ref (a 0)), (1, .int v1), (2, .int v2), (3, .int (v3 + (1 : Int32)))]) rfl ?_
            exact ih (zA σ 11 (upd (σ.2.1 11) (Int32.toNatClampNeg (v2 - (1 : Int32))) (-((σ.2.1 11) (Int32.toNatClampNeg (v2 - (1 : Int32))))))) v2 (v3 + (1 : Int32)) h
        · have h := gIt hc h
          refine z_aload_n M dt_X12_worked_2.2.1.1.2 rfl 1 rfl ?_
          refine gf_X12_stack M u1977 dt_X12_worked_2.2.1.2.1 ?_
          refine z_iload_n M dt_X12_worked_2.2.1.2.2 rfl 3 rfl ?_
          refine z_iconst M dt_X12_worked_2.2.2.1.1 ki_1 ?_
          refine z_isub M dt_X12_worked_2.2.2.1.2 ?_
          refine z_aload_n M dt_X12_worked_2.2.2.2.1 rfl 1 rfl ?_
          refine gf_X12_stack M u1977 dt_X12_worked_2.2.2.2.2 ?_
          refine z_iload_n M dt_X12_worked_3.1.1.1.1 rfl 3 rfl ?_
          refine z_iconst M dt_X12_worked_3.1.1.1.2 ki_1 ?_
          refine z_isub M dt_X12_worked_3.1.1.2.1 ?_
          have ⟨hg, h⟩ := gIx_s h
          refine al_M13 (σ := σ) M (f := (σ.2.1 11)) rfl hg dt_X12_worked_3.1.1.2.2 ?_
          have hJ2 : G σ [(4, .int ((σ.2.1 9) (Int32.toNatClampNeg (((48 : Int32) * v1) + v3)))), (0, .ref (a 0)), (1, .int v1), (2, .int v2), (3, .int v3)] 101 [.int (if ((σ.2.1 11) (Int32.toNatClampNeg (v2 - (1 : Int32)))) = (0 : Int32) then (1 : Int32) else (0 : Int32)), .int (v2 - (1 : Int32)), .ref (a 13)] := by
            refine k_X12_flag M u1675 (Nat.le_of_ble_eq_true rfl) (Nat.le_of_ble_eq_true rfl) dt_X12_worked_3.2.1.1.1 ?_
            have ⟨hg, h⟩ := gIx_s h
            refine as_M13 (σ := σ) M (f := (σ.2.1 11)) rfl hg dt_X12_worked_3.2.1.1.2 ?_
            refine z_goto (tgt := 170) M dt_X12_worked_3.2.1.2.1 (by decide) ?_
            refine z_iinc (v := (v3 + (1 : Int32))) (lv' := [(3, .int (v3 + (1 : Int32))), (4, .int ((σ.2.1 9) (Int32.toNatClampNeg (((48 : Int32) * v1) + v3)))), (0, .ref (a 0)), (1, .int v1), (2, .int v2)]) M dt_X12_worked_6.1.1.2 (k := 4) rfl (congrArg (fun q => v3 + q) ki_1) (by decide) rfl ?_
            refine z_goto (tgt := 4) M dt_X12_worked_6.1.2.1 (by decide) ?_
            refine z_sub M [2, 3, 4, 0] (lv' := [(0, .ref (a 0)), (1, .int v1), (2, .int v2), (3, .int (v3 + (1 : Int32)))]) rfl ?_
            exact ih (zA σ 11 (upd (σ.2.1 11) (Int32.toNatClampNeg (v2 - (1 : Int32))) (f_X12_flag (if ((σ.2.1 11) (Int32.toNatClampNeg (v2 - (1 : Int32)))) = (0 : Int32) then (1 : Int32) else (0 : Int32))))) v2 (v3 + (1 : Int32)) h
          refine z_if_ne (tgt := 100) M dt_X12_worked_3.1.2.1.1 (by decide) (fun hc1 => ?_) (fun hc1 => ?_)
          · refine z_iconst M dt_X12_worked_3.1.2.2.2 ki_0 ?_
            exact (zTf hc1 hJ2)
          · refine z_iconst M dt_X12_worked_3.1.2.1.2 ki_1 ?_
            refine z_goto (tgt := 101) M dt_X12_worked_3.1.2.2.1 (by decide) ?_
            exact (zTt hc1 hJ2)
      · have h := gIf hc h
        refine z_aload_n M dt_X12_worked_1.1.2.2.1 rfl 1 rfl ?_
        refine gf_X12_stack M u1977 dt_X12_worked_1.1.2.2.2 ?_
        refine z_iload_n M dt_X12_worked_1.2.1.1.1 rfl 3 rfl ?_
        refine z_iload M dt_X12_worked_1.2.1.1.2 0 rfl ?_
        refine z_sipush M dt_X12_worked_1.2.1.2.1 ks_1000 ?_
        refine z_icmp_ge (tgt := 53) M dt_X12_worked_1.2.1.2.2 (by decide) (fun hc => ?_) (fun hc => ?_)
        · have h := gIt hc h
          refine z_aload_n M dt_X12_worked_1.2.2.2.1 rfl 1 rfl ?_
          refine z_iload M dt_X12_worked_1.2.2.2.2 0 rfl ?_
          refine z_sipush M dt_X12_worked_2.1.1.1.1 ks_1000 ?_
          refine z_isub M dt_X12_worked_2.1.1.1.2 ?_
          obtain ⟨t4, hc, h⟩ := gBd h
          refine k_X12_valueOf M hc u1671 (Nat.le_of_ble_eq_true rfl) (Nat.le_of_ble_eq_true rfl) dt_X12_worked_2.1.1.2.1 ?_
          have ⟨hg, h⟩ := gIx_s h
          refine as_M13 (σ := t4.1) M (f := (t4.1.2.1 11)) rfl hg dt_X12_worked_2.1.1.2.2 ?_
          refine z_iinc (v := (v2 + (1 : Int32))) (lv' := [(2, .int (v2 + (1 : Int32))), (4, .int ((σ.2.1 9) (Int32.toNatClampNeg (((48 : Int32) * v1) + v3)))), (0, .ref (a 0)), (1, .int v1), (3, .int v3)]) M dt_X12_worked_2.1.2.1.1 (k := 3) rfl (congrArg (fun q => v2 + q) ki_1) (by decide) rfl ?_
          refine z_goto (tgt := 170) M dt_X12_worked_2.1.2.1.2 (by decide) ?_
          refine z_iinc (v := (v3 + (1 : Int32))) (lv' := [(3, .int (v3 + (1 : Int32))), (2, .int (v2 + (1 : Int32))), (4, .int ((σ.2.1 9) (Int32.toNatClampNeg (((48 : Int32) * v1) + v3)))), (0, .ref (a 0)), (1, .int v1)]) M dt_X12_worked_6.1.1.2 (k := 4) rfl (congrArg (fun q => v3 + q) ki_1) (by decide) rfl ?_
          refine z_goto (tgt := 4) M dt_X12_worked_6.1.2.1 (by decide) ?_
          refine z_sub M [3, 4, 1, 0] (lv' := [(0, .ref (a 0)), (1, .int v1), (2, .int (v2 + (1 : Int32))), (3, .int (v3 + (1 : Int32)))]) rfl ?_
          exact ih (zA t4.1 11 (upd (t4.1.2.1 11) (Int32.toNatClampNeg v2) t4.2)) (v2 + (1 : Int32)) (v3 + (1 : Int32)) h
        · have h := gIf hc h
          refine z_iload M dt_X12_worked_1.2.2.1.1 0 rfl ?_
          refine z_goto (tgt := 63) M dt_X12_worked_1.2.2.1.2 (by decide) ?_
          have ⟨hg, h⟩ := gIx_s h
          refine as_M13 (σ := σ) M (f := (σ.2.1 11)) rfl hg dt_X12_worked_2.1.1.2.2 ?_
          refine z_iinc (v := (v2 + (1 : Int32))) (lv' := [(2, .int (v2 + (1 : Int32))), (4, .int ((σ.2.1 9) (Int32.toNatClampNeg (((48 : Int32) * v1) + v3)))), (0, .ref (a 0)), (1, .int v1), (3, .int v3)]) M dt_X12_worked_2.1.2.1.1 (k := 3) rfl (congrArg (fun q => v2 + q) ki_1) (by decide) rfl ?_
          refine z_goto (tgt := 170) M dt_X12_worked_2.1.2.1.2 (by decide) ?_
          refine z_iinc (v := (v3 + (1 : Int32))) (lv' := [(3, .int (v3 + (1 : Int32))), (2, .int (v2 + (1 : Int32))), (4, .int ((σ.2.1 9) (Int32.toNatClampNeg (((48 : Int32) * v1) + v3)))), (0, .ref (a 0)), (1, .int v1)]) M dt_X12_worked_6.1.1.2 (k := 4) rfl (congrArg (fun q => v3 + q) ki_1) (by decide) rfl ?_
          refine z_goto (tgt := 4) M dt_X12_worked_6.1.2.1 (by decide) ?_
          refine z_sub M [3, 4, 1, 0] (lv' := [(0, .ref (a 0)), (1, .int v1), (2, .int (v2 + (1 : Int32))), (3, .int (v3 + (1 : Int32)))]) rfl ?_
          exact ih (zA σ 11 (upd (σ.2.1 11) (Int32.toNatClampNeg v2) ((σ.2.1 9) (Int32.toNatClampNeg (((48 : Int32) * v1) + v3))))) (v2 + (1 : Int32)) (v3 + (1 : Int32)) h
set_option maxHeartbeats 4000000 in
set_option maxRecDepth 100000 in
theorem m_X12_worked (hD : ∀ σ, va_D A (mW a cy ad σ)) {σ : Zst} {p0 : Int32} {o : (Zst × Int32)} (h : f_X12_worked σ p0 = some o) : zT l D zcl (zty cy) A ad (mW a cy ad) yX12_worked cX12_worked 5 (some .int) 3 [.ref (a 0), .int p0] σ o.1 (some (.int o.2)) := by
  refine z_met pn_X12 hD (Nat.le_of_ble_eq_true rfl) rfl (fun G M => ?_)
  refine z_iconst M dt_X12_worked_0.1.1.1.1 ki_0 ?_
  refine z_istore_n (lv' := [(2, .int (0 : Int32)), (0, .ref (a 0)), (1, .int p0)]) M dt_X12_worked_0.1.1.1.2 rfl (by decide) rfl ?_
  refine z_iconst M dt_X12_worked_0.1.1.2.1 ki_0 ?_
  refine z_istore_n (lv' := [(3, .int (0 : Int32)), (2, .int (0 : Int32)), (0, .ref (a 0)), (1, .int p0)]) M dt_X12_worked_0.1.1.2.2 rfl (by decide) rfl ?_
  refine z_sub M [2, 3, 1, 0] (lv' := [(0, .ref (a 0)), (1, .int p0), (2, .int (0 : Int32)), (3, .int (0 : Int32))]) rfl ?_
  exact wL_X12_worked_4 M  p0 zFu σ (0 : Int32) (0 : Int32) h
theorem k_X12_worked {n : Nat} (M : zM l D zcl (zty cy) A ad (zR n) (mW a cy ad) own cc nL rt σo ov G) {p0 : Int32} {o : (Zst × Int32)} (h : f_X12_worked σ p0 = some o) {index : Nat} (hl : Cond.methodLink own index yX12_worked ∈ uw) (hR : 4 ≤ n) (hW : (st.map fun v => v.category).sum ≤ 8) (d : decode cc pc = .ok (.invokevirtual index, 3)) (kk : G o.1 lv (pc + 3) (.int o.2 :: st)) : G σ lv pc (.int p0 :: .ref (a 0) :: st) := z_callV M [.int p0] (m_X12_worked (zM_hD M) h) (hM0 σ) rfl hl u99 u1670 u1669 u60 hd_X12_worked hR (by decide) rfl hW d kk
set_option maxHeartbeats 4000000 in
set_option maxRecDepth 100000 in
theorem wJ_X12_lawed_18 {o : (Zst × Int32)} (M : zM l D zcl (zty cy) A ad (zR 4) (mW a cy ad) RX12 cX12_lawed 5 (some .int) o.1 (some (.int o.2)) G) (σ : Zst) (v3 : Int32) (s0 : Int32)  (h : J_X12_lawed_18 σ v3 s0 = some o) : G σ [(3, .int v3)] 18 [.int s0] := by
  refine z_istore (lv' := [(4, .int s0), (3, .int v3)]) M dt_X12_lawed_0.2.1.2.1 (by decide) rfl ?_
  refine z_iconst M dt_X12_lawed_0.2.1.2.2 ki_0 ?_
  refine z_iload_n M dt_X12_lawed_0.2.2.1.1 rfl 1 rfl ?_
  refine z_iload M dt_X12_lawed_0.2.2.1.2 0 rfl ?_
  refine z_mmin M u1576 u680 u100 u681 (Nat.le_of_ble_eq_true rfl) (Nat.le_of_ble_eq_true rfl) dt_X12_lawed_0.2.2.2.1 ?_
  refine z_mmax M u1686 u677 u100 u678 (Nat.le_of_ble_eq_true rfl) (Nat.le_of_ble_eq_true rfl) dt_X12_lawed_0.2.2.2.2 ?_
  obtain rfl := Option.some.inj h
  exact z_iret M dt_X12_lawed_1
set_option maxHeartbeats 4000000 in
set_option maxRecDepth 100000 in
theorem m_X12_lawed (hD : ∀ σ, va_D A (mW a cy ad σ)) {σ : Zst} {p0 : Int32} {p1 : Int32} {p2 : Int32} {o : (Zst × Int32)} (h : f_X12_lawed σ p0 p1 p2 = some o) : zT l D zcl (zty cy) A ad (mW a cy ad) yX12_lawed cX12_lawed 5 (some .int) 4 [.ref (a 0), .int p0, .int p1, .int p2] σ o.1 (some (.int o.2)) := by
  refine z_met pn_X12 hD (Nat.le_of_ble_eq_true rfl) rfl (fun G M => ?_)
  refine z_aload_n M dt_X12_lawed_0.1.1.1.1 rfl 0 rfl ?_
  refine gf_X12_codes M u1976 dt_X12_lawed_0.1.1.1.2 ?_
  refine z_iload_n M dt_X12_lawed_0.1.1.2.1 rfl 1 rfl ?_
  have ⟨hg, h⟩ := gIx_s h
  refine al_M12 (σ := σ) M (f := (σ.2.1 10)) rfl hg dt_X12_lawed_0.1.1.2.2 ?_
  refine z_if_le (tgt := 17) M dt_X12_lawed_0.1.2.1.1 (by decide) (fun hc => ?_) (fun hc => ?_)
  · have h := gIt hc h
    refine z_iload_n M dt_X12_lawed_0.2.1.1.2 rfl 2 rfl ?_
    refine z_sub M [3] (lv' := [(3, .int p2)]) rfl ?_
    exact wJ_X12_lawed_18 M  σ p2 p1 h
  · have h := gIf hc h
    refine z_aload_n M dt_X12_lawed_0.1.2.1.2 rfl 0 rfl ?_
    refine z_iload_n M dt_X12_lawed_0.1.2.2.1 rfl 1 rfl ?_
    obtain ⟨t1, hc, h⟩ := gBd h
    refine k_X12_worked M hc u1667 (Nat.le_of_ble_eq_true rfl) (Nat.le_of_ble_eq_true rfl) dt_X12_lawed_0.1.2.2.2 ?_
    refine z_goto (tgt := 18) M dt_X12_lawed_0.2.1.1.1 (by decide) ?_
    refine z_sub M [3] (lv' := [(3, .int p2)]) rfl ?_
    exact wJ_X12_lawed_18 M  t1.1 p2 t1.2 h
theorem k_X12_lawed {n : Nat} (M : zM l D zcl (zty cy) A ad (zR n) (mW a cy ad) own cc nL rt σo ov G) {p0 : Int32} {p1 : Int32} {p2 : Int32} {o : (Zst × Int32)} (h : f_X12_lawed σ p0 p1 p2 = some o) {index : Nat} (hl : Cond.methodLink own index yX12_lawed ∈ uw) (hR : 5 ≤ n) (hW : (st.map fun v => v.category).sum ≤ 8) (d : decode cc pc = .ok (.invokevirtual index, 3)) (kk : G o.1 lv (pc + 3) (.int o.2 :: st)) : G σ lv pc (.int p2 :: .int p1 :: .int p0 :: .ref (a 0) :: st) := z_callV M [.int p0, .int p1, .int p2] (m_X12_lawed (zM_hD M) h) (hM0 σ) rfl hl u99 u1666 u1665 u59 hd_X12_lawed hR (by decide) rfl hW d kk
set_option maxHeartbeats 4000000 in
set_option maxRecDepth 100000 in
theorem m_X12_bags (hD : ∀ σ, va_D A (mW a cy ad σ)) {σ : Zst} {p0 : Int32} {p1 : Int32} {p2 : Int32} {o : Zst} (h : f_X12_bags σ p0 p1 p2 = some o) : zT l D zcl (zty cy) A ad (mW a cy ad) yX12_bags cX12_bags 4 none 3 [.ref (a 0), .int p0, .int p1, .int p2] σ o none := by
  refine z_met pn_X12 hD (Nat.le_of_ble_eq_true rfl) rfl (fun G M => ?_)
  refine z_aload_n M dt_X12_bags_0.1.1.1.1 rfl 0 rfl ?_
  refine z_iconst M dt_X12_bags_0.1.1.1.2 ki_0 ?_
  refine z_iload_n M dt_X12_bags_0.1.1.2.1 rfl 1 rfl ?_
  refine z_iload_n M dt_X12_bags_0.1.1.2.2 rfl 2 rfl ?_
  refine z_sipush M dt_X12_bags_0.1.2.1.1 ks_999 ?_
  refine z_iconst M dt_X12_bags_0.1.2.1.2 ki_0 ?_
  refine z_aload_n M dt_X12_bags_0.1.2.2.1 rfl 0 rfl ?_
  refine z_iconst M dt_X12_bags_0.1.2.2.2 ki_0 ?_
  refine z_iload_n M dt_X12_bags_0.2.1.1.1 rfl 1 rfl ?_
  refine z_iload_n M dt_X12_bags_0.2.1.1.2 rfl 2 rfl ?_
  obtain ⟨t1, hc, h⟩ := gBd h
  refine k_X12_at M hc u1556 (Nat.le_of_ble_eq_true rfl) (Nat.le_of_ble_eq_true rfl) dt_X12_bags_0.2.1.2.1 ?_
  refine z_mmax M u1686 u677 u100 u678 (Nat.le_of_ble_eq_true rfl) (Nat.le_of_ble_eq_true rfl) dt_X12_bags_0.2.1.2.2 ?_
  refine z_iload_n M dt_X12_bags_0.2.2.1.1 rfl 3 rfl ?_
  refine z_iadd M dt_X12_bags_0.2.2.1.2 ?_
  refine z_mmin M u1576 u680 u100 u681 (Nat.le_of_ble_eq_true rfl) (Nat.le_of_ble_eq_true rfl) dt_X12_bags_0.2.2.2.1 ?_
  obtain ⟨t2, hc, h⟩ := gBd h
  refine k_X12_sets M hc u1563 (Nat.le_of_ble_eq_true rfl) (Nat.le_of_ble_eq_true rfl) dt_X12_bags_0.2.2.2.2 ?_
  obtain rfl := Option.some.inj h
  exact z_vret M dt_X12_bags_1
theorem k_X12_bags {n : Nat} (M : zM l D zcl (zty cy) A ad (zR n) (mW a cy ad) own cc nL rt σo ov G) {p0 : Int32} {p1 : Int32} {p2 : Int32} {o : Zst} (h : f_X12_bags σ p0 p1 p2 = some o) {index : Nat} (hl : Cond.methodLink own index yX12_bags ∈ uw) (hR : 4 ≤ n) (hW : (st.map fun v => v.category).sum ≤ 8) (d : decode cc pc = .ok (.invokevirtual index, 3)) (kk : G o lv (pc + 3) (st)) : G σ lv pc (.int p2 :: .int p1 :: .int p0 :: .ref (a 0) :: st) := z_callV M [.int p0, .int p1, .int p2] (m_X12_bags (zM_hD M) h) (hM0 σ) rfl hl u99 u1690 u1689 u63 hd_X12_bags hR (by decide) rfl hW d kk
set_option maxHeartbeats 4000000 in
set_option maxRecDepth 100000 in
theorem wL_X12_live_228 {o : (Zst × Int32)} (M : zM l D zcl (zty cy) A ad (zR 5) (mW a cy ad) RX12 cX12_live 11 (some .int) o.1 (some (.int o.2)) G) {k266 : Zst → Option (Zst × Int32)}  (v3 : Int32) (v4 : Int32) (v5 : Int32) (v6 : Int32) (Hk266 : ∀ (σ : Zst), k266 σ = some o → G σ [(0, .ref (a 0)), (3, .int v3), (4, .int v4), (5, .int v5), (6, .int v6)] 266 []) :
    ∀ (n228 : Nat) (σ : Zst) (v10 : Int32), L_X12_live_228 k266 v3 v4 v5 v6 n228 σ v10 = some o → G σ [(0, .ref (a 0)), (3, .int v3), (4, .int v4), (5, .int v5), (6, .int v6), (10, .int v10)] 228 [] := by
  intro n228
  induction n228 with
  | zero => intro σ v10 h; exact nomatch (show (none : Option (Zst × Int32)) = some _ from h)
  | succ n228 ih =>
    intro σ v10 h
    refine z_iload M dt_X12_live_8.1.2.2.1 5 rfl ?_
    refine z_iconst M dt_X12_live_8.1.2.2.2 ki_4 ?_
    refine z_icmp_ge (tgt := 266) M dt_X12_live_8.2.1.1.1 (by decide) (fun hc => ?_) (fun hc => ?_)
    · have h := gIt hc h
      refine z_sub M [0, 1, 2, 3, 4] (lv' := [(0, .ref (a 0)), (3, .int v3), (4, .int v4), (5, .int v5), (6, .int v6)]) rfl ?_
      exact Hk266 σ h
    · have h := gIf hc h
      refine z_aload_n M dt_X12_live_8.2.1.1.2 rfl 0 rfl ?_
      refine z_iconst M dt_X12_live_8.2.1.2.1 ki_2 ?_
      refine z_iload M dt_X12_live_8.2.1.2.2 5 rfl ?_
      refine z_iadd M dt_X12_live_8.2.2.1.1 ?_
      refine z_iload_n M dt_X12_live_8.2.2.1.2 rfl 1 rfl ?_
      refine z_iload M dt_X12_live_8.2.2.2.1 4 rfl ?_
      refine z_aload_n M dt_X12_live_8.2.2.2.2 rfl 0 rfl ?_
      refine z_iconst M dt_X12_live_9.1.1.1.1 ki_2 ?_
      refine z_iload M dt_X12_live_9.1.1.1.2 5 rfl ?_
      refine z_iadd M dt_X12_live_9.1.1.2.1 ?_
      refine z_aload_n M dt_X12_live_9.1.1.2.2 rfl 0 rfl ?_
      refine gf_X12_eaten (σ := σ) M u1988 dt_X12_live_9.1.2.1.1 (v := (σ.1 13)) rfl ?_
      refine z_sipush M dt_X12_live_9.1.2.1.2 ks_999 ?_
      obtain ⟨t1, hc, h⟩ := gBd h
      refine k_X12_lawed M hc u1663 (Nat.le_of_ble_eq_true rfl) (Nat.le_of_ble_eq_true rfl) dt_X12_live_9.1.2.2 ?_
      obtain ⟨t2, hc, h⟩ := gBd h
      refine k_X12_sets M hc u1563 (Nat.le_of_ble_eq_true rfl) (Nat.le_of_ble_eq_true rfl) dt_X12_live_9.2.1.1.1 ?_
      refine z_iinc (v := (v10 + (1 : Int32))) (lv' := [(10, .int (v10 + (1 : Int32))), (0, .ref (a 0)), (3, .int v3), (4, .int v4), (5, .int v5), (6, .int v6)]) M dt_X12_live_9.2.1.1.2 (k := 5) rfl (congrArg (fun q => v10 + q) ki_1) (by decide) rfl ?_
      refine z_goto (tgt := 228) M dt_X12_live_9.2.1.2.1 (by decide) ?_
      refine z_sub M [1, 2, 3, 4, 5, 0] (lv' := [(0, .ref (a 0)), (3, .int v3), (4, .int v4), (5, .int v5), (6, .int v6), (10, .int (v10 + (1 : Int32)))]) rfl ?_
      exact ih t2 (v10 + (1 : Int32)) h
set_option maxHeartbeats 4000000 in
set_option maxRecDepth 100000 in
theorem wJ_X12_live_266 {o : (Zst × Int32)} (M : zM l D zcl (zty cy) A ad (zR 5) (mW a cy ad) RX12 cX12_live 11 (some .int) o.1 (some (.int o.2)) G) {k60 : Zst → Int32 → Int32 → Option (Zst × Int32)} (σ : Zst) (v3 : Int32) (v4 : Int32) (v5 : Int32) (v6 : Int32) (Hk60 : ∀ (σ : Zst) (w5 : Int32) (w6 : Int32), k60 σ w5 w6 = some o → G σ [(0, .ref (a 0)), (3, .int v3), (4, .int v4), (5, .int w5), (6, .int w6)] 60 []) (h : J_X12_live_266 k60 σ v3 v4 v5 v6 = some o) : G σ [(0, .ref (a 0)), (3, .int v3), (4, .int v4), (5, .int v5), (6, .int v6)] 266 [] := by
  refine z_iinc (v := (v6 + (1 : Int32))) (lv' := [(6, .int (v6 + (1 : Int32))), (0, .ref (a 0)), (3, .int v3), (4, .int v4), (5, .int v5)]) M dt_X12_live_9.2.1.2.2 (k := 4) rfl (congrArg (fun q => v6 + q) ki_1) (by decide) rfl ?_
  refine z_goto (tgt := 60) M dt_X12_live_9.2.2.1.1 (by decide) ?_
  refine z_sub M [1, 2, 3, 4, 0] (lv' := [(0, .ref (a 0)), (3, .int v3), (4, .int v4), (5, .int v5), (6, .int (v6 + (1 : Int32)))]) rfl ?_
  exact Hk60 σ v5 (v6 + (1 : Int32)) h
set_option maxHeartbeats 4000000 in
set_option maxRecDepth 100000 in
theorem wJ_X12_live_206 {o : (Zst × Int32)} (M : zM l D zcl (zty cy) A ad (zR 5) (mW a cy ad) RX12 cX12_live 11 (some .int) o.1 (some (.int o.2)) G) {k60 : Zst → Int32 → Int32 → Option (Zst × Int32)} (σ : Zst) (v3 : Int32) (v4 : Int32) (v5 : Int32) (v6 : Int32) (v9 : Int32) (Hk60 : ∀ (σ : Zst) (w5 : Int32) (w6 : Int32), k60 σ w5 w6 = some o → G σ [(0, .ref (a 0)), (3, .int v3), (4, .int v4), (5, .int w5), (6, .int w6)] 60 []) (h : J_X12_live_206 k60 σ v3 v4 v5 v6 v9 = some o) : G σ [(0, .ref (a 0)), (3, .int v3), (4, .int v4), (5, .int v5), (6, .int v6), (9, .int v9)] 206 [] := by
  refine z_iload M dt_X12_live_7.2.1.1.2 3 rfl ?_
  refine z_iload M dt_X12_live_7.2.1.2.1 5 rfl ?_
  refine z_iadd M dt_X12_live_7.2.1.2.2 ?_
  refine z_istore (lv' := [(5, .int (v5 + v9)), (0, .ref (a 0)), (3, .int v3), (4, .int v4), (6, .int v6), (9, .int v9)]) M dt_X12_live_7.2.2.1.1 (by decide) rfl ?_
  refine z_aload_n M dt_X12_live_7.2.2.1.2 rfl 1 rfl ?_
  refine z_iconst M dt_X12_live_7.2.2.2.1 ki_1 ?_
  refine z_iload_n M dt_X12_live_7.2.2.2.2 rfl 2 rfl ?_
  refine z_iload M dt_X12_live_8.1.1.1.1 4 rfl ?_
  refine z_aload_n M dt_X12_live_8.1.1.1.2 rfl 1 rfl ?_
  refine gf_X12_bought (σ := σ) M u1987 dt_X12_live_8.1.1.2.1 (v := (σ.1 12)) rfl ?_
  obtain ⟨t3, hc, h⟩ := gBd h
  refine k_X12_sets M hc u1563 (Nat.le_of_ble_eq_true rfl) (Nat.le_of_ble_eq_true rfl) dt_X12_live_8.1.1.2.2 ?_
  refine z_iconst M dt_X12_live_8.1.2.1.1 ki_0 ?_
  refine z_istore (lv' := [(10, .int (0 : Int32)), (5, .int (v5 + v9)), (0, .ref (a 0)), (3, .int v3), (4, .int v4), (6, .int v6), (9, .int v9)]) M dt_X12_live_8.1.2.1.2 (by decide) rfl ?_
  refine z_sub M [2, 3, 4, 1, 5, 0] (lv' := [(0, .ref (a 0)), (3, .int v3), (4, .int v4), (5, .int (v5 + v9)), (6, .int v6), (10, .int (0 : Int32))]) rfl ?_
  exact wL_X12_live_228 M (k266 := (fun σ4 => J_X12_live_266 k60 σ4 v3 v4 (v5 + v9) v6)) v3 v4 (v5 + v9) v6 (fun σ4 h => by
      exact wJ_X12_live_266 M (k60 := k60) σ4 v3 v4 (v5 + v9) v6 Hk60 h) zFu t3 (0 : Int32) h
set_option maxHeartbeats 4000000 in
set_option maxRecDepth 100000 in
theorem wL_X12_live_60 {o : (Zst × Int32)} (M : zM l D zcl (zty cy) A ad (zR 5) (mW a cy ad) RX12 cX12_live 11 (some .int) o.1 (some (.int o.2)) G)  (v3 : Int32) (v4 : Int32)  :
    ∀ (n60 : Nat) (σ : Zst) (v5 : Int32) (v6 : Int32), L_X12_live_60 v3 v4 n60 σ v5 v6 = some o → G σ [(0, .ref (a 0)), (3, .int v3), (4, .int v4), (5, .int v5), (6, .int v6)] 60 [] := by
  intro n60
  induction n60 with
  | zero => intro σ v5 v6 h; exact nomatch (show (none : Option (Zst × Int32)) = some _ from h)
  | succ n60 ih =>
    intro σ v5 v6 h
    refine z_iload M dt_X12_live_2.1.2.2.2 4 rfl ?_
    refine z_aload_n M dt_X12_live_2.2.1.1.1 rfl 0 rfl ?_
    refine gf_X12_sorts (σ := σ) M u1963 dt_X12_live_2.2.1.1.2 (v := (σ.1 2)) rfl ?_
    refine z_icmp_ge (tgt := 272) M dt_X12_live_2.2.1.2.1 (by decide) (fun hc => ?_) (fun hc => ?_)
    · have h := gIt hc h
      refine z_iload M dt_X12_live_9.2.2.1.2 3 rfl ?_
      obtain rfl := Option.some.inj h
      exact z_iret M dt_X12_live_9.2.2.2
    · have h := gIf hc h
      refine z_aload_n M dt_X12_live_2.2.1.2.2 rfl 0 rfl ?_
      refine z_iload M dt_X12_live_2.2.2.1.1 4 rfl ?_
      refine pf_X12_sortNow M u1986 dt_X12_live_2.2.2.1.2 ?_
      refine z_aload_n M dt_X12_live_2.2.2.2.1 rfl 0 rfl ?_
      refine z_aload_n M dt_X12_live_2.2.2.2.2 rfl 0 rfl ?_
      refine z_iconst M dt_X12_live_3.1.1.1.1 ki_0 ?_
      refine z_iconst M dt_X12_live_3.1.1.1.2 ki_0 ?_
      refine z_sipush M dt_X12_live_3.1.1.2.1 ks_999 ?_
      obtain ⟨t5, hc, h⟩ := gBd h
      refine k_X12_lawed M hc u1663 (Nat.le_of_ble_eq_true rfl) (Nat.le_of_ble_eq_true rfl) dt_X12_live_3.1.1.2.2 ?_
      refine pf_X12_bought M u1987 dt_X12_live_3.1.2.1.1 ?_
      refine z_aload_n M dt_X12_live_3.1.2.1.2 rfl 0 rfl ?_
      refine z_aload_n M dt_X12_live_3.1.2.2.1 rfl 0 rfl ?_
      refine z_iconst M dt_X12_live_3.1.2.2.2 ki_1 ?_
      refine z_aload_n M dt_X12_live_3.2.1.1.1 rfl 0 rfl ?_
      refine gf_X12_bought (σ := (zI t5.1 12 t5.2)) M u1987 dt_X12_live_3.2.1.1.2 (v := t5.2) rfl ?_
      refine z_aload_n M dt_X12_live_3.2.1.2.1 rfl 0 rfl ?_
      refine gf_X12_bought (σ := (zI t5.1 12 t5.2)) M u1987 dt_X12_live_3.2.1.2.2 (v := t5.2) rfl ?_
      obtain ⟨t6, hc, h⟩ := gBd h
      refine k_X12_lawed M hc u1663 (Nat.le_of_ble_eq_true rfl) (Nat.le_of_ble_eq_true rfl) dt_X12_live_3.2.2.1.1 ?_
      refine pf_X12_eaten M u1988 dt_X12_live_3.2.2.1.2 ?_
      refine z_aload_n M dt_X12_live_3.2.2.2.1 rfl 0 rfl ?_
      refine gf_X12_eaten (σ := (zI t6.1 13 t6.2)) M u1988 dt_X12_live_3.2.2.2.2 (v := t6.2) rfl ?_
      refine z_aload_n M dt_X12_live_4.1.1.1.1 rfl 0 rfl ?_
      refine gf_X12_leaves M u1964 dt_X12_live_4.1.1.1.2 ?_
      refine z_iload M dt_X12_live_4.1.1.2.1 4 rfl ?_
      have ⟨hg, h⟩ := gIx_s h
      refine al_M2 (σ := (zI t6.1 13 t6.2)) M (f := (t6.1.2.1 0)) rfl hg dt_X12_live_4.1.1.2.2 ?_
      refine z_imul M dt_X12_live_4.1.2.1.1 ?_
      refine z_bipush M dt_X12_live_4.1.2.1.2 kb_100 ?_
      refine z_idiv M dt_X12_live_4.1.2.2.1 (by decide) ?_
      refine z_aload_n M dt_X12_live_4.1.2.2.2 rfl 0 rfl ?_
      refine gf_X12_bought (σ := (zI t6.1 13 t6.2)) M u1987 dt_X12_live_4.2.1.1.1 (v := (t6.1.1 12)) rfl ?_
      refine z_iadd M dt_X12_live_4.2.1.1.2 ?_
      refine z_aload_n M dt_X12_live_4.2.1.2.1 rfl 0 rfl ?_
      refine gf_X12_eaten (σ := (zI t6.1 13 t6.2)) M u1988 dt_X12_live_4.2.1.2.2 (v := t6.2) rfl ?_
      refine z_isub M dt_X12_live_4.2.2.1.1 ?_
      refine z_istore (lv' := [(7, .int ((((t6.2 * ((t6.1.2.1 0) (Int32.toNatClampNeg v6))) / (100 : Int32)) + (t6.1.1 12)) - t6.2)), (0, .ref (a 0)), (3, .int v3), (4, .int v4), (5, .int v5), (6, .int v6)]) M dt_X12_live_4.2.2.1.2 (by decide) rfl ?_
      refine z_iload M dt_X12_live_4.2.2.2.1 0 rfl ?_
      refine z_aload_n M dt_X12_live_4.2.2.2.2 rfl 1 rfl ?_
      refine gf_X12_corner M u1969 dt_X12_live_5.1.1.1.1 ?_
      refine z_iload M dt_X12_live_5.1.1.1.2 5 rfl ?_
      have ⟨hg, h⟩ := gIx_s h
      refine al_M7 (σ := (zI t6.1 13 t6.2)) M (f := (t6.1.2.1 5)) rfl hg dt_X12_live_5.1.1.2.1 ?_
      refine z_imul M dt_X12_live_5.1.1.2.2 ?_
      refine z_bipush M dt_X12_live_5.1.2.1.1 kb_100 ?_
      refine z_idiv M dt_X12_live_5.1.2.1.2 (by decide) ?_
      refine z_istore (lv' := [(8, .int ((((((t6.2 * ((t6.1.2.1 0) (Int32.toNatClampNeg v6))) / (100 : Int32)) + (t6.1.1 12)) - t6.2) * ((t6.1.2.1 5) (Int32.toNatClampNeg v6))) / (100 : Int32))), (7, .int ((((t6.2 * ((t6.1.2.1 0) (Int32.toNatClampNeg v6))) / (100 : Int32)) + (t6.1.1 12)) - t6.2)), (0, .ref (a 0)), (3, .int v3), (4, .int v4), (5, .int v5), (6, .int v6)]) M dt_X12_live_5.1.2.2.1 (by decide) rfl ?_
      refine z_iload M dt_X12_live_5.1.2.2.2 1 rfl ?_
      refine z_iload M dt_X12_live_5.2.1.1.1 1 rfl ?_
      refine z_aload_n M dt_X12_live_5.2.1.1.2 rfl 2 rfl ?_
      refine gf_X12_sink M u1967 dt_X12_live_5.2.1.2.1 ?_
      refine z_iload M dt_X12_live_5.2.1.2.2 6 rfl ?_
      have ⟨hg, h⟩ := gIx_s h
      refine al_M5 (σ := (zI t6.1 13 t6.2)) M (f := (t6.1.2.1 3)) rfl hg dt_X12_live_5.2.2.1.1 ?_
      refine z_imul M dt_X12_live_5.2.2.1.2 ?_
      refine z_bipush M dt_X12_live_5.2.2.2.1 kb_100 ?_
      refine z_idiv M dt_X12_live_5.2.2.2.2 (by decide) ?_
      refine z_isub M dt_X12_live_6.1.1.1.1 ?_
      refine z_iload M dt_X12_live_6.1.1.1.2 1 rfl ?_
      refine z_aload_n M dt_X12_live_6.1.1.2.1 rfl 2 rfl ?_
      refine gf_X12_back M u1968 dt_X12_live_6.1.1.2.2 ?_
      refine z_iload M dt_X12_live_6.1.2.1.1 6 rfl ?_
      have ⟨hg, h⟩ := gIx_s h
      refine al_M6 (σ := (zI t6.1 13 t6.2)) M (f := (t6.1.2.1 4)) rfl hg dt_X12_live_6.1.2.1.2 ?_
      refine z_imul M dt_X12_live_6.1.2.2.1 ?_
      refine z_bipush M dt_X12_live_6.1.2.2.2 kb_100 ?_
      refine z_idiv M dt_X12_live_6.2.1.1.1 (by decide) ?_
      refine z_isub M dt_X12_live_6.2.1.1.2 ?_
      refine z_iload M dt_X12_live_6.2.1.2.1 0 rfl ?_
      refine z_isub M dt_X12_live_6.2.1.2.2 ?_
      refine z_istore (lv' := [(9, .int (((((((t6.2 * ((t6.1.2.1 0) (Int32.toNatClampNeg v6))) / (100 : Int32)) + (t6.1.1 12)) - t6.2) - ((((((t6.2 * ((t6.1.2.1 0) (Int32.toNatClampNeg v6))) / (100 : Int32)) + (t6.1.1 12)) - t6.2) * ((t6.1.2.1 3) (Int32.toNatClampNeg v6))) / (100 : Int32))) - ((((((t6.2 * ((t6.1.2.1 0) (Int32.toNatClampNeg v6))) / (100 : Int32)) + (t6.1.1 12)) - t6.2) * ((t6.1.2.1 4) (Int32.toNatClampNeg v6))) / (100 : Int32))) - ((((((t6.2 * ((t6.1.2.1 0) (Int32.toNatClampNeg v6))) / (100 : Int32)) + (t6.1.1 12)) - t6.2) * ((t6.1.2.1 5) (Int32.toNatClampNeg v6))) / (100 : Int32)))), (8, .int ((((((t6.2 * ((t6.1.2.1 0) (Int32.toNatClampNeg v6))) / (100 : Int32)) + (t6.1.1 12)) - t6.2) * ((t6.1.2.1 5) (Int32.toNatClampNeg v6))) / (100 : Int32))), (7, .int ((((t6.2 * ((t6.1.2.1 0) (Int32.toNatClampNeg v6))) / (100 : Int32)) + (t6.1.1 12)) - t6.2)), (0, .ref (a 0)), (3, .int v3), (4, .int v4), (5, .int v5), (6, .int v6)]) M dt_X12_live_6.2.2.1.1 (by decide) rfl ?_
      refine z_aload_n M dt_X12_live_6.2.2.1.2 rfl 3 rfl ?_
      refine z_iload_n M dt_X12_live_6.2.2.2.1 rfl 4 rfl ?_
      refine z_iload M dt_X12_live_6.2.2.2.2 7 rfl ?_
      refine z_iload M dt_X12_live_7.1.1.1.1 0 rfl ?_
      obtain ⟨t7, hc, h⟩ := gBd h
      refine k_X12_bags M hc u1687 (Nat.le_of_ble_eq_true rfl) (Nat.le_of_ble_eq_true rfl) dt_X12_live_7.1.1.1.2 ?_
      refine z_iload M dt_X12_live_7.1.1.2.1 1 rfl ?_
      refine z_if_le (tgt := 206) M dt_X12_live_7.1.1.2.2 (by decide) (fun hc => ?_) (fun hc => ?_)
      · have h := gIt hc h
        refine z_sub M [3, 4, 5, 6, 7, 0] (lv' := [(0, .ref (a 0)), (3, .int v3), (4, .int v4), (5, .int v5), (6, .int v6), (9, .int (((((((t6.2 * ((t6.1.2.1 0) (Int32.toNatClampNeg v6))) / (100 : Int32)) + (t6.1.1 12)) - t6.2) - ((((((t6.2 * ((t6.1.2.1 0) (Int32.toNatClampNeg v6))) / (100 : Int32)) + (t6.1.1 12)) - t6.2) * ((t6.1.2.1 3) (Int32.toNatClampNeg v6))) / (100 : Int32))) - ((((((t6.2 * ((t6.1.2.1 0) (Int32.toNatClampNeg v6))) / (100 : Int32)) + (t6.1.1 12)) - t6.2) * ((t6.1.2.1 4) (Int32.toNatClampNeg v6))) / (100 : Int32))) - ((((((t6.2 * ((t6.1.2.1 0) (Int32.toNatClampNeg v6))) / (100 : Int32)) + (t6.1.1 12)) - t6.2) * ((t6.1.2.1 5) (Int32.toNatClampNeg v6))) / (100 : Int32))))]) rfl ?_
        exact wJ_X12_live_206 M (k60 := (fun σ w5 w6 => L_X12_live_60 v3 v4 n60 σ w5 w6)) t7 v3 v4 v5 v6 (((((((t6.2 * ((t6.1.2.1 0) (Int32.toNatClampNeg v6))) / (100 : Int32)) + (t6.1.1 12)) - t6.2) - ((((((t6.2 * ((t6.1.2.1 0) (Int32.toNatClampNeg v6))) / (100 : Int32)) + (t6.1.1 12)) - t6.2) * ((t6.1.2.1 3) (Int32.toNatClampNeg v6))) / (100 : Int32))) - ((((((t6.2 * ((t6.1.2.1 0) (Int32.toNatClampNeg v6))) / (100 : Int32)) + (t6.1.1 12)) - t6.2) * ((t6.1.2.1 4) (Int32.toNatClampNeg v6))) / (100 : Int32))) - ((((((t6.2 * ((t6.1.2.1 0) (Int32.toNatClampNeg v6))) / (100 : Int32)) + (t6.1.1 12)) - t6.2) * ((t6.1.2.1 5) (Int32.toNatClampNeg v6))) / (100 : Int32))) ih h
      · have h := gIf hc h
        refine z_aload_n M dt_X12_live_7.1.2.1.1 rfl 3 rfl ?_
        refine z_iload M dt_X12_live_7.1.2.1.2 5 rfl ?_
        refine z_iload M dt_X12_live_7.1.2.2.1 7 rfl ?_
        refine z_iload M dt_X12_live_7.1.2.2.2 1 rfl ?_
        obtain ⟨t8, hc, h⟩ := gBd h
        refine k_X12_bags M hc u1687 (Nat.le_of_ble_eq_true rfl) (Nat.le_of_ble_eq_true rfl) dt_X12_live_7.2.1.1.1 ?_
        refine z_sub M [3, 4, 5, 6, 7, 0] (lv' := [(0, .ref (a 0)), (3, .int v3), (4, .int v4), (5, .int v5), (6, .int v6), (9, .int (((((((t6.2 * ((t6.1.2.1 0) (Int32.toNatClampNeg v6))) / (100 : Int32)) + (t6.1.1 12)) - t6.2) - ((((((t6.2 * ((t6.1.2.1 0) (Int32.toNatClampNeg v6))) / (100 : Int32)) + (t6.1.1 12)) - t6.2) * ((t6.1.2.1 3) (Int32.toNatClampNeg v6))) / (100 : Int32))) - ((((((t6.2 * ((t6.1.2.1 0) (Int32.toNatClampNeg v6))) / (100 : Int32)) + (t6.1.1 12)) - t6.2) * ((t6.1.2.1 4) (Int32.toNatClampNeg v6))) / (100 : Int32))) - ((((((t6.2 * ((t6.1.2.1 0) (Int32.toNatClampNeg v6))) / (100 : Int32)) + (t6.1.1 12)) - t6.2) * ((t6.1.2.1 5) (Int32.toNatClampNeg v6))) / (100 : Int32))))]) rfl ?_
        exact wJ_X12_live_206 M (k60 := (fun σ w5 w6 => L_X12_live_60 v3 v4 n60 σ w5 w6)) t8 v3 v4 v5 v6 (((((((t6.2 * ((t6.1.2.1 0) (Int32.toNatClampNeg v6))) / (100 : Int32)) + (t6.1.1 12)) - t6.2) - ((((((t6.2 * ((t6.1.2.1 0) (Int32.toNatClampNeg v6))) / (100 : Int32)) + (t6.1.1 12)) - t6.2) * ((t6.1.2.1 3) (Int32.toNatClampNeg v6))) / (100 : Int32))) - ((((((t6.2 * ((t6.1.2.1 0) (Int32.toNatClampNeg v6))) / (100 : Int32)) + (t6.1.1 12)) - t6.2) * ((t6.1.2.1 4) (Int32.toNatClampNeg v6))) / (100 : Int32))) - ((((((t6.2 * ((t6.1.2.1 0) (Int32.toNatClampNeg v6))) / (100 : Int32)) + (t6.1.1 12)) - t6.2) * ((t6.1.2.1 5) (Int32.toNatClampNeg v6))) / (100 : Int32))) ih h
set_option maxHeartbeats 4000000 in
set_option maxRecDepth 100000 in
theorem m_X12_live (hD : ∀ σ, va_D A (mW a cy ad σ)) {σ : Zst} {p0 : Int32} {p1 : Int32} {o : (Zst × Int32)} (h : f_X12_live σ p0 p1 = some o) : zT l D zcl (zty cy) A ad (mW a cy ad) yX12_live cX12_live 11 (some .int) 5 [.ref (a 0), .int p0, .int p1] σ o.1 (some (.int o.2)) := by
  refine z_met pn_X12 hD (Nat.le_of_ble_eq_true rfl) rfl (fun G M => ?_)
  refine z_aload_n M dt_X12_live_0.1.1.1.1 rfl 0 rfl ?_
  refine z_iconst M dt_X12_live_0.1.1.1.2 ki_0 ?_
  refine pf_X12_thrown M u1960 dt_X12_live_0.1.1.2.1 ?_
  refine z_aload_n M dt_X12_live_0.1.1.2.2 rfl 0 rfl ?_
  refine z_iload_n M dt_X12_live_0.1.2.1.1 rfl 1 rfl ?_
  refine k_X12_isStreet M u1659 (Nat.le_of_ble_eq_true rfl) (Nat.le_of_ble_eq_true rfl) dt_X12_live_0.1.2.1.2 ?_
  refine z_if_eq (tgt := 20) M dt_X12_live_0.1.2.2.1 (by decide) (fun hc => ?_) (fun hc => ?_)
  · have h := gIt hc h
    refine z_iconst M dt_X12_live_0.2.1.2.1 ki_m1 ?_
    obtain rfl := Option.some.inj h
    exact z_iret M dt_X12_live_0.2.1.2.2
  · have h := gIf hc h
    refine z_iload_n M dt_X12_live_0.1.2.2.2 rfl 2 rfl ?_
    refine k_X12_isWeek M u1539 (Nat.le_of_ble_eq_true rfl) (Nat.le_of_ble_eq_true rfl) dt_X12_live_0.2.1.1.1 ?_
    refine z_if_ne (tgt := 22) M dt_X12_live_0.2.1.1.2 (by decide) (fun hc => ?_) (fun hc => ?_)
    · have h := gIf hc h
      refine z_bipush M dt_X12_live_0.2.2.1.1 kb_12 ?_
      refine z_iload_n M dt_X12_live_0.2.2.1.2 rfl 1 rfl ?_
      refine z_imul M dt_X12_live_0.2.2.2.1 ?_
      refine z_iload_n M dt_X12_live_0.2.2.2.2 rfl 2 rfl ?_
      refine z_iadd M dt_X12_live_1.1.1.1.1 ?_
      refine z_istore_n (lv' := [(3, .int (((12 : Int32) * p0) + p1)), (0, .ref (a 0)), (1, .int p0), (2, .int p1)]) M dt_X12_live_1.1.1.1.2 rfl (by decide) rfl ?_
      refine z_bipush M dt_X12_live_1.1.1.2.1 kb_12 ?_
      refine z_iload_n M dt_X12_live_1.1.1.2.2 rfl 2 rfl ?_
      refine z_iconst M dt_X12_live_1.1.2.1.1 ki_1 ?_
      refine z_iadd M dt_X12_live_1.1.2.1.2 ?_
      refine z_aload_n M dt_X12_live_1.1.2.2.1 rfl 1 rfl ?_
      refine gf_X12_streets (σ := (zI σ 0 (0 : Int32))) M u1970 dt_X12_live_1.1.2.2.2 (v := (σ.1 3)) rfl ?_
      have ⟨hg, h⟩ := gNz_s h
      refine z_irem M dt_X12_live_1.2.1.1.1 hg ?_
      refine z_imul M dt_X12_live_1.2.1.1.2 ?_
      refine z_iload_n M dt_X12_live_1.2.1.2.1 rfl 3 rfl ?_
      refine z_iadd M dt_X12_live_1.2.1.2.2 ?_
      refine z_istore (lv' := [(4, .int (((12 : Int32) * (jRem (p0 + (1 : Int32)) (σ.1 3))) + p1)), (3, .int (((12 : Int32) * p0) + p1)), (0, .ref (a 0)), (1, .int p0), (2, .int p1)]) M dt_X12_live_1.2.2.1.1 (by decide) rfl ?_
      refine z_iconst M dt_X12_live_1.2.2.1.2 ki_0 ?_
      refine z_istore (lv' := [(5, .int (0 : Int32)), (4, .int (((12 : Int32) * (jRem (p0 + (1 : Int32)) (σ.1 3))) + p1)), (3, .int (((12 : Int32) * p0) + p1)), (0, .ref (a 0)), (1, .int p0), (2, .int p1)]) M dt_X12_live_1.2.2.2.1 (by decide) rfl ?_
      refine z_aload_n M dt_X12_live_1.2.2.2.2 rfl 3 rfl ?_
      refine z_iload_n M dt_X12_live_2.1.1.1.1 rfl 4 rfl ?_
      refine pf_X12_streetNow M u1984 dt_X12_live_2.1.1.1.2 ?_
      refine z_aload_n M dt_X12_live_2.1.1.2.1 rfl 3 rfl ?_
      refine z_iload_n M dt_X12_live_2.1.1.2.2 rfl 5 rfl ?_
      refine pf_X12_weekNow M u1985 dt_X12_live_2.1.2.1.1 ?_
      refine z_iconst M dt_X12_live_2.1.2.1.2 ki_0 ?_
      refine z_istore (lv' := [(6, .int (0 : Int32)), (5, .int (0 : Int32)), (4, .int (((12 : Int32) * (jRem (p0 + (1 : Int32)) (σ.1 3))) + p1)), (3, .int (((12 : Int32) * p0) + p1)), (0, .ref (a 0)), (1, .int p0), (2, .int p1)]) M dt_X12_live_2.1.2.2.1 (by decide) rfl ?_
      refine z_sub M [4, 3, 2, 1, 0] (lv' := [(0, .ref (a 0)), (3, .int (((12 : Int32) * p0) + p1)), (4, .int (((12 : Int32) * (jRem (p0 + (1 : Int32)) (σ.1 3))) + p1)), (5, .int (0 : Int32)), (6, .int (0 : Int32))]) rfl ?_
      exact wL_X12_live_60 M  (((12 : Int32) * p0) + p1) (((12 : Int32) * (jRem (p0 + (1 : Int32)) (σ.1 3))) + p1) zFu (zI (zI (zI σ 0 (0 : Int32)) 9 p0) 10 p1) (0 : Int32) (0 : Int32) h
    · have h := gIt hc h
      refine z_iconst M dt_X12_live_0.2.1.2.1 ki_m1 ?_
      obtain rfl := Option.some.inj h
      exact z_iret M dt_X12_live_0.2.1.2.2
end ZWK
