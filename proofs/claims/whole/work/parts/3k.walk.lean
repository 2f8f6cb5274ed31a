section ZWK
variable {l : Launch} {D : va_G} {A : Nat → Prop} {ad : (Nat → Nat) × (Nat → Nat)} {a : Nat → Nat} {cy : ClassId × (ClassId × (ClassId × ClassId))} {own : String} {cc : ByteArray} {nL : Nat} {rt : Option FieldType} {σo : Zst} {ov : Option Value} {G : Zst → List (Nat × Value) → Nat → List Value → Prop}
variable {σ σ0 : Zst} {lv : List (Nat × Value)} {pc : Nat} {st : List Value} {zcl0 : List vw_C} {tys : List (ClassId × FieldType)} {wf : Zst → va_W}
set_option maxHeartbeats 4000000 in
set_option maxRecDepth 100000 in
theorem m_X12_year (hD : ∀ σ, va_D A (mW a cy ad σ)) {σ : Zst} {p0 : Int32} {o : (Zst × Int32)} (h : f_X12_year σ p0 = some o) : zT l D zcl (zty cy) A ad (mW a cy ad) yX12_year cX12_year 2 (some .int) 3 [.ref (a 0), .int p0] σ o.1 (some (.int o.2)) := by
  refine z_met pn_X12 hD (Nat.le_of_ble_eq_true rfl) rfl (fun G M => ?_)
  refine z_aload_n M dt_X12_year_0.1.1.1.1 rfl 0 rfl ?_
  refine z_iconst M dt_X12_year_0.1.1.1.2 ki_0 ?_
  refine pf_X12_thrown M u1960 dt_X12_year_0.1.1.2.1 ?_
  refine z_iload_n M dt_X12_year_0.1.1.2.2 rfl 1 rfl ?_
  refine z_i2l M dt_X12_year_0.1.2.1.1 ?_
  refine z_lconst (v := 0) M dt_X12_year_0.1.2.1.2 (by decide) ?_
  refine z_ldc2 M dt_X12_year_0.1.2.2.1 u1897 ?_
  refine k_X12_in M u1517 (Nat.le_of_ble_eq_true rfl) (Nat.le_of_ble_eq_true rfl) dt_X12_year_0.1.2.2.2 ?_
  refine z_if_ne (tgt := 19) M dt_X12_year_0.2.1.1.1 (by decide) (fun hc => ?_) (fun hc => ?_)
  · have h := gIf hc h
    refine z_aload_n M dt_X12_year_0.2.1.2.2 rfl 0 rfl ?_
    refine z_iconst M dt_X12_year_0.2.2.1.1 ki_0 ?_
    obtain ⟨t1, hc, h⟩ := gBd h
    refine k_X12_dates M hc u1907 (Nat.le_of_ble_eq_true rfl) (Nat.le_of_ble_eq_true rfl) dt_X12_year_0.2.2.1.2 ?_
    refine z_if_ne (tgt := 30) M dt_X12_year_0.2.2.2.1 (by decide) (fun hc => ?_) (fun hc => ?_)
    · have h := gIf hc h
      refine z_aload_n M dt_X12_year_1.1.1.1.2 rfl 0 rfl ?_
      refine z_iconst M dt_X12_year_1.1.1.2.1 ki_0 ?_
      refine pf_X12_rows M u1961 dt_X12_year_1.1.1.2.2 ?_
      refine z_aload_n M dt_X12_year_1.1.2.1.1 rfl 0 rfl ?_
      refine z_aload_n M dt_X12_year_1.1.2.1.2 rfl 0 rfl ?_
      refine gf_X12_firstYear M u2018 dt_X12_year_1.1.2.2.1 ?_
      refine z_iload_n M dt_X12_year_1.1.2.2.2 rfl 1 rfl ?_
      have ⟨hg, h⟩ := gIx_s h
      refine al_M34 (σ := (zI t1.1 1 (0 : Int32))) M (f := (t1.1.2.1 27)) rfl hg dt_X12_year_1.2.1.1.1 ?_
      refine z_i2l M dt_X12_year_1.2.1.1.2 ?_
      obtain ⟨t2, hc, h⟩ := gBd h
      refine k_X12_enters M hc u1708 (Nat.le_of_ble_eq_true rfl) (Nat.le_of_ble_eq_true rfl) dt_X12_year_1.2.1.2.1 ?_
      refine z_aload_n M dt_X12_year_1.2.1.2.2 rfl 0 rfl ?_
      refine z_aload_n M dt_X12_year_1.2.2.1.1 rfl 0 rfl ?_
      refine gf_X12_lastYear M u2019 dt_X12_year_1.2.2.1.2 ?_
      refine z_iload_n M dt_X12_year_1.2.2.2.1 rfl 1 rfl ?_
      have ⟨hg, h⟩ := gIx_s h
      refine al_M35 (σ := t2) M (f := (t2.2.1 28)) rfl hg dt_X12_year_1.2.2.2.2 ?_
      refine z_i2l M dt_X12_year_2.1.1.1.1 ?_
      obtain ⟨t3, hc, h⟩ := gBd h
      refine k_X12_enters M hc u1708 (Nat.le_of_ble_eq_true rfl) (Nat.le_of_ble_eq_true rfl) dt_X12_year_2.1.1.1.2 ?_
      refine z_aload_n M dt_X12_year_2.1.1.2.1 rfl 0 rfl ?_
      refine gf_X12_lastYear M u2019 dt_X12_year_2.1.1.2.2 ?_
      refine z_iload_n M dt_X12_year_2.1.2.1.1 rfl 1 rfl ?_
      have ⟨hg, h⟩ := gIx_s h
      refine al_M35 (σ := t3) M (f := (t3.2.1 28)) rfl hg dt_X12_year_2.1.2.1.2 ?_
      refine z_aload_n M dt_X12_year_2.1.2.2 rfl 0 rfl ?_
      refine gf_X12_firstYear M u2018 dt_X12_year_2.2.1.1.1 ?_
      refine z_iload_n M dt_X12_year_2.2.1.1.2 rfl 1 rfl ?_
      have ⟨hg, h⟩ := gIx_s h
      refine al_M34 (σ := t3) M (f := (t3.2.1 27)) rfl hg dt_X12_year_2.2.1.2.1 ?_
      refine z_isub M dt_X12_year_2.2.1.2.2 ?_
      refine z_iconst M dt_X12_year_2.2.2.1.1 ki_1 ?_
      refine z_iadd M dt_X12_year_2.2.2.1.2 ?_
      obtain rfl := Option.some.inj h
      exact z_iret M dt_X12_year_2.2.2.2
    · have h := gIt hc h
      refine z_bipush M dt_X12_year_0.2.2.2.2 kb_m2 ?_
      obtain rfl := Option.some.inj h
      exact z_iret M dt_X12_year_1.1.1.1.1
  · have h := gIt hc h
    refine z_iconst M dt_X12_year_0.2.1.1.2 ki_m1 ?_
    obtain rfl := Option.some.inj h
    exact z_iret M dt_X12_year_0.2.1.2.1
set_option maxHeartbeats 4000000 in
set_option maxRecDepth 100000 in
theorem wL_X12_stray_9 {o : (Zst × Int32)} (M : zM l D zcl (zty cy) A ad (zR 3) (mW a cy ad) RX12 cX12_stray 4 (some .int) o.1 (some (.int o.2)) G) {k64 : Zst → Int32 → Option (Zst × Int32)}   (Hk64 : ∀ (σ : Zst) (w1 : Int32), k64 σ w1 = some o → G σ [(0, .ref (a 0)), (1, .int w1)] 64 []) :
    ∀ (n9 : Nat) (σ : Zst) (v1 : Int32) (v2 : Int32), L_X12_stray_9 k64 n9 σ v1 v2 = some o → G σ [(0, .ref (a 0)), (1, .int v1), (2, .int v2)] 9 [] := by
  intro n9
  induction n9 with
  | zero => intro σ v1 v2 h; exact nomatch (show (none : Option (Zst × Int32)) = some _ from h)
  | succ n9 ih =>
    intro σ v1 v2 h
    refine z_iload_n M dt_X12_stray_0.1.2.2.2 rfl 2 rfl ?_
    refine z_iconst M dt_X12_stray_0.2.1.1.1 ki_1 ?_
    refine z_aload_n M dt_X12_stray_0.2.1.1.2 rfl 0 rfl ?_
    refine gf_X12_papers (σ := σ) M u2014 dt_X12_stray_0.2.1.2.1 (v := (σ.1 23)) rfl ?_
    refine z_ishl M dt_X12_stray_0.2.1.2.2 ?_
    refine z_icmp_ge (tgt := 64) M dt_X12_stray_0.2.2.1.1 (by decide) (fun hc => ?_) (fun hc => ?_)
    · have h := gIt hc h
      refine z_sub M [0, 1] (lv' := [(0, .ref (a 0)), (1, .int v1)]) rfl ?_
      exact Hk64 σ v1 h
    · have h := gIf hc h
      refine z_iload_n M dt_X12_stray_0.2.2.1.2 rfl 1 rfl ?_
      have hJ3 : G σ [(0, .ref (a 0)), (1, .int v1), (2, .int v2)] 39 [.int (if v1 < (0 : Int32) then (1 : Int32) else (if (f_J6_bitCount_0f7a4 v1) ≤ (f_J6_bitCount_0f7a4 v2) then (0 : Int32) else (1 : Int32)))] := by
        refine z_istore_n (lv' := [(3, .int (if v1 < (0 : Int32) then (1 : Int32) else (if (f_J6_bitCount_0f7a4 v1) ≤ (f_J6_bitCount_0f7a4 v2) then (0 : Int32) else (1 : Int32)))), (0, .ref (a 0)), (1, .int v1), (2, .int v2)]) M dt_X12_stray_1.1.2.2.2 rfl (by decide) rfl ?_
        refine z_iload_n M dt_X12_stray_1.2.1.1.1 rfl 0 rfl ?_
        refine z_if_eq (tgt := 56) M dt_X12_stray_1.2.1.1.2 (by decide) (fun hc => ?_) (fun hc => ?_)
        · have h := gIt hc h
          refine z_iload_n M dt_X12_stray_2.1.1.1.1 rfl 2 rfl ?_
          refine z_istore_n (lv' := [(1, .int v1), (3, .int (if v1 < (0 : Int32) then (1 : Int32) else (if (f_J6_bitCount_0f7a4 v1) ≤ (f_J6_bitCount_0f7a4 v2) then (0 : Int32) else (1 : Int32)))), (0, .ref (a 0)), (2, .int v2)]) M dt_X12_stray_2.1.1.1.2 rfl (by decide) rfl ?_
          refine z_iinc (v := (v2 + (1 : Int32))) (lv' := [(2, .int (v2 + (1 : Int32))), (1, .int v1), (3, .int (if v1 < (0 : Int32) then (1 : Int32) else (if (f_J6_bitCount_0f7a4 v1) ≤ (f_J6_bitCount_0f7a4 v2) then (0 : Int32) else (1 : Int32)))), (0, .ref (a 0))]) M dt_X12_stray_2.1.1.2.1 (k := 3) rfl (congrArg (fun q => v2 + q) ki_1) (by decide) rfl ?_
          refine z_goto (tgt := 9) M dt_X12_stray_2.1.1.2.2 (by decide) ?_
          refine z_sub M [3, 1, 0] (lv' := [(0, .ref (a 0)), (1, .int v1), (2, .int (v2 + (1 : Int32)))]) rfl ?_
          exact ih σ v1 (v2 + (1 : Int32)) h
        · have h := gIf hc h
          refine z_aload_n M dt_X12_stray_1.2.1.2.1 rfl 1 rfl ?_
          refine z_iload_n M dt_X12_stray_1.2.1.2.2 rfl 3 rfl ?_
          obtain ⟨t4, hc, h⟩ := gBd h
          refine k_X12_dates M hc u1907 (Nat.le_of_ble_eq_true rfl) (Nat.le_of_ble_eq_true rfl) dt_X12_stray_1.2.2.1.1 ?_
          have hJ6 : G t4.1 [(3, .int (if v1 < (0 : Int32) then (1 : Int32) else (if (f_J6_bitCount_0f7a4 v1) ≤ (f_J6_bitCount_0f7a4 v2) then (0 : Int32) else (1 : Int32)))), (0, .ref (a 0)), (1, .int v1), (2, .int v2)] 57 [.int (if t4.2 = (0 : Int32) then v1 else v2)] := by
            refine z_istore_n (lv' := [(1, .int (if t4.2 = (0 : Int32) then v1 else v2)), (3, .int (if v1 < (0 : Int32) then (1 : Int32) else (if (f_J6_bitCount_0f7a4 v1) ≤ (f_J6_bitCount_0f7a4 v2) then (0 : Int32) else (1 : Int32)))), (0, .ref (a 0)), (2, .int v2)]) M dt_X12_stray_2.1.1.1.2 rfl (by decide) rfl ?_
            refine z_iinc (v := (v2 + (1 : Int32))) (lv' := [(2, .int (v2 + (1 : Int32))), (1, .int (if t4.2 = (0 : Int32) then v1 else v2)), (3, .int (if v1 < (0 : Int32) then (1 : Int32) else (if (f_J6_bitCount_0f7a4 v1) ≤ (f_J6_bitCount_0f7a4 v2) then (0 : Int32) else (1 : Int32)))), (0, .ref (a 0))]) M dt_X12_stray_2.1.1.2.1 (k := 3) rfl (congrArg (fun q => v2 + q) ki_1) (by decide) rfl ?_
            refine z_goto (tgt := 9) M dt_X12_stray_2.1.1.2.2 (by decide) ?_
            refine z_sub M [3, 1, 0] (lv' := [(0, .ref (a 0)), (1, .int (if t4.2 = (0 : Int32) then v1 else v2)), (2, .int (v2 + (1 : Int32)))]) rfl ?_
            exact ih t4.1 (if t4.2 = (0 : Int32) then v1 else v2) (v2 + (1 : Int32)) h
          refine z_if_eq (tgt := 56) M dt_X12_stray_1.2.2.1.2 (by decide) (fun hc5 => ?_) (fun hc5 => ?_)
          · refine z_iload_n M dt_X12_stray_2.1.1.1.1 rfl 2 rfl ?_
            exact (zTt hc5 hJ6)
          · refine z_iload_n M dt_X12_stray_1.2.2.2.1 rfl 3 rfl ?_
            refine z_goto (tgt := 57) M dt_X12_stray_1.2.2.2.2 (by decide) ?_
            exact (zTf hc5 hJ6)
      refine z_if_lt (tgt := 34) M dt_X12_stray_0.2.2.2.1 (by decide) (fun hc1 => ?_) (fun hc1 => ?_)
      · refine z_iconst M dt_X12_stray_1.1.2.1.1 ki_1 ?_
        refine z_goto (tgt := 39) M dt_X12_stray_1.1.2.1.2 (by decide) ?_
        exact (zTt hc1 hJ3)
      · refine z_iload_n M dt_X12_stray_0.2.2.2.2 rfl 2 rfl ?_
        refine k_J6_bitCount_0f7a4 M u1837 (Nat.le_of_ble_eq_true rfl) (Nat.le_of_ble_eq_true rfl) dt_X12_stray_1.1.1.1.1 ?_
        refine z_iload_n M dt_X12_stray_1.1.1.1.2 rfl 1 rfl ?_
        refine k_J6_bitCount_0f7a4 M u1837 (Nat.le_of_ble_eq_true rfl) (Nat.le_of_ble_eq_true rfl) dt_X12_stray_1.1.1.2.1 ?_
        refine z_icmp_ge (tgt := 38) M dt_X12_stray_1.1.1.2.2 (by decide) (fun hc2 => ?_) (fun hc2 => ?_)
        · refine z_iconst M dt_X12_stray_1.1.2.2.1 ki_0 ?_
          exact (zTt hc2 (zTf hc1 hJ3))
        · refine z_iconst M dt_X12_stray_1.1.2.1.1 ki_1 ?_
          refine z_goto (tgt := 39) M dt_X12_stray_1.1.2.1.2 (by decide) ?_
          exact (zTf hc2 (zTf hc1 hJ3))
set_option maxHeartbeats 4000000 in
set_option maxRecDepth 100000 in
theorem wJ_X12_stray_64 {o : (Zst × Int32)} (M : zM l D zcl (zty cy) A ad (zR 3) (mW a cy ad) RX12 cX12_stray 4 (some .int) o.1 (some (.int o.2)) G) (σ : Zst) (v1 : Int32)  (h : J_X12_stray_64 σ v1 = some o) : G σ [(0, .ref (a 0)), (1, .int v1)] 64 [] := by
  refine z_aload_n M dt_X12_stray_2.1.2.1.1 rfl 0 rfl ?_
  refine z_iconst M dt_X12_stray_2.1.2.1.2 ki_0 ?_
  refine pf_X12_rows M u1961 dt_X12_stray_2.1.2.2 ?_
  refine z_aload_n M dt_X12_stray_2.2.1.1.1 rfl 0 rfl ?_
  refine z_iload_n M dt_X12_stray_2.2.1.1.2 rfl 1 rfl ?_
  refine z_i2l M dt_X12_stray_2.2.1.2.1 ?_
  obtain ⟨t7, hc, h⟩ := gBd h
  refine k_X12_enters M hc u1708 (Nat.le_of_ble_eq_true rfl) (Nat.le_of_ble_eq_true rfl) dt_X12_stray_2.2.1.2.2 ?_
  refine z_iload_n M dt_X12_stray_2.2.2.1.1 rfl 1 rfl ?_
  refine k_J6_bitCount_0f7a4 M u1837 (Nat.le_of_ble_eq_true rfl) (Nat.le_of_ble_eq_true rfl) dt_X12_stray_2.2.2.1.2 ?_
  obtain rfl := Option.some.inj h
  exact z_iret M dt_X12_stray_2.2.2.2
set_option maxHeartbeats 4000000 in
set_option maxRecDepth 100000 in
theorem m_X12_stray (hD : ∀ σ, va_D A (mW a cy ad σ)) {σ : Zst}  {o : (Zst × Int32)} (h : f_X12_stray σ = some o) : zT l D zcl (zty cy) A ad (mW a cy ad) yX12_stray cX12_stray 4 (some .int) 3 [.ref (a 0)] σ o.1 (some (.int o.2)) := by
  refine z_met pn_X12 hD (Nat.le_of_ble_eq_true rfl) rfl (fun G M => ?_)
  refine z_aload_n M dt_X12_stray_0.1.1.1.1 rfl 0 rfl ?_
  refine z_iconst M dt_X12_stray_0.1.1.1.2 ki_0 ?_
  refine pf_X12_thrown M u1960 dt_X12_stray_0.1.1.2.1 ?_
  refine z_iconst M dt_X12_stray_0.1.1.2.2 ki_m1 ?_
  refine z_istore_n (lv' := [(1, .int (-1 : Int32)), (0, .ref (a 0))]) M dt_X12_stray_0.1.2.1.1 rfl (by decide) rfl ?_
  refine z_iconst M dt_X12_stray_0.1.2.1.2 ki_0 ?_
  refine z_istore_n (lv' := [(2, .int (0 : Int32)), (1, .int (-1 : Int32)), (0, .ref (a 0))]) M dt_X12_stray_0.1.2.2.1 rfl (by decide) rfl ?_
  refine z_sub M [2, 1, 0] (lv' := [(0, .ref (a 0)), (1, .int (-1 : Int32)), (2, .int (0 : Int32))]) rfl ?_
  exact wL_X12_stray_9 M (k64 := (fun σ9 w8 => J_X12_stray_64 σ9 w8)) (fun σ9 w8 h => by
      exact wJ_X12_stray_64 M  σ9 w8 h) zFu (zI σ 0 (0 : Int32)) (-1 : Int32) (0 : Int32) h
set_option maxHeartbeats 4000000 in
set_option maxRecDepth 100000 in
theorem wL_X12_power_5 {o : Int64} (M : zM l D zcl0 tys A ad (zR 1) wf RX12 cX12_power 6 (some .long) σ0 (some (.long o)) G)  (v0 : Int64) (v2 : Int32)  :
    ∀ (n5 : Nat) (v3 : Int64) (v5 : Int32), L_X12_power_5 v0 v2 n5 v3 v5 = some o → G σ0 [(0, .long v0), (2, .int v2), (3, .long v3), (5, .int v5)] 5 [] := by
  intro n5
  induction n5 with
  | zero => intro v3 v5 h; exact nomatch (show (none : Option Int64) = some _ from h)
  | succ n5 ih =>
    intro v3 v5 h
    refine z_iload M dt_X12_power_0.1.2.1.1 3 rfl ?_
    refine z_iload_n M dt_X12_power_0.1.2.1.2 rfl 1 rfl ?_
    refine z_icmp_ge (tgt := 21) M dt_X12_power_0.1.2.2.1 (by decide) (fun hc => ?_) (fun hc => ?_)
    · have h := gIt hc h
      refine z_lload_n M dt_X12_power_0.2.2.1.2 rfl 2 rfl ?_
      obtain rfl := Option.some.inj h
      exact z_lret M dt_X12_power_0.2.2.2
    · have h := gIf hc h
      refine z_lload_n M dt_X12_power_0.1.2.2.2 rfl 2 rfl ?_
      refine z_lload_n M dt_X12_power_0.2.1.1.1 rfl 0 rfl ?_
      refine z_lmul M dt_X12_power_0.2.1.1.2 ?_
      refine z_lstore_n (lv' := [(3, .long (v3 * v0)), (0, .long v0), (2, .int v2), (5, .int v5)]) M dt_X12_power_0.2.1.2.1 rfl (by decide) rfl ?_
      refine z_iinc (v := (v5 + (1 : Int32))) (lv' := [(5, .int (v5 + (1 : Int32))), (3, .long (v3 * v0)), (0, .long v0), (2, .int v2)]) M dt_X12_power_0.2.1.2.2 (k := 3) rfl (congrArg (fun q => v5 + q) ki_1) (by decide) rfl ?_
      refine z_goto (tgt := 5) M dt_X12_power_0.2.2.1.1 (by decide) ?_
      refine z_sub M [2, 3, 1, 0] (lv' := [(0, .long v0), (2, .int v2), (3, .long (v3 * v0)), (5, .int (v5 + (1 : Int32)))]) rfl ?_
      exact ih (v3 * v0) (v5 + (1 : Int32)) h
set_option maxHeartbeats 4000000 in
set_option maxRecDepth 100000 in
theorem m_X12_power (hD : ∀ σ, va_D A (wf σ)) {σ0 : Zst} {p0 : Int64} {p1 : Int32} {o : Int64} (h : f_X12_power p0 p1 = some o) : zT l D zcl0 tys A ad wf yX12_power cX12_power 6 (some .long) 1 [.long p0, .int p1] σ0 σ0 (some (.long o)) := by
  refine z_met pn_X12 hD (Nat.le_of_ble_eq_true rfl) rfl (fun G M => ?_)
  refine z_lconst (v := 1) M dt_X12_power_0.1.1.1.1 (by decide) ?_
  refine z_lstore_n (lv' := [(3, .long (1 : Int64)), (0, .long p0), (2, .int p1)]) M dt_X12_power_0.1.1.1.2 rfl (by decide) rfl ?_
  refine z_iconst M dt_X12_power_0.1.1.2.1 ki_0 ?_
  refine z_istore (lv' := [(5, .int (0 : Int32)), (3, .long (1 : Int64)), (0, .long p0), (2, .int p1)]) M dt_X12_power_0.1.1.2.2 (by decide) rfl ?_
  refine z_sub M [2, 3, 1, 0] (lv' := [(0, .long p0), (2, .int p1), (3, .long (1 : Int64)), (5, .int (0 : Int32))]) rfl ?_
  exact wL_X12_power_5 M  p0 p1 zFu (1 : Int64) (0 : Int32) h
theorem k_X12_power {n : Nat} (M : zM l D zcl0 tys A ad (zR n) wf own cc nL rt σo ov G) {p0 : Int64} {p1 : Int32} {o : Int64} (h : f_X12_power p0 p1 = some o) {index : Nat} (hl : Cond.methodLink own index yX12_power ∈ uw) (hR : 2 ≤ n) (hW : (st.map fun v => v.category).sum ≤ 8) (d : decode cc pc = .ok (.invokestatic index, 3)) (kk : G σ lv (pc + 3) (.long o :: st)) : G σ lv pc (.int p1 :: .long p0 :: st) := z_callS M [.long p0, .int p1] (m_X12_power (zM_hD M) h) hl u99 u1926 u1925 hd_X12_power hR (by decide) rfl hW d kk
set_option maxHeartbeats 4000000 in
set_option maxRecDepth 100000 in
theorem m_X12_once (hD : ∀ σ, va_D A (mW a cy ad σ)) {σ0 : Zst} {p0 : Int32} {p1 : Int32} {p2 : Int32} {o : Int64} (h : f_X12_once σ0 p0 p1 p2 = some o) : zT l D zcl (zty cy) A ad (mW a cy ad) yX12_once cX12_once 5 (some .long) 2 [.ref (a 0), .int p0, .int p1, .int p2] σ0 σ0 (some (.long o)) := by
  refine z_met pn_X12 hD (Nat.le_of_ble_eq_true rfl) rfl (fun G M => ?_)
  refine z_iconst M dt_X12_once_0.1.1.1.1 ki_0 ?_
  refine z_iconst M dt_X12_once_0.1.1.1.2 ki_4 ?_
  refine z_iload_n M dt_X12_once_0.1.1.2.1 rfl 3 rfl ?_
  refine z_bipush M dt_X12_once_0.1.1.2.2 kb_10 ?_
  refine z_idiv M dt_X12_once_0.1.2.1.1 (by decide) ?_
  refine z_mmin M u1576 u680 u100 u681 (Nat.le_of_ble_eq_true rfl) (Nat.le_of_ble_eq_true rfl) dt_X12_once_0.1.2.1.2 ?_
  refine z_mmax M u1686 u677 u100 u678 (Nat.le_of_ble_eq_true rfl) (Nat.le_of_ble_eq_true rfl) dt_X12_once_0.1.2.2.1 ?_
  refine z_istore (lv' := [(4, .int (jMax (0 : Int32) (jMin (4 : Int32) (p2 / (10 : Int32))))), (0, .ref (a 0)), (1, .int p0), (2, .int p1), (3, .int p2)]) M dt_X12_once_0.1.2.2.2 (by decide) rfl ?_
  refine z_iload_n M dt_X12_once_0.2.1.1.1 rfl 3 rfl ?_
  refine z_i2l M dt_X12_once_0.2.1.1.2 ?_
  refine z_ldc2 M dt_X12_once_0.2.1.2.1 u1516 ?_
  refine z_iload M dt_X12_once_0.2.1.2.2 0 rfl ?_
  obtain ⟨t1, hc, h⟩ := gBd h
  refine k_X12_power M hc u1924 (Nat.le_of_ble_eq_true rfl) (Nat.le_of_ble_eq_true rfl) dt_X12_once_0.2.2.1.1 ?_
  refine z_lmul M dt_X12_once_0.2.2.1.2 ?_
  refine z_aload_n M dt_X12_once_0.2.2.2.1 rfl 1 rfl ?_
  refine gf_X12_lastsOf M u1966 dt_X12_once_0.2.2.2.2 ?_
  refine z_iload_n M dt_X12_once_1.1.1.1 rfl 2 rfl ?_
  have ⟨hg, h⟩ := gIx_s h
  refine al_M4 (σ := σ0) M (f := (σ0.2.1 2)) rfl hg dt_X12_once_1.1.1.2 ?_
  refine z_i2l M dt_X12_once_1.1.2.1 ?_
  refine z_iload M dt_X12_once_1.1.2.2 0 rfl ?_
  obtain ⟨t2, hc, h⟩ := gBd h
  refine k_X12_power M hc u1924 (Nat.le_of_ble_eq_true rfl) (Nat.le_of_ble_eq_true rfl) dt_X12_once_1.2.1.1 ?_
  have ⟨hg, h⟩ := gNzL_s h
  refine z_ldiv M dt_X12_once_1.2.1.2 hg ?_
  obtain rfl := Option.some.inj h
  exact z_lret M dt_X12_once_1.2.2
theorem k_X12_once {n : Nat} (M : zM l D zcl (zty cy) A ad (zR n) (mW a cy ad) own cc nL rt σo ov G) {p0 : Int32} {p1 : Int32} {p2 : Int32} {o : Int64} (h : f_X12_once σ p0 p1 p2 = some o) {index : Nat} (hl : Cond.methodLink own index yX12_once ∈ uw) (hR : 3 ≤ n) (hW : (st.map fun v => v.category).sum ≤ 8) (d : decode cc pc = .ok (.invokevirtual index, 3)) (kk : G σ lv (pc + 3) (.long o :: st)) : G σ lv pc (.int p2 :: .int p1 :: .int p0 :: .ref (a 0) :: st) := z_callV M [.int p0, .int p1, .int p2] (m_X12_once (zM_hD M) h) (hM0 σ) rfl hl u99 u1923 u1922 u83 hd_X12_once hR (by decide) rfl hW d kk
set_option maxHeartbeats 4000000 in
set_option maxRecDepth 100000 in
theorem m_X12_was (hD : ∀ σ, va_D A (mW a cy ad σ)) {σ : Zst} {p0 : Int32} {p1 : Int32} {p2 : Int32} {p3 : Int32} {o : (Zst × Int32)} (h : f_X12_was σ p0 p1 p2 p3 = some o) : zT l D zcl (zty cy) A ad (mW a cy ad) yX12_was cX12_was 5 (some .int) 3 [.ref (a 0), .int p0, .int p1, .int p2, .int p3] σ o.1 (some (.int o.2)) := by
  refine z_met pn_X12 hD (Nat.le_of_ble_eq_true rfl) rfl (fun G M => ?_)
  refine z_aload_n M dt_X12_was_0.1.1.1.1 rfl 0 rfl ?_
  refine z_iconst M dt_X12_was_0.1.1.1.2 ki_0 ?_
  refine pf_X12_thrown M u1960 dt_X12_was_0.1.1.2.1 ?_
  refine z_iload_n M dt_X12_was_0.1.1.2.2 rfl 1 rfl ?_
  refine z_i2l M dt_X12_was_0.1.2.1.1 ?_
  refine z_lconst (v := 0) M dt_X12_was_0.1.2.1.2 (by decide) ?_
  refine z_ldc2 M dt_X12_was_0.1.2.2.1 u1897 ?_
  refine k_X12_in M u1517 (Nat.le_of_ble_eq_true rfl) (Nat.le_of_ble_eq_true rfl) dt_X12_was_0.1.2.2.2 ?_
  refine z_if_eq (tgt := 45) M dt_X12_was_0.2.1.1.1 (by decide) (fun hc => ?_) (fun hc => ?_)
  · have h := gIt hc h
    refine z_iconst M dt_X12_was_1.1.2.2.1 ki_m1 ?_
    obtain rfl := Option.some.inj h
    exact z_iret M dt_X12_was_1.1.2.2.2
  · have h := gIf hc h
    refine z_aload_n M dt_X12_was_0.2.1.1.2 rfl 0 rfl ?_
    refine z_iload_n M dt_X12_was_0.2.1.2.1 rfl 2 rfl ?_
    refine k_X12_isSort M u1526 (Nat.le_of_ble_eq_true rfl) (Nat.le_of_ble_eq_true rfl) dt_X12_was_0.2.1.2.2 ?_
    refine z_if_eq (tgt := 45) M dt_X12_was_0.2.2.1.1 (by decide) (fun hc => ?_) (fun hc => ?_)
    · have h := gIt hc h
      refine z_iconst M dt_X12_was_1.1.2.2.1 ki_m1 ?_
      obtain rfl := Option.some.inj h
      exact z_iret M dt_X12_was_1.1.2.2.2
    · have h := gIf hc h
      refine z_iload_n M dt_X12_was_0.2.2.1.2 rfl 3 rfl ?_
      refine z_i2l M dt_X12_was_0.2.2.2.1 ?_
      refine z_lconst (v := 0) M dt_X12_was_0.2.2.2.2 (by decide) ?_
      refine z_ldc2 M dt_X12_was_1.1.1.1.1 u1919 ?_
      refine k_X12_in M u1517 (Nat.le_of_ble_eq_true rfl) (Nat.le_of_ble_eq_true rfl) dt_X12_was_1.1.1.1.2 ?_
      refine z_if_eq (tgt := 45) M dt_X12_was_1.1.1.2.1 (by decide) (fun hc => ?_) (fun hc => ?_)
      · have h := gIt hc h
        refine z_iconst M dt_X12_was_1.1.2.2.1 ki_m1 ?_
        obtain rfl := Option.some.inj h
        exact z_iret M dt_X12_was_1.1.2.2.2
      · have h := gIf hc h
        refine z_iload M dt_X12_was_1.1.1.2.2 4 rfl ?_
        refine k_X12_isYear M u1898 (Nat.le_of_ble_eq_true rfl) (Nat.le_of_ble_eq_true rfl) dt_X12_was_1.1.2.1.1 ?_
        refine z_if_ne (tgt := 47) M dt_X12_was_1.1.2.1.2 (by decide) (fun hc => ?_) (fun hc => ?_)
        · have h := gIf hc h
          refine z_aload_n M dt_X12_was_1.2.1.1.1 rfl 0 rfl ?_
          refine z_iconst M dt_X12_was_1.2.1.1.2 ki_0 ?_
          obtain ⟨t1, hc, h⟩ := gBd h
          refine k_X12_dates M hc u1907 (Nat.le_of_ble_eq_true rfl) (Nat.le_of_ble_eq_true rfl) dt_X12_was_1.2.1.2.1 ?_
          refine z_if_ne (tgt := 58) M dt_X12_was_1.2.1.2.2 (by decide) (fun hc => ?_) (fun hc => ?_)
          · have h := gIf hc h
            refine z_aload_n M dt_X12_was_1.2.2.2.1 rfl 0 rfl ?_
            refine z_iconst M dt_X12_was_1.2.2.2.2 ki_0 ?_
            refine pf_X12_rows M u1961 dt_X12_was_2.1.1.1.1 ?_
            refine z_aload_n M dt_X12_was_2.1.1.1.2 rfl 0 rfl ?_
            refine z_aload_n M dt_X12_was_2.1.1.2.1 rfl 0 rfl ?_
            refine z_iload_n M dt_X12_was_2.1.1.2.2 rfl 2 rfl ?_
            refine z_iload_n M dt_X12_was_2.1.2.1.1 rfl 3 rfl ?_
            refine z_iload M dt_X12_was_2.1.2.1.2 4 rfl ?_
            refine z_aload_n M dt_X12_was_2.1.2.2.1 rfl 0 rfl ?_
            refine gf_X12_lastYear M u2019 dt_X12_was_2.1.2.2.2 ?_
            refine z_iload_n M dt_X12_was_2.2.1.1.1 rfl 1 rfl ?_
            have ⟨hg, h⟩ := gIx_s h
            refine al_M35 (σ := (zI t1.1 1 (0 : Int32))) M (f := (t1.1.2.1 28)) rfl hg dt_X12_was_2.2.1.1.2 ?_
            refine z_isub M dt_X12_was_2.2.1.2.1 ?_
            obtain ⟨t2, hc, h⟩ := gBd h
            refine k_X12_once M hc u1920 (Nat.le_of_ble_eq_true rfl) (Nat.le_of_ble_eq_true rfl) dt_X12_was_2.2.1.2.2 ?_
            obtain ⟨t3, hc, h⟩ := gBd h
            refine k_X12_enters M hc u1708 (Nat.le_of_ble_eq_true rfl) (Nat.le_of_ble_eq_true rfl) dt_X12_was_2.2.2.1.1 ?_
            refine z_aload_n M dt_X12_was_2.2.2.1.2 rfl 0 rfl ?_
            refine z_aload_n M dt_X12_was_2.2.2.2.1 rfl 0 rfl ?_
            refine z_iload_n M dt_X12_was_2.2.2.2.2 rfl 2 rfl ?_
            refine z_iload_n M dt_X12_was_3.1.1.1.1 rfl 3 rfl ?_
            refine z_iload M dt_X12_was_3.1.1.1.2 4 rfl ?_
            refine z_aload_n M dt_X12_was_3.1.1.2 rfl 0 rfl ?_
            refine gf_X12_firstYear M u2018 dt_X12_was_3.1.2.1.1 ?_
            refine z_iload_n M dt_X12_was_3.1.2.1.2 rfl 1 rfl ?_
            have ⟨hg, h⟩ := gIx_s h
            refine al_M34 (σ := t3) M (f := (t3.2.1 27)) rfl hg dt_X12_was_3.1.2.2 ?_
            refine z_isub M dt_X12_was_3.2.1.1.1 ?_
            obtain ⟨t4, hc, h⟩ := gBd h
            refine k_X12_once M hc u1920 (Nat.le_of_ble_eq_true rfl) (Nat.le_of_ble_eq_true rfl) dt_X12_was_3.2.1.1.2 ?_
            obtain ⟨t5, hc, h⟩ := gBd h
            refine k_X12_enters M hc u1708 (Nat.le_of_ble_eq_true rfl) (Nat.le_of_ble_eq_true rfl) dt_X12_was_3.2.1.2 ?_
            refine z_iconst M dt_X12_was_3.2.2.1 ki_0 ?_
            obtain rfl := Option.some.inj h
            exact z_iret M dt_X12_was_3.2.2.2
          · have h := gIt hc h
            refine z_bipush M dt_X12_was_1.2.2.1.1 kb_m2 ?_
            obtain rfl := Option.some.inj h
            exact z_iret M dt_X12_was_1.2.2.1.2
        · have h := gIt hc h
          refine z_iconst M dt_X12_was_1.1.2.2.1 ki_m1 ?_
          obtain rfl := Option.some.inj h
          exact z_iret M dt_X12_was_1.1.2.2.2
set_option maxHeartbeats 4000000 in
set_option maxRecDepth 100000 in
theorem m_X12_told (hD : ∀ σ, va_D A (mW a cy ad σ)) {σ : Zst} {p0 : Int32} {p1 : Int32} {o : (Zst × Int32)} (h : f_X12_told σ p0 p1 = some o) : zT l D zcl (zty cy) A ad (mW a cy ad) yX12_told cX12_told 3 (some .boolean) 3 [.ref (a 0), .int p0, .int p1] σ o.1 (some (.int o.2)) := by
  refine z_met pn_X12 hD (Nat.le_of_ble_eq_true rfl) rfl (fun G M => ?_)
  refine z_aload_n M dt_X12_told_0.1.1.1.1 rfl 0 rfl ?_
  refine z_iconst M dt_X12_told_0.1.1.1.2 ki_0 ?_
  refine pf_X12_thrown M u1960 dt_X12_told_0.1.1.2.1 ?_
  refine z_aload_n M dt_X12_told_0.1.1.2.2 rfl 0 rfl ?_
  refine z_iload_n M dt_X12_told_0.1.2.1.1 rfl 1 rfl ?_
  refine k_X12_isStreet M u1659 (Nat.le_of_ble_eq_true rfl) (Nat.le_of_ble_eq_true rfl) dt_X12_told_0.1.2.1.2 ?_
  refine z_if_eq (tgt := 27) M dt_X12_told_0.1.2.2.1 (by decide) (fun hc => ?_) (fun hc => ?_)
  · have h := gIt hc h
    refine z_iconst M dt_X12_told_0.2.2.1.2 ki_0 ?_
    obtain rfl := Option.some.inj h
    exact z_zret M (nBo (Or.inl rfl)) dt_X12_told_0.2.2.2.1
  · have h := gIf hc h
    refine z_iload_n M dt_X12_told_0.1.2.2.2 rfl 2 rfl ?_
    refine z_i2l M dt_X12_told_0.2.1.1.1 ?_
    refine z_ldc2 M dt_X12_told_0.2.1.1.2 u1554 ?_
    refine z_ldc2 M dt_X12_told_0.2.1.2.1 u1542 ?_
    refine k_X12_in M u1517 (Nat.le_of_ble_eq_true rfl) (Nat.le_of_ble_eq_true rfl) dt_X12_told_0.2.1.2.2 ?_
    refine z_if_ne (tgt := 29) M dt_X12_told_0.2.2.1.1 (by decide) (fun hc => ?_) (fun hc => ?_)
    · have h := gIf hc h
      refine z_aload_n M dt_X12_told_0.2.2.2.2 rfl 0 rfl ?_
      refine gf_X12_toldFrom M u2020 dt_X12_told_1.1.1.1 ?_
      refine z_iload_n M dt_X12_told_1.1.1.2 rfl 1 rfl ?_
      refine z_iload_n M dt_X12_told_1.1.2.1 rfl 2 rfl ?_
      refine z_iconst M dt_X12_told_1.1.2.2 ki_1 ?_
      refine z_iadd M dt_X12_told_1.2.1.1 ?_
      have ⟨hg, h⟩ := gIx_s h
      refine as_M36 (σ := (zI σ 0 (0 : Int32))) M (f := (σ.2.1 29)) rfl hg dt_X12_told_1.2.1.2 ?_
      refine z_iconst M dt_X12_told_1.2.2.1 ki_1 ?_
      obtain rfl := Option.some.inj h
      exact z_zret M (nBo (Or.inr rfl)) dt_X12_told_1.2.2.2
    · have h := gIt hc h
      refine z_iconst M dt_X12_told_0.2.2.1.2 ki_0 ?_
      obtain rfl := Option.some.inj h
      exact z_zret M (nBo (Or.inl rfl)) dt_X12_told_0.2.2.2.1
set_option maxHeartbeats 4000000 in
set_option maxRecDepth 100000 in
theorem wL_X12_does_37 {o : (Zst × Int32)} (M : zM l D zcl (zty cy) A ad (zR 3) (mW a cy ad) RX12 cX12_does 14 (some .int) o.1 (some (.int o.2)) G) {k65 : Zst → Option (Zst × Int32)}  (v1 : Int32) (v2 : Int32) (v3 : Int32) (Hk65 : ∀ (σ : Zst), k65 σ = some o → G σ [(0, .ref (a 0)), (1, .int v1), (2, .int v2), (3, .int v3)] 65 []) :
    ∀ (n37 : Nat) (σ : Zst) (v4 : Int32), L_X12_does_37 k65 v1 v2 v3 n37 σ v4 = some o → G σ [(0, .ref (a 0)), (1, .int v1), (2, .int v2), (3, .int v3), (4, .int v4)] 37 [] := by
  intro n37
  induction n37 with
  | zero => intro σ v4 h; exact nomatch (show (none : Option (Zst × Int32)) = some _ from h)
  | succ n37 ih =>
    intro σ v4 h
    refine z_iload M dt_X12_does_1.1.2.1.1 4 rfl ?_
    refine z_iconst M dt_X12_does_1.1.2.1.2 ki_4 ?_
    refine z_icmp_ge (tgt := 65) M dt_X12_does_1.1.2.2.1 (by decide) (fun hc => ?_) (fun hc => ?_)
    · have h := gIt hc h
      refine z_sub M [0, 1, 2, 3] (lv' := [(0, .ref (a 0)), (1, .int v1), (2, .int v2), (3, .int v3)]) rfl ?_
      exact Hk65 σ h
    · have h := gIf hc h
      refine z_aload_n M dt_X12_does_1.1.2.2.2 rfl 0 rfl ?_
      refine gf_X12_four M u2021 dt_X12_does_1.2.1.1.1 ?_
      refine z_iload M dt_X12_does_1.2.1.1.2 4 rfl ?_
      refine z_lconst (v := 0) M dt_X12_does_1.2.1.2.1 (by decide) ?_
      have ⟨hg, h⟩ := gIx_s h
      refine as_M37 (σ := σ) M (f := (σ.2.2.1 6)) rfl hg dt_X12_does_1.2.1.2.2 ?_
      refine z_aload_n M dt_X12_does_1.2.2.1.1 rfl 0 rfl ?_
      refine gf_X12_fourMany M u2022 dt_X12_does_1.2.2.1.2 ?_
      refine z_iload M dt_X12_does_1.2.2.2.1 4 rfl ?_
      refine z_lconst (v := 0) M dt_X12_does_1.2.2.2.2 (by decide) ?_
      have ⟨hg, h⟩ := gIx_s h
      refine as_M38 (σ := (zL σ 6 (vp_updL (σ.2.2.1 6) (Int32.toNatClampNeg v4) (0 : Int64)))) M (f := (σ.2.2.1 7)) rfl hg dt_X12_does_2.1.1.1.1 ?_
      refine z_iinc (v := (v4 + (1 : Int32))) (lv' := [(4, .int (v4 + (1 : Int32))), (0, .ref (a 0)), (1, .int v1), (2, .int v2), (3, .int v3)]) M dt_X12_does_2.1.1.1.2 (k := 4) rfl (congrArg (fun q => v4 + q) ki_1) (by decide) rfl ?_
      refine z_goto (tgt := 37) M dt_X12_does_2.1.1.2.1 (by decide) ?_
      refine z_sub M [1, 2, 3, 4, 0] (lv' := [(0, .ref (a 0)), (1, .int v1), (2, .int v2), (3, .int v3), (4, .int (v4 + (1 : Int32)))]) rfl ?_
      exact ih (zL (zL σ 6 (vp_updL (σ.2.2.1 6) (Int32.toNatClampNeg v4) (0 : Int64))) 7 (vp_updL (σ.2.2.1 7) (Int32.toNatClampNeg v4) (0 : Int64))) (v4 + (1 : Int32)) h
set_option maxHeartbeats 4000000 in
set_option maxRecDepth 100000 in
theorem wL_X12_does_68 {o : (Zst × Int32)} (M : zM l D zcl (zty cy) A ad (zR 3) (mW a cy ad) RX12 cX12_does 14 (some .int) o.1 (some (.int o.2)) G) {k182 : Zst → Option (Zst × Int32)}  (v1 : Int32) (v2 : Int32) (v3 : Int32) (Hk182 : ∀ (σ : Zst), k182 σ = some o → G σ [(0, .ref (a 0))] 182 []) :
    ∀ (n68 : Nat) (σ : Zst) (v4 : Int32), L_X12_does_68 k182 v1 v2 v3 n68 σ v4 = some o → G σ [(0, .ref (a 0)), (1, .int v1), (2, .int v2), (3, .int v3), (4, .int v4)] 68 [] := by
  intro n68
  induction n68 with
  | zero => intro σ v4 h; exact nomatch (show (none : Option (Zst × Int32)) = some _ from h)
  | succ n68 ih =>
    intro σ v4 h
    refine z_iload M dt_X12_does_2.1.2.1.2 4 rfl ?_
    refine z_bipush M dt_X12_does_2.1.2.2.1 kb_12 ?_
    refine z_aload_n M dt_X12_does_2.1.2.2.2 rfl 0 rfl ?_
    refine gf_X12_streets (σ := σ) M u1970 dt_X12_does_2.2.1.1.1 (v := (σ.1 3)) rfl ?_
    refine z_imul M dt_X12_does_2.2.1.1.2 ?_
    refine z_icmp_ge (tgt := 182) M dt_X12_does_2.2.1.2.1 (by decide) (fun hc => ?_) (fun hc => ?_)
    · have h := gIt hc h
      refine z_sub M [0] (lv' := [(0, .ref (a 0))]) rfl ?_
      exact Hk182 σ h
    · have h := gIf hc h
      refine z_aload_n M dt_X12_does_2.2.1.2.2 rfl 0 rfl ?_
      refine gf_X12_toldFrom M u2020 dt_X12_does_2.2.2.1.1 ?_
      refine z_iload M dt_X12_does_2.2.2.1.2 4 rfl ?_
      refine z_bipush M dt_X12_does_2.2.2.2.1 kb_12 ?_
      refine z_idiv M dt_X12_does_2.2.2.2.2 (by decide) ?_
      have ⟨hg, h⟩ := gIx_s h
      refine al_M36 (σ := σ) M (f := (σ.2.1 29)) rfl hg dt_X12_does_3.1.1.1.1 ?_
      refine z_istore (lv' := [(5, .int ((σ.2.1 29) (Int32.toNatClampNeg (v4 / (12 : Int32))))), (0, .ref (a 0)), (1, .int v1), (2, .int v2), (3, .int v3), (4, .int v4)]) M dt_X12_does_3.1.1.1.2 (by decide) rfl ?_
      refine z_aload_n M dt_X12_does_3.1.1.2.1 rfl 1 rfl ?_
      refine z_iload_n M dt_X12_does_3.1.1.2.2 rfl 2 rfl ?_
      refine z_iload M dt_X12_does_3.1.2.1.1 5 rfl ?_
      refine z_iload_n M dt_X12_does_3.1.2.1.2 rfl 3 rfl ?_
      obtain ⟨t1, hc, h⟩ := gBd h
      refine k_X12_isTold M hc u1704 (Nat.le_of_ble_eq_true rfl) (Nat.le_of_ble_eq_true rfl) dt_X12_does_3.1.2.2.1 ?_
      refine z_if_eq (tgt := 176) M dt_X12_does_3.1.2.2.2 (by decide) (fun hc => ?_) (fun hc => ?_)
      · have h := gIt hc h
        refine z_iinc (v := (v4 + (1 : Int32))) (lv' := [(4, .int (v4 + (1 : Int32))), (5, .int ((σ.2.1 29) (Int32.toNatClampNeg (v4 / (12 : Int32))))), (0, .ref (a 0)), (1, .int v1), (2, .int v2), (3, .int v3)]) M dt_X12_does_6.1.2.1.2 (k := 5) rfl (congrArg (fun q => v4 + q) ki_1) (by decide) rfl ?_
        refine z_goto (tgt := 68) M dt_X12_does_6.1.2.2.1 (by decide) ?_
        refine z_sub M [2, 3, 4, 5, 0] (lv' := [(0, .ref (a 0)), (1, .int v1), (2, .int v2), (3, .int v3), (4, .int (v4 + (1 : Int32)))]) rfl ?_
        exact ih σ (v4 + (1 : Int32)) h
      · have h := gIf hc h
        refine z_iload M dt_X12_does_3.2.1.1.1 0 rfl ?_
        refine z_iload_n M dt_X12_does_3.2.1.1.2 rfl 4 rfl ?_
        refine z_iconst M dt_X12_does_3.2.1.2.1 ki_1 ?_
        refine z_iadd M dt_X12_does_3.2.1.2.2 ?_
        refine z_icmp_gt (tgt := 176) M dt_X12_does_3.2.2.1.1 (by decide) (fun hc => ?_) (fun hc => ?_)
        · have h := gIt hc h
          refine z_iinc (v := (v4 + (1 : Int32))) (lv' := [(4, .int (v4 + (1 : Int32))), (5, .int ((σ.2.1 29) (Int32.toNatClampNeg (v4 / (12 : Int32))))), (0, .ref (a 0)), (1, .int v1), (2, .int v2), (3, .int v3)]) M dt_X12_does_6.1.2.1.2 (k := 5) rfl (congrArg (fun q => v4 + q) ki_1) (by decide) rfl ?_
          refine z_goto (tgt := 68) M dt_X12_does_6.1.2.2.1 (by decide) ?_
          refine z_sub M [2, 3, 4, 5, 0] (lv' := [(0, .ref (a 0)), (1, .int v1), (2, .int v2), (3, .int v3), (4, .int (v4 + (1 : Int32)))]) rfl ?_
          exact ih σ (v4 + (1 : Int32)) h
        · have h := gIf hc h
          refine z_iconst M dt_X12_does_3.2.2.1.2 ki_2 ?_
          refine z_iload M dt_X12_does_3.2.2.2.1 0 rfl ?_
          have hJ3 : G σ [(5, .int ((σ.2.1 29) (Int32.toNatClampNeg (v4 / (12 : Int32))))), (0, .ref (a 0)), (1, .int v1), (2, .int v2), (3, .int v3), (4, .int v4)] 122 [.int (if ((σ.2.1 29) (Int32.toNatClampNeg (v4 / (12 : Int32)))) = (0 : Int32) then (1 : Int32) else (0 : Int32)), .int (2 : Int32)] := by
            refine k_X12_flag M u1675 (Nat.le_of_ble_eq_true rfl) (Nat.le_of_ble_eq_true rfl) dt_X12_does_4.1.1.2.2 ?_
            refine z_imul M dt_X12_does_4.1.2.1.1 ?_
            refine z_iload M dt_X12_does_4.1.2.1.2 5 rfl ?_
            refine z_bipush M dt_X12_does_4.1.2.2.1 kb_12 ?_
            refine z_irem M dt_X12_does_4.1.2.2.2 (by decide) ?_
            refine z_iload_n M dt_X12_does_4.2.1.1.1 rfl 4 rfl ?_
            have hJ5 : G σ [(5, .int ((σ.2.1 29) (Int32.toNatClampNeg (v4 / (12 : Int32))))), (0, .ref (a 0)), (1, .int v1), (2, .int v2), (3, .int v3), (4, .int v4)] 140 [.int (if v3 ≤ (jRem v4 (12 : Int32)) then (0 : Int32) else (1 : Int32)), .int ((2 : Int32) * (f_X12_flag (if ((σ.2.1 29) (Int32.toNatClampNeg (v4 / (12 : Int32)))) = (0 : Int32) then (1 : Int32) else (0 : Int32))))] := by
              refine k_X12_flag M u1675 (Nat.le_of_ble_eq_true rfl) (Nat.le_of_ble_eq_true rfl) dt_X12_does_4.2.2.1.2 ?_
              refine z_iadd M dt_X12_does_4.2.2.2.1 ?_
              refine z_istore (lv' := [(6, .int (((2 : Int32) * (f_X12_flag (if ((σ.2.1 29) (Int32.toNatClampNeg (v4 / (12 : Int32)))) = (0 : Int32) then (1 : Int32) else (0 : Int32)))) + (f_X12_flag (if v3 ≤ (jRem v4 (12 : Int32)) then (0 : Int32) else (1 : Int32))))), (5, .int ((σ.2.1 29) (Int32.toNatClampNeg (v4 / (12 : Int32))))), (0, .ref (a 0)), (1, .int v1), (2, .int v2), (3, .int v3), (4, .int v4)]) M dt_X12_does_4.2.2.2.2 (by decide) rfl ?_
              refine z_aload_n M dt_X12_does_5.1.1.1.1 rfl 2 rfl ?_
              refine gf_X12_four M u2021 dt_X12_does_5.1.1.1.2 ?_
              refine z_iload M dt_X12_does_5.1.1.2.1 0 rfl ?_
              refine z_dup2_11 M dt_X12_does_5.1.1.2.2 rfl rfl ?_
              have ⟨hg, h⟩ := gIx_s h
              refine al_M37 (σ := σ) M (f := (σ.2.2.1 6)) rfl hg dt_X12_does_5.1.2.1.1 ?_
              refine z_aload_n M dt_X12_does_5.1.2.1.2 rfl 2 rfl ?_
              refine z_iload_n M dt_X12_does_5.1.2.2.1 rfl 3 rfl ?_
              refine z_iload M dt_X12_does_5.1.2.2.2 6 rfl ?_
              refine z_iload_n M dt_X12_does_5.2.1.1.1 rfl 4 rfl ?_
              obtain ⟨t6, hc, h⟩ := gBd h
              refine k_X12_at M hc u1556 (Nat.le_of_ble_eq_true rfl) (Nat.le_of_ble_eq_true rfl) dt_X12_does_5.2.1.1.2 ?_
              refine z_i2l M dt_X12_does_5.2.1.2.1 ?_
              refine z_ladd M dt_X12_does_5.2.1.2.2 ?_
              have ⟨hg, h⟩ := gIx_s h
              refine as_M37 (σ := σ) M (f := (σ.2.2.1 6)) rfl hg dt_X12_does_5.2.2.1.1 ?_
              refine z_aload_n M dt_X12_does_5.2.2.1.2 rfl 2 rfl ?_
              refine gf_X12_fourMany M u2022 dt_X12_does_5.2.2.2.1 ?_
              refine z_iload M dt_X12_does_5.2.2.2.2 0 rfl ?_
              refine z_dup2_11 M dt_X12_does_6.1.1.1.1 rfl rfl ?_
              have ⟨hg, h⟩ := gIx_s h
              refine al_M38 (σ := (zL σ 6 (vp_updL (σ.2.2.1 6) (Int32.toNatClampNeg (((2 : Int32) * (f_X12_flag (if ((σ.2.1 29) (Int32.toNatClampNeg (v4 / (12 : Int32)))) = (0 : Int32) then (1 : Int32) else (0 : Int32)))) + (f_X12_flag (if v3 ≤ (jRem v4 (12 : Int32)) then (0 : Int32) else (1 : Int32))))) (((σ.2.2.1 6) (Int32.toNatClampNeg (((2 : Int32) * (f_X12_flag (if ((σ.2.1 29) (Int32.toNatClampNeg (v4 / (12 : Int32)))) = (0 : Int32) then (1 : Int32) else (0 : Int32)))) + (f_X12_flag (if v3 ≤ (jRem v4 (12 : Int32)) then (0 : Int32) else (1 : Int32)))))) + (Int32.toInt64 t6))))) M (f := (σ.2.2.1 7)) rfl hg dt_X12_does_6.1.1.1.2 ?_
              refine z_lconst (v := 1) M dt_X12_does_6.1.1.2.1 (by decide) ?_
              refine z_ladd M dt_X12_does_6.1.1.2.2 ?_
              have ⟨hg, h⟩ := gIx_s h
              refine as_M38 (σ := (zL σ 6 (vp_updL (σ.2.2.1 6) (Int32.toNatClampNeg (((2 : Int32) * (f_X12_flag (if ((σ.2.1 29) (Int32.toNatClampNeg (v4 / (12 : Int32)))) = (0 : Int32) then (1 : Int32) else (0 : Int32)))) + (f_X12_flag (if v3 ≤ (jRem v4 (12 : Int32)) then (0 : Int32) else (1 : Int32))))) (((σ.2.2.1 6) (Int32.toNatClampNeg (((2 : Int32) * (f_X12_flag (if ((σ.2.1 29) (Int32.toNatClampNeg (v4 / (12 : Int32)))) = (0 : Int32) then (1 : Int32) else (0 : Int32)))) + (f_X12_flag (if v3 ≤ (jRem v4 (12 : Int32)) then (0 : Int32) else (1 : Int32)))))) + (Int32.toInt64 t6))))) M (f := (σ.2.2.1 7)) rfl hg dt_X12_does_6.1.2.1.1 ?_
              refine z_iinc (v := (v4 + (1 : Int32))) (lv' := [(4, .int (v4 + (1 : Int32))), (6, .int (((2 : Int32) * (f_X12_flag (if ((σ.2.1 29) (Int32.toNatClampNeg (v4 / (12 : Int32)))) = (0 : Int32) then (1 : Int32) else (0 : Int32)))) + (f_X12_flag (if v3 ≤ (jRem v4 (12 : Int32)) then (0 : Int32) else (1 : Int32))))), (5, .int ((σ.2.1 29) (Int32.toNatClampNeg (v4 / (12 : Int32))))), (0, .ref (a 0)), (1, .int v1), (2, .int v2), (3, .int v3)]) M dt_X12_does_6.1.2.1.2 (k := 6) rfl (congrArg (fun q => v4 + q) ki_1) (by decide) rfl ?_
              refine z_goto (tgt := 68) M dt_X12_does_6.1.2.2.1 (by decide) ?_
              refine z_sub M [3, 4, 5, 6, 0] (lv' := [(0, .ref (a 0)), (1, .int v1), (2, .int v2), (3, .int v3), (4, .int (v4 + (1 : Int32)))]) rfl ?_
              exact ih (zL (zL σ 6 (vp_updL (σ.2.2.1 6) (Int32.toNatClampNeg (((2 : Int32) * (f_X12_flag (if ((σ.2.1 29) (Int32.toNatClampNeg (v4 / (12 : Int32)))) = (0 : Int32) then (1 : Int32) else (0 : Int32)))) + (f_X12_flag (if v3 ≤ (jRem v4 (12 : Int32)) then (0 : Int32) else (1 : Int32))))) (((σ.2.2.1 6) (Int32.toNatClampNeg (((2 : Int32) * (f_X12_flag (if ((σ.2.1 29) (Int32.toNatClampNeg (v4 / (12 : Int32)))) = (0 : Int32) then (1 : Int32) else (0 : Int32)))) + (f_X12_flag (if v3 ≤ (jRem v4 (12 : Int32)) then (0 : Int32) else (1 : Int32)))))) + (Int32.toInt64 t6)))) 7 (vp_updL (σ.2.2.1 7) (Int32.toNatClampNeg (((2 : Int32) * (f_X12_flag (if ((σ.2.1 29) (Int32.toNatClampNeg (v4 / (12 : Int32)))) = (0 : Int32) then (1 : Int32) else (0 : Int32)))) + (f_X12_flag (if v3 ≤ (jRem v4 (12 : Int32)) then (0 : Int32) else (1 : Int32))))) (((σ.2.2.1 7) (Int32.toNatClampNeg (((2 : Int32) * (f_X12_flag (if ((σ.2.1 29) (Int32.toNatClampNeg (v4 / (12 : Int32)))) = (0 : Int32) then (1 : Int32) else (0 : Int32)))) + (f_X12_flag (if v3 ≤ (jRem v4 (12 : Int32)) then (0 : Int32) else (1 : Int32)))))) + (1 : Int64)))) (v4 + (1 : Int32)) h
            refine z_icmp_ge (tgt := 139) M dt_X12_does_4.2.1.1.2 (by decide) (fun hc4 => ?_) (fun hc4 => ?_)
            · refine z_iconst M dt_X12_does_4.2.2.1.1 ki_0 ?_
              exact (zTt hc4 hJ5)
            · refine z_iconst M dt_X12_does_4.2.1.2.1 ki_1 ?_
              refine z_goto (tgt := 140) M dt_X12_does_4.2.1.2.2 (by decide) ?_
              exact (zTf hc4 hJ5)
          refine z_if_ne (tgt := 121) M dt_X12_does_3.2.2.2.2 (by decide) (fun hc2 => ?_) (fun hc2 => ?_)
          · refine z_iconst M dt_X12_does_4.1.1.2.1 ki_0 ?_
            exact (zTf hc2 hJ3)
          · refine z_iconst M dt_X12_does_4.1.1.1.1 ki_1 ?_
            refine z_goto (tgt := 122) M dt_X12_does_4.1.1.1.2 (by decide) ?_
            exact (zTt hc2 hJ3)
set_option maxHeartbeats 4000000 in
set_option maxRecDepth 100000 in
theorem wL_X12_does_185 {o : (Zst × Int32)} (M : zM l D zcl (zty cy) A ad (zR 3) (mW a cy ad) RX12 cX12_does 14 (some .int) o.1 (some (.int o.2)) G) {k212 : Option (Zst × Int32)} (σ : Zst)  (Hk212 : k212  = some o → G σ [(0, .ref (a 0))] 212 []) :
    ∀ (n185 : Nat) (v4 : Int32), L_X12_does_185 k212 σ n185 v4 = some o → G σ [(0, .ref (a 0)), (4, .int v4)] 185 [] := by
  intro n185
  induction n185 with
  | zero => intro v4 h; exact nomatch (show (none : Option (Zst × Int32)) = some _ from h)
  | succ n185 ih =>
    intro v4 h
    refine z_iload M dt_X12_does_6.2.1.1.2 1 rfl ?_
    refine z_iconst M dt_X12_does_6.2.1.2.1 ki_4 ?_
    refine z_icmp_ge (tgt := 212) M dt_X12_does_6.2.1.2.2 (by decide) (fun hc => ?_) (fun hc => ?_)
    · have h := gIt hc h
      refine z_sub M [0] (lv' := [(0, .ref (a 0))]) rfl ?_
      exact Hk212  h
    · have h := gIf hc h
      refine z_aload_n M dt_X12_does_6.2.2.1.1 rfl 0 rfl ?_
      refine gf_X12_fourMany M u2022 dt_X12_does_6.2.2.1.2 ?_
      refine z_iload M dt_X12_does_6.2.2.2.1 1 rfl ?_
      have ⟨hg, h⟩ := gIx_s h
      refine al_M38 (σ := σ) M (f := (σ.2.2.1 7)) rfl hg dt_X12_does_6.2.2.2.2 ?_
      refine z_lconst (v := 0) M dt_X12_does_7.1.1.1.1 (by decide) ?_
      refine z_lcmp_ne (tgt := 206) M dt_X12_does_7.1.1.1.2 dt_X12_does_7.1.1.2.1 (by decide) (fun hc => ?_) (fun hc => ?_)
      · have h := gIf hc h
        refine z_iinc (v := (v4 + (1 : Int32))) (lv' := [(4, .int (v4 + (1 : Int32))), (0, .ref (a 0))]) M dt_X12_does_7.1.2.1.2 (k := 1) rfl (congrArg (fun q => v4 + q) ki_1) (by decide) rfl ?_
        refine z_goto (tgt := 185) M dt_X12_does_7.1.2.2.1 (by decide) ?_
        refine z_sub M [1, 0] (lv' := [(0, .ref (a 0)), (4, .int (v4 + (1 : Int32)))]) rfl ?_
        exact ih (v4 + (1 : Int32)) h
      · have h := gIt hc h
        refine z_bipush M dt_X12_does_7.1.1.2.2 kb_m2 ?_
        obtain rfl := Option.some.inj h
        exact z_iret M dt_X12_does_7.1.2.1.1
set_option maxHeartbeats 4000000 in
set_option maxRecDepth 100000 in
theorem wJ_X12_does_212 {o : (Zst × Int32)} (M : zM l D zcl (zty cy) A ad (zR 3) (mW a cy ad) RX12 cX12_does 14 (some .int) o.1 (some (.int o.2)) G) (σ : Zst)   (h : J_X12_does_212 σ = some o) : G σ [(0, .ref (a 0))] 212 [] := by
  refine z_aload_n M dt_X12_does_7.1.2.2.2 rfl 0 rfl ?_
  refine gf_X12_four M u2021 dt_X12_does_7.2.1.1.1 ?_
  refine z_iconst M dt_X12_does_7.2.1.1.2 ki_0 ?_
  refine al_M37 (σ := σ) M (f := (σ.2.2.1 6)) rfl (show ¬ (_ ∨ _) by decide) dt_X12_does_7.2.1.2.1 ?_
  refine z_aload_n M dt_X12_does_7.2.1.2.2 rfl 0 rfl ?_
  refine gf_X12_fourMany M u2022 dt_X12_does_7.2.2.1.1 ?_
  refine z_iconst M dt_X12_does_7.2.2.1.2 ki_1 ?_
  refine al_M38 (σ := σ) M (f := (σ.2.2.1 7)) rfl (show ¬ (_ ∨ _) by decide) dt_X12_does_7.2.2.2.1 ?_
  refine z_lmul M dt_X12_does_7.2.2.2.2 ?_
  refine z_aload_n M dt_X12_does_8.1.1.1.1 rfl 0 rfl ?_
  refine gf_X12_four M u2021 dt_X12_does_8.1.1.1.2 ?_
  refine z_iconst M dt_X12_does_8.1.1.2.1 ki_1 ?_
  refine al_M37 (σ := σ) M (f := (σ.2.2.1 6)) rfl (show ¬ (_ ∨ _) by decide) dt_X12_does_8.1.1.2.2 ?_
  refine z_aload_n M dt_X12_does_8.1.2.1.1 rfl 0 rfl ?_
  refine gf_X12_fourMany M u2022 dt_X12_does_8.1.2.1.2 ?_
  refine z_iconst M dt_X12_does_8.1.2.2.1 ki_0 ?_
  refine al_M38 (σ := σ) M (f := (σ.2.2.1 7)) rfl (show ¬ (_ ∨ _) by decide) dt_X12_does_8.1.2.2.2 ?_
  refine z_lmul M dt_X12_does_8.2.1.1.1 ?_
  refine z_lsub M dt_X12_does_8.2.1.1.2 ?_
  refine z_lstore (lv' := [(4, .long ((((σ.2.2.1 6) (Int32.toNatClampNeg (0 : Int32))) * ((σ.2.2.1 7) (Int32.toNatClampNeg (1 : Int32)))) - (((σ.2.2.1 6) (Int32.toNatClampNeg (1 : Int32))) * ((σ.2.2.1 7) (Int32.toNatClampNeg (0 : Int32)))))), (0, .ref (a 0))]) M dt_X12_does_8.2.1.2.1 (by decide) rfl ?_
  refine z_aload_n M dt_X12_does_8.2.1.2.2 rfl 1 rfl ?_
  refine gf_X12_fourMany M u2022 dt_X12_does_8.2.2.1.1 ?_
  refine z_iconst M dt_X12_does_8.2.2.1.2 ki_0 ?_
  refine al_M38 (σ := σ) M (f := (σ.2.2.1 7)) rfl (show ¬ (_ ∨ _) by decide) dt_X12_does_8.2.2.2.1 ?_
  refine z_aload_n M dt_X12_does_8.2.2.2.2 rfl 1 rfl ?_
  refine gf_X12_fourMany M u2022 dt_X12_does_9.1.1.1.1 ?_
  refine z_iconst M dt_X12_does_9.1.1.1.2 ki_1 ?_
  refine al_M38 (σ := σ) M (f := (σ.2.2.1 7)) rfl (show ¬ (_ ∨ _) by decide) dt_X12_does_9.1.1.2.1 ?_
  refine z_lmul M dt_X12_does_9.1.1.2.2 ?_
  refine z_lstore (lv' := [(6, .long (((σ.2.2.1 7) (Int32.toNatClampNeg (0 : Int32))) * ((σ.2.2.1 7) (Int32.toNatClampNeg (1 : Int32))))), (4, .long ((((σ.2.2.1 6) (Int32.toNatClampNeg (0 : Int32))) * ((σ.2.2.1 7) (Int32.toNatClampNeg (1 : Int32)))) - (((σ.2.2.1 6) (Int32.toNatClampNeg (1 : Int32))) * ((σ.2.2.1 7) (Int32.toNatClampNeg (0 : Int32)))))), (0, .ref (a 0))]) M dt_X12_does_9.1.2.1.1 (by decide) rfl ?_
  refine z_aload_n M dt_X12_does_9.1.2.1.2 rfl 2 rfl ?_
  refine gf_X12_four M u2021 dt_X12_does_9.1.2.2.1 ?_
  refine z_iconst M dt_X12_does_9.1.2.2.2 ki_2 ?_
  refine al_M37 (σ := σ) M (f := (σ.2.2.1 6)) rfl (show ¬ (_ ∨ _) by decide) dt_X12_does_9.2.1.1.1 ?_
  refine z_aload_n M dt_X12_does_9.2.1.1.2 rfl 2 rfl ?_
  refine gf_X12_fourMany M u2022 dt_X12_does_9.2.1.2.1 ?_
  refine z_iconst M dt_X12_does_9.2.1.2.2 ki_3 ?_
  refine al_M38 (σ := σ) M (f := (σ.2.2.1 7)) rfl (show ¬ (_ ∨ _) by decide) dt_X12_does_9.2.2.1.1 ?_
  refine z_lmul M dt_X12_does_9.2.2.1.2 ?_
  refine z_aload_n M dt_X12_does_9.2.2.2.1 rfl 2 rfl ?_
  refine gf_X12_four M u2021 dt_X12_does_9.2.2.2.2 ?_
  refine z_iconst M dt_X12_does_10.1.1.1.1 ki_3 ?_
  refine al_M37 (σ := σ) M (f := (σ.2.2.1 6)) rfl (show ¬ (_ ∨ _) by decide) dt_X12_does_10.1.1.1.2 ?_
  refine z_aload_n M dt_X12_does_10.1.1.2.1 rfl 2 rfl ?_
  refine gf_X12_fourMany M u2022 dt_X12_does_10.1.1.2.2 ?_
  refine z_iconst M dt_X12_does_10.1.2.1.1 ki_2 ?_
  refine al_M38 (σ := σ) M (f := (σ.2.2.1 7)) rfl (show ¬ (_ ∨ _) by decide) dt_X12_does_10.1.2.1.2 ?_
  refine z_lmul M dt_X12_does_10.1.2.2.1 ?_
  refine z_lsub M dt_X12_does_10.1.2.2.2 ?_
  refine z_lstore (lv' := [(8, .long ((((σ.2.2.1 6) (Int32.toNatClampNeg (2 : Int32))) * ((σ.2.2.1 7) (Int32.toNatClampNeg (3 : Int32)))) - (((σ.2.2.1 6) (Int32.toNatClampNeg (3 : Int32))) * ((σ.2.2.1 7) (Int32.toNatClampNeg (2 : Int32)))))), (6, .long (((σ.2.2.1 7) (Int32.toNatClampNeg (0 : Int32))) * ((σ.2.2.1 7) (Int32.toNatClampNeg (1 : Int32))))), (4, .long ((((σ.2.2.1 6) (Int32.toNatClampNeg (0 : Int32))) * ((σ.2.2.1 7) (Int32.toNatClampNeg (1 : Int32)))) - (((σ.2.2.1 6) (Int32.toNatClampNeg (1 : Int32))) * ((σ.2.2.1 7) (Int32.toNatClampNeg (0 : Int32)))))), (0, .ref (a 0))]) M dt_X12_does_10.2.1.1.1 (by decide) rfl ?_
  refine z_aload_n M dt_X12_does_10.2.1.1.2 rfl 3 rfl ?_
  refine gf_X12_fourMany M u2022 dt_X12_does_10.2.1.2.1 ?_
  refine z_iconst M dt_X12_does_10.2.1.2.2 ki_2 ?_
  refine al_M38 (σ := σ) M (f := (σ.2.2.1 7)) rfl (show ¬ (_ ∨ _) by decide) dt_X12_does_10.2.2.1.1 ?_
  refine z_aload_n M dt_X12_does_10.2.2.1.2 rfl 3 rfl ?_
  refine gf_X12_fourMany M u2022 dt_X12_does_10.2.2.2.1 ?_
  refine z_iconst M dt_X12_does_10.2.2.2.2 ki_3 ?_
  refine al_M38 (σ := σ) M (f := (σ.2.2.1 7)) rfl (show ¬ (_ ∨ _) by decide) dt_X12_does_11.1.1.1.1 ?_
  refine z_lmul M dt_X12_does_11.1.1.1.2 ?_
  refine z_lstore (lv' := [(10, .long (((σ.2.2.1 7) (Int32.toNatClampNeg (2 : Int32))) * ((σ.2.2.1 7) (Int32.toNatClampNeg (3 : Int32))))), (8, .long ((((σ.2.2.1 6) (Int32.toNatClampNeg (2 : Int32))) * ((σ.2.2.1 7) (Int32.toNatClampNeg (3 : Int32)))) - (((σ.2.2.1 6) (Int32.toNatClampNeg (3 : Int32))) * ((σ.2.2.1 7) (Int32.toNatClampNeg (2 : Int32)))))), (6, .long (((σ.2.2.1 7) (Int32.toNatClampNeg (0 : Int32))) * ((σ.2.2.1 7) (Int32.toNatClampNeg (1 : Int32))))), (4, .long ((((σ.2.2.1 6) (Int32.toNatClampNeg (0 : Int32))) * ((σ.2.2.1 7) (Int32.toNatClampNeg (1 : Int32)))) - (((σ.2.2.1 6) (Int32.toNatClampNeg (1 : Int32))) * ((σ.2.2.1 7) (Int32.toNatClampNeg (0 : Int32)))))), (0, .ref (a 0))]) M dt_X12_does_11.1.1.2.1 (by decide) rfl ?_
  refine z_lload M dt_X12_does_11.1.1.2.2 3 rfl ?_
  refine z_lload M dt_X12_does_11.1.2.1.1 0 rfl ?_
  refine z_lmul M dt_X12_does_11.1.2.1.2 ?_
  refine z_lload M dt_X12_does_11.1.2.2.1 1 rfl ?_
  refine z_lload M dt_X12_does_11.1.2.2.2 2 rfl ?_
  refine z_lmul M dt_X12_does_11.2.1.1.1 ?_
  refine z_lsub M dt_X12_does_11.2.1.1.2 ?_
  refine z_lstore (lv' := [(12, .long ((((((σ.2.2.1 6) (Int32.toNatClampNeg (0 : Int32))) * ((σ.2.2.1 7) (Int32.toNatClampNeg (1 : Int32)))) - (((σ.2.2.1 6) (Int32.toNatClampNeg (1 : Int32))) * ((σ.2.2.1 7) (Int32.toNatClampNeg (0 : Int32))))) * (((σ.2.2.1 7) (Int32.toNatClampNeg (2 : Int32))) * ((σ.2.2.1 7) (Int32.toNatClampNeg (3 : Int32))))) - (((((σ.2.2.1 6) (Int32.toNatClampNeg (2 : Int32))) * ((σ.2.2.1 7) (Int32.toNatClampNeg (3 : Int32)))) - (((σ.2.2.1 6) (Int32.toNatClampNeg (3 : Int32))) * ((σ.2.2.1 7) (Int32.toNatClampNeg (2 : Int32))))) * (((σ.2.2.1 7) (Int32.toNatClampNeg (0 : Int32))) * ((σ.2.2.1 7) (Int32.toNatClampNeg (1 : Int32))))))), (10, .long (((σ.2.2.1 7) (Int32.toNatClampNeg (2 : Int32))) * ((σ.2.2.1 7) (Int32.toNatClampNeg (3 : Int32))))), (8, .long ((((σ.2.2.1 6) (Int32.toNatClampNeg (2 : Int32))) * ((σ.2.2.1 7) (Int32.toNatClampNeg (3 : Int32)))) - (((σ.2.2.1 6) (Int32.toNatClampNeg (3 : Int32))) * ((σ.2.2.1 7) (Int32.toNatClampNeg (2 : Int32)))))), (6, .long (((σ.2.2.1 7) (Int32.toNatClampNeg (0 : Int32))) * ((σ.2.2.1 7) (Int32.toNatClampNeg (1 : Int32))))), (4, .long ((((σ.2.2.1 6) (Int32.toNatClampNeg (0 : Int32))) * ((σ.2.2.1 7) (Int32.toNatClampNeg (1 : Int32)))) - (((σ.2.2.1 6) (Int32.toNatClampNeg (1 : Int32))) * ((σ.2.2.1 7) (Int32.toNatClampNeg (0 : Int32)))))), (0, .ref (a 0))]) M dt_X12_does_11.2.1.2.1 (by decide) rfl ?_
  refine z_aload_n M dt_X12_does_11.2.1.2.2 rfl 5 rfl ?_
  refine z_iconst M dt_X12_does_11.2.2.1.1 ki_0 ?_
  refine pf_X12_rows M u1961 dt_X12_does_11.2.2.1.2 ?_
  refine z_aload_n M dt_X12_does_11.2.2.2.1 rfl 5 rfl ?_
  refine z_lload M dt_X12_does_11.2.2.2.2 0 rfl ?_
  refine z_lload M dt_X12_does_12.1.1.1.1 3 rfl ?_
  refine z_lload M dt_X12_does_12.1.1.1.2 1 rfl ?_
  refine z_lmul M dt_X12_does_12.1.1.2.1 ?_
  obtain ⟨t7, hc, h⟩ := gBd h
  refine k_X12_entersFraction M hc u1716 (Nat.le_of_ble_eq_true rfl) (Nat.le_of_ble_eq_true rfl) dt_X12_does_12.1.1.2.2 ?_
  refine z_lload M dt_X12_does_12.1.2.1.1 0 rfl ?_
  refine z_lconst (v := 0) M dt_X12_does_12.1.2.1.2 (by decide) ?_
  have hJ10 : G t7 [(12, .long ((((((σ.2.2.1 6) (Int32.toNatClampNeg (0 : Int32))) * ((σ.2.2.1 7) (Int32.toNatClampNeg (1 : Int32)))) - (((σ.2.2.1 6) (Int32.toNatClampNeg (1 : Int32))) * ((σ.2.2.1 7) (Int32.toNatClampNeg (0 : Int32))))) * (((σ.2.2.1 7) (Int32.toNatClampNeg (2 : Int32))) * ((σ.2.2.1 7) (Int32.toNatClampNeg (3 : Int32))))) - (((((σ.2.2.1 6) (Int32.toNatClampNeg (2 : Int32))) * ((σ.2.2.1 7) (Int32.toNatClampNeg (3 : Int32)))) - (((σ.2.2.1 6) (Int32.toNatClampNeg (3 : Int32))) * ((σ.2.2.1 7) (Int32.toNatClampNeg (2 : Int32))))) * (((σ.2.2.1 7) (Int32.toNatClampNeg (0 : Int32))) * ((σ.2.2.1 7) (Int32.toNatClampNeg (1 : Int32))))))), (10, .long (((σ.2.2.1 7) (Int32.toNatClampNeg (2 : Int32))) * ((σ.2.2.1 7) (Int32.toNatClampNeg (3 : Int32))))), (8, .long ((((σ.2.2.1 6) (Int32.toNatClampNeg (2 : Int32))) * ((σ.2.2.1 7) (Int32.toNatClampNeg (3 : Int32)))) - (((σ.2.2.1 6) (Int32.toNatClampNeg (3 : Int32))) * ((σ.2.2.1 7) (Int32.toNatClampNeg (2 : Int32)))))), (6, .long (((σ.2.2.1 7) (Int32.toNatClampNeg (0 : Int32))) * ((σ.2.2.1 7) (Int32.toNatClampNeg (1 : Int32))))), (4, .long ((((σ.2.2.1 6) (Int32.toNatClampNeg (0 : Int32))) * ((σ.2.2.1 7) (Int32.toNatClampNeg (1 : Int32)))) - (((σ.2.2.1 6) (Int32.toNatClampNeg (1 : Int32))) * ((σ.2.2.1 7) (Int32.toNatClampNeg (0 : Int32)))))), (0, .ref (a 0))] 352 [.int (if ((((((σ.2.2.1 6) (Int32.toNatClampNeg (0 : Int32))) * ((σ.2.2.1 7) (Int32.toNatClampNeg (1 : Int32)))) - (((σ.2.2.1 6) (Int32.toNatClampNeg (1 : Int32))) * ((σ.2.2.1 7) (Int32.toNatClampNeg (0 : Int32))))) * (((σ.2.2.1 7) (Int32.toNatClampNeg (2 : Int32))) * ((σ.2.2.1 7) (Int32.toNatClampNeg (3 : Int32))))) - (((((σ.2.2.1 6) (Int32.toNatClampNeg (2 : Int32))) * ((σ.2.2.1 7) (Int32.toNatClampNeg (3 : Int32)))) - (((σ.2.2.1 6) (Int32.toNatClampNeg (3 : Int32))) * ((σ.2.2.1 7) (Int32.toNatClampNeg (2 : Int32))))) * (((σ.2.2.1 7) (Int32.toNatClampNeg (0 : Int32))) * ((σ.2.2.1 7) (Int32.toNatClampNeg (1 : Int32)))))) ≤ (0 : Int64) then (if (0 : Int64) ≤ ((((((σ.2.2.1 6) (Int32.toNatClampNeg (0 : Int32))) * ((σ.2.2.1 7) (Int32.toNatClampNeg (1 : Int32)))) - (((σ.2.2.1 6) (Int32.toNatClampNeg (1 : Int32))) * ((σ.2.2.1 7) (Int32.toNatClampNeg (0 : Int32))))) * (((σ.2.2.1 7) (Int32.toNatClampNeg (2 : Int32))) * ((σ.2.2.1 7) (Int32.toNatClampNeg (3 : Int32))))) - (((((σ.2.2.1 6) (Int32.toNatClampNeg (2 : Int32))) * ((σ.2.2.1 7) (Int32.toNatClampNeg (3 : Int32)))) - (((σ.2.2.1 6) (Int32.toNatClampNeg (3 : Int32))) * ((σ.2.2.1 7) (Int32.toNatClampNeg (2 : Int32))))) * (((σ.2.2.1 7) (Int32.toNatClampNeg (0 : Int32))) * ((σ.2.2.1 7) (Int32.toNatClampNeg (1 : Int32)))))) then (0 : Int32) else (2 : Int32)) else (1 : Int32))] := by
    obtain rfl := Option.some.inj h
    exact z_iret M dt_X12_does_13.2
  refine z_lcmp_le (tgt := 340) M dt_X12_does_12.1.2.2.1 dt_X12_does_12.1.2.2.2 (by decide) (fun hc8 => ?_) (fun hc8 => ?_)
  · refine z_lload M dt_X12_does_12.2.1.2.1 0 rfl ?_
    refine z_lconst (v := 0) M dt_X12_does_12.2.1.2.2 (by decide) ?_
    refine z_lcmp_ge (tgt := 351) M dt_X12_does_12.2.2.1.1 dt_X12_does_12.2.2.1.2 (by decide) (fun hc9 => ?_) (fun hc9 => ?_)
    · refine z_iconst M dt_X12_does_13.1 ki_0 ?_
      exact (zTt hc9 (zTt hc8 hJ10))
    · refine z_iconst M dt_X12_does_12.2.2.2.1 ki_2 ?_
      refine z_goto (tgt := 352) M dt_X12_does_12.2.2.2.2 (by decide) ?_
      exact (zTf hc9 (zTt hc8 hJ10))
  · refine z_iconst M dt_X12_does_12.2.1.1.1 ki_1 ?_
    refine z_goto (tgt := 352) M dt_X12_does_12.2.1.1.2 (by decide) ?_
    exact (zTf hc8 hJ10)
set_option maxHeartbeats 4000000 in
set_option maxRecDepth 100000 in
theorem wJ_X12_does_182 {o : (Zst × Int32)} (M : zM l D zcl (zty cy) A ad (zR 3) (mW a cy ad) RX12 cX12_does 14 (some .int) o.1 (some (.int o.2)) G) (σ : Zst)   (h : J_X12_does_182 σ = some o) : G σ [(0, .ref (a 0))] 182 [] := by
  refine z_iconst M dt_X12_does_6.1.2.2.2 ki_0 ?_
  refine z_istore (lv' := [(4, .int (0 : Int32)), (0, .ref (a 0))]) M dt_X12_does_6.2.1.1.1 (by decide) rfl ?_
  refine z_sub M [1, 0] (lv' := [(0, .ref (a 0)), (4, .int (0 : Int32))]) rfl ?_
  exact wL_X12_does_185 M (k212 := (J_X12_does_212 σ)) σ (fun  h => by
      exact wJ_X12_does_212 M  σ h) zFu (0 : Int32) h
set_option maxHeartbeats 4000000 in
set_option maxRecDepth 100000 in
theorem wJ_X12_does_65 {o : (Zst × Int32)} (M : zM l D zcl (zty cy) A ad (zR 3) (mW a cy ad) RX12 cX12_does 14 (some .int) o.1 (some (.int o.2)) G) (σ : Zst) (v1 : Int32) (v2 : Int32) (v3 : Int32)  (h : J_X12_does_65 σ v1 v2 v3 = some o) : G σ [(0, .ref (a 0)), (1, .int v1), (2, .int v2), (3, .int v3)] 65 [] := by
  refine z_iconst M dt_X12_does_2.1.1.2.2 ki_0 ?_
  refine z_istore (lv' := [(4, .int (0 : Int32)), (0, .ref (a 0)), (1, .int v1), (2, .int v2), (3, .int v3)]) M dt_X12_does_2.1.2.1.1 (by decide) rfl ?_
  refine z_sub M [1, 2, 3, 4, 0] (lv' := [(0, .ref (a 0)), (1, .int v1), (2, .int v2), (3, .int v3), (4, .int (0 : Int32))]) rfl ?_
  exact wL_X12_does_68 M (k182 := (fun σ11 => J_X12_does_182 σ11)) v1 v2 v3 (fun σ11 h => by
      exact wJ_X12_does_182 M  σ11 h) zFu σ (0 : Int32) h
set_option maxHeartbeats 4000000 in
set_option maxRecDepth 100000 in
theorem m_X12_does (hD : ∀ σ, va_D A (mW a cy ad σ)) {σ : Zst} {p0 : Int32} {p1 : Int32} {p2 : Int32} {o : (Zst × Int32)} (h : f_X12_does σ p0 p1 p2 = some o) : zT l D zcl (zty cy) A ad (mW a cy ad) yX12_does cX12_does 14 (some .int) 3 [.ref (a 0), .int p0, .int p1, .int p2] σ o.1 (some (.int o.2)) := by
  refine z_met pn_X12 hD (Nat.le_of_ble_eq_true rfl) rfl (fun G M => ?_)
  refine z_aload_n M dt_X12_does_0.1.1.1.1 rfl 0 rfl ?_
  refine z_iconst M dt_X12_does_0.1.1.1.2 ki_0 ?_
  refine pf_X12_thrown M u1960 dt_X12_does_0.1.1.2.1 ?_
  refine z_iload_n M dt_X12_does_0.1.1.2.2 rfl 1 rfl ?_
  refine k_X12_isKind M u1547 (Nat.le_of_ble_eq_true rfl) (Nat.le_of_ble_eq_true rfl) dt_X12_does_0.1.2.1.1 ?_
  refine z_if_eq (tgt := 32) M dt_X12_does_0.1.2.1.2 (by decide) (fun hc => ?_) (fun hc => ?_)
  · have h := gIt hc h
    refine z_iconst M dt_X12_does_1.1.1.1.1 ki_m1 ?_
    obtain rfl := Option.some.inj h
    exact z_iret M dt_X12_does_1.1.1.1.2
  · have h := gIf hc h
    refine z_aload_n M dt_X12_does_0.1.2.2.1 rfl 0 rfl ?_
    refine z_iload_n M dt_X12_does_0.1.2.2.2 rfl 2 rfl ?_
    refine k_X12_isSort M u1526 (Nat.le_of_ble_eq_true rfl) (Nat.le_of_ble_eq_true rfl) dt_X12_does_0.2.1.1.1 ?_
    refine z_if_eq (tgt := 32) M dt_X12_does_0.2.1.1.2 (by decide) (fun hc => ?_) (fun hc => ?_)
    · have h := gIt hc h
      refine z_iconst M dt_X12_does_1.1.1.1.1 ki_m1 ?_
      obtain rfl := Option.some.inj h
      exact z_iret M dt_X12_does_1.1.1.1.2
    · have h := gIf hc h
      refine z_iload_n M dt_X12_does_0.2.1.2.1 rfl 3 rfl ?_
      refine z_i2l M dt_X12_does_0.2.1.2.2 ?_
      refine z_lconst (v := 1) M dt_X12_does_0.2.2.1.1 (by decide) ?_
      refine z_ldc2 M dt_X12_does_0.2.2.1.2 u1542 ?_
      refine k_X12_in M u1517 (Nat.le_of_ble_eq_true rfl) (Nat.le_of_ble_eq_true rfl) dt_X12_does_0.2.2.2.1 ?_
      refine z_if_ne (tgt := 34) M dt_X12_does_0.2.2.2.2 (by decide) (fun hc => ?_) (fun hc => ?_)
      · have h := gIf hc h
        refine z_iconst M dt_X12_does_1.1.1.2.1 ki_0 ?_
        refine z_istore (lv' := [(4, .int (0 : Int32)), (0, .ref (a 0)), (1, .int p0), (2, .int p1), (3, .int p2)]) M dt_X12_does_1.1.1.2.2 (by decide) rfl ?_
        refine z_sub M [1, 2, 3, 4, 0] (lv' := [(0, .ref (a 0)), (1, .int p0), (2, .int p1), (3, .int p2), (4, .int (0 : Int32))]) rfl ?_
        exact wL_X12_does_37 M (k65 := (fun σ12 => J_X12_does_65 σ12 p0 p1 p2)) p0 p1 p2 (fun σ12 h => by
            exact wJ_X12_does_65 M  σ12 p0 p1 p2 h) zFu (zI σ 0 (0 : Int32)) (0 : Int32) h
      · have h := gIt hc h
        refine z_iconst M dt_X12_does_1.1.1.1.1 ki_m1 ?_
        obtain rfl := Option.some.inj h
        exact z_iret M dt_X12_does_1.1.1.1.2
set_option maxHeartbeats 4000000 in
set_option maxRecDepth 100000 in
theorem wL_X12_keep_28 {o : (Zst × Int32)} (M : zM l D zcl (zty cy) A ad (zR 2) (mW a cy ad) RX12 cX12_keep 3 (some .boolean) o.1 (some (.int o.2)) G)  (v1 : Int32)  :
    ∀ (n28 : Nat) (σ : Zst) (v2 : Int32), L_X12_keep_28 v1 n28 σ v2 = some o → G σ [(0, .ref (a 0)), (1, .int v1), (2, .int v2)] 28 [] := by
  intro n28
  induction n28 with
  | zero => intro σ v2 h; exact nomatch (show (none : Option (Zst × Int32)) = some _ from h)
  | succ n28 ih =>
    intro σ v2 h
    refine z_iload_n M dt_X12_keep_1.1.1.2.1 rfl 2 rfl ?_
    refine z_aload_n M dt_X12_keep_1.1.1.2.2 rfl 0 rfl ?_
    refine gf_X12_number M u1973 dt_X12_keep_1.1.2.1.1 ?_
    refine ln_M10 M dt_X12_keep_1.1.2.1.2 ?_
    refine z_icmp_ge (tgt := 63) M dt_X12_keep_1.1.2.2.1 (by decide) (fun hc => ?_) (fun hc => ?_)
    · have h := gIt hc h
      refine z_aload_n M dt_X12_keep_2.1.2.2.2 rfl 0 rfl ?_
      refine gf_X12_keptRandom M u2025 dt_X12_keep_2.2.1.1.1 ?_
      refine z_iload_n M dt_X12_keep_2.2.1.1.2 rfl 1 rfl ?_
      refine z_aload_n M dt_X12_keep_2.2.1.2.1 rfl 0 rfl ?_
      refine gf_X12_random (σ := σ) M u1974 dt_X12_keep_2.2.1.2.2 (v := (σ.1 4)) rfl ?_
      have ⟨hg, h⟩ := gIx_s h
      refine as_M41 (σ := σ) M (f := (σ.2.1 32)) rfl hg dt_X12_keep_2.2.2.1.1 ?_
      refine z_iconst M dt_X12_keep_2.2.2.1.2 ki_1 ?_
      obtain rfl := Option.some.inj h
      exact z_zret M (nBo (Or.inr rfl)) dt_X12_keep_2.2.2.2
    · have h := gIf hc h
      refine z_aload_n M dt_X12_keep_1.1.2.2.2 rfl 0 rfl ?_
      refine gf_X12_kept M u2024 dt_X12_keep_1.2.1.1.1 ?_
      refine z_iload_n M dt_X12_keep_1.2.1.1.2 rfl 1 rfl ?_
      refine z_aload_n M dt_X12_keep_1.2.1.2.1 rfl 0 rfl ?_
      refine gf_X12_number M u1973 dt_X12_keep_1.2.1.2.2 ?_
      refine ln_M10 M dt_X12_keep_1.2.2.1.1 ?_
      refine z_imul M dt_X12_keep_1.2.2.1.2 ?_
      refine z_iload_n M dt_X12_keep_1.2.2.2.1 rfl 2 rfl ?_
      refine z_iadd M dt_X12_keep_1.2.2.2.2 ?_
      refine z_aload_n M dt_X12_keep_2.1.1.1.1 rfl 0 rfl ?_
      refine gf_X12_number M u1973 dt_X12_keep_2.1.1.1.2 ?_
      refine z_iload_n M dt_X12_keep_2.1.1.2.1 rfl 2 rfl ?_
      have ⟨hg, h⟩ := gIx_s h
      refine al_M10 (σ := σ) M (f := (σ.2.1 8)) rfl hg dt_X12_keep_2.1.1.2.2 ?_
      have ⟨hg, h⟩ := gIx_s h
      refine as_M40 (σ := σ) M (f := (σ.2.1 31)) rfl hg dt_X12_keep_2.1.2.1.1 ?_
      refine z_iinc (v := (v2 + (1 : Int32))) (lv' := [(2, .int (v2 + (1 : Int32))), (0, .ref (a 0)), (1, .int v1)]) M dt_X12_keep_2.1.2.1.2 (k := 2) rfl (congrArg (fun q => v2 + q) ki_1) (by decide) rfl ?_
      refine z_goto (tgt := 28) M dt_X12_keep_2.1.2.2.1 (by decide) ?_
      refine z_sub M [1, 2, 0] (lv' := [(0, .ref (a 0)), (1, .int v1), (2, .int (v2 + (1 : Int32)))]) rfl ?_
      exact ih (zA σ 31 (upd (σ.2.1 31) (Int32.toNatClampNeg ((v1 * (4608 : Int32)) + v2)) ((σ.2.1 8) (Int32.toNatClampNeg v2)))) (v2 + (1 : Int32)) h
set_option maxHeartbeats 4000000 in
set_option maxRecDepth 100000 in
theorem m_X12_keep (hD : ∀ σ, va_D A (mW a cy ad σ)) {σ : Zst} {p0 : Int32} {o : (Zst × Int32)} (h : f_X12_keep σ p0 = some o) : zT l D zcl (zty cy) A ad (mW a cy ad) yX12_keep cX12_keep 3 (some .boolean) 2 [.ref (a 0), .int p0] σ o.1 (some (.int o.2)) := by
  refine z_met pn_X12 hD (Nat.le_of_ble_eq_true rfl) rfl (fun G M => ?_)
  refine z_aload_n M dt_X12_keep_0.1.1.1.1 rfl 0 rfl ?_
  refine z_iconst M dt_X12_keep_0.1.1.1.2 ki_0 ?_
  refine pf_X12_thrown M u1960 dt_X12_keep_0.1.1.2.1 ?_
  refine z_iload_n M dt_X12_keep_0.1.1.2.2 rfl 1 rfl ?_
  refine z_i2l M dt_X12_keep_0.1.2.1.1 ?_
  refine z_lconst (v := 0) M dt_X12_keep_0.1.2.1.2 (by decide) ?_
  refine z_ldc2 M dt_X12_keep_0.1.2.2.1 u1790 ?_
  refine k_X12_in M u1517 (Nat.le_of_ble_eq_true rfl) (Nat.le_of_ble_eq_true rfl) dt_X12_keep_0.1.2.2.2 ?_
  refine z_if_ne (tgt := 19) M dt_X12_keep_0.2.1.1.1 (by decide) (fun hc => ?_) (fun hc => ?_)
  · have h := gIf hc h
    refine z_aload_n M dt_X12_keep_0.2.1.2.2 rfl 0 rfl ?_
    refine gf_X12_isKept M u2023 dt_X12_keep_0.2.2.1.1 ?_
    refine z_iload_n M dt_X12_keep_0.2.2.1.2 rfl 1 rfl ?_
    refine z_iconst M dt_X12_keep_0.2.2.2.1 ki_1 ?_
    have ⟨hg, h⟩ := gIx_s h
    refine as_M39 (σ := (zI σ 0 (0 : Int32))) M (f := (σ.2.1 30)) rfl hg dt_X12_keep_0.2.2.2.2 ?_
    refine z_iconst M dt_X12_keep_1.1.1.1.1 ki_0 ?_
    refine z_istore_n (lv' := [(2, .int (0 : Int32)), (0, .ref (a 0)), (1, .int p0)]) M dt_X12_keep_1.1.1.1.2 rfl (by decide) rfl ?_
    refine z_sub M [1, 2, 0] (lv' := [(0, .ref (a 0)), (1, .int p0), (2, .int (0 : Int32))]) rfl ?_
    exact wL_X12_keep_28 M  p0 zFu (zA (zI σ 0 (0 : Int32)) 30 (upd (σ.2.1 30) (Int32.toNatClampNeg p0) (vp_nar .boolean (1 : Int32)))) (0 : Int32) h
  · have h := gIt hc h
    refine z_iconst M dt_X12_keep_0.2.1.1.2 ki_0 ?_
    obtain rfl := Option.some.inj h
    exact z_zret M (nBo (Or.inl rfl)) dt_X12_keep_0.2.1.2.1
set_option maxHeartbeats 4000000 in
set_option maxRecDepth 100000 in
theorem wL_X12_again_30 {o : (Zst × Int32)} (M : zM l D zcl (zty cy) A ad (zR 2) (mW a cy ad) RX12 cX12_again 3 (some .boolean) o.1 (some (.int o.2)) G)  (v1 : Int32)  :
    ∀ (n30 : Nat) (σ : Zst) (v2 : Int32), L_X12_again_30 v1 n30 σ v2 = some o → G σ [(0, .ref (a 0)), (1, .int v1), (2, .int v2)] 30 [] := by
  intro n30
  induction n30 with
  | zero => intro σ v2 h; exact nomatch (show (none : Option (Zst × Int32)) = some _ from h)
  | succ n30 ih =>
    intro σ v2 h
    refine z_iload_n M dt_X12_again_1.1.1.2.1 rfl 2 rfl ?_
    refine z_aload_n M dt_X12_again_1.1.1.2.2 rfl 0 rfl ?_
    refine gf_X12_number M u1973 dt_X12_again_1.1.2.1.1 ?_
    refine ln_M10 M dt_X12_again_1.1.2.1.2 ?_
    refine z_icmp_ge (tgt := 65) M dt_X12_again_1.1.2.2.1 (by decide) (fun hc => ?_) (fun hc => ?_)
    · have h := gIt hc h
      refine z_aload_n M dt_X12_again_2.1.2.2.2 rfl 0 rfl ?_
      refine z_aload_n M dt_X12_again_2.2.1.1.1 rfl 0 rfl ?_
      refine gf_X12_keptRandom M u2025 dt_X12_again_2.2.1.1.2 ?_
      refine z_iload_n M dt_X12_again_2.2.1.2.1 rfl 1 rfl ?_
      have ⟨hg, h⟩ := gIx_s h
      refine al_M41 (σ := σ) M (f := (σ.2.1 32)) rfl hg dt_X12_again_2.2.1.2.2 ?_
      refine pf_X12_random M u1974 dt_X12_again_2.2.2.1.1 ?_
      refine z_iconst M dt_X12_again_2.2.2.1.2 ki_1 ?_
      obtain rfl := Option.some.inj h
      exact z_zret M (nBo (Or.inr rfl)) dt_X12_again_2.2.2.2
    · have h := gIf hc h
      refine z_aload_n M dt_X12_again_1.1.2.2.2 rfl 0 rfl ?_
      refine gf_X12_number M u1973 dt_X12_again_1.2.1.1.1 ?_
      refine z_iload_n M dt_X12_again_1.2.1.1.2 rfl 2 rfl ?_
      refine z_aload_n M dt_X12_again_1.2.1.2.1 rfl 0 rfl ?_
      refine gf_X12_kept M u2024 dt_X12_again_1.2.1.2.2 ?_
      refine z_iload_n M dt_X12_again_1.2.2.1.1 rfl 1 rfl ?_
      refine z_aload_n M dt_X12_again_1.2.2.1.2 rfl 0 rfl ?_
      refine gf_X12_number M u1973 dt_X12_again_1.2.2.2.1 ?_
      refine ln_M10 M dt_X12_again_1.2.2.2.2 ?_
      refine z_imul M dt_X12_again_2.1.1.1.1 ?_
      refine z_iload_n M dt_X12_again_2.1.1.1.2 rfl 2 rfl ?_
      refine z_iadd M dt_X12_again_2.1.1.2.1 ?_
      have ⟨hg, h⟩ := gIx_s h
      refine al_M40 (σ := σ) M (f := (σ.2.1 31)) rfl hg dt_X12_again_2.1.1.2.2 ?_
      have ⟨hg, h⟩ := gIx_s h
      refine as_M10 (σ := σ) M (f := (σ.2.1 8)) rfl hg dt_X12_again_2.1.2.1.1 ?_
      refine z_iinc (v := (v2 + (1 : Int32))) (lv' := [(2, .int (v2 + (1 : Int32))), (0, .ref (a 0)), (1, .int v1)]) M dt_X12_again_2.1.2.1.2 (k := 2) rfl (congrArg (fun q => v2 + q) ki_1) (by decide) rfl ?_
      refine z_goto (tgt := 30) M dt_X12_again_2.1.2.2.1 (by decide) ?_
      refine z_sub M [1, 2, 0] (lv' := [(0, .ref (a 0)), (1, .int v1), (2, .int (v2 + (1 : Int32)))]) rfl ?_
      exact ih (zA σ 8 (upd (σ.2.1 8) (Int32.toNatClampNeg v2) ((σ.2.1 31) (Int32.toNatClampNeg ((v1 * (4608 : Int32)) + v2))))) (v2 + (1 : Int32)) h
set_option maxHeartbeats 4000000 in
set_option maxRecDepth 100000 in
theorem m_X12_again (hD : ∀ σ, va_D A (mW a cy ad σ)) {σ : Zst} {p0 : Int32} {o : (Zst × Int32)} (h : f_X12_again σ p0 = some o) : zT l D zcl (zty cy) A ad (mW a cy ad) yX12_again cX12_again 3 (some .boolean) 2 [.ref (a 0), .int p0] σ o.1 (some (.int o.2)) := by
  refine z_met pn_X12 hD (Nat.le_of_ble_eq_true rfl) rfl (fun G M => ?_)
  refine z_aload_n M dt_X12_again_0.1.1.1.1 rfl 0 rfl ?_
  refine z_iconst M dt_X12_again_0.1.1.1.2 ki_0 ?_
  refine pf_X12_thrown M u1960 dt_X12_again_0.1.1.2.1 ?_
  refine z_iload_n M dt_X12_again_0.1.1.2.2 rfl 1 rfl ?_
  refine z_i2l M dt_X12_again_0.1.2.1.1 ?_
  refine z_lconst (v := 0) M dt_X12_again_0.1.2.1.2 (by decide) ?_
  refine z_ldc2 M dt_X12_again_0.1.2.2.1 u1790 ?_
  refine k_X12_in M u1517 (Nat.le_of_ble_eq_true rfl) (Nat.le_of_ble_eq_true rfl) dt_X12_again_0.1.2.2.2 ?_
  refine z_if_eq (tgt := 26) M dt_X12_again_0.2.1.1.1 (by decide) (fun hc => ?_) (fun hc => ?_)
  · have h := gIt hc h
    refine z_iconst M dt_X12_again_0.2.2.2.1 ki_0 ?_
    obtain rfl := Option.some.inj h
    exact z_zret M (nBo (Or.inl rfl)) dt_X12_again_0.2.2.2.2
  · have h := gIf hc h
    refine z_aload_n M dt_X12_again_0.2.1.1.2 rfl 0 rfl ?_
    refine gf_X12_isKept M u2023 dt_X12_again_0.2.1.2.1 ?_
    refine z_iload_n M dt_X12_again_0.2.1.2.2 rfl 1 rfl ?_
    have ⟨hg, h⟩ := gIx_s h
    refine al_M39 (σ := (zI σ 0 (0 : Int32))) M (f := (σ.2.1 30)) rfl hg dt_X12_again_0.2.2.1.1 ?_
    refine z_if_ne (tgt := 28) M dt_X12_again_0.2.2.1.2 (by decide) (fun hc => ?_) (fun hc => ?_)
    · have h := gIf hc h
      refine z_iconst M dt_X12_again_1.1.1.1.1 ki_0 ?_
      refine z_istore_n (lv' := [(2, .int (0 : Int32)), (0, .ref (a 0)), (1, .int p0)]) M dt_X12_again_1.1.1.1.2 rfl (by decide) rfl ?_
      refine z_sub M [1, 2, 0] (lv' := [(0, .ref (a 0)), (1, .int p0), (2, .int (0 : Int32))]) rfl ?_
      exact wL_X12_again_30 M  p0 zFu (zI σ 0 (0 : Int32)) (0 : Int32) h
    · have h := gIt hc h
      refine z_iconst M dt_X12_again_0.2.2.2.1 ki_0 ?_
      obtain rfl := Option.some.inj h
      exact z_zret M (nBo (Or.inl rfl)) dt_X12_again_0.2.2.2.2
set_option maxHeartbeats 4000000 in
set_option maxRecDepth 100000 in
theorem wL_X12_numbersTold_4 {o : Int32} (M : zM l D zcl (zty cy) A ad (zR 2) (mW a cy ad) RX12 cX12_numbersTold 3 (some .int) σ0 (some (.int o)) G)    :
    ∀ (n4 : Nat) (v1 : Int32) (v2 : Int32), L_X12_numbersTold_4 σ0 n4 v1 v2 = some o → G σ0 [(0, .ref (a 0)), (1, .int v1), (2, .int v2)] 4 [] := by
  intro n4
  induction n4 with
  | zero => intro v1 v2 h; exact nomatch (show (none : Option Int32) = some _ from h)
  | succ n4 ih =>
    intro v1 v2 h
    refine z_iload_n M dt_X12_numbersTold_0.1.2.1.1 rfl 2 rfl ?_
    refine z_aload_n M dt_X12_numbersTold_0.1.2.1.2 rfl 0 rfl ?_
    refine gf_X12_number M u1973 dt_X12_numbersTold_0.1.2.2.1 ?_
    refine ln_M10 M dt_X12_numbersTold_0.1.2.2.2 ?_
    refine z_icmp_ge (tgt := 39) M dt_X12_numbersTold_0.2.1.1.1 (by decide) (fun hc => ?_) (fun hc => ?_)
    · have h := gIt hc h
      refine z_iload_n M dt_X12_numbersTold_1.2.2.1 rfl 1 rfl ?_
      obtain rfl := Option.some.inj h
      exact z_iret M dt_X12_numbersTold_1.2.2.2
    · have h := gIf hc h
      refine z_iload_n M dt_X12_numbersTold_0.2.1.1.2 rfl 1 rfl ?_
      refine z_aload_n M dt_X12_numbersTold_0.2.1.2.1 rfl 0 rfl ?_
      refine gf_X12_number M u1973 dt_X12_numbersTold_0.2.1.2.2 ?_
      refine z_iload_n M dt_X12_numbersTold_0.2.2.1.1 rfl 2 rfl ?_
      have ⟨hg, h⟩ := gIx_s h
      refine al_M10 (σ := σ0) M (f := (σ0.2.1 8)) rfl hg dt_X12_numbersTold_0.2.2.1.2 ?_
      have hJ2 : G σ0 [(0, .ref (a 0)), (1, .int v1), (2, .int v2)] 28 [.int (if ((σ0.2.1 8) (Int32.toNatClampNeg v2)) ≤ (0 : Int32) then (0 : Int32) else (1 : Int32)), .int v1] := by
        refine k_X12_flag M u1675 (Nat.le_of_ble_eq_true rfl) (Nat.le_of_ble_eq_true rfl) dt_X12_numbersTold_1.1.1.2 ?_
        refine z_iadd M dt_X12_numbersTold_1.1.2.1 ?_
        refine z_istore_n (lv' := [(1, .int (v1 + (f_X12_flag (if ((σ0.2.1 8) (Int32.toNatClampNeg v2)) ≤ (0 : Int32) then (0 : Int32) else (1 : Int32))))), (0, .ref (a 0)), (2, .int v2)]) M dt_X12_numbersTold_1.1.2.2 rfl (by decide) rfl ?_
        refine z_iinc (v := (v2 + (1 : Int32))) (lv' := [(2, .int (v2 + (1 : Int32))), (1, .int (v1 + (f_X12_flag (if ((σ0.2.1 8) (Int32.toNatClampNeg v2)) ≤ (0 : Int32) then (0 : Int32) else (1 : Int32))))), (0, .ref (a 0))]) M dt_X12_numbersTold_1.2.1.1 (k := 2) rfl (congrArg (fun q => v2 + q) ki_1) (by decide) rfl ?_
        refine z_goto (tgt := 4) M dt_X12_numbersTold_1.2.1.2 (by decide) ?_
        refine z_sub M [2, 1, 0] (lv' := [(0, .ref (a 0)), (1, .int (v1 + (f_X12_flag (if ((σ0.2.1 8) (Int32.toNatClampNeg v2)) ≤ (0 : Int32) then (0 : Int32) else (1 : Int32))))), (2, .int (v2 + (1 : Int32)))]) rfl ?_
        exact ih (v1 + (f_X12_flag (if ((σ0.2.1 8) (Int32.toNatClampNeg v2)) ≤ (0 : Int32) then (0 : Int32) else (1 : Int32)))) (v2 + (1 : Int32)) h
      refine z_if_le (tgt := 27) M dt_X12_numbersTold_0.2.2.2.1 (by decide) (fun hc1 => ?_) (fun hc1 => ?_)
      · refine z_iconst M dt_X12_numbersTold_1.1.1.1.2 ki_0 ?_
        exact (zTt hc1 hJ2)
      · refine z_iconst M dt_X12_numbersTold_0.2.2.2.2 ki_1 ?_
        refine z_goto (tgt := 28) M dt_X12_numbersTold_1.1.1.1.1 (by decide) ?_
        exact (zTf hc1 hJ2)
set_option maxHeartbeats 4000000 in
set_option maxRecDepth 100000 in
theorem m_X12_numbersTold (hD : ∀ σ, va_D A (mW a cy ad σ)) {σ0 : Zst}  {o : Int32} (h : f_X12_numbersTold σ0 = some o) : zT l D zcl (zty cy) A ad (mW a cy ad) yX12_numbersTold cX12_numbersTold 3 (some .int) 2 [.ref (a 0)] σ0 σ0 (some (.int o)) := by
  refine z_met pn_X12 hD (Nat.le_of_ble_eq_true rfl) rfl (fun G M => ?_)
  refine z_iconst M dt_X12_numbersTold_0.1.1.1.1 ki_0 ?_
  refine z_istore_n (lv' := [(1, .int (0 : Int32)), (0, .ref (a 0))]) M dt_X12_numbersTold_0.1.1.1.2 rfl (by decide) rfl ?_
  refine z_iconst M dt_X12_numbersTold_0.1.1.2.1 ki_0 ?_
  refine z_istore_n (lv' := [(2, .int (0 : Int32)), (1, .int (0 : Int32)), (0, .ref (a 0))]) M dt_X12_numbersTold_0.1.1.2.2 rfl (by decide) rfl ?_
  refine z_sub M [2, 1, 0] (lv' := [(0, .ref (a 0)), (1, .int (0 : Int32)), (2, .int (0 : Int32))]) rfl ?_
  exact wL_X12_numbersTold_4 M   zFu (0 : Int32) (0 : Int32) h
theorem k_X12_numbersTold {n : Nat} (M : zM l D zcl (zty cy) A ad (zR n) (mW a cy ad) own cc nL rt σo ov G)  {o : Int32} (h : f_X12_numbersTold σ = some o) {index : Nat} (hl : Cond.methodLink own index yX12_numbersTold ∈ uw) (hR : 3 ≤ n) (hW : (st.map fun v => v.category).sum ≤ 8) (d : decode cc pc = .ok (.invokevirtual index, 3)) (kk : G σ lv (pc + 3) (.int o :: st)) : G σ lv pc (.ref (a 0) :: st) := z_callV M [] (m_X12_numbersTold (zM_hD M) h) (hM0 σ) rfl hl u99 u1954 u1953 u85 hd_X12_numbersTold hR (by decide) rfl hW d kk
set_option maxHeartbeats 4000000 in
set_option maxRecDepth 100000 in
theorem wL_X12_lawBits_4 {o : Int32} (M : zM l D zcl (zty cy) A ad (zR 1) (mW a cy ad) RX12 cX12_lawBits 3 (some .int) σ0 (some (.int o)) G)    :
    ∀ (n4 : Nat) (v1 : Int32) (v2 : Int32), L_X12_lawBits_4 σ0 n4 v1 v2 = some o → G σ0 [(0, .ref (a 0)), (1, .int v1), (2, .int v2)] 4 [] := by
  intro n4
  induction n4 with
  | zero => intro v1 v2 h; exact nomatch (show (none : Option Int32) = some _ from h)
  | succ n4 ih =>
    intro v1 v2 h
    refine z_iload_n M dt_X12_lawBits_0.1.2.1.1 rfl 2 rfl ?_
    refine z_bipush M dt_X12_lawBits_0.1.2.1.2 kb_6 ?_
    refine z_icmp_ge (tgt := 35) M dt_X12_lawBits_0.1.2.2.1 (by decide) (fun hc => ?_) (fun hc => ?_)
    · have h := gIt hc h
      refine z_iload_n M dt_X12_lawBits_1.2.2.1 rfl 1 rfl ?_
      obtain rfl := Option.some.inj h
      exact z_iret M dt_X12_lawBits_1.2.2.2
    · have h := gIf hc h
      refine z_iload_n M dt_X12_lawBits_0.1.2.2.2 rfl 1 rfl ?_
      refine z_aload_n M dt_X12_lawBits_0.2.1.1.1 rfl 0 rfl ?_
      refine gf_X12_codes M u1976 dt_X12_lawBits_0.2.1.1.2 ?_
      refine z_iload_n M dt_X12_lawBits_0.2.1.2.1 rfl 2 rfl ?_
      have ⟨hg, h⟩ := gIx_s h
      refine al_M12 (σ := σ0) M (f := (σ0.2.1 10)) rfl hg dt_X12_lawBits_0.2.1.2.2 ?_
      have hJ2 : G σ0 [(0, .ref (a 0)), (1, .int v1), (2, .int v2)] 27 [.int (if ((σ0.2.1 10) (Int32.toNatClampNeg v2)) ≤ (0 : Int32) then (0 : Int32) else (jShl (1 : Int32) v2)), .int v1] := by
        refine z_ior M dt_X12_lawBits_1.1.2.1 ?_
        refine z_istore_n (lv' := [(1, .int (v1 ||| (if ((σ0.2.1 10) (Int32.toNatClampNeg v2)) ≤ (0 : Int32) then (0 : Int32) else (jShl (1 : Int32) v2)))), (0, .ref (a 0)), (2, .int v2)]) M dt_X12_lawBits_1.1.2.2 rfl (by decide) rfl ?_
        refine z_iinc (v := (v2 + (1 : Int32))) (lv' := [(2, .int (v2 + (1 : Int32))), (1, .int (v1 ||| (if ((σ0.2.1 10) (Int32.toNatClampNeg v2)) ≤ (0 : Int32) then (0 : Int32) else (jShl (1 : Int32) v2)))), (0, .ref (a 0))]) M dt_X12_lawBits_1.2.1.1 (k := 2) rfl (congrArg (fun q => v2 + q) ki_1) (by decide) rfl ?_
        refine z_goto (tgt := 4) M dt_X12_lawBits_1.2.1.2 (by decide) ?_
        refine z_sub M [2, 1, 0] (lv' := [(0, .ref (a 0)), (1, .int (v1 ||| (if ((σ0.2.1 10) (Int32.toNatClampNeg v2)) ≤ (0 : Int32) then (0 : Int32) else (jShl (1 : Int32) v2)))), (2, .int (v2 + (1 : Int32)))]) rfl ?_
        exact ih (v1 ||| (if ((σ0.2.1 10) (Int32.toNatClampNeg v2)) ≤ (0 : Int32) then (0 : Int32) else (jShl (1 : Int32) v2))) (v2 + (1 : Int32)) h
      refine z_if_le (tgt := 26) M dt_X12_lawBits_0.2.2.1.1 (by decide) (fun hc1 => ?_) (fun hc1 => ?_)
      · refine z_iconst M dt_X12_lawBits_1.1.1.2 ki_0 ?_
        exact (zTt hc1 hJ2)
      · refine z_iconst M dt_X12_lawBits_0.2.2.1.2 ki_1 ?_
        refine z_iload_n M dt_X12_lawBits_0.2.2.2.1 rfl 2 rfl ?_
        refine z_ishl M dt_X12_lawBits_0.2.2.2.2 ?_
        refine z_goto (tgt := 27) M dt_X12_lawBits_1.1.1.1 (by decide) ?_
        exact (zTf hc1 hJ2)
set_option maxHeartbeats 4000000 in
set_option maxRecDepth 100000 in
theorem m_X12_lawBits (hD : ∀ σ, va_D A (mW a cy ad σ)) {σ0 : Zst}  {o : Int32} (h : f_X12_lawBits σ0 = some o) : zT l D zcl (zty cy) A ad (mW a cy ad) yX12_lawBits cX12_lawBits 3 (some .int) 1 [.ref (a 0)] σ0 σ0 (some (.int o)) := by
  refine z_met pn_X12 hD (Nat.le_of_ble_eq_true rfl) rfl (fun G M => ?_)
  refine z_iconst M dt_X12_lawBits_0.1.1.1.1 ki_0 ?_
  refine z_istore_n (lv' := [(1, .int (0 : Int32)), (0, .ref (a 0))]) M dt_X12_lawBits_0.1.1.1.2 rfl (by decide) rfl ?_
  refine z_iconst M dt_X12_lawBits_0.1.1.2.1 ki_0 ?_
  refine z_istore_n (lv' := [(2, .int (0 : Int32)), (1, .int (0 : Int32)), (0, .ref (a 0))]) M dt_X12_lawBits_0.1.1.2.2 rfl (by decide) rfl ?_
  refine z_sub M [2, 1, 0] (lv' := [(0, .ref (a 0)), (1, .int (0 : Int32)), (2, .int (0 : Int32))]) rfl ?_
  exact wL_X12_lawBits_4 M   zFu (0 : Int32) (0 : Int32) h
theorem k_X12_lawBits {n : Nat} (M : zM l D zcl (zty cy) A ad (zR n) (mW a cy ad) own cc nL rt σo ov G)  {o : Int32} (h : f_X12_lawBits σ = some o) {index : Nat} (hl : Cond.methodLink own index yX12_lawBits ∈ uw) (hR : 2 ≤ n) (hW : (st.map fun v => v.category).sum ≤ 8) (d : decode cc pc = .ok (.invokevirtual index, 3)) (kk : G σ lv (pc + 3) (.int o :: st)) : G σ lv pc (.ref (a 0) :: st) := z_callV M [] (m_X12_lawBits (zM_hD M) h) (hM0 σ) rfl hl u99 u1950 u1949 u84 hd_X12_lawBits hR (by decide) rfl hW d kk
set_option maxHeartbeats 4000000 in
set_option maxRecDepth 100000 in
theorem m_X12_count (hD : ∀ σ, va_D A (mW a cy ad σ)) {σ : Zst} {p0 : Int32} {o : (Zst × Int32)} (h : f_X12_count σ p0 = some o) : zT l D zcl (zty cy) A ad (mW a cy ad) yX12_count cX12_count 2 (some .int) 3 [.ref (a 0), .int p0] σ o.1 (some (.int o.2)) := by
  refine z_met pn_X12 hD (Nat.le_of_ble_eq_true rfl) rfl (fun G M => ?_)
  refine z_aload_n M dt_X12_count_0.1.1.1.1 rfl 0 rfl ?_
  refine z_iconst M dt_X12_count_0.1.1.1.2 ki_0 ?_
  refine pf_X12_thrown M u1960 dt_X12_count_0.1.1.2.1 ?_
  refine z_iload_n M dt_X12_count_0.1.1.2.2 rfl 1 rfl ?_
  -- switch
  by_cases hs1 : p0 = (0 : Int32)
  · have h := gIt hs1 h
    refine z_tabIn (off := 50) (tgt := 56) M dt_X12_count_0.1.2.1.1 (by rw [hs1]; decide) (by rw [hs1]; decide) (by rw [hs1]; rfl) (by decide) ?_
    refine z_aload_n M dt_X12_count_0.1.2.1.2 rfl 0 rfl ?_
    refine gf_X12_sorts (σ := (zI σ 0 (0 : Int32))) M u1963 dt_X12_count_0.1.2.2.1 (v := (σ.1 2)) rfl ?_
    obtain rfl := Option.some.inj h
    exact z_iret M dt_X12_count_0.1.2.2.2
  · have h := gIf hs1 h
    by_cases hs2 : p0 = (1 : Int32)
    · have h := gIt hs2 h
      refine z_tabIn (off := 55) (tgt := 61) M dt_X12_count_0.1.2.1.1 (by rw [hs2]; decide) (by rw [hs2]; decide) (by rw [hs2]; rfl) (by decide) ?_
      refine z_aload_n M dt_X12_count_0.2.1.1.1 rfl 0 rfl ?_
      refine gf_X12_streets (σ := (zI σ 0 (0 : Int32))) M u1970 dt_X12_count_0.2.1.1.2 (v := (σ.1 3)) rfl ?_
      obtain rfl := Option.some.inj h
      exact z_iret M dt_X12_count_0.2.1.2.1
    · have h := gIf hs2 h
      by_cases hs3 : p0 = (2 : Int32)
      · have h := gIt hs3 h
        refine z_tabIn (off := 60) (tgt := 66) M dt_X12_count_0.1.2.1.1 (by rw [hs3]; decide) (by rw [hs3]; decide) (by rw [hs3]; rfl) (by decide) ?_
        refine z_aload_n M dt_X12_count_0.2.1.2.2 rfl 0 rfl ?_
        obtain ⟨t4, hc, h⟩ := gBd h
        refine k_X12_lawBits M hc u1947 (Nat.le_of_ble_eq_true rfl) (Nat.le_of_ble_eq_true rfl) dt_X12_count_0.2.2.1.1 ?_
        obtain rfl := Option.some.inj h
        exact z_iret M dt_X12_count_0.2.2.1.2
      · have h := gIf hs3 h
        by_cases hs5 : p0 = (3 : Int32)
        · have h := gIt hs5 h
          refine z_tabIn (off := 65) (tgt := 71) M dt_X12_count_0.1.2.1.1 (by rw [hs5]; decide) (by rw [hs5]; decide) (by rw [hs5]; rfl) (by decide) ?_
          refine z_aload_n M dt_X12_count_0.2.2.2.1 rfl 0 rfl ?_
          refine gf_X12_stories (σ := (zI σ 0 (0 : Int32))) M u1998 dt_X12_count_0.2.2.2.2 (v := (σ.1 20)) rfl ?_
          obtain rfl := Option.some.inj h
          exact z_iret M dt_X12_count_1.1.1.1.1
        · have h := gIf hs5 h
          by_cases hs6 : p0 = (4 : Int32)
          · have h := gIt hs6 h
            refine z_tabIn (off := 70) (tgt := 76) M dt_X12_count_0.1.2.1.1 (by rw [hs6]; decide) (by rw [hs6]; decide) (by rw [hs6]; rfl) (by decide) ?_
            refine z_aload_n M dt_X12_count_1.1.1.1.2 rfl 0 rfl ?_
            refine gf_X12_takenMany (σ := (zI σ 0 (0 : Int32))) M u2008 dt_X12_count_1.1.1.2.1 (v := (σ.1 21)) rfl ?_
            obtain rfl := Option.some.inj h
            exact z_iret M dt_X12_count_1.1.1.2.2
          · have h := gIf hs6 h
            by_cases hs7 : p0 = (5 : Int32)
            · have h := gIt hs7 h
              refine z_tabIn (off := 75) (tgt := 81) M dt_X12_count_0.1.2.1.1 (by rw [hs7]; decide) (by rw [hs7]; decide) (by rw [hs7]; rfl) (by decide) ?_
              refine z_aload_n M dt_X12_count_1.1.2.1.1 rfl 0 rfl ?_
              refine gf_X12_papers (σ := (zI σ 0 (0 : Int32))) M u2014 dt_X12_count_1.1.2.1.2 (v := (σ.1 23)) rfl ?_
              obtain rfl := Option.some.inj h
              exact z_iret M dt_X12_count_1.1.2.2.1
            · have h := gIf hs7 h
              by_cases hs8 : p0 = (6 : Int32)
              · have h := gIt hs8 h
                refine z_tabIn (off := 80) (tgt := 86) M dt_X12_count_0.1.2.1.1 (by rw [hs8]; decide) (by rw [hs8]; decide) (by rw [hs8]; rfl) (by decide) ?_
                refine z_aload_n M dt_X12_count_1.1.2.2.2 rfl 0 rfl ?_
                obtain ⟨t9, hc, h⟩ := gBd h
                refine k_X12_numbersTold M hc u1951 (Nat.le_of_ble_eq_true rfl) (Nat.le_of_ble_eq_true rfl) dt_X12_count_1.2.1.1.1 ?_
                obtain rfl := Option.some.inj h
                exact z_iret M dt_X12_count_1.2.1.1.2
              · have h := gIf hs8 h
                by_cases hs10 : p0 = (7 : Int32)
                · have h := gIt hs10 h
                  refine z_tabIn (off := 85) (tgt := 91) M dt_X12_count_0.1.2.1.1 (by rw [hs10]; decide) (by rw [hs10]; decide) (by rw [hs10]; rfl) (by decide) ?_
                  refine z_aload_n M dt_X12_count_1.2.1.2.1 rfl 0 rfl ?_
                  refine gf_X12_rows (σ := (zI σ 0 (0 : Int32))) M u1961 dt_X12_count_1.2.1.2.2 (v := (σ.1 1)) rfl ?_
                  obtain rfl := Option.some.inj h
                  exact z_iret M dt_X12_count_1.2.2.1.1
                · have h := gIf hs10 h
                  by_cases hs11 : p0 = (8 : Int32)
                  · have h := gIt hs11 h
                    refine z_tabIn (off := 90) (tgt := 96) M dt_X12_count_0.1.2.1.1 (by rw [hs11]; decide) (by rw [hs11]; decide) (by rw [hs11]; rfl) (by decide) ?_
                    refine z_aload_n M dt_X12_count_1.2.2.1.2 rfl 0 rfl ?_
                    refine gf_X12_taped (σ := (zI σ 0 (0 : Int32))) M u1979 dt_X12_count_1.2.2.2.1 (v := (σ.1 5)) rfl ?_
                    obtain rfl := Option.some.inj h
                    exact z_iret M dt_X12_count_1.2.2.2.2
                  · have h := gIf hs11 h
                    have hD12 : G (zI σ 0 (0 : Int32)) [(0, .ref (a 0)), (1, .int p0)] 101 [] := by
                      refine z_iconst M dt_X12_count_2.1 ki_m1 ?_
                      obtain rfl := Option.some.inj h
                      exact z_iret M dt_X12_count_2.2
                    by_cases hx : (Int32.toInt p0) < 0 ∨ 8 < (Int32.toInt p0)
                    · exact z_tabOut (tgt := 101) M dt_X12_count_0.1.2.1.1 hx (by decide) hD12
                    · obtain ⟨hx1, hx2⟩ := z_tabX hx
                      have hs1 : ¬ (Int32.toInt p0) = 0 := fun q => hs1 (Int32.toInt_inj.mp (q.trans (by decide)))
                      have hs2 : ¬ (Int32.toInt p0) = 1 := fun q => hs2 (Int32.toInt_inj.mp (q.trans (by decide)))
                      have hs3 : ¬ (Int32.toInt p0) = 2 := fun q => hs3 (Int32.toInt_inj.mp (q.trans (by decide)))
                      have hs5 : ¬ (Int32.toInt p0) = 3 := fun q => hs5 (Int32.toInt_inj.mp (q.trans (by decide)))
                      have hs6 : ¬ (Int32.toInt p0) = 4 := fun q => hs6 (Int32.toInt_inj.mp (q.trans (by decide)))
                      have hs7 : ¬ (Int32.toInt p0) = 5 := fun q => hs7 (Int32.toInt_inj.mp (q.trans (by decide)))
                      have hs8 : ¬ (Int32.toInt p0) = 6 := fun q => hs8 (Int32.toInt_inj.mp (q.trans (by decide)))
                      have hs10 : ¬ (Int32.toInt p0) = 7 := fun q => hs10 (Int32.toInt_inj.mp (q.trans (by decide)))
                      have hs11 : ¬ (Int32.toInt p0) = 8 := fun q => hs11 (Int32.toInt_inj.mp (q.trans (by decide)))
                      omega
set_option maxHeartbeats 4000000 in
set_option maxRecDepth 100000 in
theorem m_X12_row (hD : ∀ σ, va_D A (mW a cy ad σ)) {σ : Zst} {p0 : Int32} {o : (Zst × Int64)} (h : f_X12_row σ p0 = some o) : zT l D zcl (zty cy) A ad (mW a cy ad) yX12_row cX12_row 2 (some .long) 2 [.ref (a 0), .int p0] σ o.1 (some (.long o.2)) := by
  refine z_met pn_X12 hD (Nat.le_of_ble_eq_true rfl) rfl (fun G M => ?_)
  refine z_aload_n M dt_X12_row_0.1.1.1.1 rfl 0 rfl ?_
  refine z_iconst M dt_X12_row_0.1.1.1.2 ki_0 ?_
  refine pf_X12_thrown M u1960 dt_X12_row_0.1.1.2.1 ?_
  refine z_iload_n M dt_X12_row_0.1.1.2.2 rfl 1 rfl ?_
  refine z_i2l M dt_X12_row_0.1.2.1.1 ?_
  refine z_lconst (v := 0) M dt_X12_row_0.1.2.1.2 (by decide) ?_
  refine z_aload_n M dt_X12_row_0.1.2.2.1 rfl 0 rfl ?_
  refine gf_X12_rows (σ := (zI σ 0 (0 : Int32))) M u1961 dt_X12_row_0.1.2.2.2 (v := (σ.1 1)) rfl ?_
  refine z_iconst M dt_X12_row_0.2.1.1.1 ki_1 ?_
  refine z_isub M dt_X12_row_0.2.1.1.2 ?_
  refine z_i2l M dt_X12_row_0.2.1.2.1 ?_
  refine k_X12_in M u1517 (Nat.le_of_ble_eq_true rfl) (Nat.le_of_ble_eq_true rfl) dt_X12_row_0.2.1.2.2 ?_
  refine z_if_ne (tgt := 28) M dt_X12_row_0.2.2.1.1 (by decide) (fun hc => ?_) (fun hc => ?_)
  · have h := gIf hc h
    refine z_aload_n M dt_X12_row_1.1.2.1 rfl 0 rfl ?_
    refine gf_X12_row M u1962 dt_X12_row_1.1.2.2 ?_
    refine z_iload_n M dt_X12_row_1.2.1.1 rfl 1 rfl ?_
    have ⟨hg, h⟩ := gIx_s h
    refine al_M1 (σ := (zI σ 0 (0 : Int32))) M (f := (σ.2.2.1 0)) rfl hg dt_X12_row_1.2.1.2 ?_
    obtain rfl := Option.some.inj h
    exact z_lret M dt_X12_row_1.2.2
  · have h := gIt hc h
    refine z_aload_n M dt_X12_row_0.2.2.1.2 rfl 0 rfl ?_
    refine z_iconst M dt_X12_row_0.2.2.2.1 ki_1 ?_
    refine pf_X12_thrown M u1960 dt_X12_row_0.2.2.2.2 ?_
    refine z_lconst (v := 0) M dt_X12_row_1.1.1.1 (by decide) ?_
    obtain rfl := Option.some.inj h
    exact z_lret M dt_X12_row_1.1.1.2
end ZWK
