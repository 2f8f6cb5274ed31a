section ZWK
variable {l : Launch} {D : va_G} {A : Nat → Prop} {ad : (Nat → Nat) × (Nat → Nat)} {a : Nat → Nat} {cy : ClassId × (ClassId × (ClassId × ClassId))} {own : String} {cc : ByteArray} {nL : Nat} {rt : Option FieldType} {σo : Zst} {ov : Option Value} {G : Zst → List (Nat × Value) → Nat → List Value → Prop}
variable {σ σ0 : Zst} {lv : List (Nat × Value)} {pc : Nat} {st : List Value} {zcl0 : List vw_C} {tys : List (ClassId × FieldType)} {wf : Zst → va_W}
set_option maxHeartbeats 4000000 in
set_option maxRecDepth 100000 in
theorem m_X12_seed (hD : ∀ σ, va_D A (mW a cy ad σ)) {σ : Zst} {p0 : Int32} {o : (Zst × Int32)} (h : f_X12_seed σ p0 = some o) : zT l D zcl (zty cy) A ad (mW a cy ad) yX12_seed cX12_seed 3 (some .int) 1 [.ref (a 0), .int p0] σ o.1 (some (.int o.2)) := by
  refine z_met pn_X12 hD (Nat.le_of_ble_eq_true rfl) rfl (fun G M => ?_)
  refine z_aload_n M dt_X12_seed_0.1.1.1.1 rfl 0 rfl ?_
  refine z_iconst M dt_X12_seed_0.1.1.1.2 ki_0 ?_
  refine pf_X12_thrown M u1960 dt_X12_seed_0.1.1.2 ?_
  refine z_aload_n M dt_X12_seed_0.1.2.1.1 rfl 0 rfl ?_
  refine gf_X12_random (σ := (zI σ 0 (0 : Int32))) M u1974 dt_X12_seed_0.1.2.1.2 (v := (σ.1 4)) rfl ?_
  refine z_istore_n (lv' := [(2, .int (σ.1 4)), (0, .ref (a 0)), (1, .int p0)]) M dt_X12_seed_0.1.2.2 rfl (by decide) rfl ?_
  refine z_aload_n M dt_X12_seed_0.2.1.1.1 rfl 1 rfl ?_
  refine z_iload_n M dt_X12_seed_0.2.1.1.2 rfl 2 rfl ?_
  refine pf_X12_random M u1974 dt_X12_seed_0.2.1.2 ?_
  refine z_iload_n M dt_X12_seed_0.2.2.1 rfl 0 rfl ?_
  obtain rfl := Option.some.inj h
  exact z_iret M dt_X12_seed_0.2.2.2
set_option maxHeartbeats 4000000 in
set_option maxRecDepth 100000 in
theorem m_X12_enters (hD : ∀ σ, va_D A (mW a cy ad σ)) {σ : Zst} {p0 : Int64} {o : Zst} (h : f_X12_enters σ p0 = some o) : zT l D zcl (zty cy) A ad (mW a cy ad) yX12_enters cX12_enters 3 none 1 [.ref (a 0), .long p0] σ o none := by
  refine z_met pn_X12 hD (Nat.le_of_ble_eq_true rfl) rfl (fun G M => ?_)
  refine z_aload_n M dt_X12_enters_0.1.1.1.1 rfl 0 rfl ?_
  refine gf_X12_row M u1962 dt_X12_enters_0.1.1.1.2 ?_
  refine z_aload_n M dt_X12_enters_0.1.1.2.1 rfl 0 rfl ?_
  refine gf_X12_rows (σ := σ) M u1961 dt_X12_enters_0.1.1.2.2 (v := (σ.1 1)) rfl ?_
  refine z_lload_n M dt_X12_enters_0.1.2.1.1 rfl 1 rfl ?_
  have ⟨hg, h⟩ := gIx_s h
  refine as_M1 (σ := σ) M (f := (σ.2.2.1 0)) rfl hg dt_X12_enters_0.1.2.1.2 ?_
  refine z_aload_n M dt_X12_enters_0.1.2.2 rfl 0 rfl ?_
  refine z_dup M dt_X12_enters_0.2.1.1.1 rfl ?_
  refine gf_X12_rows (σ := (zL σ 0 (vp_updL (σ.2.2.1 0) (Int32.toNatClampNeg (σ.1 1)) p0))) M u1961 dt_X12_enters_0.2.1.1.2 (v := (σ.1 1)) rfl ?_
  refine z_iconst M dt_X12_enters_0.2.1.2 ki_1 ?_
  refine z_iadd M dt_X12_enters_0.2.2.1.1 ?_
  refine pf_X12_rows M u1961 dt_X12_enters_0.2.2.1.2 ?_
  obtain rfl := Option.some.inj h
  exact z_vret M dt_X12_enters_0.2.2.2
theorem k_X12_enters {n : Nat} (M : zM l D zcl (zty cy) A ad (zR n) (mW a cy ad) own cc nL rt σo ov G) {p0 : Int64} {o : Zst} (h : f_X12_enters σ p0 = some o) {index : Nat} (hl : Cond.methodLink own index yX12_enters ∈ uw) (hR : 2 ≤ n) (hW : (st.map fun v => v.category).sum ≤ 8) (d : decode cc pc = .ok (.invokevirtual index, 3)) (kk : G o lv (pc + 3) (st)) : G σ lv pc (.long p0 :: .ref (a 0) :: st) := z_callV M [.long p0] (m_X12_enters (zM_hD M) h) (hM0 σ) rfl hl u99 u1711 u1710 u65 hd_X12_enters hR (by decide) rfl hW d kk
set_option maxHeartbeats 4000000 in
set_option maxRecDepth 100000 in
theorem m_X12_has (hD : ∀ σ, va_D A (wf σ)) (σ0 : Zst) (p0 : Int32) (p1 : Int32) : zT l D zcl0 tys A ad wf yX12_has cX12_has 2 (some .boolean) 1 [.int p0, .int p1] σ0 σ0 (some (.int (f_X12_has p0 p1))) := by
  obtain ⟨o, h⟩ : ∃ o, f_X12_has p0 p1 = o := ⟨_, rfl⟩
  rw [h]
  refine z_met pn_X12 hD (Nat.le_of_ble_eq_true rfl) rfl (fun G M => ?_)
  refine z_iload_n M dt_X12_has_0.1.1.1.1 rfl 0 rfl ?_
  refine z_iload_n M dt_X12_has_0.1.1.1.2 rfl 1 rfl ?_
  refine z_ishr M dt_X12_has_0.1.1.2 ?_
  refine z_iconst M dt_X12_has_0.1.2.1.1 ki_1 ?_
  refine z_iand M dt_X12_has_0.1.2.1.2 ?_
  refine z_iconst M dt_X12_has_0.1.2.2 ki_1 ?_
  have hJ2 : G σ0 [(0, .int p0), (1, .int p1)] 14 [.int (if ((jShr p0 p1) &&& (1 : Int32)) = (1 : Int32) then (1 : Int32) else (0 : Int32))] := by
    subst h
    exact z_zret M (nBo (boIte (Or.inr rfl) (Or.inl rfl))) dt_X12_has_0.2.2.2
  refine z_icmp_ne (tgt := 13) M dt_X12_has_0.2.1.1.1 (by decide) (fun hc1 => ?_) (fun hc1 => ?_)
  · refine z_iconst M dt_X12_has_0.2.2.1 ki_0 ?_
    exact (zTf hc1 hJ2)
  · refine z_iconst M dt_X12_has_0.2.1.1.2 ki_1 ?_
    refine z_goto (tgt := 14) M dt_X12_has_0.2.1.2 (by decide) ?_
    exact (zTt hc1 hJ2)
theorem k_X12_has {n : Nat} (M : zM l D zcl0 tys A ad (zR n) wf own cc nL rt σo ov G) {p0 : Int32} {p1 : Int32} {index : Nat} (hl : Cond.methodLink own index yX12_has ∈ uw) (hR : 2 ≤ n) (hW : (st.map fun v => v.category).sum ≤ 8) (d : decode cc pc = .ok (.invokestatic index, 3)) (kk : G σ lv (pc + 3) (.int (f_X12_has p0 p1) :: st)) : G σ lv pc (.int p1 :: .int p0 :: st) := z_callS M [.int p0, .int p1] (m_X12_has (zM_hD M) σ p0 p1) hl u99 u1703 u1702 hd_X12_has hR (by decide) rfl hW d kk
set_option maxHeartbeats 4000000 in
set_option maxRecDepth 100000 in
theorem m_X12_isTold (hD : ∀ σ, va_D A (mW a cy ad σ)) {σ0 : Zst} {p0 : Int32} {p1 : Int32} {p2 : Int32} {o : Int32} (h : f_X12_isTold σ0 p0 p1 p2 = some o) : zT l D zcl (zty cy) A ad (mW a cy ad) yX12_isTold cX12_isTold 4 (some .boolean) 2 [.ref (a 0), .int p0, .int p1, .int p2] σ0 σ0 (some (.int o)) := by
  refine z_met pn_X12 hD (Nat.le_of_ble_eq_true rfl) rfl (fun G M => ?_)
  refine z_aload_n M dt_X12_isTold_0.1.1.1.1 rfl 0 rfl ?_
  refine gf_X12_number M u1973 dt_X12_isTold_0.1.1.1.2 ?_
  refine z_iload_n M dt_X12_isTold_0.1.1.2 rfl 1 rfl ?_
  refine z_iload_n M dt_X12_isTold_0.1.2.1.1 rfl 2 rfl ?_
  refine z_iload_n M dt_X12_isTold_0.1.2.1.2 rfl 3 rfl ?_
  refine k_X12_placeOf M u1560 (Nat.le_of_ble_eq_true rfl) (Nat.le_of_ble_eq_true rfl) dt_X12_isTold_0.1.2.2 ?_
  have ⟨hg, h⟩ := gIx_s h
  refine al_M10 (σ := σ0) M (f := (σ0.2.1 8)) rfl hg dt_X12_isTold_0.2.1.1.1 ?_
  have hJ2 : G σ0 [(0, .ref (a 0)), (1, .int p0), (2, .int p1), (3, .int p2)] 19 [.int (if ((σ0.2.1 8) (Int32.toNatClampNeg (f_X12_placeOf p0 p1 p2))) ≤ (0 : Int32) then (0 : Int32) else (1 : Int32))] := by
    obtain rfl := Option.some.inj h
    exact z_zret M (nBo (boIte (Or.inl rfl) (Or.inr rfl))) dt_X12_isTold_0.2.2.2
  refine z_if_le (tgt := 18) M dt_X12_isTold_0.2.1.1.2 (by decide) (fun hc1 => ?_) (fun hc1 => ?_)
  · refine z_iconst M dt_X12_isTold_0.2.2.1.2 ki_0 ?_
    exact (zTt hc1 hJ2)
  · refine z_iconst M dt_X12_isTold_0.2.1.2 ki_1 ?_
    refine z_goto (tgt := 19) M dt_X12_isTold_0.2.2.1.1 (by decide) ?_
    exact (zTf hc1 hJ2)
theorem k_X12_isTold {n : Nat} (M : zM l D zcl (zty cy) A ad (zR n) (mW a cy ad) own cc nL rt σo ov G) {p0 : Int32} {p1 : Int32} {p2 : Int32} {o : Int32} (h : f_X12_isTold σ p0 p1 p2 = some o) {index : Nat} (hl : Cond.methodLink own index yX12_isTold ∈ uw) (hR : 3 ≤ n) (hW : (st.map fun v => v.category).sum ≤ 8) (d : decode cc pc = .ok (.invokevirtual index, 3)) (kk : G σ lv (pc + 3) (.int o :: st)) : G σ lv pc (.int p2 :: .int p1 :: .int p0 :: .ref (a 0) :: st) := z_callV M [.int p0, .int p1, .int p2] (m_X12_isTold (zM_hD M) h) (hM0 σ) rfl hl u99 u1707 u1706 u64 hd_X12_isTold hR (by decide) rfl hW d kk
set_option maxHeartbeats 4000000 in
set_option maxRecDepth 100000 in
theorem wL_X12_sum_56 {o : (Zst × Int32)} (M : zM l D zcl (zty cy) A ad (zR 3) (mW a cy ad) RX12 cX12_sum 8 (some .int) o.1 (some (.int o.2)) G) {k126 : Int32 → Int32 → Option (Zst × Int32)} (σ : Zst) (v1 : Int32) (v2 : Int32) (v3 : Int32) (v4 : Int32) (Hk126 : ∀ (w5 : Int32) (w6 : Int32), k126 w5 w6 = some o → G σ [(0, .ref (a 0)), (5, .int w5), (6, .int w6)] 126 []) :
    ∀ (n56 : Nat) (v5 : Int32) (v6 : Int32) (v7 : Int32), L_X12_sum_56 k126 σ v1 v2 v3 v4 n56 v5 v6 v7 = some o → G σ [(0, .ref (a 0)), (1, .int v1), (2, .int v2), (3, .int v3), (4, .int v4), (5, .int v5), (6, .int v6), (7, .int v7)] 56 [] := by
  intro n56
  induction n56 with
  | zero => intro v5 v6 v7 h; exact nomatch (show (none : Option (Zst × Int32)) = some _ from h)
  | succ n56 ih =>
    intro v5 v6 v7 h
    refine z_iload M dt_X12_sum_1.2.2.2.1 7 rfl ?_
    refine z_bipush M dt_X12_sum_1.2.2.2.2 kb_12 ?_
    refine z_aload_n M dt_X12_sum_2.1.1.1.1 rfl 0 rfl ?_
    refine gf_X12_streets (σ := σ) M u1970 dt_X12_sum_2.1.1.1.2 (v := (σ.1 3)) rfl ?_
    refine z_imul M dt_X12_sum_2.1.1.2.1 ?_
    refine z_icmp_ge (tgt := 126) M dt_X12_sum_2.1.1.2.2 (by decide) (fun hc => ?_) (fun hc => ?_)
    · have h := gIt hc h
      refine z_sub M [0, 5, 6] (lv' := [(0, .ref (a 0)), (5, .int v5), (6, .int v6)]) rfl ?_
      exact Hk126 v5 v6 h
    · have h := gIf hc h
      refine z_iload_n M dt_X12_sum_2.1.2.1.1 rfl 3 rfl ?_
      refine z_iload M dt_X12_sum_2.1.2.1.2 7 rfl ?_
      refine z_bipush M dt_X12_sum_2.1.2.2.1 kb_12 ?_
      refine z_idiv M dt_X12_sum_2.1.2.2.2 (by decide) ?_
      refine k_X12_has M u1701 (Nat.le_of_ble_eq_true rfl) (Nat.le_of_ble_eq_true rfl) dt_X12_sum_2.2.1.1.1 ?_
      refine z_if_eq (tgt := 120) M dt_X12_sum_2.2.1.1.2 (by decide) (fun hc => ?_) (fun hc => ?_)
      · have h := gIt hc h
        refine z_iinc (v := (v7 + (1 : Int32))) (lv' := [(7, .int (v7 + (1 : Int32))), (0, .ref (a 0)), (1, .int v1), (2, .int v2), (3, .int v3), (4, .int v4), (5, .int v5), (6, .int v6)]) M dt_X12_sum_3.2.2.2.2 (k := 7) rfl (congrArg (fun q => v7 + q) ki_1) (by decide) rfl ?_
        refine z_goto (tgt := 56) M dt_X12_sum_4.1.1.1.1 (by decide) ?_
        refine z_sub M [1, 2, 3, 4, 5, 6, 7, 0] (lv' := [(0, .ref (a 0)), (1, .int v1), (2, .int v2), (3, .int v3), (4, .int v4), (5, .int v5), (6, .int v6), (7, .int (v7 + (1 : Int32)))]) rfl ?_
        exact ih v5 v6 (v7 + (1 : Int32)) h
      · have h := gIf hc h
        refine z_iload M dt_X12_sum_2.2.1.2.1 4 rfl ?_
        refine z_iload M dt_X12_sum_2.2.1.2.2 7 rfl ?_
        refine z_bipush M dt_X12_sum_2.2.2.1.1 kb_12 ?_
        refine z_irem M dt_X12_sum_2.2.2.1.2 (by decide) ?_
        refine k_X12_has M u1701 (Nat.le_of_ble_eq_true rfl) (Nat.le_of_ble_eq_true rfl) dt_X12_sum_2.2.2.2.1 ?_
        refine z_if_eq (tgt := 120) M dt_X12_sum_2.2.2.2.2 (by decide) (fun hc => ?_) (fun hc => ?_)
        · have h := gIt hc h
          refine z_iinc (v := (v7 + (1 : Int32))) (lv' := [(7, .int (v7 + (1 : Int32))), (0, .ref (a 0)), (1, .int v1), (2, .int v2), (3, .int v3), (4, .int v4), (5, .int v5), (6, .int v6)]) M dt_X12_sum_3.2.2.2.2 (k := 7) rfl (congrArg (fun q => v7 + q) ki_1) (by decide) rfl ?_
          refine z_goto (tgt := 56) M dt_X12_sum_4.1.1.1.1 (by decide) ?_
          refine z_sub M [1, 2, 3, 4, 5, 6, 7, 0] (lv' := [(0, .ref (a 0)), (1, .int v1), (2, .int v2), (3, .int v3), (4, .int v4), (5, .int v5), (6, .int v6), (7, .int (v7 + (1 : Int32)))]) rfl ?_
          exact ih v5 v6 (v7 + (1 : Int32)) h
        · have h := gIf hc h
          refine z_aload_n M dt_X12_sum_3.1.1.1.1 rfl 0 rfl ?_
          refine z_iload_n M dt_X12_sum_3.1.1.1.2 rfl 1 rfl ?_
          refine z_iload M dt_X12_sum_3.1.1.2.1 7 rfl ?_
          refine z_iload_n M dt_X12_sum_3.1.1.2.2 rfl 2 rfl ?_
          obtain ⟨t1, hc, h⟩ := gBd h
          refine k_X12_isTold M hc u1704 (Nat.le_of_ble_eq_true rfl) (Nat.le_of_ble_eq_true rfl) dt_X12_sum_3.1.2.1.1 ?_
          refine z_if_eq (tgt := 120) M dt_X12_sum_3.1.2.1.2 (by decide) (fun hc => ?_) (fun hc => ?_)
          · have h := gIt hc h
            refine z_iinc (v := (v7 + (1 : Int32))) (lv' := [(7, .int (v7 + (1 : Int32))), (0, .ref (a 0)), (1, .int v1), (2, .int v2), (3, .int v3), (4, .int v4), (5, .int v5), (6, .int v6)]) M dt_X12_sum_3.2.2.2.2 (k := 7) rfl (congrArg (fun q => v7 + q) ki_1) (by decide) rfl ?_
            refine z_goto (tgt := 56) M dt_X12_sum_4.1.1.1.1 (by decide) ?_
            refine z_sub M [1, 2, 3, 4, 5, 6, 7, 0] (lv' := [(0, .ref (a 0)), (1, .int v1), (2, .int v2), (3, .int v3), (4, .int v4), (5, .int v5), (6, .int v6), (7, .int (v7 + (1 : Int32)))]) rfl ?_
            exact ih v5 v6 (v7 + (1 : Int32)) h
          · have h := gIf hc h
            refine z_iload M dt_X12_sum_3.1.2.2.1 5 rfl ?_
            refine z_aload_n M dt_X12_sum_3.1.2.2.2 rfl 0 rfl ?_
            refine z_iload_n M dt_X12_sum_3.2.1.1.1 rfl 1 rfl ?_
            refine z_iload M dt_X12_sum_3.2.1.1.2 7 rfl ?_
            refine z_iload_n M dt_X12_sum_3.2.1.2.1 rfl 2 rfl ?_
            obtain ⟨t2, hc, h⟩ := gBd h
            refine k_X12_at M hc u1556 (Nat.le_of_ble_eq_true rfl) (Nat.le_of_ble_eq_true rfl) dt_X12_sum_3.2.1.2.2 ?_
            refine z_iadd M dt_X12_sum_3.2.2.1.1 ?_
            refine z_istore (lv' := [(5, .int (v5 + t2)), (0, .ref (a 0)), (1, .int v1), (2, .int v2), (3, .int v3), (4, .int v4), (6, .int v6), (7, .int v7)]) M dt_X12_sum_3.2.2.1.2 (by decide) rfl ?_
            refine z_iinc (v := (v6 + (1 : Int32))) (lv' := [(6, .int (v6 + (1 : Int32))), (5, .int (v5 + t2)), (0, .ref (a 0)), (1, .int v1), (2, .int v2), (3, .int v3), (4, .int v4), (7, .int v7)]) M dt_X12_sum_3.2.2.2.1 (k := 6) rfl (congrArg (fun q => v6 + q) ki_1) (by decide) rfl ?_
            refine z_iinc (v := (v7 + (1 : Int32))) (lv' := [(7, .int (v7 + (1 : Int32))), (6, .int (v6 + (1 : Int32))), (5, .int (v5 + t2)), (0, .ref (a 0)), (1, .int v1), (2, .int v2), (3, .int v3), (4, .int v4)]) M dt_X12_sum_3.2.2.2.2 (k := 7) rfl (congrArg (fun q => v7 + q) ki_1) (by decide) rfl ?_
            refine z_goto (tgt := 56) M dt_X12_sum_4.1.1.1.1 (by decide) ?_
            refine z_sub M [3, 4, 5, 6, 7, 2, 1, 0] (lv' := [(0, .ref (a 0)), (1, .int v1), (2, .int v2), (3, .int v3), (4, .int v4), (5, .int (v5 + t2)), (6, .int (v6 + (1 : Int32))), (7, .int (v7 + (1 : Int32)))]) rfl ?_
            exact ih (v5 + t2) (v6 + (1 : Int32)) (v7 + (1 : Int32)) h
set_option maxHeartbeats 4000000 in
set_option maxRecDepth 100000 in
theorem wJ_X12_sum_126 {o : (Zst × Int32)} (M : zM l D zcl (zty cy) A ad (zR 3) (mW a cy ad) RX12 cX12_sum 8 (some .int) o.1 (some (.int o.2)) G) (σ : Zst) (v5 : Int32) (v6 : Int32)  (h : J_X12_sum_126 σ v5 v6 = some o) : G σ [(0, .ref (a 0)), (5, .int v5), (6, .int v6)] 126 [] := by
  refine z_aload_n M dt_X12_sum_4.1.1.1.2 rfl 0 rfl ?_
  refine z_iconst M dt_X12_sum_4.1.1.2 ki_0 ?_
  refine pf_X12_rows M u1961 dt_X12_sum_4.1.2.1 ?_
  refine z_aload_n M dt_X12_sum_4.1.2.2 rfl 0 rfl ?_
  refine z_iload M dt_X12_sum_4.2.1.1.1 2 rfl ?_
  refine z_i2l M dt_X12_sum_4.2.1.1.2 ?_
  obtain ⟨t3, hc, h⟩ := gBd h
  refine k_X12_enters M hc u1708 (Nat.le_of_ble_eq_true rfl) (Nat.le_of_ble_eq_true rfl) dt_X12_sum_4.2.1.2 ?_
  refine z_iload M dt_X12_sum_4.2.2.1 1 rfl ?_
  obtain rfl := Option.some.inj h
  exact z_iret M dt_X12_sum_4.2.2.2
set_option maxHeartbeats 4000000 in
set_option maxRecDepth 100000 in
theorem m_X12_sum (hD : ∀ σ, va_D A (mW a cy ad σ)) {σ : Zst} {p0 : Int32} {p1 : Int32} {p2 : Int32} {p3 : Int32} {o : (Zst × Int32)} (h : f_X12_sum σ p0 p1 p2 p3 = some o) : zT l D zcl (zty cy) A ad (mW a cy ad) yX12_sum cX12_sum 8 (some .int) 3 [.ref (a 0), .int p0, .int p1, .int p2, .int p3] σ o.1 (some (.int o.2)) := by
  refine z_met pn_X12 hD (Nat.le_of_ble_eq_true rfl) rfl (fun G M => ?_)
  refine z_aload_n M dt_X12_sum_0.1.1.1.1 rfl 0 rfl ?_
  refine z_iconst M dt_X12_sum_0.1.1.1.2 ki_0 ?_
  refine pf_X12_thrown M u1960 dt_X12_sum_0.1.1.2.1 ?_
  refine z_iload_n M dt_X12_sum_0.1.1.2.2 rfl 1 rfl ?_
  refine k_X12_isKind M u1547 (Nat.le_of_ble_eq_true rfl) (Nat.le_of_ble_eq_true rfl) dt_X12_sum_0.1.2.1.1 ?_
  refine z_if_eq (tgt := 45) M dt_X12_sum_0.1.2.1.2 (by decide) (fun hc => ?_) (fun hc => ?_)
  · have h := gIt hc h
    refine z_iconst M dt_X12_sum_1.1.2.2.1 ki_m1 ?_
    obtain rfl := Option.some.inj h
    exact z_iret M dt_X12_sum_1.1.2.2.2
  · have h := gIf hc h
    refine z_aload_n M dt_X12_sum_0.1.2.2.1 rfl 0 rfl ?_
    refine z_iload_n M dt_X12_sum_0.1.2.2.2 rfl 2 rfl ?_
    refine k_X12_isSort M u1526 (Nat.le_of_ble_eq_true rfl) (Nat.le_of_ble_eq_true rfl) dt_X12_sum_0.2.1.1.1 ?_
    refine z_if_eq (tgt := 45) M dt_X12_sum_0.2.1.1.2 (by decide) (fun hc => ?_) (fun hc => ?_)
    · have h := gIt hc h
      refine z_iconst M dt_X12_sum_1.1.2.2.1 ki_m1 ?_
      obtain rfl := Option.some.inj h
      exact z_iret M dt_X12_sum_1.1.2.2.2
    · have h := gIf hc h
      refine z_iload_n M dt_X12_sum_0.2.1.2.1 rfl 3 rfl ?_
      refine z_i2l M dt_X12_sum_0.2.1.2.2 ?_
      refine z_lconst (v := 1) M dt_X12_sum_0.2.2.1.1 (by decide) ?_
      refine z_ldc2 M dt_X12_sum_0.2.2.1.2 u1699 ?_
      refine k_X12_in M u1517 (Nat.le_of_ble_eq_true rfl) (Nat.le_of_ble_eq_true rfl) dt_X12_sum_0.2.2.2.1 ?_
      refine z_if_eq (tgt := 45) M dt_X12_sum_0.2.2.2.2 (by decide) (fun hc => ?_) (fun hc => ?_)
      · have h := gIt hc h
        refine z_iconst M dt_X12_sum_1.1.2.2.1 ki_m1 ?_
        obtain rfl := Option.some.inj h
        exact z_iret M dt_X12_sum_1.1.2.2.2
      · have h := gIf hc h
        refine z_iload M dt_X12_sum_1.1.1.1.1 4 rfl ?_
        refine z_i2l M dt_X12_sum_1.1.1.1.2 ?_
        refine z_lconst (v := 1) M dt_X12_sum_1.1.1.2.1 (by decide) ?_
        refine z_ldc2 M dt_X12_sum_1.1.1.2.2 u1700 ?_
        refine k_X12_in M u1517 (Nat.le_of_ble_eq_true rfl) (Nat.le_of_ble_eq_true rfl) dt_X12_sum_1.1.2.1.1 ?_
        refine z_if_ne (tgt := 47) M dt_X12_sum_1.1.2.1.2 (by decide) (fun hc => ?_) (fun hc => ?_)
        · have h := gIf hc h
          refine z_iconst M dt_X12_sum_1.2.1.1.1 ki_0 ?_
          refine z_istore (lv' := [(5, .int (0 : Int32)), (0, .ref (a 0)), (1, .int p0), (2, .int p1), (3, .int p2), (4, .int p3)]) M dt_X12_sum_1.2.1.1.2 (by decide) rfl ?_
          refine z_iconst M dt_X12_sum_1.2.1.2.1 ki_0 ?_
          refine z_istore (lv' := [(6, .int (0 : Int32)), (5, .int (0 : Int32)), (0, .ref (a 0)), (1, .int p0), (2, .int p1), (3, .int p2), (4, .int p3)]) M dt_X12_sum_1.2.1.2.2 (by decide) rfl ?_
          refine z_iconst M dt_X12_sum_1.2.2.1.1 ki_0 ?_
          refine z_istore (lv' := [(7, .int (0 : Int32)), (6, .int (0 : Int32)), (5, .int (0 : Int32)), (0, .ref (a 0)), (1, .int p0), (2, .int p1), (3, .int p2), (4, .int p3)]) M dt_X12_sum_1.2.2.1.2 (by decide) rfl ?_
          refine z_sub M [3, 4, 5, 6, 7, 2, 1, 0] (lv' := [(0, .ref (a 0)), (1, .int p0), (2, .int p1), (3, .int p2), (4, .int p3), (5, .int (0 : Int32)), (6, .int (0 : Int32)), (7, .int (0 : Int32))]) rfl ?_
          exact wL_X12_sum_56 M (k126 := (fun w4 w5 => J_X12_sum_126 (zI σ 0 (0 : Int32)) w4 w5)) (zI σ 0 (0 : Int32)) p0 p1 p2 p3 (fun w4 w5 h => by
              exact wJ_X12_sum_126 M  (zI σ 0 (0 : Int32)) w4 w5 h) zFu (0 : Int32) (0 : Int32) (0 : Int32) h
        · have h := gIt hc h
          refine z_iconst M dt_X12_sum_1.1.2.2.1 ki_m1 ?_
          obtain rfl := Option.some.inj h
          exact z_iret M dt_X12_sum_1.1.2.2.2
set_option maxHeartbeats 4000000 in
set_option maxRecDepth 100000 in
theorem wL_X12_common_28 {o : Int64} (M : zM l D zcl0 tys A ad (zR 1) wf RX12 cX12_common 10 (some .long) σ0 (some (.long o)) G)    :
    ∀ (n28 : Nat) (v4 : Int64) (v6 : Int64), L_X12_common_28  n28 v4 v6 = some o → G σ0 [(4, .long v4), (6, .long v6)] 28 [] := by
  intro n28
  induction n28 with
  | zero => intro v4 v6 h; exact nomatch (show (none : Option Int64) = some _ from h)
  | succ n28 ih =>
    intro v4 v6 h
    refine z_lload M dt_X12_common_1.1.1.2.1 1 rfl ?_
    refine z_lconst (v := 0) M dt_X12_common_1.1.1.2.2 (by decide) ?_
    refine z_lcmp_eq (tgt := 53) M dt_X12_common_1.1.2.1.1 dt_X12_common_1.1.2.1.2 (by decide) (fun hc => ?_) (fun hc => ?_)
    · have h := gIt hc h
      refine z_lload M dt_X12_common_1.2.2.2.2 0 rfl ?_
      obtain rfl := Option.some.inj h
      exact z_lret M dt_X12_common_2
    · have h := gIf hc h
      refine z_lload M dt_X12_common_1.1.2.2.1 0 rfl ?_
      refine z_lload M dt_X12_common_1.1.2.2.2 1 rfl ?_
      have ⟨hg, h⟩ := gNzL_s h
      refine z_lrem M dt_X12_common_1.2.1.1.1 hg ?_
      refine z_lstore (lv' := [(8, .long (jRemL v4 v6)), (4, .long v4), (6, .long v6)]) M dt_X12_common_1.2.1.1.2 (by decide) rfl ?_
      refine z_lload M dt_X12_common_1.2.1.2.1 2 rfl ?_
      refine z_lstore (lv' := [(4, .long v6), (8, .long (jRemL v4 v6)), (6, .long v6)]) M dt_X12_common_1.2.1.2.2 (by decide) rfl ?_
      refine z_lload M dt_X12_common_1.2.2.1.1 1 rfl ?_
      refine z_lstore (lv' := [(6, .long (jRemL v4 v6)), (4, .long v6), (8, .long (jRemL v4 v6))]) M dt_X12_common_1.2.2.1.2 (by decide) rfl ?_
      refine z_goto (tgt := 28) M dt_X12_common_1.2.2.2.1 (by decide) ?_
      refine z_sub M [1, 0] (lv' := [(4, .long v6), (6, .long (jRemL v4 v6))]) rfl ?_
      exact ih v6 (jRemL v4 v6) h
set_option maxHeartbeats 4000000 in
set_option maxRecDepth 100000 in
theorem m_X12_common (hD : ∀ σ, va_D A (wf σ)) {σ0 : Zst} {p0 : Int64} {p1 : Int64} {o : Int64} (h : f_X12_common p0 p1 = some o) : zT l D zcl0 tys A ad wf yX12_common cX12_common 10 (some .long) 1 [.long p0, .long p1] σ0 σ0 (some (.long o)) := by
  refine z_met pn_X12 hD (Nat.le_of_ble_eq_true rfl) rfl (fun G M => ?_)
  refine z_lload_n M dt_X12_common_0.1.1.1.1 rfl 0 rfl ?_
  refine z_lconst (v := 0) M dt_X12_common_0.1.1.1.2 (by decide) ?_
  have hJ2 : G σ0 [(0, .long p0), (2, .long p1)] 12 [.long (if (0 : Int64) ≤ p0 then p0 else (-p0))] := by
    refine z_lstore (lv' := [(4, .long (if (0 : Int64) ≤ p0 then p0 else (-p0))), (0, .long p0), (2, .long p1)]) M dt_X12_common_0.2.1.1.1 (by decide) rfl ?_
    refine z_lload_n M dt_X12_common_0.2.1.1.2 rfl 2 rfl ?_
    refine z_lconst (v := 0) M dt_X12_common_0.2.1.2.1 (by decide) ?_
    have hJ4 : G σ0 [(4, .long (if (0 : Int64) ≤ p0 then p0 else (-p0))), (0, .long p0), (2, .long p1)] 26 [.long (if (0 : Int64) ≤ p1 then p1 else (-p1))] := by
      refine z_lstore (lv' := [(6, .long (if (0 : Int64) ≤ p1 then p1 else (-p1))), (4, .long (if (0 : Int64) ≤ p0 then p0 else (-p0))), (0, .long p0), (2, .long p1)]) M dt_X12_common_1.1.1.1.2 (by decide) rfl ?_
      refine z_sub M [1, 0] (lv' := [(4, .long (if (0 : Int64) ≤ p0 then p0 else (-p0))), (6, .long (if (0 : Int64) ≤ p1 then p1 else (-p1)))]) rfl ?_
      exact wL_X12_common_28 M   zFu (if (0 : Int64) ≤ p0 then p0 else (-p0)) (if (0 : Int64) ≤ p1 then p1 else (-p1)) h
    refine z_lcmp_ge (tgt := 25) M dt_X12_common_0.2.1.2.2 dt_X12_common_0.2.2.1.1 (by decide) (fun hc3 => ?_) (fun hc3 => ?_)
    · refine z_lload_n M dt_X12_common_1.1.1.1.1 rfl 2 rfl ?_
      exact (zTtL hc3 hJ4)
    · refine z_lload_n M dt_X12_common_0.2.2.1.2 rfl 2 rfl ?_
      refine z_lneg M dt_X12_common_0.2.2.2.1 ?_
      refine z_goto (tgt := 26) M dt_X12_common_0.2.2.2.2 (by decide) ?_
      exact (zTfL hc3 hJ4)
  refine z_lcmp_ge (tgt := 11) M dt_X12_common_0.1.1.2.1 dt_X12_common_0.1.1.2.2 (by decide) (fun hc1 => ?_) (fun hc1 => ?_)
  · refine z_lload_n M dt_X12_common_0.1.2.2.2 rfl 0 rfl ?_
    exact (zTtL hc1 hJ2)
  · refine z_lload_n M dt_X12_common_0.1.2.1.1 rfl 0 rfl ?_
    refine z_lneg M dt_X12_common_0.1.2.1.2 ?_
    refine z_goto (tgt := 12) M dt_X12_common_0.1.2.2.1 (by decide) ?_
    exact (zTfL hc1 hJ2)
theorem k_X12_common {n : Nat} (M : zM l D zcl0 tys A ad (zR n) wf own cc nL rt σo ov G) {p0 : Int64} {p1 : Int64} {o : Int64} (h : f_X12_common p0 p1 = some o) {index : Nat} (hl : Cond.methodLink own index yX12_common ∈ uw) (hR : 2 ≤ n) (hW : (st.map fun v => v.category).sum ≤ 8) (d : decode cc pc = .ok (.invokestatic index, 3)) (kk : G σ lv (pc + 3) (.long o :: st)) : G σ lv pc (.long p1 :: .long p0 :: st) := z_callS M [.long p0, .long p1] (m_X12_common (zM_hD M) h) hl u99 u1722 u1721 hd_X12_common hR (by decide) rfl hW d kk
set_option maxHeartbeats 4000000 in
set_option maxRecDepth 100000 in
theorem wJ_X12_entersFraction_20 {o : Zst} (M : zM l D zcl (zty cy) A ad (zR 2) (mW a cy ad) RX12 cX12_entersFraction 7 none o none G) (σ : Zst) (v1 : Int64) (v3 : Int64) (s0 : Int64)  (h : J_X12_entersFraction_20 σ v1 v3 s0 = some o) : G σ [(0, .ref (a 0)), (1, .long v1), (3, .long v3)] 20 [.long s0] := by
  refine z_lstore (lv' := [(5, .long s0), (0, .ref (a 0)), (1, .long v1), (3, .long v3)]) M dt_X12_entersFraction_0.2.2.1.1 (by decide) rfl ?_
  refine z_aload_n M dt_X12_entersFraction_0.2.2.1.2 rfl 1 rfl ?_
  refine z_lload_n M dt_X12_entersFraction_0.2.2.2.1 rfl 2 rfl ?_
  refine z_lload M dt_X12_entersFraction_0.2.2.2.2 0 rfl ?_
  have ⟨hg, h⟩ := gNzL_s h
  refine z_ldiv M dt_X12_entersFraction_1.1.1.1 hg ?_
  obtain ⟨t1, hc, h⟩ := gBd h
  refine k_X12_enters M hc u1708 (Nat.le_of_ble_eq_true rfl) (Nat.le_of_ble_eq_true rfl) dt_X12_entersFraction_1.1.1.2 ?_
  refine z_aload_n M dt_X12_entersFraction_1.1.2.1 rfl 1 rfl ?_
  refine z_lload_n M dt_X12_entersFraction_1.1.2.2 rfl 3 rfl ?_
  refine z_lload M dt_X12_entersFraction_1.2.1.1 0 rfl ?_
  have ⟨hg, h⟩ := gNzL_s h
  refine z_ldiv M dt_X12_entersFraction_1.2.1.2 hg ?_
  obtain ⟨t2, hc, h⟩ := gBd h
  refine k_X12_enters M hc u1708 (Nat.le_of_ble_eq_true rfl) (Nat.le_of_ble_eq_true rfl) dt_X12_entersFraction_1.2.2.1 ?_
  obtain rfl := Option.some.inj h
  exact z_vret M dt_X12_entersFraction_1.2.2.2
set_option maxHeartbeats 4000000 in
set_option maxRecDepth 100000 in
theorem m_X12_entersFraction (hD : ∀ σ, va_D A (mW a cy ad σ)) {σ : Zst} {p0 : Int64} {p1 : Int64} {o : Zst} (h : f_X12_entersFraction σ p0 p1 = some o) : zT l D zcl (zty cy) A ad (mW a cy ad) yX12_entersFraction cX12_entersFraction 7 none 2 [.ref (a 0), .long p0, .long p1] σ o none := by
  refine z_met pn_X12 hD (Nat.le_of_ble_eq_true rfl) rfl (fun G M => ?_)
  refine z_lload_n M dt_X12_entersFraction_0.1.1.1.1 rfl 2 rfl ?_
  refine z_lconst (v := 0) M dt_X12_entersFraction_0.1.1.1.2 (by decide) ?_
  refine z_lcmp_ge (tgt := 15) M dt_X12_entersFraction_0.1.1.2.1 dt_X12_entersFraction_0.1.1.2.2 (by decide) (fun hc => ?_) (fun hc => ?_)
  · have h := gIt hc h
    refine z_lload_n M dt_X12_entersFraction_0.2.1.1.2 rfl 1 rfl ?_
    refine z_lload_n M dt_X12_entersFraction_0.2.1.2.1 rfl 2 rfl ?_
    obtain ⟨t3, hc, h⟩ := gBd h
    refine k_X12_common M hc u1720 (Nat.le_of_ble_eq_true rfl) (Nat.le_of_ble_eq_true rfl) dt_X12_entersFraction_0.2.1.2.2 ?_
    exact wJ_X12_entersFraction_20 M  σ p0 p1 t3 h
  · have h := gIf hc h
    refine z_lload_n M dt_X12_entersFraction_0.1.2.1.1 rfl 1 rfl ?_
    refine z_lload_n M dt_X12_entersFraction_0.1.2.1.2 rfl 2 rfl ?_
    obtain ⟨t4, hc, h⟩ := gBd h
    refine k_X12_common M hc u1720 (Nat.le_of_ble_eq_true rfl) (Nat.le_of_ble_eq_true rfl) dt_X12_entersFraction_0.1.2.2.1 ?_
    refine z_lneg M dt_X12_entersFraction_0.1.2.2.2 ?_
    refine z_goto (tgt := 20) M dt_X12_entersFraction_0.2.1.1.1 (by decide) ?_
    exact wJ_X12_entersFraction_20 M  σ p0 p1 (-t4) h
theorem k_X12_entersFraction {n : Nat} (M : zM l D zcl (zty cy) A ad (zR n) (mW a cy ad) own cc nL rt σo ov G) {p0 : Int64} {p1 : Int64} {o : Zst} (h : f_X12_entersFraction σ p0 p1 = some o) {index : Nat} (hl : Cond.methodLink own index yX12_entersFraction ∈ uw) (hR : 3 ≤ n) (hW : (st.map fun v => v.category).sum ≤ 8) (d : decode cc pc = .ok (.invokevirtual index, 3)) (kk : G o lv (pc + 3) (st)) : G σ lv pc (.long p1 :: .long p0 :: .ref (a 0) :: st) := z_callV M [.long p0, .long p1] (m_X12_entersFraction (zM_hD M) h) (hM0 σ) rfl hl u99 u1719 u1718 u66 hd_X12_entersFraction hR (by decide) rfl hW d kk
set_option maxHeartbeats 4000000 in
set_option maxRecDepth 100000 in
theorem m_X12_goesAll (hD : ∀ σ, va_D A (mW a cy ad σ)) {σ0 : Zst} {p0 : Int32} {o : Int32} (h : f_X12_goesAll σ0 p0 = some o) : zT l D zcl (zty cy) A ad (mW a cy ad) yX12_goesAll cX12_goesAll 2 (some .int) 1 [.ref (a 0), .int p0] σ0 σ0 (some (.int o)) := by
  refine z_met pn_X12 hD (Nat.le_of_ble_eq_true rfl) rfl (fun G M => ?_)
  refine z_aload_n M dt_X12_goesAll_0.1.1.1.1 rfl 0 rfl ?_
  refine gf_X12_sink M u1967 dt_X12_goesAll_0.1.1.1.2 ?_
  refine z_iload_n M dt_X12_goesAll_0.1.1.2.1 rfl 1 rfl ?_
  have ⟨hg, h⟩ := gIx_s h
  refine al_M5 (σ := σ0) M (f := (σ0.2.1 3)) rfl hg dt_X12_goesAll_0.1.1.2.2 ?_
  refine z_aload_n M dt_X12_goesAll_0.1.2.1.1 rfl 0 rfl ?_
  refine gf_X12_back M u1968 dt_X12_goesAll_0.1.2.1.2 ?_
  refine z_iload_n M dt_X12_goesAll_0.1.2.2.1 rfl 1 rfl ?_
  have ⟨hg, h⟩ := gIx_s h
  refine al_M6 (σ := σ0) M (f := (σ0.2.1 4)) rfl hg dt_X12_goesAll_0.1.2.2.2 ?_
  refine z_iadd M dt_X12_goesAll_0.2.1.1.1 ?_
  refine z_aload_n M dt_X12_goesAll_0.2.1.1.2 rfl 0 rfl ?_
  refine gf_X12_corner M u1969 dt_X12_goesAll_0.2.1.2.1 ?_
  refine z_iload_n M dt_X12_goesAll_0.2.1.2.2 rfl 1 rfl ?_
  have ⟨hg, h⟩ := gIx_s h
  refine al_M7 (σ := σ0) M (f := (σ0.2.1 5)) rfl hg dt_X12_goesAll_0.2.2.1.1 ?_
  refine z_iadd M dt_X12_goesAll_0.2.2.1.2 ?_
  obtain rfl := Option.some.inj h
  exact z_iret M dt_X12_goesAll_0.2.2.2
theorem k_X12_goesAll {n : Nat} (M : zM l D zcl (zty cy) A ad (zR n) (mW a cy ad) own cc nL rt σo ov G) {p0 : Int32} {o : Int32} (h : f_X12_goesAll σ p0 = some o) {index : Nat} (hl : Cond.methodLink own index yX12_goesAll ∈ uw) (hR : 2 ≤ n) (hW : (st.map fun v => v.category).sum ≤ 8) (d : decode cc pc = .ok (.invokevirtual index, 3)) (kk : G σ lv (pc + 3) (.int o :: st)) : G σ lv pc (.int p0 :: .ref (a 0) :: st) := z_callV M [.int p0] (m_X12_goesAll (zM_hD M) h) (hM0 σ) rfl hl u99 u1726 u1725 u67 hd_X12_goesAll hR (by decide) rfl hW d kk
set_option maxHeartbeats 4000000 in
set_option maxRecDepth 100000 in
theorem m_X12_bounds (hD : ∀ σ, va_D A (mW a cy ad σ)) {σ : Zst} {p0 : Int32} {p1 : Int32} {p2 : Int32} {o : (Zst × Int32)} (h : f_X12_bounds σ p0 p1 p2 = some o) : zT l D zcl (zty cy) A ad (mW a cy ad) yX12_bounds cX12_bounds 6 (some .int) 3 [.ref (a 0), .int p0, .int p1, .int p2] σ o.1 (some (.int o.2)) := by
  refine z_met pn_X12 hD (Nat.le_of_ble_eq_true rfl) rfl (fun G M => ?_)
  refine z_aload_n M dt_X12_bounds_0.1.1.1.1 rfl 0 rfl ?_
  refine z_iconst M dt_X12_bounds_0.1.1.1.2 ki_0 ?_
  refine pf_X12_thrown M u1960 dt_X12_bounds_0.1.1.2.1 ?_
  refine z_aload_n M dt_X12_bounds_0.1.1.2.2 rfl 0 rfl ?_
  refine z_iload_n M dt_X12_bounds_0.1.2.1.1 rfl 1 rfl ?_
  refine k_X12_isSort M u1526 (Nat.le_of_ble_eq_true rfl) (Nat.le_of_ble_eq_true rfl) dt_X12_bounds_0.1.2.1.2 ?_
  refine z_if_eq (tgt := 33) M dt_X12_bounds_0.1.2.2.1 (by decide) (fun hc => ?_) (fun hc => ?_)
  · have h := gIt hc h
    refine z_iconst M dt_X12_bounds_1.1.1.1.2 ki_m1 ?_
    obtain rfl := Option.some.inj h
    exact z_iret M dt_X12_bounds_1.1.1.2.1
  · have h := gIf hc h
    refine z_aload_n M dt_X12_bounds_0.1.2.2.2 rfl 0 rfl ?_
    refine z_iload_n M dt_X12_bounds_0.2.1.1.1 rfl 2 rfl ?_
    refine k_X12_isCell M u1550 (Nat.le_of_ble_eq_true rfl) (Nat.le_of_ble_eq_true rfl) dt_X12_bounds_0.2.1.1.2 ?_
    refine z_if_eq (tgt := 33) M dt_X12_bounds_0.2.1.2.1 (by decide) (fun hc => ?_) (fun hc => ?_)
    · have h := gIt hc h
      refine z_iconst M dt_X12_bounds_1.1.1.1.2 ki_m1 ?_
      obtain rfl := Option.some.inj h
      exact z_iret M dt_X12_bounds_1.1.1.2.1
    · have h := gIf hc h
      refine z_iload_n M dt_X12_bounds_0.2.1.2.2 rfl 3 rfl ?_
      refine z_i2l M dt_X12_bounds_0.2.2.1.1 ?_
      refine z_lconst (v := 0) M dt_X12_bounds_0.2.2.1.2 (by decide) ?_
      refine z_ldc2 M dt_X12_bounds_0.2.2.2.1 u1516 ?_
      refine k_X12_in M u1517 (Nat.le_of_ble_eq_true rfl) (Nat.le_of_ble_eq_true rfl) dt_X12_bounds_0.2.2.2.2 ?_
      refine z_if_ne (tgt := 35) M dt_X12_bounds_1.1.1.1.1 (by decide) (fun hc => ?_) (fun hc => ?_)
      · have h := gIf hc h
        refine z_aload_n M dt_X12_bounds_1.1.1.2.2 rfl 0 rfl ?_
        refine z_iconst M dt_X12_bounds_1.1.2.1.1 ki_0 ?_
        refine z_iload_n M dt_X12_bounds_1.1.2.1.2 rfl 2 rfl ?_
        refine z_iload_n M dt_X12_bounds_1.1.2.2.1 rfl 1 rfl ?_
        obtain ⟨t1, hc, h⟩ := gBd h
        refine k_X12_isTold M hc u1704 (Nat.le_of_ble_eq_true rfl) (Nat.le_of_ble_eq_true rfl) dt_X12_bounds_1.1.2.2.2 ?_
        refine z_if_ne (tgt := 48) M dt_X12_bounds_1.2.1.1.1 (by decide) (fun hc => ?_) (fun hc => ?_)
        · have h := gIf hc h
          refine z_aload_n M dt_X12_bounds_1.2.1.2.2 rfl 0 rfl ?_
          refine z_iconst M dt_X12_bounds_1.2.2.1.1 ki_0 ?_
          refine z_iload_n M dt_X12_bounds_1.2.2.1.2 rfl 2 rfl ?_
          refine z_iload_n M dt_X12_bounds_1.2.2.2.1 rfl 1 rfl ?_
          obtain ⟨t2, hc, h⟩ := gBd h
          refine k_X12_at M hc u1556 (Nat.le_of_ble_eq_true rfl) (Nat.le_of_ble_eq_true rfl) dt_X12_bounds_1.2.2.2.2 ?_
          refine z_i2l M dt_X12_bounds_2.1.1.1.1 ?_
          refine z_lstore (lv' := [(4, .long (Int32.toInt64 t2)), (0, .ref (a 0)), (1, .int p0), (2, .int p1), (3, .int p2)]) M dt_X12_bounds_2.1.1.1.2 (by decide) rfl ?_
          refine z_aload_n M dt_X12_bounds_2.1.1.2.1 rfl 1 rfl ?_
          refine z_iconst M dt_X12_bounds_2.1.1.2.2 ki_0 ?_
          refine pf_X12_rows M u1961 dt_X12_bounds_2.1.2.1.1 ?_
          refine z_aload_n M dt_X12_bounds_2.1.2.1.2 rfl 1 rfl ?_
          refine z_lload M dt_X12_bounds_2.1.2.2.1 0 rfl ?_
          refine z_bipush M dt_X12_bounds_2.1.2.2.2 kb_100 ?_
          refine z_iload_n M dt_X12_bounds_2.2.1.1.1 rfl 4 rfl ?_
          refine z_isub M dt_X12_bounds_2.2.1.1.2 ?_
          refine z_i2l M dt_X12_bounds_2.2.1.2.1 ?_
          refine z_lmul M dt_X12_bounds_2.2.1.2.2 ?_
          refine z_aload_n M dt_X12_bounds_2.2.2.1.1 rfl 1 rfl ?_
          refine gf_X12_leaves M u1964 dt_X12_bounds_2.2.2.1.2 ?_
          refine z_iload_n M dt_X12_bounds_2.2.2.2.1 rfl 2 rfl ?_
          have ⟨hg, h⟩ := gIx_s h
          refine al_M2 (σ := (zI (zI σ 0 (0 : Int32)) 1 (0 : Int32))) M (f := (σ.2.1 0)) rfl hg dt_X12_bounds_2.2.2.2.2 ?_
          refine z_i2l M dt_X12_bounds_3.1.1.1.1 ?_
          obtain ⟨t3, hc, h⟩ := gBd h
          refine k_X12_entersFraction M hc u1716 (Nat.le_of_ble_eq_true rfl) (Nat.le_of_ble_eq_true rfl) dt_X12_bounds_3.1.1.1.2 ?_
          refine z_aload_n M dt_X12_bounds_3.1.1.2.1 rfl 1 rfl ?_
          refine z_iload_n M dt_X12_bounds_3.1.1.2.2 rfl 2 rfl ?_
          obtain ⟨t4, hc, h⟩ := gBd h
          refine k_X12_goesAll M hc u1723 (Nat.le_of_ble_eq_true rfl) (Nat.le_of_ble_eq_true rfl) dt_X12_bounds_3.1.2.1.1 ?_
          refine z_bipush M dt_X12_bounds_3.1.2.1.2 kb_100 ?_
          refine z_icmp_ne (tgt := 95) M dt_X12_bounds_3.1.2.2.1 (by decide) (fun hc => ?_) (fun hc => ?_)
          · have h := gIf hc h
            refine z_aload_n M dt_X12_bounds_3.2.1.1.2 rfl 1 rfl ?_
            refine z_lload M dt_X12_bounds_3.2.1.2.1 0 rfl ?_
            refine z_ldc2 M dt_X12_bounds_3.2.1.2.2 u1727 ?_
            refine z_lmul M dt_X12_bounds_3.2.2.1.1 ?_
            refine z_aload_n M dt_X12_bounds_3.2.2.1.2 rfl 1 rfl ?_
            refine gf_X12_leaves M u1964 dt_X12_bounds_3.2.2.2.1 ?_
            refine z_iload_n M dt_X12_bounds_3.2.2.2.2 rfl 2 rfl ?_
            have ⟨hg, h⟩ := gIx_s h
            refine al_M2 (σ := t3) M (f := (t3.2.1 0)) rfl hg dt_X12_bounds_4.1.1.1.1 ?_
            refine z_i2l M dt_X12_bounds_4.1.1.1.2 ?_
            refine z_bipush M dt_X12_bounds_4.1.1.2 kb_100 ?_
            refine z_aload_n M dt_X12_bounds_4.1.2.1.1 rfl 1 rfl ?_
            refine z_iload_n M dt_X12_bounds_4.1.2.1.2 rfl 2 rfl ?_
            obtain ⟨t5, hc, h⟩ := gBd h
            refine k_X12_goesAll M hc u1723 (Nat.le_of_ble_eq_true rfl) (Nat.le_of_ble_eq_true rfl) dt_X12_bounds_4.1.2.2 ?_
            refine z_isub M dt_X12_bounds_4.2.1.1.1 ?_
            refine z_i2l M dt_X12_bounds_4.2.1.1.2 ?_
            refine z_lmul M dt_X12_bounds_4.2.1.2 ?_
            obtain ⟨t6, hc, h⟩ := gBd h
            refine k_X12_entersFraction M hc u1716 (Nat.le_of_ble_eq_true rfl) (Nat.le_of_ble_eq_true rfl) dt_X12_bounds_4.2.2.1.1 ?_
            refine z_iconst M dt_X12_bounds_4.2.2.1.2 ki_0 ?_
            obtain rfl := Option.some.inj h
            exact z_iret M dt_X12_bounds_4.2.2.2
          · have h := gIt hc h
            refine z_bipush M dt_X12_bounds_3.1.2.2.2 kb_m3 ?_
            obtain rfl := Option.some.inj h
            exact z_iret M dt_X12_bounds_3.2.1.1.1
        · have h := gIt hc h
          refine z_bipush M dt_X12_bounds_1.2.1.1.2 kb_m2 ?_
          obtain rfl := Option.some.inj h
          exact z_iret M dt_X12_bounds_1.2.1.2.1
      · have h := gIt hc h
        refine z_iconst M dt_X12_bounds_1.1.1.1.2 ki_m1 ?_
        obtain rfl := Option.some.inj h
        exact z_iret M dt_X12_bounds_1.1.1.2.1
set_option maxHeartbeats 4000000 in
set_option maxRecDepth 100000 in
theorem m_X12_isWay (hD : ∀ σ, va_D A (wf σ)) (σ0 : Zst) (p0 : Int32) : zT l D zcl0 tys A ad wf yX12_isWay cX12_isWay 1 (some .boolean) 2 [.int p0] σ0 σ0 (some (.int (f_X12_isWay p0))) := by
  obtain ⟨o, h⟩ : ∃ o, f_X12_isWay p0 = o := ⟨_, rfl⟩
  rw [h]
  refine z_met pn_X12 hD (Nat.le_of_ble_eq_true rfl) rfl (fun G M => ?_)
  refine z_iload_n M dt_X12_isWay_0.1.1.1 rfl 0 rfl ?_
  refine z_i2l M dt_X12_isWay_0.1.1.2 ?_
  refine z_lconst (v := 0) M dt_X12_isWay_0.1.2 (by decide) ?_
  refine z_ldc2 M dt_X12_isWay_0.2.1.1 u1575 ?_
  refine k_X12_in M u1517 (Nat.le_of_ble_eq_true rfl) (Nat.le_of_ble_eq_true rfl) dt_X12_isWay_0.2.1.2 ?_
  subst h
  exact z_zret M (nBo (bo_X12_in (Int32.toInt64 p0) (0 : Int64) (3 : Int64))) dt_X12_isWay_0.2.2
theorem k_X12_isWay {n : Nat} (M : zM l D zcl0 tys A ad (zR n) wf own cc nL rt σo ov G) {p0 : Int32} {index : Nat} (hl : Cond.methodLink own index yX12_isWay ∈ uw) (hR : 3 ≤ n) (hW : (st.map fun v => v.category).sum ≤ 8) (d : decode cc pc = .ok (.invokestatic index, 3)) (kk : G σ lv (pc + 3) (.int (f_X12_isWay p0) :: st)) : G σ lv pc (.int p0 :: st) := z_callS M [.int p0] (m_X12_isWay (zM_hD M) σ p0) hl u99 u1734 u1733 hd_X12_isWay hR (by decide) rfl hW d kk
set_option maxHeartbeats 4000000 in
set_option maxRecDepth 100000 in
theorem wL_X12_line_46 {o : (Zst × Int32)} (M : zM l D zcl (zty cy) A ad (zR 3) (mW a cy ad) RX12 cX12_line 10 (some .int) o.1 (some (.int o.2)) G) {k121 : Int64 → Int64 → Int32 → Option (Zst × Int32)} (σ : Zst) (v1 : Int32) (v2 : Int32) (v3 : Int32) (Hk121 : ∀ (w4 : Int64) (w6 : Int64) (w8 : Int32), k121 w4 w6 w8 = some o → G σ [(0, .ref (a 0)), (1, .int v1), (3, .int v3), (4, .long w4), (6, .long w6), (8, .int w8)] 121 []) :
    ∀ (n46 : Nat) (v4 : Int64) (v6 : Int64) (v8 : Int32) (v9 : Int32), L_X12_line_46 k121 σ v1 v2 v3 n46 v4 v6 v8 v9 = some o → G σ [(0, .ref (a 0)), (1, .int v1), (2, .int v2), (3, .int v3), (4, .long v4), (6, .long v6), (8, .int v8), (9, .int v9)] 46 [] := by
  intro n46
  induction n46 with
  | zero => intro v4 v6 v8 v9 h; exact nomatch (show (none : Option (Zst × Int32)) = some _ from h)
  | succ n46 ih =>
    intro v4 v6 v8 v9 h
    refine z_iload M dt_X12_line_1.2.1.2.1 7 rfl ?_
    refine z_bipush M dt_X12_line_1.2.1.2.2 kb_12 ?_
    refine z_aload_n M dt_X12_line_1.2.2.1.1 rfl 0 rfl ?_
    refine gf_X12_streets (σ := σ) M u1970 dt_X12_line_1.2.2.1.2 (v := (σ.1 3)) rfl ?_
    refine z_imul M dt_X12_line_1.2.2.2.1 ?_
    refine z_icmp_ge (tgt := 121) M dt_X12_line_1.2.2.2.2 (by decide) (fun hc => ?_) (fun hc => ?_)
    · have h := gIt hc h
      refine z_sub M [0, 1, 3, 4, 5, 6] (lv' := [(0, .ref (a 0)), (1, .int v1), (3, .int v3), (4, .long v4), (6, .long v6), (8, .int v8)]) rfl ?_
      exact Hk121 v4 v6 v8 h
    · have h := gIf hc h
      refine z_aload_n M dt_X12_line_2.1.1.1.1 rfl 0 rfl ?_
      refine z_iconst M dt_X12_line_2.1.1.1.2 ki_0 ?_
      refine z_iload M dt_X12_line_2.1.1.2.1 7 rfl ?_
      refine z_iload_n M dt_X12_line_2.1.1.2.2 rfl 1 rfl ?_
      obtain ⟨t1, hc, h⟩ := gBd h
      refine k_X12_isTold M hc u1704 (Nat.le_of_ble_eq_true rfl) (Nat.le_of_ble_eq_true rfl) dt_X12_line_2.1.2.1.1 ?_
      refine z_if_eq (tgt := 115) M dt_X12_line_2.1.2.1.2 (by decide) (fun hc => ?_) (fun hc => ?_)
      · have h := gIt hc h
        refine z_iinc (v := (v9 + (1 : Int32))) (lv' := [(9, .int (v9 + (1 : Int32))), (0, .ref (a 0)), (1, .int v1), (2, .int v2), (3, .int v3), (4, .long v4), (6, .long v6), (8, .int v8)]) M dt_X12_line_4.1.1.2.2 (k := 7) rfl (congrArg (fun q => v9 + q) ki_1) (by decide) rfl ?_
        refine z_goto (tgt := 46) M dt_X12_line_4.1.2.1.1 (by decide) ?_
        refine z_sub M [1, 2, 3, 4, 5, 6, 7, 0] (lv' := [(0, .ref (a 0)), (1, .int v1), (2, .int v2), (3, .int v3), (4, .long v4), (6, .long v6), (8, .int v8), (9, .int (v9 + (1 : Int32)))]) rfl ?_
        exact ih v4 v6 v8 (v9 + (1 : Int32)) h
      · have h := gIf hc h
        refine z_aload_n M dt_X12_line_2.1.2.2.1 rfl 0 rfl ?_
        refine z_iconst M dt_X12_line_2.1.2.2.2 ki_2 ?_
        refine z_iload_n M dt_X12_line_2.2.1.1.1 rfl 2 rfl ?_
        refine z_iadd M dt_X12_line_2.2.1.1.2 ?_
        refine z_iload M dt_X12_line_2.2.1.2.1 7 rfl ?_
        refine z_iload_n M dt_X12_line_2.2.1.2.2 rfl 1 rfl ?_
        obtain ⟨t2, hc, h⟩ := gBd h
        refine k_X12_isTold M hc u1704 (Nat.le_of_ble_eq_true rfl) (Nat.le_of_ble_eq_true rfl) dt_X12_line_2.2.2.1.1 ?_
        refine z_if_eq (tgt := 115) M dt_X12_line_2.2.2.1.2 (by decide) (fun hc => ?_) (fun hc => ?_)
        · have h := gIt hc h
          refine z_iinc (v := (v9 + (1 : Int32))) (lv' := [(9, .int (v9 + (1 : Int32))), (0, .ref (a 0)), (1, .int v1), (2, .int v2), (3, .int v3), (4, .long v4), (6, .long v6), (8, .int v8)]) M dt_X12_line_4.1.1.2.2 (k := 7) rfl (congrArg (fun q => v9 + q) ki_1) (by decide) rfl ?_
          refine z_goto (tgt := 46) M dt_X12_line_4.1.2.1.1 (by decide) ?_
          refine z_sub M [1, 2, 3, 4, 5, 6, 7, 0] (lv' := [(0, .ref (a 0)), (1, .int v1), (2, .int v2), (3, .int v3), (4, .long v4), (6, .long v6), (8, .int v8), (9, .int (v9 + (1 : Int32)))]) rfl ?_
          exact ih v4 v6 v8 (v9 + (1 : Int32)) h
        · have h := gIf hc h
          refine z_lload M dt_X12_line_2.2.2.2.1 4 rfl ?_
          refine z_aload_n M dt_X12_line_2.2.2.2.2 rfl 0 rfl ?_
          refine z_iconst M dt_X12_line_3.1.1.1.1 ki_0 ?_
          refine z_iload M dt_X12_line_3.1.1.1.2 7 rfl ?_
          refine z_iload_n M dt_X12_line_3.1.1.2.1 rfl 1 rfl ?_
          obtain ⟨t3, hc, h⟩ := gBd h
          refine k_X12_at M hc u1556 (Nat.le_of_ble_eq_true rfl) (Nat.le_of_ble_eq_true rfl) dt_X12_line_3.1.1.2.2 ?_
          refine z_i2l M dt_X12_line_3.1.2.1.1 ?_
          refine z_ladd M dt_X12_line_3.1.2.1.2 ?_
          refine z_lstore (lv' := [(4, .long (v4 + (Int32.toInt64 t3))), (0, .ref (a 0)), (1, .int v1), (2, .int v2), (3, .int v3), (6, .long v6), (8, .int v8), (9, .int v9)]) M dt_X12_line_3.1.2.2.1 (by decide) rfl ?_
          refine z_lload M dt_X12_line_3.1.2.2.2 5 rfl ?_
          refine z_aload_n M dt_X12_line_3.2.1.1.1 rfl 1 rfl ?_
          refine z_iconst M dt_X12_line_3.2.1.1.2 ki_2 ?_
          refine z_iload_n M dt_X12_line_3.2.1.2.1 rfl 3 rfl ?_
          refine z_iadd M dt_X12_line_3.2.1.2.2 ?_
          refine z_iload M dt_X12_line_3.2.2.1.1 7 rfl ?_
          refine z_iload_n M dt_X12_line_3.2.2.1.2 rfl 2 rfl ?_
          obtain ⟨t4, hc, h⟩ := gBd h
          refine k_X12_at M hc u1556 (Nat.le_of_ble_eq_true rfl) (Nat.le_of_ble_eq_true rfl) dt_X12_line_3.2.2.2.1 ?_
          refine z_i2l M dt_X12_line_3.2.2.2.2 ?_
          refine z_ladd M dt_X12_line_4.1.1.1.1 ?_
          refine z_lstore (lv' := [(6, .long (v6 + (Int32.toInt64 t4))), (4, .long (v4 + (Int32.toInt64 t3))), (0, .ref (a 0)), (1, .int v1), (2, .int v2), (3, .int v3), (8, .int v8), (9, .int v9)]) M dt_X12_line_4.1.1.1.2 (by decide) rfl ?_
          refine z_iinc (v := (v8 + (1 : Int32))) (lv' := [(8, .int (v8 + (1 : Int32))), (6, .long (v6 + (Int32.toInt64 t4))), (4, .long (v4 + (Int32.toInt64 t3))), (0, .ref (a 0)), (1, .int v1), (2, .int v2), (3, .int v3), (9, .int v9)]) M dt_X12_line_4.1.1.2.1 (k := 6) rfl (congrArg (fun q => v8 + q) ki_1) (by decide) rfl ?_
          refine z_iinc (v := (v9 + (1 : Int32))) (lv' := [(9, .int (v9 + (1 : Int32))), (8, .int (v8 + (1 : Int32))), (6, .long (v6 + (Int32.toInt64 t4))), (4, .long (v4 + (Int32.toInt64 t3))), (0, .ref (a 0)), (1, .int v1), (2, .int v2), (3, .int v3)]) M dt_X12_line_4.1.1.2.2 (k := 7) rfl (congrArg (fun q => v9 + q) ki_1) (by decide) rfl ?_
          refine z_goto (tgt := 46) M dt_X12_line_4.1.2.1.1 (by decide) ?_
          refine z_sub M [4, 5, 6, 7, 3, 2, 1, 0] (lv' := [(0, .ref (a 0)), (1, .int v1), (2, .int v2), (3, .int v3), (4, .long (v4 + (Int32.toInt64 t3))), (6, .long (v6 + (Int32.toInt64 t4))), (8, .int (v8 + (1 : Int32))), (9, .int (v9 + (1 : Int32)))]) rfl ?_
          exact ih (v4 + (Int32.toInt64 t3)) (v6 + (Int32.toInt64 t4)) (v8 + (1 : Int32)) (v9 + (1 : Int32)) h
set_option maxHeartbeats 4000000 in
set_option maxRecDepth 100000 in
theorem wJ_X12_line_121 {o : (Zst × Int32)} (M : zM l D zcl (zty cy) A ad (zR 3) (mW a cy ad) RX12 cX12_line 10 (some .int) o.1 (some (.int o.2)) G) (σ : Zst) (v1 : Int32) (v3 : Int32) (v4 : Int64) (v6 : Int64) (v8 : Int32)  (h : J_X12_line_121 σ v1 v3 v4 v6 v8 = some o) : G σ [(0, .ref (a 0)), (1, .int v1), (3, .int v3), (4, .long v4), (6, .long v6), (8, .int v8)] 121 [] := by
  refine z_iload M dt_X12_line_4.1.2.1.2 5 rfl ?_
  refine z_if_ne (tgt := 129) M dt_X12_line_4.1.2.2.1 (by decide) (fun hc => ?_) (fun hc => ?_)
  · have h := gIf hc h
    refine z_aload_n M dt_X12_line_4.2.1.1.2 rfl 0 rfl ?_
    refine z_iconst M dt_X12_line_4.2.1.2.1 ki_0 ?_
    refine pf_X12_rows M u1961 dt_X12_line_4.2.1.2.2 ?_
    refine z_aload_n M dt_X12_line_4.2.2.1.1 rfl 0 rfl ?_
    refine z_lload M dt_X12_line_4.2.2.1.2 3 rfl ?_
    refine z_bipush M dt_X12_line_4.2.2.2.1 kb_100 ?_
    refine z_iload_n M dt_X12_line_4.2.2.2.2 rfl 2 rfl ?_
    refine z_isub M dt_X12_line_5.1.1.1.1 ?_
    refine z_i2l M dt_X12_line_5.1.1.1.2 ?_
    refine z_lmul M dt_X12_line_5.1.1.2.1 ?_
    refine z_aload_n M dt_X12_line_5.1.1.2.2 rfl 0 rfl ?_
    refine gf_X12_leaves M u1964 dt_X12_line_5.1.2.1.1 ?_
    refine z_iload_n M dt_X12_line_5.1.2.1.2 rfl 1 rfl ?_
    have ⟨hg, h⟩ := gIx_s h
    refine al_M2 (σ := (zI σ 1 (0 : Int32))) M (f := (σ.2.1 0)) rfl hg dt_X12_line_5.1.2.2.1 ?_
    refine z_i2l M dt_X12_line_5.1.2.2.2 ?_
    obtain ⟨t5, hc, h⟩ := gBd h
    refine k_X12_entersFraction M hc u1716 (Nat.le_of_ble_eq_true rfl) (Nat.le_of_ble_eq_true rfl) dt_X12_line_5.2.1.1.1 ?_
    refine z_aload_n M dt_X12_line_5.2.1.1.2 rfl 0 rfl ?_
    refine z_lload M dt_X12_line_5.2.1.2.1 4 rfl ?_
    obtain ⟨t6, hc, h⟩ := gBd h
    refine k_X12_enters M hc u1708 (Nat.le_of_ble_eq_true rfl) (Nat.le_of_ble_eq_true rfl) dt_X12_line_5.2.1.2.2 ?_
    refine z_lload M dt_X12_line_5.2.2.1.1 3 rfl ?_
    refine z_bipush M dt_X12_line_5.2.2.1.2 kb_100 ?_
    refine z_iload_n M dt_X12_line_5.2.2.2.1 rfl 2 rfl ?_
    refine z_isub M dt_X12_line_5.2.2.2.2 ?_
    refine z_i2l M dt_X12_line_6.1.1.1.1 ?_
    refine z_lmul M dt_X12_line_6.1.1.1.2 ?_
    refine z_lload M dt_X12_line_6.1.1.2.1 4 rfl ?_
    refine z_aload_n M dt_X12_line_6.1.1.2.2 rfl 0 rfl ?_
    refine gf_X12_leaves M u1964 dt_X12_line_6.1.2.1.1 ?_
    refine z_iload_n M dt_X12_line_6.1.2.1.2 rfl 1 rfl ?_
    have ⟨hg, h⟩ := gIx_s h
    refine al_M2 (σ := t6) M (f := (t6.2.1 0)) rfl hg dt_X12_line_6.1.2.2.1 ?_
    refine z_i2l M dt_X12_line_6.1.2.2.2 ?_
    refine z_lmul M dt_X12_line_6.2.1.1.1 ?_
    refine z_lcmp_le (tgt := 183) M dt_X12_line_6.2.1.1.2 dt_X12_line_6.2.1.2.1 (by decide) (fun hc => ?_) (fun hc => ?_)
    · have h := gIt hc h
      refine z_bipush M dt_X12_line_6.2.2.1.2 kb_100 ?_
      refine z_aload_n M dt_X12_line_6.2.2.2.1 rfl 0 rfl ?_
      refine z_iload_n M dt_X12_line_6.2.2.2.2 rfl 1 rfl ?_
      obtain ⟨t7, hc, h⟩ := gBd h
      refine k_X12_goesAll M hc u1723 (Nat.le_of_ble_eq_true rfl) (Nat.le_of_ble_eq_true rfl) dt_X12_line_7.1.1.1.1 ?_
      refine z_isub M dt_X12_line_7.1.1.1.2 ?_
      refine z_istore (lv' := [(9, .int ((100 : Int32) - t7)), (0, .ref (a 0)), (1, .int v1), (3, .int v3), (4, .long v4), (6, .long v6), (8, .int v8)]) M dt_X12_line_7.1.1.2.1 (by decide) rfl ?_
      refine z_iload M dt_X12_line_7.1.1.2.2 0 rfl ?_
      refine z_if_le (tgt := 226) M dt_X12_line_7.1.2.1.1 (by decide) (fun hc => ?_) (fun hc => ?_)
      · have h := gIt hc h
        refine z_iconst M dt_X12_line_8.2.2.1 ki_0 ?_
        obtain rfl := Option.some.inj h
        exact z_iret M dt_X12_line_8.2.2.2
      · have h := gIf hc h
        refine z_lload M dt_X12_line_7.1.2.1.2 4 rfl ?_
        refine z_ldc2 M dt_X12_line_7.1.2.2.1 u1727 ?_
        refine z_lmul M dt_X12_line_7.1.2.2.2 ?_
        refine z_lload M dt_X12_line_7.2.1.1.1 5 rfl ?_
        refine z_aload_n M dt_X12_line_7.2.1.1.2 rfl 1 rfl ?_
        refine gf_X12_leaves M u1964 dt_X12_line_7.2.1.2.1 ?_
        refine z_iload_n M dt_X12_line_7.2.1.2.2 rfl 2 rfl ?_
        have ⟨hg, h⟩ := gIx_s h
        refine al_M2 (σ := t6) M (f := (t6.2.1 0)) rfl hg dt_X12_line_7.2.2.1.1 ?_
        refine z_i2l M dt_X12_line_7.2.2.1.2 ?_
        refine z_lmul M dt_X12_line_7.2.2.2.1 ?_
        refine z_iload M dt_X12_line_7.2.2.2.2 0 rfl ?_
        refine z_i2l M dt_X12_line_8.1.1.1 ?_
        refine z_lmul M dt_X12_line_8.1.1.2 ?_
        have hJ9 : G t6 [(9, .int ((100 : Int32) - t7)), (0, .ref (a 0)), (1, .int v1), (3, .int v3), (4, .long v4), (6, .long v6), (8, .int v8)] 227 [.int (if ((v6 * (Int32.toInt64 ((t6.2.1 0) (Int32.toNatClampNeg v1)))) * (Int32.toInt64 ((100 : Int32) - t7))) ≤ (v4 * (10000 : Int64)) then (0 : Int32) else (2 : Int32))] := by
          obtain rfl := Option.some.inj h
          exact z_iret M dt_X12_line_8.2.2.2
        refine z_lcmp_ge (tgt := 226) M dt_X12_line_8.1.2.1 dt_X12_line_8.1.2.2 (by decide) (fun hc8 => ?_) (fun hc8 => ?_)
        · refine z_iconst M dt_X12_line_8.2.2.1 ki_0 ?_
          exact (zTt hc8 hJ9)
        · refine z_iconst M dt_X12_line_8.2.1.1 ki_2 ?_
          refine z_goto (tgt := 227) M dt_X12_line_8.2.1.2 (by decide) ?_
          exact (zTf hc8 hJ9)
    · have h := gIf hc h
      refine z_iconst M dt_X12_line_6.2.1.2.2 ki_1 ?_
      obtain rfl := Option.some.inj h
      exact z_iret M dt_X12_line_6.2.2.1.1
  · have h := gIt hc h
    refine z_bipush M dt_X12_line_4.1.2.2.2 kb_m2 ?_
    obtain rfl := Option.some.inj h
    exact z_iret M dt_X12_line_4.2.1.1.1
set_option maxHeartbeats 4000000 in
set_option maxRecDepth 100000 in
theorem m_X12_line (hD : ∀ σ, va_D A (mW a cy ad σ)) {σ : Zst} {p0 : Int32} {p1 : Int32} {p2 : Int32} {o : (Zst × Int32)} (h : f_X12_line σ p0 p1 p2 = some o) : zT l D zcl (zty cy) A ad (mW a cy ad) yX12_line cX12_line 10 (some .int) 3 [.ref (a 0), .int p0, .int p1, .int p2] σ o.1 (some (.int o.2)) := by
  refine z_met pn_X12 hD (Nat.le_of_ble_eq_true rfl) rfl (fun G M => ?_)
  refine z_aload_n M dt_X12_line_0.1.1.1.1 rfl 0 rfl ?_
  refine z_iconst M dt_X12_line_0.1.1.1.2 ki_0 ?_
  refine pf_X12_thrown M u1960 dt_X12_line_0.1.1.2.1 ?_
  refine z_aload_n M dt_X12_line_0.1.1.2.2 rfl 0 rfl ?_
  refine z_iload_n M dt_X12_line_0.1.2.1.1 rfl 1 rfl ?_
  refine k_X12_isSort M u1526 (Nat.le_of_ble_eq_true rfl) (Nat.le_of_ble_eq_true rfl) dt_X12_line_0.1.2.1.2 ?_
  refine z_if_eq (tgt := 32) M dt_X12_line_0.1.2.2.1 (by decide) (fun hc => ?_) (fun hc => ?_)
  · have h := gIt hc h
    refine z_iconst M dt_X12_line_1.1.1.1.1 ki_m1 ?_
    obtain rfl := Option.some.inj h
    exact z_iret M dt_X12_line_1.1.1.1.2
  · have h := gIf hc h
    refine z_iload_n M dt_X12_line_0.1.2.2.2 rfl 2 rfl ?_
    refine k_X12_isWay M u1732 (Nat.le_of_ble_eq_true rfl) (Nat.le_of_ble_eq_true rfl) dt_X12_line_0.2.1.1.1 ?_
    refine z_if_eq (tgt := 32) M dt_X12_line_0.2.1.1.2 (by decide) (fun hc => ?_) (fun hc => ?_)
    · have h := gIt hc h
      refine z_iconst M dt_X12_line_1.1.1.1.1 ki_m1 ?_
      obtain rfl := Option.some.inj h
      exact z_iret M dt_X12_line_1.1.1.1.2
    · have h := gIf hc h
      refine z_iload_n M dt_X12_line_0.2.1.2.1 rfl 3 rfl ?_
      refine z_i2l M dt_X12_line_0.2.1.2.2 ?_
      refine z_lconst (v := 0) M dt_X12_line_0.2.2.1.1 (by decide) ?_
      refine z_ldc2 M dt_X12_line_0.2.2.1.2 u1516 ?_
      refine k_X12_in M u1517 (Nat.le_of_ble_eq_true rfl) (Nat.le_of_ble_eq_true rfl) dt_X12_line_0.2.2.2.1 ?_
      refine z_if_ne (tgt := 34) M dt_X12_line_0.2.2.2.2 (by decide) (fun hc => ?_) (fun hc => ?_)
      · have h := gIf hc h
        refine z_lconst (v := 0) M dt_X12_line_1.1.1.2.1 (by decide) ?_
        refine z_lstore (lv' := [(4, .long (0 : Int64)), (0, .ref (a 0)), (1, .int p0), (2, .int p1), (3, .int p2)]) M dt_X12_line_1.1.1.2.2 (by decide) rfl ?_
        refine z_lconst (v := 0) M dt_X12_line_1.1.2.1.1 (by decide) ?_
        refine z_lstore (lv' := [(6, .long (0 : Int64)), (4, .long (0 : Int64)), (0, .ref (a 0)), (1, .int p0), (2, .int p1), (3, .int p2)]) M dt_X12_line_1.1.2.1.2 (by decide) rfl ?_
        refine z_iconst M dt_X12_line_1.1.2.2.1 ki_0 ?_
        refine z_istore (lv' := [(8, .int (0 : Int32)), (6, .long (0 : Int64)), (4, .long (0 : Int64)), (0, .ref (a 0)), (1, .int p0), (2, .int p1), (3, .int p2)]) M dt_X12_line_1.1.2.2.2 (by decide) rfl ?_
        refine z_iconst M dt_X12_line_1.2.1.1.1 ki_0 ?_
        refine z_istore (lv' := [(9, .int (0 : Int32)), (8, .int (0 : Int32)), (6, .long (0 : Int64)), (4, .long (0 : Int64)), (0, .ref (a 0)), (1, .int p0), (2, .int p1), (3, .int p2)]) M dt_X12_line_1.2.1.1.2 (by decide) rfl ?_
        refine z_sub M [4, 5, 6, 7, 3, 2, 1, 0] (lv' := [(0, .ref (a 0)), (1, .int p0), (2, .int p1), (3, .int p2), (4, .long (0 : Int64)), (6, .long (0 : Int64)), (8, .int (0 : Int32)), (9, .int (0 : Int32))]) rfl ?_
        exact wL_X12_line_46 M (k121 := (fun w10 w11 w12 => J_X12_line_121 (zI σ 0 (0 : Int32)) p0 p2 w10 w11 w12)) (zI σ 0 (0 : Int32)) p0 p1 p2 (fun w10 w11 w12 h => by
            exact wJ_X12_line_121 M  (zI σ 0 (0 : Int32)) p0 p2 w10 w11 w12 h) zFu (0 : Int64) (0 : Int64) (0 : Int32) (0 : Int32) h
      · have h := gIt hc h
        refine z_iconst M dt_X12_line_1.1.1.1.1 ki_m1 ?_
        obtain rfl := Option.some.inj h
        exact z_iret M dt_X12_line_1.1.1.1.2
set_option maxHeartbeats 4000000 in
set_option maxRecDepth 100000 in
theorem wL_X12_offs_32 {o : Zst} (M : zM l D zcl (zty cy) A ad (zR 3) (mW a cy ad) RX12 cX12_offs 5 none o none G)  (v1 : Int32) (v2 : Int32)  :
    ∀ (n32 : Nat) (σ : Zst) (v3 : Int32), L_X12_offs_32 v1 v2 n32 σ v3 = some o → G σ [(0, .ref (a 0)), (1, .int v1), (2, .int v2), (3, .int v3)] 32 [] := by
  intro n32
  induction n32 with
  | zero => intro σ v3 h; exact nomatch (show (none : Option Zst) = some _ from h)
  | succ n32 ih =>
    intro σ v3 h
    refine z_iload_n M dt_X12_offs_1.1.2.1.1 rfl 3 rfl ?_
    refine z_bipush M dt_X12_offs_1.1.2.1.2 kb_12 ?_
    refine z_aload_n M dt_X12_offs_1.1.2.2.1 rfl 0 rfl ?_
    refine gf_X12_streets (σ := σ) M u1970 dt_X12_offs_1.1.2.2.2 (v := (σ.1 3)) rfl ?_
    refine z_imul M dt_X12_offs_1.2.1.1.1 ?_
    refine z_icmp_ge (tgt := 208) M dt_X12_offs_1.2.1.1.2 (by decide) (fun hc => ?_) (fun hc => ?_)
    · have h := gIt hc h
      obtain rfl := Option.some.inj h
      exact z_vret M dt_X12_offs_7.2
    · have h := gIf hc h
      refine z_aload_n M dt_X12_offs_1.2.1.2.1 rfl 0 rfl ?_
      refine z_iconst M dt_X12_offs_1.2.1.2.2 ki_1 ?_
      refine z_iload_n M dt_X12_offs_1.2.2.1.1 rfl 3 rfl ?_
      refine z_iload_n M dt_X12_offs_1.2.2.1.2 rfl 1 rfl ?_
      obtain ⟨t1, hc, h⟩ := gBd h
      refine k_X12_isTold M hc u1704 (Nat.le_of_ble_eq_true rfl) (Nat.le_of_ble_eq_true rfl) dt_X12_offs_1.2.2.2.1 ?_
      refine z_if_eq (tgt := 202) M dt_X12_offs_1.2.2.2.2 (by decide) (fun hc => ?_) (fun hc => ?_)
      · have h := gIt hc h
        refine z_iinc (v := (v3 + (1 : Int32))) (lv' := [(3, .int (v3 + (1 : Int32))), (0, .ref (a 0)), (1, .int v1), (2, .int v2)]) M dt_X12_offs_6.2.2.2.2 (k := 3) rfl (congrArg (fun q => v3 + q) ki_1) (by decide) rfl ?_
        refine z_goto (tgt := 32) M dt_X12_offs_7.1 (by decide) ?_
        refine z_sub M [1, 2, 3, 0] (lv' := [(0, .ref (a 0)), (1, .int v1), (2, .int v2), (3, .int (v3 + (1 : Int32)))]) rfl ?_
        exact ih σ (v3 + (1 : Int32)) h
      · have h := gIf hc h
        refine z_aload_n M dt_X12_offs_2.1.1.1.1 rfl 0 rfl ?_
        refine z_iconst M dt_X12_offs_2.1.1.1.2 ki_2 ?_
        refine z_iload_n M dt_X12_offs_2.1.1.2.1 rfl 2 rfl ?_
        refine z_iadd M dt_X12_offs_2.1.1.2.2 ?_
        refine z_iload_n M dt_X12_offs_2.1.2.1.1 rfl 3 rfl ?_
        refine z_iload_n M dt_X12_offs_2.1.2.1.2 rfl 1 rfl ?_
        obtain ⟨t2, hc, h⟩ := gBd h
        refine k_X12_isTold M hc u1704 (Nat.le_of_ble_eq_true rfl) (Nat.le_of_ble_eq_true rfl) dt_X12_offs_2.1.2.2.1 ?_
        refine z_if_ne (tgt := 68) M dt_X12_offs_2.1.2.2.2 (by decide) (fun hc => ?_) (fun hc => ?_)
        · have h := gIf hc h
          refine z_aload_n M dt_X12_offs_2.2.1.1.2 rfl 0 rfl ?_
          refine z_iconst M dt_X12_offs_2.2.1.2.1 ki_2 ?_
          refine z_iload_n M dt_X12_offs_2.2.1.2.2 rfl 2 rfl ?_
          refine z_iadd M dt_X12_offs_2.2.2.1.1 ?_
          refine z_iload_n M dt_X12_offs_2.2.2.1.2 rfl 3 rfl ?_
          refine z_iload_n M dt_X12_offs_2.2.2.2.1 rfl 1 rfl ?_
          obtain ⟨t3, hc, h⟩ := gBd h
          refine k_X12_at M hc u1556 (Nat.le_of_ble_eq_true rfl) (Nat.le_of_ble_eq_true rfl) dt_X12_offs_2.2.2.2.2 ?_
          refine z_aload_n M dt_X12_offs_3.1.1.1.1 rfl 0 rfl ?_
          refine z_iconst M dt_X12_offs_3.1.1.1.2 ki_1 ?_
          refine z_iload_n M dt_X12_offs_3.1.1.2.1 rfl 3 rfl ?_
          refine z_iload_n M dt_X12_offs_3.1.1.2.2 rfl 1 rfl ?_
          obtain ⟨t4, hc, h⟩ := gBd h
          refine k_X12_at M hc u1556 (Nat.le_of_ble_eq_true rfl) (Nat.le_of_ble_eq_true rfl) dt_X12_offs_3.1.2.1.1 ?_
          refine z_isub M dt_X12_offs_3.1.2.1.2 ?_
          refine z_istore (lv' := [(4, .int (t3 - t4)), (0, .ref (a 0)), (1, .int v1), (2, .int v2), (3, .int v3)]) M dt_X12_offs_3.1.2.2.1 (by decide) rfl ?_
          refine z_aload_n M dt_X12_offs_3.1.2.2.2 rfl 1 rfl ?_
          refine z_aload_n M dt_X12_offs_3.2.1.1.1 rfl 1 rfl ?_
          refine gf_X12_offMany (σ := σ) M u1989 dt_X12_offs_3.2.1.1.2 (v := (σ.1 14)) rfl ?_
          have hJ6 : G σ [(4, .int (t3 - t4)), (0, .ref (a 0)), (1, .int v1), (2, .int v2), (3, .int v3)] 109 [.int (if (σ.1 14) = (0 : Int32) then (t3 - t4) else (jMin (σ.1 16) (t3 - t4))), .ref (a 0)] := by
            refine pf_X12_offLeast M u1991 dt_X12_offs_4.1.1.1.2 ?_
            refine z_aload_n M dt_X12_offs_4.1.1.2.1 rfl 1 rfl ?_
            refine z_aload_n M dt_X12_offs_4.1.1.2.2 rfl 1 rfl ?_
            refine gf_X12_offMany (σ := (zI σ 16 (if (σ.1 14) = (0 : Int32) then (t3 - t4) else (jMin (σ.1 16) (t3 - t4))))) M u1989 dt_X12_offs_4.1.2.1.1 (v := (σ.1 14)) rfl ?_
            have hJ8 : G (zI σ 16 (if (σ.1 14) = (0 : Int32) then (t3 - t4) else (jMin (σ.1 16) (t3 - t4)))) [(4, .int (t3 - t4)), (0, .ref (a 0)), (1, .int v1), (2, .int v2), (3, .int v3)] 134 [.int (if (σ.1 14) = (0 : Int32) then (t3 - t4) else (jMax (σ.1 17) (t3 - t4))), .ref (a 0)] := by
              refine pf_X12_offMost M u1992 dt_X12_offs_4.2.2.1.1 ?_
              refine z_aload_n M dt_X12_offs_4.2.2.1.2 rfl 1 rfl ?_
              refine z_dup M dt_X12_offs_4.2.2.2.1 rfl ?_
              refine gf_X12_offSum (σ := (zI (zI σ 16 (if (σ.1 14) = (0 : Int32) then (t3 - t4) else (jMin (σ.1 16) (t3 - t4)))) 17 (if (σ.1 14) = (0 : Int32) then (t3 - t4) else (jMax (σ.1 17) (t3 - t4))))) M u1990 dt_X12_offs_4.2.2.2.2 (v := (σ.1 15)) rfl ?_
              refine z_iload M dt_X12_offs_5.1.1.1.1 0 rfl ?_
              refine z_iadd M dt_X12_offs_5.1.1.1.2 ?_
              refine pf_X12_offSum M u1990 dt_X12_offs_5.1.1.2.1 ?_
              refine z_aload_n M dt_X12_offs_5.1.1.2.2 rfl 1 rfl ?_
              refine z_dup M dt_X12_offs_5.1.2.1.1 rfl ?_
              refine gf_X12_offMore (σ := (zI (zI (zI σ 16 (if (σ.1 14) = (0 : Int32) then (t3 - t4) else (jMin (σ.1 16) (t3 - t4)))) 17 (if (σ.1 14) = (0 : Int32) then (t3 - t4) else (jMax (σ.1 17) (t3 - t4)))) 15 ((σ.1 15) + (t3 - t4)))) M u1993 dt_X12_offs_5.1.2.1.2 (v := (σ.1 18)) rfl ?_
              refine z_iload M dt_X12_offs_5.1.2.2.1 0 rfl ?_
              have hJ10 : G (zI (zI (zI σ 16 (if (σ.1 14) = (0 : Int32) then (t3 - t4) else (jMin (σ.1 16) (t3 - t4)))) 17 (if (σ.1 14) = (0 : Int32) then (t3 - t4) else (jMax (σ.1 17) (t3 - t4)))) 15 ((σ.1 15) + (t3 - t4))) [(4, .int (t3 - t4)), (0, .ref (a 0)), (1, .int v1), (2, .int v2), (3, .int v3)] 163 [.int (if (t3 - t4) ≤ (0 : Int32) then (0 : Int32) else (1 : Int32)), .int (σ.1 18), .ref (a 0)] := by
                refine k_X12_flag M u1675 (Nat.le_of_ble_eq_true rfl) (Nat.le_of_ble_eq_true rfl) dt_X12_offs_5.2.1.2.2 ?_
                refine z_iadd M dt_X12_offs_5.2.2.1.1 ?_
                refine pf_X12_offMore M u1993 dt_X12_offs_5.2.2.1.2 ?_
                refine z_aload_n M dt_X12_offs_5.2.2.2.1 rfl 1 rfl ?_
                refine z_dup M dt_X12_offs_5.2.2.2.2 rfl ?_
                refine gf_X12_offLess (σ := (zI (zI (zI (zI σ 16 (if (σ.1 14) = (0 : Int32) then (t3 - t4) else (jMin (σ.1 16) (t3 - t4)))) 17 (if (σ.1 14) = (0 : Int32) then (t3 - t4) else (jMax (σ.1 17) (t3 - t4)))) 15 ((σ.1 15) + (t3 - t4))) 18 ((σ.1 18) + (f_X12_flag (if (t3 - t4) ≤ (0 : Int32) then (0 : Int32) else (1 : Int32)))))) M u1994 dt_X12_offs_6.1.1.1.1 (v := (σ.1 19)) rfl ?_
                refine z_iload M dt_X12_offs_6.1.1.1.2 0 rfl ?_
                have hJ12 : G (zI (zI (zI (zI σ 16 (if (σ.1 14) = (0 : Int32) then (t3 - t4) else (jMin (σ.1 16) (t3 - t4)))) 17 (if (σ.1 14) = (0 : Int32) then (t3 - t4) else (jMax (σ.1 17) (t3 - t4)))) 15 ((σ.1 15) + (t3 - t4))) 18 ((σ.1 18) + (f_X12_flag (if (t3 - t4) ≤ (0 : Int32) then (0 : Int32) else (1 : Int32))))) [(4, .int (t3 - t4)), (0, .ref (a 0)), (1, .int v1), (2, .int v2), (3, .int v3)] 185 [.int (if (0 : Int32) ≤ (t3 - t4) then (0 : Int32) else (1 : Int32)), .int (σ.1 19), .ref (a 0)] := by
                  refine k_X12_flag M u1675 (Nat.le_of_ble_eq_true rfl) (Nat.le_of_ble_eq_true rfl) dt_X12_offs_6.1.2.2.1 ?_
                  refine z_iadd M dt_X12_offs_6.1.2.2.2 ?_
                  refine pf_X12_offLess M u1994 dt_X12_offs_6.2.1.1.1 ?_
                  refine z_aload_n M dt_X12_offs_6.2.1.1.2 rfl 1 rfl ?_
                  refine z_dup M dt_X12_offs_6.2.1.2.1 rfl ?_
                  refine gf_X12_offMany (σ := (zI (zI (zI (zI (zI σ 16 (if (σ.1 14) = (0 : Int32) then (t3 - t4) else (jMin (σ.1 16) (t3 - t4)))) 17 (if (σ.1 14) = (0 : Int32) then (t3 - t4) else (jMax (σ.1 17) (t3 - t4)))) 15 ((σ.1 15) + (t3 - t4))) 18 ((σ.1 18) + (f_X12_flag (if (t3 - t4) ≤ (0 : Int32) then (0 : Int32) else (1 : Int32))))) 19 ((σ.1 19) + (f_X12_flag (if (0 : Int32) ≤ (t3 - t4) then (0 : Int32) else (1 : Int32)))))) M u1989 dt_X12_offs_6.2.1.2.2 (v := (σ.1 14)) rfl ?_
                  refine z_iconst M dt_X12_offs_6.2.2.1.1 ki_1 ?_
                  refine z_iadd M dt_X12_offs_6.2.2.1.2 ?_
                  refine pf_X12_offMany M u1989 dt_X12_offs_6.2.2.2.1 ?_
                  refine z_iinc (v := (v3 + (1 : Int32))) (lv' := [(3, .int (v3 + (1 : Int32))), (4, .int (t3 - t4)), (0, .ref (a 0)), (1, .int v1), (2, .int v2)]) M dt_X12_offs_6.2.2.2.2 (k := 4) rfl (congrArg (fun q => v3 + q) ki_1) (by decide) rfl ?_
                  refine z_goto (tgt := 32) M dt_X12_offs_7.1 (by decide) ?_
                  refine z_sub M [2, 3, 4, 0] (lv' := [(0, .ref (a 0)), (1, .int v1), (2, .int v2), (3, .int (v3 + (1 : Int32)))]) rfl ?_
                  exact ih (zI (zI (zI (zI (zI (zI σ 16 (if (σ.1 14) = (0 : Int32) then (t3 - t4) else (jMin (σ.1 16) (t3 - t4)))) 17 (if (σ.1 14) = (0 : Int32) then (t3 - t4) else (jMax (σ.1 17) (t3 - t4)))) 15 ((σ.1 15) + (t3 - t4))) 18 ((σ.1 18) + (f_X12_flag (if (t3 - t4) ≤ (0 : Int32) then (0 : Int32) else (1 : Int32))))) 19 ((σ.1 19) + (f_X12_flag (if (0 : Int32) ≤ (t3 - t4) then (0 : Int32) else (1 : Int32))))) 14 ((σ.1 14) + (1 : Int32))) (v3 + (1 : Int32)) h
                refine z_if_ge (tgt := 184) M dt_X12_offs_6.1.1.2.1 (by decide) (fun hc11 => ?_) (fun hc11 => ?_)
                · refine z_iconst M dt_X12_offs_6.1.2.1.2 ki_0 ?_
                  exact (zTt hc11 hJ12)
                · refine z_iconst M dt_X12_offs_6.1.1.2.2 ki_1 ?_
                  refine z_goto (tgt := 185) M dt_X12_offs_6.1.2.1.1 (by decide) ?_
                  exact (zTf hc11 hJ12)
              refine z_if_le (tgt := 162) M dt_X12_offs_5.1.2.2.2 (by decide) (fun hc9 => ?_) (fun hc9 => ?_)
              · refine z_iconst M dt_X12_offs_5.2.1.2.1 ki_0 ?_
                exact (zTt hc9 hJ10)
              · refine z_iconst M dt_X12_offs_5.2.1.1.1 ki_1 ?_
                refine z_goto (tgt := 163) M dt_X12_offs_5.2.1.1.2 (by decide) ?_
                exact (zTf hc9 hJ10)
            refine z_if_ne (tgt := 125) M dt_X12_offs_4.1.2.1.2 (by decide) (fun hc7 => ?_) (fun hc7 => ?_)
            · refine z_aload_n M dt_X12_offs_4.2.1.1.1 rfl 1 rfl ?_
              refine gf_X12_offMost (σ := (zI σ 16 (if (σ.1 14) = (0 : Int32) then (t3 - t4) else (jMin (σ.1 16) (t3 - t4))))) M u1992 dt_X12_offs_4.2.1.1.2 (v := (σ.1 17)) rfl ?_
              refine z_iload M dt_X12_offs_4.2.1.2.1 0 rfl ?_
              refine z_mmax M u1686 u677 u100 u678 (Nat.le_of_ble_eq_true rfl) (Nat.le_of_ble_eq_true rfl) dt_X12_offs_4.2.1.2.2 ?_
              exact (zTf hc7 hJ8)
            · refine z_iload M dt_X12_offs_4.1.2.2.1 0 rfl ?_
              refine z_goto (tgt := 134) M dt_X12_offs_4.1.2.2.2 (by decide) ?_
              exact (zTt hc7 hJ8)
          refine z_if_ne (tgt := 100) M dt_X12_offs_3.2.1.2.1 (by decide) (fun hc5 => ?_) (fun hc5 => ?_)
          · refine z_aload_n M dt_X12_offs_3.2.2.1.2 rfl 1 rfl ?_
            refine gf_X12_offLeast (σ := σ) M u1991 dt_X12_offs_3.2.2.2.1 (v := (σ.1 16)) rfl ?_
            refine z_iload M dt_X12_offs_3.2.2.2.2 0 rfl ?_
            refine z_mmin M u1576 u680 u100 u681 (Nat.le_of_ble_eq_true rfl) (Nat.le_of_ble_eq_true rfl) dt_X12_offs_4.1.1.1.1 ?_
            exact (zTf hc5 hJ6)
          · refine z_iload M dt_X12_offs_3.2.1.2.2 0 rfl ?_
            refine z_goto (tgt := 109) M dt_X12_offs_3.2.2.1.1 (by decide) ?_
            exact (zTt hc5 hJ6)
        · have h := gIt hc h
          refine z_goto (tgt := 202) M dt_X12_offs_2.2.1.1.1 (by decide) ?_
          refine z_iinc (v := (v3 + (1 : Int32))) (lv' := [(3, .int (v3 + (1 : Int32))), (0, .ref (a 0)), (1, .int v1), (2, .int v2)]) M dt_X12_offs_6.2.2.2.2 (k := 3) rfl (congrArg (fun q => v3 + q) ki_1) (by decide) rfl ?_
          refine z_goto (tgt := 32) M dt_X12_offs_7.1 (by decide) ?_
          refine z_sub M [1, 2, 3, 0] (lv' := [(0, .ref (a 0)), (1, .int v1), (2, .int v2), (3, .int (v3 + (1 : Int32)))]) rfl ?_
          exact ih σ (v3 + (1 : Int32)) h
set_option maxHeartbeats 4000000 in
set_option maxRecDepth 100000 in
theorem m_X12_offs (hD : ∀ σ, va_D A (mW a cy ad σ)) {σ : Zst} {p0 : Int32} {p1 : Int32} {o : Zst} (h : f_X12_offs σ p0 p1 = some o) : zT l D zcl (zty cy) A ad (mW a cy ad) yX12_offs cX12_offs 5 none 3 [.ref (a 0), .int p0, .int p1] σ o none := by
  refine z_met pn_X12 hD (Nat.le_of_ble_eq_true rfl) rfl (fun G M => ?_)
  refine z_aload_n M dt_X12_offs_0.1.1.1.1 rfl 0 rfl ?_
  refine z_iconst M dt_X12_offs_0.1.1.1.2 ki_0 ?_
  refine pf_X12_offMany M u1989 dt_X12_offs_0.1.1.2.1 ?_
  refine z_aload_n M dt_X12_offs_0.1.1.2.2 rfl 0 rfl ?_
  refine z_iconst M dt_X12_offs_0.1.2.1.1 ki_0 ?_
  refine pf_X12_offSum M u1990 dt_X12_offs_0.1.2.1.2 ?_
  refine z_aload_n M dt_X12_offs_0.1.2.2.1 rfl 0 rfl ?_
  refine z_iconst M dt_X12_offs_0.1.2.2.2 ki_0 ?_
  refine pf_X12_offLeast M u1991 dt_X12_offs_0.2.1.1.1 ?_
  refine z_aload_n M dt_X12_offs_0.2.1.1.2 rfl 0 rfl ?_
  refine z_iconst M dt_X12_offs_0.2.1.2.1 ki_0 ?_
  refine pf_X12_offMost M u1992 dt_X12_offs_0.2.1.2.2 ?_
  refine z_aload_n M dt_X12_offs_0.2.2.1.1 rfl 0 rfl ?_
  refine z_iconst M dt_X12_offs_0.2.2.1.2 ki_0 ?_
  refine pf_X12_offMore M u1993 dt_X12_offs_0.2.2.2.1 ?_
  refine z_aload_n M dt_X12_offs_0.2.2.2.2 rfl 0 rfl ?_
  refine z_iconst M dt_X12_offs_1.1.1.1.1 ki_0 ?_
  refine pf_X12_offLess M u1994 dt_X12_offs_1.1.1.1.2 ?_
  refine z_iconst M dt_X12_offs_1.1.1.2.1 ki_0 ?_
  refine z_istore_n (lv' := [(3, .int (0 : Int32)), (0, .ref (a 0)), (1, .int p0), (2, .int p1)]) M dt_X12_offs_1.1.1.2.2 rfl (by decide) rfl ?_
  refine z_sub M [1, 2, 3, 0] (lv' := [(0, .ref (a 0)), (1, .int p0), (2, .int p1), (3, .int (0 : Int32))]) rfl ?_
  exact wL_X12_offs_32 M  p0 p1 zFu (zI (zI (zI (zI (zI (zI σ 14 (0 : Int32)) 15 (0 : Int32)) 16 (0 : Int32)) 17 (0 : Int32)) 18 (0 : Int32)) 19 (0 : Int32)) (0 : Int32) h
theorem k_X12_offs {n : Nat} (M : zM l D zcl (zty cy) A ad (zR n) (mW a cy ad) own cc nL rt σo ov G) {p0 : Int32} {p1 : Int32} {o : Zst} (h : f_X12_offs σ p0 p1 = some o) {index : Nat} (hl : Cond.methodLink own index yX12_offs ∈ uw) (hR : 4 ≤ n) (hW : (st.map fun v => v.category).sum ≤ 8) (d : decode cc pc = .ok (.invokevirtual index, 3)) (kk : G o lv (pc + 3) (st)) : G σ lv pc (.int p1 :: .int p0 :: .ref (a 0) :: st) := z_callV M [.int p0, .int p1] (m_X12_offs (zM_hD M) h) (hM0 σ) rfl hl u99 u1742 u1741 u68 hd_X12_offs hR (by decide) rfl hW d kk
set_option maxHeartbeats 4000000 in
set_option maxRecDepth 100000 in
theorem m_X12_off (hD : ∀ σ, va_D A (mW a cy ad σ)) {σ : Zst} {p0 : Int32} {p1 : Int32} {o : (Zst × Int32)} (h : f_X12_off σ p0 p1 = some o) : zT l D zcl (zty cy) A ad (mW a cy ad) yX12_off cX12_off 3 (some .int) 4 [.ref (a 0), .int p0, .int p1] σ o.1 (some (.int o.2)) := by
  refine z_met pn_X12 hD (Nat.le_of_ble_eq_true rfl) rfl (fun G M => ?_)
  refine z_aload_n M dt_X12_off_0.1.1.1.1 rfl 0 rfl ?_
  refine z_iconst M dt_X12_off_0.1.1.1.2 ki_0 ?_
  refine pf_X12_thrown M u1960 dt_X12_off_0.1.1.2.1 ?_
  refine z_aload_n M dt_X12_off_0.1.1.2.2 rfl 0 rfl ?_
  refine z_iload_n M dt_X12_off_0.1.2.1.1 rfl 1 rfl ?_
  refine k_X12_isSort M u1526 (Nat.le_of_ble_eq_true rfl) (Nat.le_of_ble_eq_true rfl) dt_X12_off_0.1.2.1.2 ?_
  refine z_if_eq (tgt := 20) M dt_X12_off_0.1.2.2.1 (by decide) (fun hc => ?_) (fun hc => ?_)
  · have h := gIt hc h
    refine z_iconst M dt_X12_off_0.2.1.2.1 ki_m1 ?_
    obtain rfl := Option.some.inj h
    exact z_iret M dt_X12_off_0.2.1.2.2
  · have h := gIf hc h
    refine z_iload_n M dt_X12_off_0.1.2.2.2 rfl 2 rfl ?_
    refine k_X12_isWay M u1732 (Nat.le_of_ble_eq_true rfl) (Nat.le_of_ble_eq_true rfl) dt_X12_off_0.2.1.1.1 ?_
    refine z_if_ne (tgt := 22) M dt_X12_off_0.2.1.1.2 (by decide) (fun hc => ?_) (fun hc => ?_)
    · have h := gIf hc h
      refine z_aload_n M dt_X12_off_0.2.2.1.1 rfl 0 rfl ?_
      refine z_iload_n M dt_X12_off_0.2.2.1.2 rfl 1 rfl ?_
      refine z_iload_n M dt_X12_off_0.2.2.2.1 rfl 2 rfl ?_
      obtain ⟨t1, hc, h⟩ := gBd h
      refine k_X12_offs M hc u1739 (Nat.le_of_ble_eq_true rfl) (Nat.le_of_ble_eq_true rfl) dt_X12_off_0.2.2.2.2 ?_
      refine z_aload_n M dt_X12_off_1.1.1.1.1 rfl 0 rfl ?_
      refine gf_X12_offMany (σ := t1) M u1989 dt_X12_off_1.1.1.1.2 (v := (t1.1 14)) rfl ?_
      refine z_if_le (tgt := 72) M dt_X12_off_1.1.1.2.1 (by decide) (fun hc => ?_) (fun hc => ?_)
      · have h := gIt hc h
        refine z_aload_n M dt_X12_off_2.2.1.2 rfl 0 rfl ?_
        refine gf_X12_offMany (σ := t1) M u1989 dt_X12_off_2.2.2.1 (v := (t1.1 14)) rfl ?_
        obtain rfl := Option.some.inj h
        exact z_iret M dt_X12_off_2.2.2.2
      · have h := gIf hc h
        refine z_aload_n M dt_X12_off_1.1.1.2.2 rfl 0 rfl ?_
        refine z_iconst M dt_X12_off_1.1.2.1.1 ki_0 ?_
        refine pf_X12_rows M u1961 dt_X12_off_1.1.2.1.2 ?_
        refine z_aload_n M dt_X12_off_1.1.2.2.1 rfl 0 rfl ?_
        refine z_aload_n M dt_X12_off_1.1.2.2.2 rfl 0 rfl ?_
        refine gf_X12_offSum (σ := (zI t1 1 (0 : Int32))) M u1990 dt_X12_off_1.2.1.1.1 (v := (t1.1 15)) rfl ?_
        refine z_i2l M dt_X12_off_1.2.1.1.2 ?_
        refine z_aload_n M dt_X12_off_1.2.1.2.1 rfl 0 rfl ?_
        refine gf_X12_offMany (σ := (zI t1 1 (0 : Int32))) M u1989 dt_X12_off_1.2.1.2.2 (v := (t1.1 14)) rfl ?_
        refine z_i2l M dt_X12_off_1.2.2.1.1 ?_
        obtain ⟨t2, hc, h⟩ := gBd h
        refine k_X12_entersFraction M hc u1716 (Nat.le_of_ble_eq_true rfl) (Nat.le_of_ble_eq_true rfl) dt_X12_off_1.2.2.1.2 ?_
        refine z_aload_n M dt_X12_off_1.2.2.2.1 rfl 0 rfl ?_
        refine z_aload_n M dt_X12_off_1.2.2.2.2 rfl 0 rfl ?_
        refine gf_X12_offLeast (σ := t2) M u1991 dt_X12_off_2.1.1.1.1 (v := (t2.1 16)) rfl ?_
        refine z_i2l M dt_X12_off_2.1.1.1.2 ?_
        obtain ⟨t3, hc, h⟩ := gBd h
        refine k_X12_enters M hc u1708 (Nat.le_of_ble_eq_true rfl) (Nat.le_of_ble_eq_true rfl) dt_X12_off_2.1.1.2 ?_
        refine z_aload_n M dt_X12_off_2.1.2.1.1 rfl 0 rfl ?_
        refine z_aload_n M dt_X12_off_2.1.2.1.2 rfl 0 rfl ?_
        refine gf_X12_offMost (σ := t3) M u1992 dt_X12_off_2.1.2.2 (v := (t3.1 17)) rfl ?_
        refine z_i2l M dt_X12_off_2.2.1.1.1 ?_
        obtain ⟨t4, hc, h⟩ := gBd h
        refine k_X12_enters M hc u1708 (Nat.le_of_ble_eq_true rfl) (Nat.le_of_ble_eq_true rfl) dt_X12_off_2.2.1.1.2 ?_
        refine z_aload_n M dt_X12_off_2.2.1.2 rfl 0 rfl ?_
        refine gf_X12_offMany (σ := t4) M u1989 dt_X12_off_2.2.2.1 (v := (t4.1 14)) rfl ?_
        obtain rfl := Option.some.inj h
        exact z_iret M dt_X12_off_2.2.2.2
    · have h := gIt hc h
      refine z_iconst M dt_X12_off_0.2.1.2.1 ki_m1 ?_
      obtain rfl := Option.some.inj h
      exact z_iret M dt_X12_off_0.2.1.2.2
set_option maxHeartbeats 4000000 in
set_option maxRecDepth 100000 in
theorem wJ_X12_nearest_82 {o : (Zst × Int32)} (M : zM l D zcl (zty cy) A ad (zR 4) (mW a cy ad) RX12 cX12_nearest 12 (some .int) o.1 (some (.int o.2)) G) {k32 : Zst → Int32 → Int64 → Int64 → Int32 → Int32 → Int32 → Option (Zst × Int32)} (σ : Zst) (v1 : Int32) (v9 : Int32) (v10 : Int64) (Hk32 : ∀ (σ : Zst) (w2 : Int32) (w3 : Int64) (w5 : Int64) (w7 : Int32) (w8 : Int32) (w9 : Int32), k32 σ w2 w3 w5 w7 w8 w9 = some o → G σ [(0, .ref (a 0)), (1, .int v1), (2, .int w2), (3, .long w3), (5, .long w5), (7, .int w7), (8, .int w8), (9, .int w9)] 32 []) (h : J_X12_nearest_82 k32 σ v1 v9 v10 = some o) : G σ [(0, .ref (a 0)), (1, .int v1), (9, .int v9), (10, .long v10)] 82 [] := by
  refine z_iload M dt_X12_nearest_3.1.1.1.1 2 rfl ?_
  refine z_istore_n (lv' := [(2, .int v9), (0, .ref (a 0)), (1, .int v1), (9, .int v9), (10, .long v10)]) M dt_X12_nearest_3.1.1.1.2 rfl (by decide) rfl ?_
  refine z_lload M dt_X12_nearest_3.1.1.2.1 4 rfl ?_
  refine z_lstore_n (lv' := [(3, .long v10), (2, .int v9), (0, .ref (a 0)), (1, .int v1), (9, .int v9), (10, .long v10)]) M dt_X12_nearest_3.1.1.2.2 rfl (by decide) rfl ?_
  refine z_aload_n M dt_X12_nearest_3.1.2.1.1 rfl 2 rfl ?_
  refine gf_X12_offMany (σ := σ) M u1989 dt_X12_nearest_3.1.2.1.2 (v := (σ.1 14)) rfl ?_
  refine z_i2l M dt_X12_nearest_3.1.2.2.1 ?_
  refine z_lstore (lv' := [(5, .long (Int32.toInt64 (σ.1 14))), (3, .long v10), (2, .int v9), (0, .ref (a 0)), (1, .int v1), (9, .int v9), (10, .long v10)]) M dt_X12_nearest_3.1.2.2.2 (by decide) rfl ?_
  refine z_aload_n M dt_X12_nearest_3.2.1.1.1 rfl 3 rfl ?_
  refine gf_X12_offMore (σ := σ) M u1993 dt_X12_nearest_3.2.1.1.2 (v := (σ.1 18)) rfl ?_
  refine z_istore (lv' := [(7, .int (σ.1 18)), (5, .long (Int32.toInt64 (σ.1 14))), (3, .long v10), (2, .int v9), (0, .ref (a 0)), (1, .int v1), (9, .int v9), (10, .long v10)]) M dt_X12_nearest_3.2.1.2.1 (by decide) rfl ?_
  refine z_aload_n M dt_X12_nearest_3.2.1.2.2 rfl 4 rfl ?_
  refine gf_X12_offLess (σ := σ) M u1994 dt_X12_nearest_3.2.2.1.1 (v := (σ.1 19)) rfl ?_
  refine z_istore (lv' := [(8, .int (σ.1 19)), (7, .int (σ.1 18)), (5, .long (Int32.toInt64 (σ.1 14))), (3, .long v10), (2, .int v9), (0, .ref (a 0)), (1, .int v1), (9, .int v9), (10, .long v10)]) M dt_X12_nearest_3.2.2.1.2 (by decide) rfl ?_
  refine z_iinc (v := (v9 + (1 : Int32))) (lv' := [(9, .int (v9 + (1 : Int32))), (8, .int (σ.1 19)), (7, .int (σ.1 18)), (5, .long (Int32.toInt64 (σ.1 14))), (3, .long v10), (2, .int v9), (0, .ref (a 0)), (1, .int v1), (10, .long v10)]) M dt_X12_nearest_3.2.2.2.1 (k := 7) rfl (congrArg (fun q => v9 + q) ki_1) (by decide) rfl ?_
  refine z_goto (tgt := 32) M dt_X12_nearest_3.2.2.2.2 (by decide) ?_
  refine z_sub M [6, 7, 5, 4, 3, 2, 1, 0] (lv' := [(0, .ref (a 0)), (1, .int v1), (2, .int v9), (3, .long v10), (5, .long (Int32.toInt64 (σ.1 14))), (7, .int (σ.1 18)), (8, .int (σ.1 19)), (9, .int (v9 + (1 : Int32)))]) rfl ?_
  exact Hk32 σ v9 v10 (Int32.toInt64 (σ.1 14)) (σ.1 18) (σ.1 19) (v9 + (1 : Int32)) h
set_option maxHeartbeats 4000000 in
set_option maxRecDepth 100000 in
theorem wL_X12_nearest_32 {o : (Zst × Int32)} (M : zM l D zcl (zty cy) A ad (zR 4) (mW a cy ad) RX12 cX12_nearest 12 (some .int) o.1 (some (.int o.2)) G) {k113 : Zst → Int32 → Int32 → Int32 → Option (Zst × Int32)}  (v1 : Int32) (Hk113 : ∀ (σ : Zst) (w2 : Int32) (w7 : Int32) (w8 : Int32), k113 σ w2 w7 w8 = some o → G σ [(0, .ref (a 0)), (2, .int w2), (7, .int w7), (8, .int w8)] 113 []) :
    ∀ (n32 : Nat) (σ : Zst) (v2 : Int32) (v3 : Int64) (v5 : Int64) (v7 : Int32) (v8 : Int32) (v9 : Int32), L_X12_nearest_32 k113 v1 n32 σ v2 v3 v5 v7 v8 v9 = some o → G σ [(0, .ref (a 0)), (1, .int v1), (2, .int v2), (3, .long v3), (5, .long v5), (7, .int v7), (8, .int v8), (9, .int v9)] 32 [] := by
  intro n32
  induction n32 with
  | zero => intro σ v2 v3 v5 v7 v8 v9 h; exact nomatch (show (none : Option (Zst × Int32)) = some _ from h)
  | succ n32 ih =>
    intro σ v2 v3 v5 v7 v8 v9 h
    refine z_iload M dt_X12_nearest_1.1.2.1.2 7 rfl ?_
    refine z_iconst M dt_X12_nearest_1.1.2.2.1 ki_4 ?_
    refine z_icmp_ge (tgt := 113) M dt_X12_nearest_1.1.2.2.2 (by decide) (fun hc => ?_) (fun hc => ?_)
    · have h := gIt hc h
      refine z_sub M [0, 2, 5, 6] (lv' := [(0, .ref (a 0)), (2, .int v2), (7, .int v7), (8, .int v8)]) rfl ?_
      exact Hk113 σ v2 v7 v8 h
    · have h := gIf hc h
      refine z_aload_n M dt_X12_nearest_1.2.1.1.1 rfl 0 rfl ?_
      refine z_iload_n M dt_X12_nearest_1.2.1.1.2 rfl 1 rfl ?_
      refine z_iload M dt_X12_nearest_1.2.1.2.1 7 rfl ?_
      obtain ⟨t1, hc, h⟩ := gBd h
      refine k_X12_offs M hc u1739 (Nat.le_of_ble_eq_true rfl) (Nat.le_of_ble_eq_true rfl) dt_X12_nearest_1.2.1.2.2 ?_
      refine z_aload_n M dt_X12_nearest_1.2.2.1.1 rfl 0 rfl ?_
      refine gf_X12_offSum (σ := t1) M u1990 dt_X12_nearest_1.2.2.1.2 (v := (t1.1 15)) rfl ?_
      refine z_mabs M u1747 u939 u100 u940 (Nat.le_of_ble_eq_true rfl) (Nat.le_of_ble_eq_true rfl) dt_X12_nearest_1.2.2.2.1 ?_
      refine z_i2l M dt_X12_nearest_1.2.2.2.2 ?_
      refine z_lstore (lv' := [(10, .long (Int32.toInt64 (jAbs (t1.1 15)))), (0, .ref (a 0)), (1, .int v1), (2, .int v2), (3, .long v3), (5, .long v5), (7, .int v7), (8, .int v8), (9, .int v9)]) M dt_X12_nearest_2.1.1.1.1 (by decide) rfl ?_
      refine z_aload_n M dt_X12_nearest_2.1.1.1.2 rfl 1 rfl ?_
      refine gf_X12_offMany (σ := t1) M u1989 dt_X12_nearest_2.1.1.2.1 (v := (t1.1 14)) rfl ?_
      refine z_if_le (tgt := 107) M dt_X12_nearest_2.1.1.2.2 (by decide) (fun hc => ?_) (fun hc => ?_)
      · have h := gIt hc h
        refine z_iinc (v := (v9 + (1 : Int32))) (lv' := [(9, .int (v9 + (1 : Int32))), (10, .long (Int32.toInt64 (jAbs (t1.1 15)))), (0, .ref (a 0)), (1, .int v1), (2, .int v2), (3, .long v3), (5, .long v5), (7, .int v7), (8, .int v8)]) M dt_X12_nearest_3.2.2.2.1 (k := 8) rfl (congrArg (fun q => v9 + q) ki_1) (by decide) rfl ?_
        refine z_goto (tgt := 32) M dt_X12_nearest_3.2.2.2.2 (by decide) ?_
        refine z_sub M [2, 3, 4, 5, 6, 7, 8, 0] (lv' := [(0, .ref (a 0)), (1, .int v1), (2, .int v2), (3, .long v3), (5, .long v5), (7, .int v7), (8, .int v8), (9, .int (v9 + (1 : Int32)))]) rfl ?_
        exact ih t1 v2 v3 v5 v7 v8 (v9 + (1 : Int32)) h
      · have h := gIf hc h
        refine z_iload_n M dt_X12_nearest_2.1.2.1.1 rfl 3 rfl ?_
        refine z_if_lt (tgt := 82) M dt_X12_nearest_2.1.2.1.2 (by decide) (fun hc => ?_) (fun hc => ?_)
        · have h := gIt hc h
          refine z_sub M [1, 2, 8, 0] (lv' := [(0, .ref (a 0)), (1, .int v1), (9, .int v9), (10, .long (Int32.toInt64 (jAbs (t1.1 15))))]) rfl ?_
          exact wJ_X12_nearest_82 M (k32 := (fun σ w2 w3 w5 w7 w8 w9 => L_X12_nearest_32 k113 v1 n32 σ w2 w3 w5 w7 w8 w9)) t1 v1 v9 (Int32.toInt64 (jAbs (t1.1 15))) ih h
        · have h := gIf hc h
          refine z_lload M dt_X12_nearest_2.1.2.2.1 0 rfl ?_
          refine z_lload M dt_X12_nearest_2.1.2.2.2 5 rfl ?_
          refine z_lmul M dt_X12_nearest_2.2.1.1.1 ?_
          refine z_lload_n M dt_X12_nearest_2.2.1.1.2 rfl 4 rfl ?_
          refine z_aload_n M dt_X12_nearest_2.2.1.2.1 rfl 1 rfl ?_
          refine gf_X12_offMany (σ := t1) M u1989 dt_X12_nearest_2.2.1.2.2 (v := (t1.1 14)) rfl ?_
          refine z_i2l M dt_X12_nearest_2.2.2.1.1 ?_
          refine z_lmul M dt_X12_nearest_2.2.2.1.2 ?_
          refine z_lcmp_ge (tgt := 107) M dt_X12_nearest_2.2.2.2.1 dt_X12_nearest_2.2.2.2.2 (by decide) (fun hc => ?_) (fun hc => ?_)
          · have h := gIt hc h
            refine z_iinc (v := (v9 + (1 : Int32))) (lv' := [(9, .int (v9 + (1 : Int32))), (10, .long (Int32.toInt64 (jAbs (t1.1 15)))), (0, .ref (a 0)), (1, .int v1), (2, .int v2), (3, .long v3), (5, .long v5), (7, .int v7), (8, .int v8)]) M dt_X12_nearest_3.2.2.2.1 (k := 8) rfl (congrArg (fun q => v9 + q) ki_1) (by decide) rfl ?_
            refine z_goto (tgt := 32) M dt_X12_nearest_3.2.2.2.2 (by decide) ?_
            refine z_sub M [2, 3, 4, 5, 6, 7, 8, 0] (lv' := [(0, .ref (a 0)), (1, .int v1), (2, .int v2), (3, .long v3), (5, .long v5), (7, .int v7), (8, .int v8), (9, .int (v9 + (1 : Int32)))]) rfl ?_
            exact ih t1 v2 v3 v5 v7 v8 (v9 + (1 : Int32)) h
          · have h := gIf hc h
            refine z_sub M [1, 2, 8, 0] (lv' := [(0, .ref (a 0)), (1, .int v1), (9, .int v9), (10, .long (Int32.toInt64 (jAbs (t1.1 15))))]) rfl ?_
            exact wJ_X12_nearest_82 M (k32 := (fun σ w2 w3 w5 w7 w8 w9 => L_X12_nearest_32 k113 v1 n32 σ w2 w3 w5 w7 w8 w9)) t1 v1 v9 (Int32.toInt64 (jAbs (t1.1 15))) ih h
set_option maxHeartbeats 4000000 in
set_option maxRecDepth 100000 in
theorem wJ_X12_nearest_113 {o : (Zst × Int32)} (M : zM l D zcl (zty cy) A ad (zR 4) (mW a cy ad) RX12 cX12_nearest 12 (some .int) o.1 (some (.int o.2)) G) (σ : Zst) (v2 : Int32) (v7 : Int32) (v8 : Int32)  (h : J_X12_nearest_113 σ v2 v7 v8 = some o) : G σ [(0, .ref (a 0)), (2, .int v2), (7, .int v7), (8, .int v8)] 113 [] := by
  refine z_iload_n M dt_X12_nearest_4.1.1.1.1 rfl 1 rfl ?_
  refine z_if_lt (tgt := 136) M dt_X12_nearest_4.1.1.1.2 (by decide) (fun hc => ?_) (fun hc => ?_)
  · have h := gIt hc h
    refine z_iload_n M dt_X12_nearest_4.2.2.1.2 rfl 1 rfl ?_
    obtain rfl := Option.some.inj h
    exact z_iret M dt_X12_nearest_4.2.2.2
  · have h := gIf hc h
    refine z_aload_n M dt_X12_nearest_4.1.1.2.1 rfl 0 rfl ?_
    refine z_iconst M dt_X12_nearest_4.1.1.2.2 ki_0 ?_
    refine pf_X12_rows M u1961 dt_X12_nearest_4.1.2.1.1 ?_
    refine z_aload_n M dt_X12_nearest_4.1.2.1.2 rfl 0 rfl ?_
    refine z_iload M dt_X12_nearest_4.1.2.2.1 2 rfl ?_
    refine z_i2l M dt_X12_nearest_4.1.2.2.2 ?_
    obtain ⟨t2, hc, h⟩ := gBd h
    refine k_X12_enters M hc u1708 (Nat.le_of_ble_eq_true rfl) (Nat.le_of_ble_eq_true rfl) dt_X12_nearest_4.2.1.1.1 ?_
    refine z_aload_n M dt_X12_nearest_4.2.1.1.2 rfl 0 rfl ?_
    refine z_iload M dt_X12_nearest_4.2.1.2.1 3 rfl ?_
    refine z_i2l M dt_X12_nearest_4.2.1.2.2 ?_
    obtain ⟨t3, hc, h⟩ := gBd h
    refine k_X12_enters M hc u1708 (Nat.le_of_ble_eq_true rfl) (Nat.le_of_ble_eq_true rfl) dt_X12_nearest_4.2.2.1.1 ?_
    refine z_iload_n M dt_X12_nearest_4.2.2.1.2 rfl 1 rfl ?_
    obtain rfl := Option.some.inj h
    exact z_iret M dt_X12_nearest_4.2.2.2
set_option maxHeartbeats 4000000 in
set_option maxRecDepth 100000 in
theorem m_X12_nearest (hD : ∀ σ, va_D A (mW a cy ad σ)) {σ : Zst} {p0 : Int32} {o : (Zst × Int32)} (h : f_X12_nearest σ p0 = some o) : zT l D zcl (zty cy) A ad (mW a cy ad) yX12_nearest cX12_nearest 12 (some .int) 4 [.ref (a 0), .int p0] σ o.1 (some (.int o.2)) := by
  refine z_met pn_X12 hD (Nat.le_of_ble_eq_true rfl) rfl (fun G M => ?_)
  refine z_aload_n M dt_X12_nearest_0.1.1.1.1 rfl 0 rfl ?_
  refine z_iconst M dt_X12_nearest_0.1.1.1.2 ki_0 ?_
  refine pf_X12_thrown M u1960 dt_X12_nearest_0.1.1.2.1 ?_
  refine z_aload_n M dt_X12_nearest_0.1.1.2.2 rfl 0 rfl ?_
  refine z_iload_n M dt_X12_nearest_0.1.2.1.1 rfl 1 rfl ?_
  refine k_X12_isSort M u1526 (Nat.le_of_ble_eq_true rfl) (Nat.le_of_ble_eq_true rfl) dt_X12_nearest_0.1.2.1.2 ?_
  refine z_if_ne (tgt := 15) M dt_X12_nearest_0.1.2.2.1 (by decide) (fun hc => ?_) (fun hc => ?_)
  · have h := gIf hc h
    refine z_bipush M dt_X12_nearest_0.2.1.1.2 kb_m2 ?_
    refine z_istore_n (lv' := [(2, .int (-2 : Int32)), (0, .ref (a 0)), (1, .int p0)]) M dt_X12_nearest_0.2.1.2.1 rfl (by decide) rfl ?_
    refine z_lconst (v := 0) M dt_X12_nearest_0.2.1.2.2 (by decide) ?_
    refine z_lstore_n (lv' := [(3, .long (0 : Int64)), (2, .int (-2 : Int32)), (0, .ref (a 0)), (1, .int p0)]) M dt_X12_nearest_0.2.2.1.1 rfl (by decide) rfl ?_
    refine z_lconst (v := 1) M dt_X12_nearest_0.2.2.1.2 (by decide) ?_
    refine z_lstore (lv' := [(5, .long (1 : Int64)), (3, .long (0 : Int64)), (2, .int (-2 : Int32)), (0, .ref (a 0)), (1, .int p0)]) M dt_X12_nearest_0.2.2.2.1 (by decide) rfl ?_
    refine z_iconst M dt_X12_nearest_0.2.2.2.2 ki_0 ?_
    refine z_istore (lv' := [(7, .int (0 : Int32)), (5, .long (1 : Int64)), (3, .long (0 : Int64)), (2, .int (-2 : Int32)), (0, .ref (a 0)), (1, .int p0)]) M dt_X12_nearest_1.1.1.1.1 (by decide) rfl ?_
    refine z_iconst M dt_X12_nearest_1.1.1.1.2 ki_0 ?_
    refine z_istore (lv' := [(8, .int (0 : Int32)), (7, .int (0 : Int32)), (5, .long (1 : Int64)), (3, .long (0 : Int64)), (2, .int (-2 : Int32)), (0, .ref (a 0)), (1, .int p0)]) M dt_X12_nearest_1.1.1.2.1 (by decide) rfl ?_
    refine z_iconst M dt_X12_nearest_1.1.1.2.2 ki_0 ?_
    refine z_istore (lv' := [(9, .int (0 : Int32)), (8, .int (0 : Int32)), (7, .int (0 : Int32)), (5, .long (1 : Int64)), (3, .long (0 : Int64)), (2, .int (-2 : Int32)), (0, .ref (a 0)), (1, .int p0)]) M dt_X12_nearest_1.1.2.1.1 (by decide) rfl ?_
    refine z_sub M [6, 7, 5, 4, 3, 2, 1, 0] (lv' := [(0, .ref (a 0)), (1, .int p0), (2, .int (-2 : Int32)), (3, .long (0 : Int64)), (5, .long (1 : Int64)), (7, .int (0 : Int32)), (8, .int (0 : Int32)), (9, .int (0 : Int32))]) rfl ?_
    exact wL_X12_nearest_32 M (k113 := (fun σ7 w4 w5 w6 => J_X12_nearest_113 σ7 w4 w5 w6)) p0 (fun σ7 w4 w5 w6 h => by
        exact wJ_X12_nearest_113 M  σ7 w4 w5 w6 h) zFu (zI σ 0 (0 : Int32)) (-2 : Int32) (0 : Int64) (1 : Int64) (0 : Int32) (0 : Int32) (0 : Int32) h
  · have h := gIt hc h
    refine z_iconst M dt_X12_nearest_0.1.2.2.2 ki_m1 ?_
    obtain rfl := Option.some.inj h
    exact z_iret M dt_X12_nearest_0.2.1.1.1
set_option maxHeartbeats 4000000 in
set_option maxRecDepth 100000 in
theorem wJ_X12_worst_103 {o : (Zst × Int32)} (M : zM l D zcl (zty cy) A ad (zR 4) (mW a cy ad) RX12 cX12_worst 11 (some .int) o.1 (some (.int o.2)) G) {k36 : Zst → Int32 → Int64 → Int64 → Int32 → Option (Zst × Int32)} (σ : Zst) (v1 : Int32) (v2 : Int32) (v8 : Int32) (Hk36 : ∀ (σ : Zst) (w3 : Int32) (w4 : Int64) (w6 : Int64) (w8 : Int32), k36 σ w3 w4 w6 w8 = some o → G σ [(0, .ref (a 0)), (1, .int v1), (2, .int v2), (3, .int w3), (4, .long w4), (6, .long w6), (8, .int w8)] 36 []) (h : J_X12_worst_103 k36 σ v1 v2 v8 = some o) : G σ [(0, .ref (a 0)), (1, .int v1), (2, .int v2), (8, .int v8)] 103 [] := by
  refine z_iload M dt_X12_worst_3.2.1.2.1 3 rfl ?_
  refine z_istore_n (lv' := [(3, .int v8), (0, .ref (a 0)), (1, .int v1), (2, .int v2), (8, .int v8)]) M dt_X12_worst_3.2.1.2.2 rfl (by decide) rfl ?_
  refine z_aload_n M dt_X12_worst_3.2.2.1.1 rfl 1 rfl ?_
  refine gf_X12_offSum (σ := σ) M u1990 dt_X12_worst_3.2.2.1.2 (v := (σ.1 15)) rfl ?_
  refine z_i2l M dt_X12_worst_3.2.2.2.1 ?_
  refine z_lstore (lv' := [(4, .long (Int32.toInt64 (σ.1 15))), (3, .int v8), (0, .ref (a 0)), (1, .int v1), (2, .int v2), (8, .int v8)]) M dt_X12_worst_3.2.2.2.2 (by decide) rfl ?_
  refine z_aload_n M dt_X12_worst_4.1.1.1.1 rfl 2 rfl ?_
  refine gf_X12_offMany (σ := σ) M u1989 dt_X12_worst_4.1.1.1.2 (v := (σ.1 14)) rfl ?_
  refine z_i2l M dt_X12_worst_4.1.1.2.1 ?_
  refine z_lstore (lv' := [(6, .long (Int32.toInt64 (σ.1 14))), (4, .long (Int32.toInt64 (σ.1 15))), (3, .int v8), (0, .ref (a 0)), (1, .int v1), (2, .int v2), (8, .int v8)]) M dt_X12_worst_4.1.1.2.2 (by decide) rfl ?_
  refine z_iinc (v := (v8 + (1 : Int32))) (lv' := [(8, .int (v8 + (1 : Int32))), (6, .long (Int32.toInt64 (σ.1 14))), (4, .long (Int32.toInt64 (σ.1 15))), (3, .int v8), (0, .ref (a 0)), (1, .int v1), (2, .int v2)]) M dt_X12_worst_4.1.2.1.1 (k := 6) rfl (congrArg (fun q => v8 + q) ki_1) (by decide) rfl ?_
  refine z_goto (tgt := 36) M dt_X12_worst_4.1.2.1.2 (by decide) ?_
  refine z_sub M [4, 5, 6, 3, 2, 1, 0] (lv' := [(0, .ref (a 0)), (1, .int v1), (2, .int v2), (3, .int v8), (4, .long (Int32.toInt64 (σ.1 15))), (6, .long (Int32.toInt64 (σ.1 14))), (8, .int (v8 + (1 : Int32)))]) rfl ?_
  exact Hk36 σ v8 (Int32.toInt64 (σ.1 15)) (Int32.toInt64 (σ.1 14)) (v8 + (1 : Int32)) h
set_option maxHeartbeats 4000000 in
set_option maxRecDepth 100000 in
theorem wL_X12_worst_36 {o : (Zst × Int32)} (M : zM l D zcl (zty cy) A ad (zR 4) (mW a cy ad) RX12 cX12_worst 11 (some .int) o.1 (some (.int o.2)) G) {k126 : Zst → Int32 → Int64 → Int64 → Option (Zst × Int32)}  (v1 : Int32) (v2 : Int32) (Hk126 : ∀ (σ : Zst) (w3 : Int32) (w4 : Int64) (w6 : Int64), k126 σ w3 w4 w6 = some o → G σ [(0, .ref (a 0)), (3, .int w3), (4, .long w4), (6, .long w6)] 126 []) :
    ∀ (n36 : Nat) (σ : Zst) (v3 : Int32) (v4 : Int64) (v6 : Int64) (v8 : Int32), L_X12_worst_36 k126 v1 v2 n36 σ v3 v4 v6 v8 = some o → G σ [(0, .ref (a 0)), (1, .int v1), (2, .int v2), (3, .int v3), (4, .long v4), (6, .long v6), (8, .int v8)] 36 [] := by
  intro n36
  induction n36 with
  | zero => intro σ v3 v4 v6 v8 h; exact nomatch (show (none : Option (Zst × Int32)) = some _ from h)
  | succ n36 ih =>
    intro σ v3 v4 v6 v8 h
    refine z_iload M dt_X12_worst_1.1.2.2.1 6 rfl ?_
    refine z_aload_n M dt_X12_worst_1.1.2.2.2 rfl 0 rfl ?_
    refine gf_X12_sorts (σ := σ) M u1963 dt_X12_worst_1.2.1.1.1 (v := (σ.1 2)) rfl ?_
    refine z_icmp_ge (tgt := 126) M dt_X12_worst_1.2.1.1.2 (by decide) (fun hc => ?_) (fun hc => ?_)
    · have h := gIt hc h
      refine z_sub M [0, 3, 4, 5] (lv' := [(0, .ref (a 0)), (3, .int v3), (4, .long v4), (6, .long v6)]) rfl ?_
      exact Hk126 σ v3 v4 v6 h
    · have h := gIf hc h
      refine z_aload_n M dt_X12_worst_1.2.1.2.1 rfl 0 rfl ?_
      refine z_iload M dt_X12_worst_1.2.1.2.2 6 rfl ?_
      refine z_iload_n M dt_X12_worst_1.2.2.1.1 rfl 1 rfl ?_
      obtain ⟨t1, hc, h⟩ := gBd h
      refine k_X12_offs M hc u1739 (Nat.le_of_ble_eq_true rfl) (Nat.le_of_ble_eq_true rfl) dt_X12_worst_1.2.2.1.2 ?_
      refine z_aload_n M dt_X12_worst_1.2.2.2.1 rfl 0 rfl ?_
      refine gf_X12_offSum (σ := t1) M u1990 dt_X12_worst_1.2.2.2.2 (v := (t1.1 15)) rfl ?_
      refine z_i2l M dt_X12_worst_2.1.1.1.1 ?_
      refine z_lload M dt_X12_worst_2.1.1.1.2 5 rfl ?_
      refine z_lmul M dt_X12_worst_2.1.1.2.1 ?_
      refine z_lload M dt_X12_worst_2.1.1.2.2 4 rfl ?_
      refine z_aload_n M dt_X12_worst_2.1.2.1.1 rfl 0 rfl ?_
      refine gf_X12_offMany (σ := t1) M u1989 dt_X12_worst_2.1.2.1.2 (v := (t1.1 14)) rfl ?_
      refine z_i2l M dt_X12_worst_2.1.2.2.1 ?_
      refine z_lmul M dt_X12_worst_2.1.2.2.2 ?_
      refine z_lsub M dt_X12_worst_2.2.1.1.1 ?_
      refine z_lstore (lv' := [(9, .long (((Int32.toInt64 (t1.1 15)) * v6) - (v4 * (Int32.toInt64 (t1.1 14))))), (0, .ref (a 0)), (1, .int v1), (2, .int v2), (3, .int v3), (4, .long v4), (6, .long v6), (8, .int v8)]) M dt_X12_worst_2.2.1.1.2 (by decide) rfl ?_
      refine z_aload_n M dt_X12_worst_2.2.1.2.1 rfl 1 rfl ?_
      refine gf_X12_offMany (σ := t1) M u1989 dt_X12_worst_2.2.1.2.2 (v := (t1.1 14)) rfl ?_
      refine z_if_le (tgt := 120) M dt_X12_worst_2.2.2.1.1 (by decide) (fun hc => ?_) (fun hc => ?_)
      · have h := gIt hc h
        refine z_iinc (v := (v8 + (1 : Int32))) (lv' := [(8, .int (v8 + (1 : Int32))), (9, .long (((Int32.toInt64 (t1.1 15)) * v6) - (v4 * (Int32.toInt64 (t1.1 14))))), (0, .ref (a 0)), (1, .int v1), (2, .int v2), (3, .int v3), (4, .long v4), (6, .long v6)]) M dt_X12_worst_4.1.2.1.1 (k := 7) rfl (congrArg (fun q => v8 + q) ki_1) (by decide) rfl ?_
        refine z_goto (tgt := 36) M dt_X12_worst_4.1.2.1.2 (by decide) ?_
        refine z_sub M [2, 3, 4, 5, 6, 7, 0] (lv' := [(0, .ref (a 0)), (1, .int v1), (2, .int v2), (3, .int v3), (4, .long v4), (6, .long v6), (8, .int (v8 + (1 : Int32)))]) rfl ?_
        exact ih t1 v3 v4 v6 (v8 + (1 : Int32)) h
      · have h := gIf hc h
        refine z_iload_n M dt_X12_worst_2.2.2.1.2 rfl 4 rfl ?_
        refine z_if_lt (tgt := 103) M dt_X12_worst_2.2.2.2.1 (by decide) (fun hc => ?_) (fun hc => ?_)
        · have h := gIt hc h
          refine z_sub M [1, 2, 3, 7] (lv' := [(0, .ref (a 0)), (1, .int v1), (2, .int v2), (8, .int v8)]) rfl ?_
          exact wJ_X12_worst_103 M (k36 := (fun σ w3 w4 w6 w8 => L_X12_worst_36 k126 v1 v2 n36 σ w3 w4 w6 w8)) t1 v1 v2 v8 ih h
        · have h := gIf hc h
          refine z_iload_n M dt_X12_worst_2.2.2.2.2 rfl 3 rfl ?_
          refine z_if_ne (tgt := 96) M dt_X12_worst_3.1.1.1.1 (by decide) (fun hc => ?_) (fun hc => ?_)
          · have h := gIf hc h
            refine z_lload M dt_X12_worst_3.1.2.2.1 0 rfl ?_
            refine z_lconst (v := 0) M dt_X12_worst_3.1.2.2.2 (by decide) ?_
            refine z_lcmp_ge (tgt := 120) M dt_X12_worst_3.2.1.1.1 dt_X12_worst_3.2.1.1.2 (by decide) (fun hc => ?_) (fun hc => ?_)
            · have h := gIt hc h
              refine z_iinc (v := (v8 + (1 : Int32))) (lv' := [(8, .int (v8 + (1 : Int32))), (9, .long (((Int32.toInt64 (t1.1 15)) * v6) - (v4 * (Int32.toInt64 (t1.1 14))))), (0, .ref (a 0)), (1, .int v1), (2, .int v2), (3, .int v3), (4, .long v4), (6, .long v6)]) M dt_X12_worst_4.1.2.1.1 (k := 7) rfl (congrArg (fun q => v8 + q) ki_1) (by decide) rfl ?_
              refine z_goto (tgt := 36) M dt_X12_worst_4.1.2.1.2 (by decide) ?_
              refine z_sub M [2, 3, 4, 5, 6, 7, 0] (lv' := [(0, .ref (a 0)), (1, .int v1), (2, .int v2), (3, .int v3), (4, .long v4), (6, .long v6), (8, .int (v8 + (1 : Int32)))]) rfl ?_
              exact ih t1 v3 v4 v6 (v8 + (1 : Int32)) h
            · have h := gIf hc h
              refine z_sub M [1, 2, 3, 7] (lv' := [(0, .ref (a 0)), (1, .int v1), (2, .int v2), (8, .int v8)]) rfl ?_
              exact wJ_X12_worst_103 M (k36 := (fun σ w3 w4 w6 w8 => L_X12_worst_36 k126 v1 v2 n36 σ w3 w4 w6 w8)) t1 v1 v2 v8 ih h
          · have h := gIt hc h
            refine z_lload M dt_X12_worst_3.1.1.1.2 0 rfl ?_
            refine z_lconst (v := 0) M dt_X12_worst_3.1.1.2.1 (by decide) ?_
            refine z_lcmp_le (tgt := 120) M dt_X12_worst_3.1.1.2.2 dt_X12_worst_3.1.2.1.1 (by decide) (fun hc => ?_) (fun hc => ?_)
            · have h := gIt hc h
              refine z_iinc (v := (v8 + (1 : Int32))) (lv' := [(8, .int (v8 + (1 : Int32))), (9, .long (((Int32.toInt64 (t1.1 15)) * v6) - (v4 * (Int32.toInt64 (t1.1 14))))), (0, .ref (a 0)), (1, .int v1), (2, .int v2), (3, .int v3), (4, .long v4), (6, .long v6)]) M dt_X12_worst_4.1.2.1.1 (k := 7) rfl (congrArg (fun q => v8 + q) ki_1) (by decide) rfl ?_
              refine z_goto (tgt := 36) M dt_X12_worst_4.1.2.1.2 (by decide) ?_
              refine z_sub M [2, 3, 4, 5, 6, 7, 0] (lv' := [(0, .ref (a 0)), (1, .int v1), (2, .int v2), (3, .int v3), (4, .long v4), (6, .long v6), (8, .int (v8 + (1 : Int32)))]) rfl ?_
              exact ih t1 v3 v4 v6 (v8 + (1 : Int32)) h
            · have h := gIf hc h
              refine z_goto (tgt := 103) M dt_X12_worst_3.1.2.1.2 (by decide) ?_
              refine z_sub M [1, 2, 3, 7] (lv' := [(0, .ref (a 0)), (1, .int v1), (2, .int v2), (8, .int v8)]) rfl ?_
              exact wJ_X12_worst_103 M (k36 := (fun σ w3 w4 w6 w8 => L_X12_worst_36 k126 v1 v2 n36 σ w3 w4 w6 w8)) t1 v1 v2 v8 ih h
set_option maxHeartbeats 4000000 in
set_option maxRecDepth 100000 in
theorem wJ_X12_worst_126 {o : (Zst × Int32)} (M : zM l D zcl (zty cy) A ad (zR 4) (mW a cy ad) RX12 cX12_worst 11 (some .int) o.1 (some (.int o.2)) G) (σ : Zst) (v3 : Int32) (v4 : Int64) (v6 : Int64)  (h : J_X12_worst_126 σ v3 v4 v6 = some o) : G σ [(0, .ref (a 0)), (3, .int v3), (4, .long v4), (6, .long v6)] 126 [] := by
  refine z_iload_n M dt_X12_worst_4.1.2.2.1 rfl 1 rfl ?_
  refine z_if_lt (tgt := 143) M dt_X12_worst_4.1.2.2.2 (by decide) (fun hc => ?_) (fun hc => ?_)
  · have h := gIt hc h
    refine z_iload_n M dt_X12_worst_4.2.2.2.2 rfl 1 rfl ?_
    obtain rfl := Option.some.inj h
    exact z_iret M dt_X12_worst_5
  · have h := gIf hc h
    refine z_aload_n M dt_X12_worst_4.2.1.1.1 rfl 0 rfl ?_
    refine z_iconst M dt_X12_worst_4.2.1.1.2 ki_0 ?_
    refine pf_X12_rows M u1961 dt_X12_worst_4.2.1.2.1 ?_
    refine z_aload_n M dt_X12_worst_4.2.1.2.2 rfl 0 rfl ?_
    refine z_lload M dt_X12_worst_4.2.2.1.1 2 rfl ?_
    refine z_lload M dt_X12_worst_4.2.2.1.2 3 rfl ?_
    obtain ⟨t2, hc, h⟩ := gBd h
    refine k_X12_entersFraction M hc u1716 (Nat.le_of_ble_eq_true rfl) (Nat.le_of_ble_eq_true rfl) dt_X12_worst_4.2.2.2.1 ?_
    refine z_iload_n M dt_X12_worst_4.2.2.2.2 rfl 1 rfl ?_
    obtain rfl := Option.some.inj h
    exact z_iret M dt_X12_worst_5
set_option maxHeartbeats 4000000 in
set_option maxRecDepth 100000 in
theorem m_X12_worst (hD : ∀ σ, va_D A (mW a cy ad σ)) {σ : Zst} {p0 : Int32} {p1 : Int32} {o : (Zst × Int32)} (h : f_X12_worst σ p0 p1 = some o) : zT l D zcl (zty cy) A ad (mW a cy ad) yX12_worst cX12_worst 11 (some .int) 4 [.ref (a 0), .int p0, .int p1] σ o.1 (some (.int o.2)) := by
  refine z_met pn_X12 hD (Nat.le_of_ble_eq_true rfl) rfl (fun G M => ?_)
  refine z_aload_n M dt_X12_worst_0.1.1.1.1 rfl 0 rfl ?_
  refine z_iconst M dt_X12_worst_0.1.1.1.2 ki_0 ?_
  refine pf_X12_thrown M u1960 dt_X12_worst_0.1.1.2.1 ?_
  refine z_iload_n M dt_X12_worst_0.1.1.2.2 rfl 1 rfl ?_
  refine k_X12_isWay M u1732 (Nat.le_of_ble_eq_true rfl) (Nat.le_of_ble_eq_true rfl) dt_X12_worst_0.1.2.1.1 ?_
  refine z_if_eq (tgt := 22) M dt_X12_worst_0.1.2.1.2 (by decide) (fun hc => ?_) (fun hc => ?_)
  · have h := gIt hc h
    refine z_iconst M dt_X12_worst_0.2.2.1.1 ki_m1 ?_
    obtain rfl := Option.some.inj h
    exact z_iret M dt_X12_worst_0.2.2.1.2
  · have h := gIf hc h
    refine z_iload_n M dt_X12_worst_0.1.2.2.1 rfl 2 rfl ?_
    refine z_i2l M dt_X12_worst_0.1.2.2.2 ?_
    refine z_lconst (v := 0) M dt_X12_worst_0.2.1.1.1 (by decide) ?_
    refine z_lconst (v := 1) M dt_X12_worst_0.2.1.1.2 (by decide) ?_
    refine k_X12_in M u1517 (Nat.le_of_ble_eq_true rfl) (Nat.le_of_ble_eq_true rfl) dt_X12_worst_0.2.1.2.1 ?_
    refine z_if_ne (tgt := 24) M dt_X12_worst_0.2.1.2.2 (by decide) (fun hc => ?_) (fun hc => ?_)
    · have h := gIf hc h
      refine z_bipush M dt_X12_worst_0.2.2.2.1 kb_m2 ?_
      refine z_istore_n (lv' := [(3, .int (-2 : Int32)), (0, .ref (a 0)), (1, .int p0), (2, .int p1)]) M dt_X12_worst_0.2.2.2.2 rfl (by decide) rfl ?_
      refine z_lconst (v := 0) M dt_X12_worst_1.1.1.1.1 (by decide) ?_
      refine z_lstore (lv' := [(4, .long (0 : Int64)), (3, .int (-2 : Int32)), (0, .ref (a 0)), (1, .int p0), (2, .int p1)]) M dt_X12_worst_1.1.1.1.2 (by decide) rfl ?_
      refine z_lconst (v := 1) M dt_X12_worst_1.1.1.2.1 (by decide) ?_
      refine z_lstore (lv' := [(6, .long (1 : Int64)), (4, .long (0 : Int64)), (3, .int (-2 : Int32)), (0, .ref (a 0)), (1, .int p0), (2, .int p1)]) M dt_X12_worst_1.1.1.2.2 (by decide) rfl ?_
      refine z_iconst M dt_X12_worst_1.1.2.1.1 ki_0 ?_
      refine z_istore (lv' := [(8, .int (0 : Int32)), (6, .long (1 : Int64)), (4, .long (0 : Int64)), (3, .int (-2 : Int32)), (0, .ref (a 0)), (1, .int p0), (2, .int p1)]) M dt_X12_worst_1.1.2.1.2 (by decide) rfl ?_
      refine z_sub M [4, 5, 6, 3, 2, 1, 0] (lv' := [(0, .ref (a 0)), (1, .int p0), (2, .int p1), (3, .int (-2 : Int32)), (4, .long (0 : Int64)), (6, .long (1 : Int64)), (8, .int (0 : Int32))]) rfl ?_
      exact wL_X12_worst_36 M (k126 := (fun σ6 w3 w4 w5 => J_X12_worst_126 σ6 w3 w4 w5)) p0 p1 (fun σ6 w3 w4 w5 h => by
          exact wJ_X12_worst_126 M  σ6 w3 w4 w5 h) zFu (zI σ 0 (0 : Int32)) (-2 : Int32) (0 : Int64) (1 : Int64) (0 : Int32) h
    · have h := gIt hc h
      refine z_iconst M dt_X12_worst_0.2.2.1.1 ki_m1 ?_
      obtain rfl := Option.some.inj h
      exact z_iret M dt_X12_worst_0.2.2.1.2
set_option maxHeartbeats 4000000 in
set_option maxRecDepth 100000 in
theorem m_J13_signum_95d88 (hD : ∀ σ, va_D A (wf σ)) (σ0 : Zst) (p0 : Int64) : zT l D zcl0 tys A ad wf yJ13_signum_95d88 cJ13_signum_95d88 2 (some .int) 1 [.long p0] σ0 σ0 (some (.int (f_J13_signum_95d88 p0))) := by
  obtain ⟨o, h⟩ : ∃ o, f_J13_signum_95d88 p0 = o := ⟨_, rfl⟩
  rw [h]
  refine z_met pn_J13 hD (Nat.le_of_ble_eq_true rfl) rfl (fun G M => ?_)
  refine z_lload_n M dt_J13_signum_95d88_0.1.1.1.1 rfl 0 rfl ?_
  refine z_bipush M dt_J13_signum_95d88_0.1.1.1.2 kb_63 ?_
  refine z_lshr M dt_J13_signum_95d88_0.1.1.2 ?_
  refine z_lload_n M dt_J13_signum_95d88_0.1.2.1 rfl 0 rfl ?_
  refine z_lneg M dt_J13_signum_95d88_0.1.2.2 ?_
  refine z_bipush M dt_J13_signum_95d88_0.2.1.1.1 kb_63 ?_
  refine z_lushr M dt_J13_signum_95d88_0.2.1.1.2 ?_
  refine z_lor M dt_J13_signum_95d88_0.2.1.2 ?_
  refine z_l2i M dt_J13_signum_95d88_0.2.2.1 ?_
  subst h
  exact z_iret M dt_J13_signum_95d88_0.2.2.2
theorem k_J13_signum_95d88 {n : Nat} (M : zM l D zcl0 tys A ad (zR n) wf own cc nL rt σo ov G) {p0 : Int64} {index : Nat} (hl : Cond.methodLink own index yJ13_signum_95d88 ∈ uw) (hR : 2 ≤ n) (hW : (st.map fun v => v.category).sum ≤ 8) (d : decode cc pc = .ok (.invokestatic index, 3)) (kk : G σ lv (pc + 3) (.int (f_J13_signum_95d88 p0) :: st)) : G σ lv pc (.long p0 :: st) := z_callS M [.long p0] (m_J13_signum_95d88 (zM_hD M) σ p0) hl u106 u1758 u1757 hd_J13_signum_95d88 hR (by decide) rfl hW d kk
set_option maxHeartbeats 4000000 in
set_option maxRecDepth 100000 in
theorem m_J6_signum_0f7a4 (hD : ∀ σ, va_D A (wf σ)) (σ0 : Zst) (p0 : Int32) : zT l D zcl0 tys A ad wf yJ6_signum_0f7a4 cJ6_signum_0f7a4 1 (some .int) 1 [.int p0] σ0 σ0 (some (.int (f_J6_signum_0f7a4 p0))) := by
  obtain ⟨o, h⟩ : ∃ o, f_J6_signum_0f7a4 p0 = o := ⟨_, rfl⟩
  rw [h]
  refine z_met pn_J6 hD (Nat.le_of_ble_eq_true rfl) rfl (fun G M => ?_)
  refine z_iload_n M dt_J6_signum_0f7a4_0.1.1.1.1 rfl 0 rfl ?_
  refine z_bipush M dt_J6_signum_0f7a4_0.1.1.1.2 kb_31 ?_
  refine z_ishr M dt_J6_signum_0f7a4_0.1.1.2 ?_
  refine z_iload_n M dt_J6_signum_0f7a4_0.1.2.1 rfl 0 rfl ?_
  refine z_ineg M dt_J6_signum_0f7a4_0.1.2.2 ?_
  refine z_bipush M dt_J6_signum_0f7a4_0.2.1.1 kb_31 ?_
  refine z_iushr M dt_J6_signum_0f7a4_0.2.1.2 ?_
  refine z_ior M dt_J6_signum_0f7a4_0.2.2.1 ?_
  subst h
  exact z_iret M dt_J6_signum_0f7a4_0.2.2.2
theorem k_J6_signum_0f7a4 {n : Nat} (M : zM l D zcl0 tys A ad (zR n) wf own cc nL rt σo ov G) {p0 : Int32} {index : Nat} (hl : Cond.methodLink own index yJ6_signum_0f7a4 ∈ uw) (hR : 2 ≤ n) (hW : (st.map fun v => v.category).sum ≤ 8) (d : decode cc pc = .ok (.invokestatic index, 3)) (kk : G σ lv (pc + 3) (.int (f_J6_signum_0f7a4 p0) :: st)) : G σ lv pc (.int p0 :: st) := z_callS M [.int p0] (m_J6_signum_0f7a4 (zM_hD M) σ p0) hl u107 u1761 u1760 hd_J6_signum_0f7a4 hR (by decide) rfl hW d kk
set_option maxHeartbeats 4000000 in
set_option maxRecDepth 100000 in
theorem wL_X12_right_36 {o : (Zst × Int32)} (M : zM l D zcl (zty cy) A ad (zR 4) (mW a cy ad) RX12 cX12_right 12 (some .int) o.1 (some (.int o.2)) G) {k185 : Zst → Int32 → Int32 → Int32 → Option (Zst × Int32)}  (v1 : Int32) (v5 : Int32) (Hk185 : ∀ (σ : Zst) (w2 : Int32) (w3 : Int32) (w4 : Int32), k185 σ w2 w3 w4 = some o → G σ [(0, .ref (a 0)), (1, .int v1), (2, .int w2), (3, .int w3), (4, .int w4), (5, .int v5)] 185 []) :
    ∀ (n36 : Nat) (σ : Zst) (v2 : Int32) (v3 : Int32) (v4 : Int32) (v6 : Int32), L_X12_right_36 k185 v1 v5 n36 σ v2 v3 v4 v6 = some o → G σ [(0, .ref (a 0)), (1, .int v1), (2, .int v2), (3, .int v3), (4, .int v4), (5, .int v5), (6, .int v6)] 36 [] := by
  intro n36
  induction n36 with
  | zero => intro σ v2 v3 v4 v6 h; exact nomatch (show (none : Option (Zst × Int32)) = some _ from h)
  | succ n36 ih =>
    intro σ v2 v3 v4 v6 h
    refine z_iload M dt_X12_right_1.1.2.2.1 6 rfl ?_
    refine z_iload M dt_X12_right_1.1.2.2.2 5 rfl ?_
    refine z_icmp_ge (tgt := 185) M dt_X12_right_1.2.1.1.1 (by decide) (fun hc => ?_) (fun hc => ?_)
    · have h := gIt hc h
      refine z_sub M [0, 1, 2, 3, 4, 5] (lv' := [(0, .ref (a 0)), (1, .int v1), (2, .int v2), (3, .int v3), (4, .int v4), (5, .int v5)]) rfl ?_
      exact Hk185 σ v2 v3 v4 h
    · have h := gIf hc h
      refine z_aload_n M dt_X12_right_1.2.1.1.2 rfl 0 rfl ?_
      refine z_iload M dt_X12_right_1.2.1.2.1 5 rfl ?_
      refine z_iload_n M dt_X12_right_1.2.1.2.2 rfl 1 rfl ?_
      obtain ⟨t1, hc, h⟩ := gBd h
      refine k_X12_offs M hc u1739 (Nat.le_of_ble_eq_true rfl) (Nat.le_of_ble_eq_true rfl) dt_X12_right_1.2.2.1.1 ?_
      refine z_aload_n M dt_X12_right_1.2.2.1.2 rfl 0 rfl ?_
      refine gf_X12_offSum (σ := t1) M u1990 dt_X12_right_1.2.2.2.1 (v := (t1.1 15)) rfl ?_
      refine z_i2l M dt_X12_right_1.2.2.2.2 ?_
      refine z_lstore (lv' := [(7, .long (Int32.toInt64 (t1.1 15))), (0, .ref (a 0)), (1, .int v1), (2, .int v2), (3, .int v3), (4, .int v4), (5, .int v5), (6, .int v6)]) M dt_X12_right_2.1.1.1.1 (by decide) rfl ?_
      refine z_aload_n M dt_X12_right_2.1.1.1.2 rfl 1 rfl ?_
      refine gf_X12_offMany (σ := t1) M u1989 dt_X12_right_2.1.1.2.1 (v := (t1.1 14)) rfl ?_
      refine z_i2l M dt_X12_right_2.1.1.2.2 ?_
      refine z_lstore (lv' := [(9, .long (Int32.toInt64 (t1.1 14))), (7, .long (Int32.toInt64 (t1.1 15))), (0, .ref (a 0)), (1, .int v1), (2, .int v2), (3, .int v3), (4, .int v4), (5, .int v5), (6, .int v6)]) M dt_X12_right_2.1.2.1.1 (by decide) rfl ?_
      refine z_aload_n M dt_X12_right_2.1.2.1.2 rfl 2 rfl ?_
      refine z_iload M dt_X12_right_2.1.2.2.1 8 rfl ?_
      refine z_iload_n M dt_X12_right_2.1.2.2.2 rfl 3 rfl ?_
      obtain ⟨t2, hc, h⟩ := gBd h
      refine k_X12_offs M hc u1739 (Nat.le_of_ble_eq_true rfl) (Nat.le_of_ble_eq_true rfl) dt_X12_right_2.2.1.1.1 ?_
      refine z_lload M dt_X12_right_2.2.1.1.2 0 rfl ?_
      refine z_lconst (v := 0) M dt_X12_right_2.2.1.2.1 (by decide) ?_
      refine z_lcmp_eq (tgt := 179) M dt_X12_right_2.2.1.2.2 dt_X12_right_2.2.2.1.1 (by decide) (fun hc => ?_) (fun hc => ?_)
      · have h := gIt hc h
        refine z_iinc (v := (v6 + (1 : Int32))) (lv' := [(6, .int (v6 + (1 : Int32))), (9, .long (Int32.toInt64 (t1.1 14))), (7, .long (Int32.toInt64 (t1.1 15))), (0, .ref (a 0)), (1, .int v1), (2, .int v2), (3, .int v3), (4, .int v4), (5, .int v5)]) M dt_X12_right_6.1.2.1.1 (k := 8) rfl (congrArg (fun q => v6 + q) ki_1) (by decide) rfl ?_
        refine z_goto (tgt := 36) M dt_X12_right_6.1.2.1.2 (by decide) ?_
        refine z_sub M [3, 4, 5, 6, 7, 8, 0] (lv' := [(0, .ref (a 0)), (1, .int v1), (2, .int v2), (3, .int v3), (4, .int v4), (5, .int v5), (6, .int (v6 + (1 : Int32)))]) rfl ?_
        exact ih t2 v2 v3 v4 (v6 + (1 : Int32)) h
      · have h := gIf hc h
        refine z_aload_n M dt_X12_right_2.2.2.1.2 rfl 2 rfl ?_
        refine gf_X12_offMany (σ := t2) M u1989 dt_X12_right_2.2.2.2.1 (v := (t2.1 14)) rfl ?_
        refine z_if_ne (tgt := 88) M dt_X12_right_2.2.2.2.2 (by decide) (fun hc => ?_) (fun hc => ?_)
        · have h := gIf hc h
          refine z_lload M dt_X12_right_3.1.1.1.2 1 rfl ?_
          refine z_aload_n M dt_X12_right_3.1.1.2.1 rfl 2 rfl ?_
          refine gf_X12_offMany (σ := t2) M u1989 dt_X12_right_3.1.1.2.2 (v := (t2.1 14)) rfl ?_
          refine z_i2l M dt_X12_right_3.1.2.1.1 ?_
          refine z_lmul M dt_X12_right_3.1.2.1.2 ?_
          refine z_aload_n M dt_X12_right_3.1.2.2.1 rfl 2 rfl ?_
          refine gf_X12_offSum (σ := t2) M u1990 dt_X12_right_3.1.2.2.2 (v := (t2.1 15)) rfl ?_
          refine z_i2l M dt_X12_right_3.2.1.1.1 ?_
          refine z_lload M dt_X12_right_3.2.1.1.2 0 rfl ?_
          refine z_lmul M dt_X12_right_3.2.1.2.1 ?_
          refine z_lsub M dt_X12_right_3.2.1.2.2 ?_
          refine k_J13_signum_95d88 M u1756 (Nat.le_of_ble_eq_true rfl) (Nat.le_of_ble_eq_true rfl) dt_X12_right_3.2.2.1.1 ?_
          refine z_aload_n M dt_X12_right_3.2.2.1.2 rfl 2 rfl ?_
          refine gf_X12_rightOf M u1965 dt_X12_right_3.2.2.2.1 ?_
          refine z_iload M dt_X12_right_3.2.2.2.2 7 rfl ?_
          have ⟨hg, h⟩ := gIx_s h
          refine al_M3 (σ := t2) M (f := (t2.2.1 1)) rfl hg dt_X12_right_4.1.1.1.1 ?_
          refine z_aload_n M dt_X12_right_4.1.1.1.2 rfl 2 rfl ?_
          refine gf_X12_rightOf M u1965 dt_X12_right_4.1.1.2.1 ?_
          refine z_iload M dt_X12_right_4.1.1.2.2 8 rfl ?_
          have ⟨hg, h⟩ := gIx_s h
          refine al_M3 (σ := t2) M (f := (t2.2.1 1)) rfl hg dt_X12_right_4.1.2.1.1 ?_
          refine z_isub M dt_X12_right_4.1.2.1.2 ?_
          refine k_J6_signum_0f7a4 M u1759 (Nat.le_of_ble_eq_true rfl) (Nat.le_of_ble_eq_true rfl) dt_X12_right_4.1.2.2.1 ?_
          refine z_imul M dt_X12_right_4.1.2.2.2 ?_
          refine z_istore (lv' := [(11, .int ((f_J13_signum_95d88 (((Int32.toInt64 (t1.1 15)) * (Int32.toInt64 (t2.1 14))) - ((Int32.toInt64 (t2.1 15)) * (Int32.toInt64 (t1.1 14))))) * (f_J6_signum_0f7a4 (((t2.2.1 1) (Int32.toNatClampNeg v5)) - ((t2.2.1 1) (Int32.toNatClampNeg v6)))))), (9, .long (Int32.toInt64 (t1.1 14))), (7, .long (Int32.toInt64 (t1.1 15))), (0, .ref (a 0)), (1, .int v1), (2, .int v2), (3, .int v3), (4, .int v4), (5, .int v5), (6, .int v6)]) M dt_X12_right_4.2.1.1.1 (by decide) rfl ?_
          refine z_iload_n M dt_X12_right_4.2.1.1.2 rfl 5 rfl ?_
          refine z_iload M dt_X12_right_4.2.1.2.1 0 rfl ?_
          have hJ4 : G t2 [(11, .int ((f_J13_signum_95d88 (((Int32.toInt64 (t1.1 15)) * (Int32.toInt64 (t2.1 14))) - ((Int32.toInt64 (t2.1 15)) * (Int32.toInt64 (t1.1 14))))) * (f_J6_signum_0f7a4 (((t2.2.1 1) (Int32.toNatClampNeg v5)) - ((t2.2.1 1) (Int32.toNatClampNeg v6)))))), (9, .long (Int32.toInt64 (t1.1 14))), (7, .long (Int32.toInt64 (t1.1 15))), (0, .ref (a 0)), (1, .int v1), (2, .int v2), (3, .int v3), (4, .int v4), (5, .int v5), (6, .int v6)] 140 [.int (if ((f_J13_signum_95d88 (((Int32.toInt64 (t1.1 15)) * (Int32.toInt64 (t2.1 14))) - ((Int32.toInt64 (t2.1 15)) * (Int32.toInt64 (t1.1 14))))) * (f_J6_signum_0f7a4 (((t2.2.1 1) (Int32.toNatClampNeg v5)) - ((t2.2.1 1) (Int32.toNatClampNeg v6))))) ≤ (0 : Int32) then (0 : Int32) else (1 : Int32)), .int v2] := by
            refine k_X12_flag M u1675 (Nat.le_of_ble_eq_true rfl) (Nat.le_of_ble_eq_true rfl) dt_X12_right_4.2.2.2.2 ?_
            refine z_iadd M dt_X12_right_5.1.1.1.1 ?_
            refine z_istore_n (lv' := [(2, .int (v2 + (f_X12_flag (if ((f_J13_signum_95d88 (((Int32.toInt64 (t1.1 15)) * (Int32.toInt64 (t2.1 14))) - ((Int32.toInt64 (t2.1 15)) * (Int32.toInt64 (t1.1 14))))) * (f_J6_signum_0f7a4 (((t2.2.1 1) (Int32.toNatClampNeg v5)) - ((t2.2.1 1) (Int32.toNatClampNeg v6))))) ≤ (0 : Int32) then (0 : Int32) else (1 : Int32))))), (11, .int ((f_J13_signum_95d88 (((Int32.toInt64 (t1.1 15)) * (Int32.toInt64 (t2.1 14))) - ((Int32.toInt64 (t2.1 15)) * (Int32.toInt64 (t1.1 14))))) * (f_J6_signum_0f7a4 (((t2.2.1 1) (Int32.toNatClampNeg v5)) - ((t2.2.1 1) (Int32.toNatClampNeg v6)))))), (9, .long (Int32.toInt64 (t1.1 14))), (7, .long (Int32.toInt64 (t1.1 15))), (0, .ref (a 0)), (1, .int v1), (3, .int v3), (4, .int v4), (5, .int v5), (6, .int v6)]) M dt_X12_right_5.1.1.1.2 rfl (by decide) rfl ?_
            refine z_iload_n M dt_X12_right_5.1.1.2.1 rfl 6 rfl ?_
            refine z_iload M dt_X12_right_5.1.1.2.2 1 rfl ?_
            have hJ6 : G t2 [(2, .int (v2 + (f_X12_flag (if ((f_J13_signum_95d88 (((Int32.toInt64 (t1.1 15)) * (Int32.toInt64 (t2.1 14))) - ((Int32.toInt64 (t2.1 15)) * (Int32.toInt64 (t1.1 14))))) * (f_J6_signum_0f7a4 (((t2.2.1 1) (Int32.toNatClampNeg v5)) - ((t2.2.1 1) (Int32.toNatClampNeg v6))))) ≤ (0 : Int32) then (0 : Int32) else (1 : Int32))))), (11, .int ((f_J13_signum_95d88 (((Int32.toInt64 (t1.1 15)) * (Int32.toInt64 (t2.1 14))) - ((Int32.toInt64 (t2.1 15)) * (Int32.toInt64 (t1.1 14))))) * (f_J6_signum_0f7a4 (((t2.2.1 1) (Int32.toNatClampNeg v5)) - ((t2.2.1 1) (Int32.toNatClampNeg v6)))))), (9, .long (Int32.toInt64 (t1.1 14))), (7, .long (Int32.toInt64 (t1.1 15))), (0, .ref (a 0)), (1, .int v1), (3, .int v3), (4, .int v4), (5, .int v5), (6, .int v6)] 156 [.int (if (0 : Int32) ≤ ((f_J13_signum_95d88 (((Int32.toInt64 (t1.1 15)) * (Int32.toInt64 (t2.1 14))) - ((Int32.toInt64 (t2.1 15)) * (Int32.toInt64 (t1.1 14))))) * (f_J6_signum_0f7a4 (((t2.2.1 1) (Int32.toNatClampNeg v5)) - ((t2.2.1 1) (Int32.toNatClampNeg v6))))) then (0 : Int32) else (1 : Int32)), .int v3] := by
              refine k_X12_flag M u1675 (Nat.le_of_ble_eq_true rfl) (Nat.le_of_ble_eq_true rfl) dt_X12_right_5.2.1.1.1 ?_
              refine z_iadd M dt_X12_right_5.2.1.1.2 ?_
              refine z_istore_n (lv' := [(3, .int (v3 + (f_X12_flag (if (0 : Int32) ≤ ((f_J13_signum_95d88 (((Int32.toInt64 (t1.1 15)) * (Int32.toInt64 (t2.1 14))) - ((Int32.toInt64 (t2.1 15)) * (Int32.toInt64 (t1.1 14))))) * (f_J6_signum_0f7a4 (((t2.2.1 1) (Int32.toNatClampNeg v5)) - ((t2.2.1 1) (Int32.toNatClampNeg v6))))) then (0 : Int32) else (1 : Int32))))), (2, .int (v2 + (f_X12_flag (if ((f_J13_signum_95d88 (((Int32.toInt64 (t1.1 15)) * (Int32.toInt64 (t2.1 14))) - ((Int32.toInt64 (t2.1 15)) * (Int32.toInt64 (t1.1 14))))) * (f_J6_signum_0f7a4 (((t2.2.1 1) (Int32.toNatClampNeg v5)) - ((t2.2.1 1) (Int32.toNatClampNeg v6))))) ≤ (0 : Int32) then (0 : Int32) else (1 : Int32))))), (11, .int ((f_J13_signum_95d88 (((Int32.toInt64 (t1.1 15)) * (Int32.toInt64 (t2.1 14))) - ((Int32.toInt64 (t2.1 15)) * (Int32.toInt64 (t1.1 14))))) * (f_J6_signum_0f7a4 (((t2.2.1 1) (Int32.toNatClampNeg v5)) - ((t2.2.1 1) (Int32.toNatClampNeg v6)))))), (9, .long (Int32.toInt64 (t1.1 14))), (7, .long (Int32.toInt64 (t1.1 15))), (0, .ref (a 0)), (1, .int v1), (4, .int v4), (5, .int v5), (6, .int v6)]) M dt_X12_right_5.2.1.2.1 rfl (by decide) rfl ?_
              refine z_iload M dt_X12_right_5.2.1.2.2 7 rfl ?_
              refine z_iload M dt_X12_right_5.2.2.1.1 2 rfl ?_
              have hJ8 : G t2 [(3, .int (v3 + (f_X12_flag (if (0 : Int32) ≤ ((f_J13_signum_95d88 (((Int32.toInt64 (t1.1 15)) * (Int32.toInt64 (t2.1 14))) - ((Int32.toInt64 (t2.1 15)) * (Int32.toInt64 (t1.1 14))))) * (f_J6_signum_0f7a4 (((t2.2.1 1) (Int32.toNatClampNeg v5)) - ((t2.2.1 1) (Int32.toNatClampNeg v6))))) then (0 : Int32) else (1 : Int32))))), (2, .int (v2 + (f_X12_flag (if ((f_J13_signum_95d88 (((Int32.toInt64 (t1.1 15)) * (Int32.toInt64 (t2.1 14))) - ((Int32.toInt64 (t2.1 15)) * (Int32.toInt64 (t1.1 14))))) * (f_J6_signum_0f7a4 (((t2.2.1 1) (Int32.toNatClampNeg v5)) - ((t2.2.1 1) (Int32.toNatClampNeg v6))))) ≤ (0 : Int32) then (0 : Int32) else (1 : Int32))))), (11, .int ((f_J13_signum_95d88 (((Int32.toInt64 (t1.1 15)) * (Int32.toInt64 (t2.1 14))) - ((Int32.toInt64 (t2.1 15)) * (Int32.toInt64 (t1.1 14))))) * (f_J6_signum_0f7a4 (((t2.2.1 1) (Int32.toNatClampNeg v5)) - ((t2.2.1 1) (Int32.toNatClampNeg v6)))))), (9, .long (Int32.toInt64 (t1.1 14))), (7, .long (Int32.toInt64 (t1.1 15))), (0, .ref (a 0)), (1, .int v1), (4, .int v4), (5, .int v5), (6, .int v6)] 173 [.int (if ((f_J13_signum_95d88 (((Int32.toInt64 (t1.1 15)) * (Int32.toInt64 (t2.1 14))) - ((Int32.toInt64 (t2.1 15)) * (Int32.toInt64 (t1.1 14))))) * (f_J6_signum_0f7a4 (((t2.2.1 1) (Int32.toNatClampNeg v5)) - ((t2.2.1 1) (Int32.toNatClampNeg v6))))) = (0 : Int32) then (1 : Int32) else (0 : Int32)), .int v4] := by
                refine k_X12_flag M u1675 (Nat.le_of_ble_eq_true rfl) (Nat.le_of_ble_eq_true rfl) dt_X12_right_6.1.1.1.2 ?_
                refine z_iadd M dt_X12_right_6.1.1.2.1 ?_
                refine z_istore (lv' := [(4, .int (v4 + (f_X12_flag (if ((f_J13_signum_95d88 (((Int32.toInt64 (t1.1 15)) * (Int32.toInt64 (t2.1 14))) - ((Int32.toInt64 (t2.1 15)) * (Int32.toInt64 (t1.1 14))))) * (f_J6_signum_0f7a4 (((t2.2.1 1) (Int32.toNatClampNeg v5)) - ((t2.2.1 1) (Int32.toNatClampNeg v6))))) = (0 : Int32) then (1 : Int32) else (0 : Int32))))), (3, .int (v3 + (f_X12_flag (if (0 : Int32) ≤ ((f_J13_signum_95d88 (((Int32.toInt64 (t1.1 15)) * (Int32.toInt64 (t2.1 14))) - ((Int32.toInt64 (t2.1 15)) * (Int32.toInt64 (t1.1 14))))) * (f_J6_signum_0f7a4 (((t2.2.1 1) (Int32.toNatClampNeg v5)) - ((t2.2.1 1) (Int32.toNatClampNeg v6))))) then (0 : Int32) else (1 : Int32))))), (2, .int (v2 + (f_X12_flag (if ((f_J13_signum_95d88 (((Int32.toInt64 (t1.1 15)) * (Int32.toInt64 (t2.1 14))) - ((Int32.toInt64 (t2.1 15)) * (Int32.toInt64 (t1.1 14))))) * (f_J6_signum_0f7a4 (((t2.2.1 1) (Int32.toNatClampNeg v5)) - ((t2.2.1 1) (Int32.toNatClampNeg v6))))) ≤ (0 : Int32) then (0 : Int32) else (1 : Int32))))), (11, .int ((f_J13_signum_95d88 (((Int32.toInt64 (t1.1 15)) * (Int32.toInt64 (t2.1 14))) - ((Int32.toInt64 (t2.1 15)) * (Int32.toInt64 (t1.1 14))))) * (f_J6_signum_0f7a4 (((t2.2.1 1) (Int32.toNatClampNeg v5)) - ((t2.2.1 1) (Int32.toNatClampNeg v6)))))), (9, .long (Int32.toInt64 (t1.1 14))), (7, .long (Int32.toInt64 (t1.1 15))), (0, .ref (a 0)), (1, .int v1), (5, .int v5), (6, .int v6)]) M dt_X12_right_6.1.1.2.2 (by decide) rfl ?_
                refine z_iinc (v := (v6 + (1 : Int32))) (lv' := [(6, .int (v6 + (1 : Int32))), (4, .int (v4 + (f_X12_flag (if ((f_J13_signum_95d88 (((Int32.toInt64 (t1.1 15)) * (Int32.toInt64 (t2.1 14))) - ((Int32.toInt64 (t2.1 15)) * (Int32.toInt64 (t1.1 14))))) * (f_J6_signum_0f7a4 (((t2.2.1 1) (Int32.toNatClampNeg v5)) - ((t2.2.1 1) (Int32.toNatClampNeg v6))))) = (0 : Int32) then (1 : Int32) else (0 : Int32))))), (3, .int (v3 + (f_X12_flag (if (0 : Int32) ≤ ((f_J13_signum_95d88 (((Int32.toInt64 (t1.1 15)) * (Int32.toInt64 (t2.1 14))) - ((Int32.toInt64 (t2.1 15)) * (Int32.toInt64 (t1.1 14))))) * (f_J6_signum_0f7a4 (((t2.2.1 1) (Int32.toNatClampNeg v5)) - ((t2.2.1 1) (Int32.toNatClampNeg v6))))) then (0 : Int32) else (1 : Int32))))), (2, .int (v2 + (f_X12_flag (if ((f_J13_signum_95d88 (((Int32.toInt64 (t1.1 15)) * (Int32.toInt64 (t2.1 14))) - ((Int32.toInt64 (t2.1 15)) * (Int32.toInt64 (t1.1 14))))) * (f_J6_signum_0f7a4 (((t2.2.1 1) (Int32.toNatClampNeg v5)) - ((t2.2.1 1) (Int32.toNatClampNeg v6))))) ≤ (0 : Int32) then (0 : Int32) else (1 : Int32))))), (11, .int ((f_J13_signum_95d88 (((Int32.toInt64 (t1.1 15)) * (Int32.toInt64 (t2.1 14))) - ((Int32.toInt64 (t2.1 15)) * (Int32.toInt64 (t1.1 14))))) * (f_J6_signum_0f7a4 (((t2.2.1 1) (Int32.toNatClampNeg v5)) - ((t2.2.1 1) (Int32.toNatClampNeg v6)))))), (9, .long (Int32.toInt64 (t1.1 14))), (7, .long (Int32.toInt64 (t1.1 15))), (0, .ref (a 0)), (1, .int v1), (5, .int v5)]) M dt_X12_right_6.1.2.1.1 (k := 9) rfl (congrArg (fun q => v6 + q) ki_1) (by decide) rfl ?_
                refine z_goto (tgt := 36) M dt_X12_right_6.1.2.1.2 (by decide) ?_
                refine z_sub M [7, 8, 3, 2, 1, 9, 0] (lv' := [(0, .ref (a 0)), (1, .int v1), (2, .int (v2 + (f_X12_flag (if ((f_J13_signum_95d88 (((Int32.toInt64 (t1.1 15)) * (Int32.toInt64 (t2.1 14))) - ((Int32.toInt64 (t2.1 15)) * (Int32.toInt64 (t1.1 14))))) * (f_J6_signum_0f7a4 (((t2.2.1 1) (Int32.toNatClampNeg v5)) - ((t2.2.1 1) (Int32.toNatClampNeg v6))))) ≤ (0 : Int32) then (0 : Int32) else (1 : Int32))))), (3, .int (v3 + (f_X12_flag (if (0 : Int32) ≤ ((f_J13_signum_95d88 (((Int32.toInt64 (t1.1 15)) * (Int32.toInt64 (t2.1 14))) - ((Int32.toInt64 (t2.1 15)) * (Int32.toInt64 (t1.1 14))))) * (f_J6_signum_0f7a4 (((t2.2.1 1) (Int32.toNatClampNeg v5)) - ((t2.2.1 1) (Int32.toNatClampNeg v6))))) then (0 : Int32) else (1 : Int32))))), (4, .int (v4 + (f_X12_flag (if ((f_J13_signum_95d88 (((Int32.toInt64 (t1.1 15)) * (Int32.toInt64 (t2.1 14))) - ((Int32.toInt64 (t2.1 15)) * (Int32.toInt64 (t1.1 14))))) * (f_J6_signum_0f7a4 (((t2.2.1 1) (Int32.toNatClampNeg v5)) - ((t2.2.1 1) (Int32.toNatClampNeg v6))))) = (0 : Int32) then (1 : Int32) else (0 : Int32))))), (5, .int v5), (6, .int (v6 + (1 : Int32)))]) rfl ?_
                exact ih t2 (v2 + (f_X12_flag (if ((f_J13_signum_95d88 (((Int32.toInt64 (t1.1 15)) * (Int32.toInt64 (t2.1 14))) - ((Int32.toInt64 (t2.1 15)) * (Int32.toInt64 (t1.1 14))))) * (f_J6_signum_0f7a4 (((t2.2.1 1) (Int32.toNatClampNeg v5)) - ((t2.2.1 1) (Int32.toNatClampNeg v6))))) ≤ (0 : Int32) then (0 : Int32) else (1 : Int32)))) (v3 + (f_X12_flag (if (0 : Int32) ≤ ((f_J13_signum_95d88 (((Int32.toInt64 (t1.1 15)) * (Int32.toInt64 (t2.1 14))) - ((Int32.toInt64 (t2.1 15)) * (Int32.toInt64 (t1.1 14))))) * (f_J6_signum_0f7a4 (((t2.2.1 1) (Int32.toNatClampNeg v5)) - ((t2.2.1 1) (Int32.toNatClampNeg v6))))) then (0 : Int32) else (1 : Int32)))) (v4 + (f_X12_flag (if ((f_J13_signum_95d88 (((Int32.toInt64 (t1.1 15)) * (Int32.toInt64 (t2.1 14))) - ((Int32.toInt64 (t2.1 15)) * (Int32.toInt64 (t1.1 14))))) * (f_J6_signum_0f7a4 (((t2.2.1 1) (Int32.toNatClampNeg v5)) - ((t2.2.1 1) (Int32.toNatClampNeg v6))))) = (0 : Int32) then (1 : Int32) else (0 : Int32)))) (v6 + (1 : Int32)) h
              refine z_if_ne (tgt := 172) M dt_X12_right_5.2.2.1.2 (by decide) (fun hc7 => ?_) (fun hc7 => ?_)
              · refine z_iconst M dt_X12_right_6.1.1.1.1 ki_0 ?_
                exact (zTf hc7 hJ8)
              · refine z_iconst M dt_X12_right_5.2.2.2.1 ki_1 ?_
                refine z_goto (tgt := 173) M dt_X12_right_5.2.2.2.2 (by decide) ?_
                exact (zTt hc7 hJ8)
            refine z_if_ge (tgt := 155) M dt_X12_right_5.1.2.1.1 (by decide) (fun hc5 => ?_) (fun hc5 => ?_)
            · refine z_iconst M dt_X12_right_5.1.2.2.2 ki_0 ?_
              exact (zTt hc5 hJ6)
            · refine z_iconst M dt_X12_right_5.1.2.1.2 ki_1 ?_
              refine z_goto (tgt := 156) M dt_X12_right_5.1.2.2.1 (by decide) ?_
              exact (zTf hc5 hJ6)
          refine z_if_le (tgt := 139) M dt_X12_right_4.2.1.2.2 (by decide) (fun hc3 => ?_) (fun hc3 => ?_)
          · refine z_iconst M dt_X12_right_4.2.2.2.1 ki_0 ?_
            exact (zTt hc3 hJ4)
          · refine z_iconst M dt_X12_right_4.2.2.1.1 ki_1 ?_
            refine z_goto (tgt := 140) M dt_X12_right_4.2.2.1.2 (by decide) ?_
            exact (zTf hc3 hJ4)
        · have h := gIt hc h
          refine z_goto (tgt := 179) M dt_X12_right_3.1.1.1.1 (by decide) ?_
          refine z_iinc (v := (v6 + (1 : Int32))) (lv' := [(6, .int (v6 + (1 : Int32))), (9, .long (Int32.toInt64 (t1.1 14))), (7, .long (Int32.toInt64 (t1.1 15))), (0, .ref (a 0)), (1, .int v1), (2, .int v2), (3, .int v3), (4, .int v4), (5, .int v5)]) M dt_X12_right_6.1.2.1.1 (k := 8) rfl (congrArg (fun q => v6 + q) ki_1) (by decide) rfl ?_
          refine z_goto (tgt := 36) M dt_X12_right_6.1.2.1.2 (by decide) ?_
          refine z_sub M [3, 4, 5, 6, 7, 8, 0] (lv' := [(0, .ref (a 0)), (1, .int v1), (2, .int v2), (3, .int v3), (4, .int v4), (5, .int v5), (6, .int (v6 + (1 : Int32)))]) rfl ?_
          exact ih t2 v2 v3 v4 (v6 + (1 : Int32)) h
set_option maxHeartbeats 4000000 in
set_option maxRecDepth 100000 in
theorem wJ_X12_right_185 {o : (Zst × Int32)} (M : zM l D zcl (zty cy) A ad (zR 4) (mW a cy ad) RX12 cX12_right 12 (some .int) o.1 (some (.int o.2)) G) {k24 : Zst → Int32 → Int32 → Int32 → Int32 → Option (Zst × Int32)} (σ : Zst) (v1 : Int32) (v2 : Int32) (v3 : Int32) (v4 : Int32) (v5 : Int32) (Hk24 : ∀ (σ : Zst) (w2 : Int32) (w3 : Int32) (w4 : Int32) (w5 : Int32), k24 σ w2 w3 w4 w5 = some o → G σ [(0, .ref (a 0)), (1, .int v1), (2, .int w2), (3, .int w3), (4, .int w4), (5, .int w5)] 24 []) (h : J_X12_right_185 k24 σ v1 v2 v3 v4 v5 = some o) : G σ [(0, .ref (a 0)), (1, .int v1), (2, .int v2), (3, .int v3), (4, .int v4), (5, .int v5)] 185 [] := by
  refine z_iinc (v := (v5 + (1 : Int32))) (lv' := [(5, .int (v5 + (1 : Int32))), (0, .ref (a 0)), (1, .int v1), (2, .int v2), (3, .int v3), (4, .int v4)]) M dt_X12_right_6.1.2.2.1 (k := 5) rfl (congrArg (fun q => v5 + q) ki_1) (by decide) rfl ?_
  refine z_goto (tgt := 24) M dt_X12_right_6.1.2.2.2 (by decide) ?_
  refine z_sub M [1, 2, 3, 4, 5, 0] (lv' := [(0, .ref (a 0)), (1, .int v1), (2, .int v2), (3, .int v3), (4, .int v4), (5, .int (v5 + (1 : Int32)))]) rfl ?_
  exact Hk24 σ v2 v3 v4 (v5 + (1 : Int32)) h
set_option maxHeartbeats 4000000 in
set_option maxRecDepth 100000 in
theorem wL_X12_right_24 {o : (Zst × Int32)} (M : zM l D zcl (zty cy) A ad (zR 4) (mW a cy ad) RX12 cX12_right 12 (some .int) o.1 (some (.int o.2)) G) {k191 : Zst → Int32 → Int32 → Int32 → Option (Zst × Int32)}  (v1 : Int32) (Hk191 : ∀ (σ : Zst) (w2 : Int32) (w3 : Int32) (w4 : Int32), k191 σ w2 w3 w4 = some o → G σ [(0, .ref (a 0)), (2, .int w2), (3, .int w3), (4, .int w4)] 191 []) :
    ∀ (n24 : Nat) (σ : Zst) (v2 : Int32) (v3 : Int32) (v4 : Int32) (v5 : Int32), L_X12_right_24 k191 v1 n24 σ v2 v3 v4 v5 = some o → G σ [(0, .ref (a 0)), (1, .int v1), (2, .int v2), (3, .int v3), (4, .int v4), (5, .int v5)] 24 [] := by
  intro n24
  induction n24 with
  | zero => intro σ v2 v3 v4 v5 h; exact nomatch (show (none : Option (Zst × Int32)) = some _ from h)
  | succ n24 ih =>
    intro σ v2 v3 v4 v5 h
    refine z_iload M dt_X12_right_1.1.1.1.1 5 rfl ?_
    refine z_aload_n M dt_X12_right_1.1.1.1.2 rfl 0 rfl ?_
    refine gf_X12_sorts (σ := σ) M u1963 dt_X12_right_1.1.1.2.1 (v := (σ.1 2)) rfl ?_
    refine z_icmp_ge (tgt := 191) M dt_X12_right_1.1.1.2.2 (by decide) (fun hc => ?_) (fun hc => ?_)
    · have h := gIt hc h
      refine z_sub M [0, 2, 3, 4] (lv' := [(0, .ref (a 0)), (2, .int v2), (3, .int v3), (4, .int v4)]) rfl ?_
      exact Hk191 σ v2 v3 v4 h
    · have h := gIf hc h
      refine z_iconst M dt_X12_right_1.1.2.1.1 ki_0 ?_
      refine z_istore (lv' := [(6, .int (0 : Int32)), (0, .ref (a 0)), (1, .int v1), (2, .int v2), (3, .int v3), (4, .int v4), (5, .int v5)]) M dt_X12_right_1.1.2.1.2 (by decide) rfl ?_
      refine z_sub M [1, 2, 3, 4, 5, 6, 0] (lv' := [(0, .ref (a 0)), (1, .int v1), (2, .int v2), (3, .int v3), (4, .int v4), (5, .int v5), (6, .int (0 : Int32))]) rfl ?_
      exact wL_X12_right_36 M (k185 := (fun σ12 w9 w10 w11 => J_X12_right_185 (fun σ w2 w3 w4 w5 => L_X12_right_24 k191 v1 n24 σ w2 w3 w4 w5) σ12 v1 w9 w10 w11 v5)) v1 v5 (fun σ12 w9 w10 w11 h => by
          exact wJ_X12_right_185 M (k24 := (fun σ w2 w3 w4 w5 => L_X12_right_24 k191 v1 n24 σ w2 w3 w4 w5)) σ12 v1 w9 w10 w11 v5 ih h) zFu σ v2 v3 v4 (0 : Int32) h
set_option maxHeartbeats 4000000 in
set_option maxRecDepth 100000 in
theorem wJ_X12_right_191 {o : (Zst × Int32)} (M : zM l D zcl (zty cy) A ad (zR 4) (mW a cy ad) RX12 cX12_right 12 (some .int) o.1 (some (.int o.2)) G) (σ : Zst) (v2 : Int32) (v3 : Int32) (v4 : Int32)  (h : J_X12_right_191 σ v2 v3 v4 = some o) : G σ [(0, .ref (a 0)), (2, .int v2), (3, .int v3), (4, .int v4)] 191 [] := by
  refine z_aload_n M dt_X12_right_6.2.1.1.1 rfl 0 rfl ?_
  refine z_iconst M dt_X12_right_6.2.1.1.2 ki_0 ?_
  refine pf_X12_rows M u1961 dt_X12_right_6.2.1.2.1 ?_
  refine z_aload_n M dt_X12_right_6.2.1.2.2 rfl 0 rfl ?_
  refine z_iload_n M dt_X12_right_6.2.2.1.1 rfl 2 rfl ?_
  refine z_i2l M dt_X12_right_6.2.2.1.2 ?_
  obtain ⟨t13, hc, h⟩ := gBd h
  refine k_X12_enters M hc u1708 (Nat.le_of_ble_eq_true rfl) (Nat.le_of_ble_eq_true rfl) dt_X12_right_6.2.2.2.1 ?_
  refine z_aload_n M dt_X12_right_6.2.2.2.2 rfl 0 rfl ?_
  refine z_iload M dt_X12_right_7.1.1.1 3 rfl ?_
  refine z_i2l M dt_X12_right_7.1.1.2 ?_
  obtain ⟨t14, hc, h⟩ := gBd h
  refine k_X12_enters M hc u1708 (Nat.le_of_ble_eq_true rfl) (Nat.le_of_ble_eq_true rfl) dt_X12_right_7.1.2 ?_
  refine z_iload_n M dt_X12_right_7.2.1 rfl 1 rfl ?_
  obtain rfl := Option.some.inj h
  exact z_iret M dt_X12_right_7.2.2
set_option maxHeartbeats 4000000 in
set_option maxRecDepth 100000 in
theorem m_X12_right (hD : ∀ σ, va_D A (mW a cy ad σ)) {σ : Zst} {p0 : Int32} {o : (Zst × Int32)} (h : f_X12_right σ p0 = some o) : zT l D zcl (zty cy) A ad (mW a cy ad) yX12_right cX12_right 12 (some .int) 4 [.ref (a 0), .int p0] σ o.1 (some (.int o.2)) := by
  refine z_met pn_X12 hD (Nat.le_of_ble_eq_true rfl) rfl (fun G M => ?_)
  refine z_aload_n M dt_X12_right_0.1.1.1.1 rfl 0 rfl ?_
  refine z_iconst M dt_X12_right_0.1.1.1.2 ki_0 ?_
  refine pf_X12_thrown M u1960 dt_X12_right_0.1.1.2.1 ?_
  refine z_iload_n M dt_X12_right_0.1.1.2.2 rfl 1 rfl ?_
  refine k_X12_isWay M u1732 (Nat.le_of_ble_eq_true rfl) (Nat.le_of_ble_eq_true rfl) dt_X12_right_0.1.2.1.1 ?_
  refine z_if_ne (tgt := 14) M dt_X12_right_0.1.2.1.2 (by decide) (fun hc => ?_) (fun hc => ?_)
  · have h := gIf hc h
    refine z_iconst M dt_X12_right_0.2.1.1.1 ki_0 ?_
    refine z_istore_n (lv' := [(2, .int (0 : Int32)), (0, .ref (a 0)), (1, .int p0)]) M dt_X12_right_0.2.1.1.2 rfl (by decide) rfl ?_
    refine z_iconst M dt_X12_right_0.2.1.2.1 ki_0 ?_
    refine z_istore_n (lv' := [(3, .int (0 : Int32)), (2, .int (0 : Int32)), (0, .ref (a 0)), (1, .int p0)]) M dt_X12_right_0.2.1.2.2 rfl (by decide) rfl ?_
    refine z_iconst M dt_X12_right_0.2.2.1.1 ki_0 ?_
    refine z_istore (lv' := [(4, .int (0 : Int32)), (3, .int (0 : Int32)), (2, .int (0 : Int32)), (0, .ref (a 0)), (1, .int p0)]) M dt_X12_right_0.2.2.1.2 (by decide) rfl ?_
    refine z_iconst M dt_X12_right_0.2.2.2.1 ki_0 ?_
    refine z_istore (lv' := [(5, .int (0 : Int32)), (4, .int (0 : Int32)), (3, .int (0 : Int32)), (2, .int (0 : Int32)), (0, .ref (a 0)), (1, .int p0)]) M dt_X12_right_0.2.2.2.2 (by decide) rfl ?_
    refine z_sub M [4, 5, 3, 2, 1, 0] (lv' := [(0, .ref (a 0)), (1, .int p0), (2, .int (0 : Int32)), (3, .int (0 : Int32)), (4, .int (0 : Int32)), (5, .int (0 : Int32))]) rfl ?_
    exact wL_X12_right_24 M (k191 := (fun σ18 w15 w16 w17 => J_X12_right_191 σ18 w15 w16 w17)) p0 (fun σ18 w15 w16 w17 h => by
        exact wJ_X12_right_191 M  σ18 w15 w16 w17 h) zFu (zI σ 0 (0 : Int32)) (0 : Int32) (0 : Int32) (0 : Int32) (0 : Int32) h
  · have h := gIt hc h
    refine z_iconst M dt_X12_right_0.1.2.2.1 ki_m1 ?_
    obtain rfl := Option.some.inj h
    exact z_iret M dt_X12_right_0.1.2.2.2
set_option maxHeartbeats 4000000 in
set_option maxRecDepth 100000 in
theorem m_X12_areTold (hD : ∀ σ, va_D A (mW a cy ad σ)) {σ0 : Zst} {p0 : Int32} {p1 : Int32} {o : Int32} (h : f_X12_areTold σ0 p0 p1 = some o) : zT l D zcl (zty cy) A ad (mW a cy ad) yX12_areTold cX12_areTold 3 (some .boolean) 3 [.ref (a 0), .int p0, .int p1] σ0 σ0 (some (.int o)) := by
  refine z_met pn_X12 hD (Nat.le_of_ble_eq_true rfl) rfl (fun G M => ?_)
  refine z_aload_n M dt_X12_areTold_0.1.1.1.1 rfl 0 rfl ?_
  refine z_aload_n M dt_X12_areTold_0.1.1.1.2 rfl 0 rfl ?_
  refine gf_X12_threeKind M u1995 dt_X12_areTold_0.1.1.2.1 ?_
  refine z_iconst M dt_X12_areTold_0.1.1.2.2 ki_0 ?_
  refine al_M15 (σ := σ0) M (f := (σ0.2.1 13)) rfl (show ¬ (_ ∨ _) by decide) dt_X12_areTold_0.1.2.1.1 ?_
  refine z_iload_n M dt_X12_areTold_0.1.2.1.2 rfl 1 rfl ?_
  refine z_iload_n M dt_X12_areTold_0.1.2.2.1 rfl 2 rfl ?_
  obtain ⟨t1, hc, h⟩ := gBd h
  refine k_X12_isTold M hc u1704 (Nat.le_of_ble_eq_true rfl) (Nat.le_of_ble_eq_true rfl) dt_X12_areTold_0.1.2.2.2 ?_
  refine z_if_eq (tgt := 49) M dt_X12_areTold_0.2.1.1.1 (by decide) (fun hc => ?_) (fun hc => ?_)
  · have h := gIt hc h
    refine z_iconst M dt_X12_areTold_1.2.2.1.2 ki_0 ?_
    obtain rfl := Option.some.inj h
    exact z_zret M (nBo (Or.inl rfl)) dt_X12_areTold_1.2.2.2
  · have h := gIf hc h
    refine z_aload_n M dt_X12_areTold_0.2.1.1.2 rfl 0 rfl ?_
    refine z_aload_n M dt_X12_areTold_0.2.1.2.1 rfl 0 rfl ?_
    refine gf_X12_threeKind M u1995 dt_X12_areTold_0.2.1.2.2 ?_
    refine z_iconst M dt_X12_areTold_0.2.2.1.1 ki_1 ?_
    refine al_M15 (σ := σ0) M (f := (σ0.2.1 13)) rfl (show ¬ (_ ∨ _) by decide) dt_X12_areTold_0.2.2.1.2 ?_
    refine z_iload_n M dt_X12_areTold_0.2.2.2.1 rfl 1 rfl ?_
    refine z_iload_n M dt_X12_areTold_0.2.2.2.2 rfl 2 rfl ?_
    obtain ⟨t2, hc, h⟩ := gBd h
    refine k_X12_isTold M hc u1704 (Nat.le_of_ble_eq_true rfl) (Nat.le_of_ble_eq_true rfl) dt_X12_areTold_1.1.1.1.1 ?_
    refine z_if_eq (tgt := 49) M dt_X12_areTold_1.1.1.1.2 (by decide) (fun hc => ?_) (fun hc => ?_)
    · have h := gIt hc h
      refine z_iconst M dt_X12_areTold_1.2.2.1.2 ki_0 ?_
      obtain rfl := Option.some.inj h
      exact z_zret M (nBo (Or.inl rfl)) dt_X12_areTold_1.2.2.2
    · have h := gIf hc h
      refine z_aload_n M dt_X12_areTold_1.1.1.2.1 rfl 0 rfl ?_
      refine z_aload_n M dt_X12_areTold_1.1.1.2.2 rfl 0 rfl ?_
      refine gf_X12_threeKind M u1995 dt_X12_areTold_1.1.2.1.1 ?_
      refine z_iconst M dt_X12_areTold_1.1.2.1.2 ki_2 ?_
      refine al_M15 (σ := σ0) M (f := (σ0.2.1 13)) rfl (show ¬ (_ ∨ _) by decide) dt_X12_areTold_1.1.2.2.1 ?_
      refine z_iload_n M dt_X12_areTold_1.1.2.2.2 rfl 1 rfl ?_
      refine z_iload_n M dt_X12_areTold_1.2.1.1.1 rfl 2 rfl ?_
      obtain ⟨t3, hc, h⟩ := gBd h
      refine k_X12_isTold M hc u1704 (Nat.le_of_ble_eq_true rfl) (Nat.le_of_ble_eq_true rfl) dt_X12_areTold_1.2.1.1.2 ?_
      have hJ5 : G σ0 [(0, .ref (a 0)), (1, .int p0), (2, .int p1)] 50 [.int (if t3 = (0 : Int32) then (0 : Int32) else (1 : Int32))] := by
        obtain rfl := Option.some.inj h
        exact z_zret M (nBo (boIte (Or.inl rfl) (Or.inr rfl))) dt_X12_areTold_1.2.2.2
      refine z_if_eq (tgt := 49) M dt_X12_areTold_1.2.1.2.1 (by decide) (fun hc4 => ?_) (fun hc4 => ?_)
      · refine z_iconst M dt_X12_areTold_1.2.2.1.2 ki_0 ?_
        exact (zTt hc4 hJ5)
      · refine z_iconst M dt_X12_areTold_1.2.1.2.2 ki_1 ?_
        refine z_goto (tgt := 50) M dt_X12_areTold_1.2.2.1.1 (by decide) ?_
        exact (zTf hc4 hJ5)
theorem k_X12_areTold {n : Nat} (M : zM l D zcl (zty cy) A ad (zR n) (mW a cy ad) own cc nL rt σo ov G) {p0 : Int32} {p1 : Int32} {o : Int32} (h : f_X12_areTold σ p0 p1 = some o) {index : Nat} (hl : Cond.methodLink own index yX12_areTold ∈ uw) (hR : 4 ≤ n) (hW : (st.map fun v => v.category).sum ≤ 8) (d : decode cc pc = .ok (.invokevirtual index, 3)) (kk : G σ lv (pc + 3) (.int o :: st)) : G σ lv pc (.int p1 :: .int p0 :: .ref (a 0) :: st) := z_callV M [.int p0, .int p1] (m_X12_areTold (zM_hD M) h) (hM0 σ) rfl hl u99 u1773 u1772 u70 hd_X12_areTold hR (by decide) rfl hW d kk
set_option maxHeartbeats 4000000 in
set_option maxRecDepth 100000 in
theorem wL_X12_threeMany_4 {o : Int32} (M : zM l D zcl (zty cy) A ad (zR 4) (mW a cy ad) RX12 cX12_threeMany 4 (some .int) σ0 (some (.int o)) G)  (v1 : Int32)  :
    ∀ (n4 : Nat) (v2 : Int32) (v3 : Int32), L_X12_threeMany_4 σ0 v1 n4 v2 v3 = some o → G σ0 [(0, .ref (a 0)), (1, .int v1), (2, .int v2), (3, .int v3)] 4 [] := by
  intro n4
  induction n4 with
  | zero => intro v2 v3 h; exact nomatch (show (none : Option Int32) = some _ from h)
  | succ n4 ih =>
    intro v2 v3 h
    refine z_iload_n M dt_X12_threeMany_0.1.2.1.1 rfl 3 rfl ?_
    refine z_bipush M dt_X12_threeMany_0.1.2.1.2 kb_12 ?_
    refine z_aload_n M dt_X12_threeMany_0.1.2.2.1 rfl 0 rfl ?_
    refine gf_X12_streets (σ := σ0) M u1970 dt_X12_threeMany_0.1.2.2.2 (v := (σ0.1 3)) rfl ?_
    refine z_imul M dt_X12_threeMany_0.2.1.1.1 ?_
    refine z_icmp_ge (tgt := 33) M dt_X12_threeMany_0.2.1.1.2 (by decide) (fun hc => ?_) (fun hc => ?_)
    · have h := gIt hc h
      refine z_iload_n M dt_X12_threeMany_1.2.1.2 rfl 2 rfl ?_
      obtain rfl := Option.some.inj h
      exact z_iret M dt_X12_threeMany_1.2.2
    · have h := gIf hc h
      refine z_iload_n M dt_X12_threeMany_0.2.1.2.1 rfl 2 rfl ?_
      refine z_aload_n M dt_X12_threeMany_0.2.1.2.2 rfl 0 rfl ?_
      refine z_iload_n M dt_X12_threeMany_0.2.2.1.1 rfl 3 rfl ?_
      refine z_iload_n M dt_X12_threeMany_0.2.2.1.2 rfl 1 rfl ?_
      obtain ⟨t1, hc, h⟩ := gBd h
      refine k_X12_areTold M hc u1770 (Nat.le_of_ble_eq_true rfl) (Nat.le_of_ble_eq_true rfl) dt_X12_threeMany_0.2.2.2.1 ?_
      refine k_X12_flag M u1675 (Nat.le_of_ble_eq_true rfl) (Nat.le_of_ble_eq_true rfl) dt_X12_threeMany_0.2.2.2.2 ?_
      refine z_iadd M dt_X12_threeMany_1.1.1.1 ?_
      refine z_istore_n (lv' := [(2, .int (v2 + (f_X12_flag t1))), (0, .ref (a 0)), (1, .int v1), (3, .int v3)]) M dt_X12_threeMany_1.1.1.2 rfl (by decide) rfl ?_
      refine z_iinc (v := (v3 + (1 : Int32))) (lv' := [(3, .int (v3 + (1 : Int32))), (2, .int (v2 + (f_X12_flag t1))), (0, .ref (a 0)), (1, .int v1)]) M dt_X12_threeMany_1.1.2 (k := 3) rfl (congrArg (fun q => v3 + q) ki_1) (by decide) rfl ?_
      refine z_goto (tgt := 4) M dt_X12_threeMany_1.2.1.1 (by decide) ?_
      refine z_sub M [2, 3, 1, 0] (lv' := [(0, .ref (a 0)), (1, .int v1), (2, .int (v2 + (f_X12_flag t1))), (3, .int (v3 + (1 : Int32)))]) rfl ?_
      exact ih (v2 + (f_X12_flag t1)) (v3 + (1 : Int32)) h
set_option maxHeartbeats 4000000 in
set_option maxRecDepth 100000 in
theorem m_X12_threeMany (hD : ∀ σ, va_D A (mW a cy ad σ)) {σ0 : Zst} {p0 : Int32} {o : Int32} (h : f_X12_threeMany σ0 p0 = some o) : zT l D zcl (zty cy) A ad (mW a cy ad) yX12_threeMany cX12_threeMany 4 (some .int) 4 [.ref (a 0), .int p0] σ0 σ0 (some (.int o)) := by
  refine z_met pn_X12 hD (Nat.le_of_ble_eq_true rfl) rfl (fun G M => ?_)
  refine z_iconst M dt_X12_threeMany_0.1.1.1.1 ki_0 ?_
  refine z_istore_n (lv' := [(2, .int (0 : Int32)), (0, .ref (a 0)), (1, .int p0)]) M dt_X12_threeMany_0.1.1.1.2 rfl (by decide) rfl ?_
  refine z_iconst M dt_X12_threeMany_0.1.1.2.1 ki_0 ?_
  refine z_istore_n (lv' := [(3, .int (0 : Int32)), (2, .int (0 : Int32)), (0, .ref (a 0)), (1, .int p0)]) M dt_X12_threeMany_0.1.1.2.2 rfl (by decide) rfl ?_
  refine z_sub M [2, 3, 1, 0] (lv' := [(0, .ref (a 0)), (1, .int p0), (2, .int (0 : Int32)), (3, .int (0 : Int32))]) rfl ?_
  exact wL_X12_threeMany_4 M  p0 zFu (0 : Int32) (0 : Int32) h
theorem k_X12_threeMany {n : Nat} (M : zM l D zcl (zty cy) A ad (zR n) (mW a cy ad) own cc nL rt σo ov G) {p0 : Int32} {o : Int32} (h : f_X12_threeMany σ p0 = some o) {index : Nat} (hl : Cond.methodLink own index yX12_threeMany ∈ uw) (hR : 5 ≤ n) (hW : (st.map fun v => v.category).sum ≤ 8) (d : decode cc pc = .ok (.invokevirtual index, 3)) (kk : G σ lv (pc + 3) (.int o :: st)) : G σ lv pc (.int p0 :: .ref (a 0) :: st) := z_callV M [.int p0] (m_X12_threeMany (zM_hD M) h) (hM0 σ) rfl hl u99 u1769 u1768 u69 hd_X12_threeMany hR (by decide) rfl hW d kk
set_option maxHeartbeats 4000000 in
set_option maxRecDepth 100000 in
theorem wL_X12_together_15 {o : Int64} (M : zM l D zcl (zty cy) A ad (zR 4) (mW a cy ad) RX12 cX12_together 17 (some .long) σ0 (some (.long o)) G)  (v1 : Int32) (v2 : Int32) (v3 : Int32)  :
    ∀ (n15 : Nat) (v4 : Int64) (v6 : Int64) (v8 : Int64) (v10 : Int64) (v12 : Int32), L_X12_together_15 σ0 v1 v2 v3 n15 v4 v6 v8 v10 v12 = some o → G σ0 [(0, .ref (a 0)), (1, .int v1), (2, .int v2), (3, .int v3), (4, .long v4), (6, .long v6), (8, .long v8), (10, .long v10), (12, .int v12)] 15 [] := by
  intro n15
  induction n15 with
  | zero => intro v4 v6 v8 v10 v12 h; exact nomatch (show (none : Option Int64) = some _ from h)
  | succ n15 ih =>
    intro v4 v6 v8 v10 v12 h
    refine z_iload M dt_X12_together_0.2.1.2.1 8 rfl ?_
    refine z_bipush M dt_X12_together_0.2.1.2.2 kb_12 ?_
    refine z_aload_n M dt_X12_together_0.2.2.1.1 rfl 0 rfl ?_
    refine gf_X12_streets (σ := σ0) M u1970 dt_X12_together_0.2.2.1.2 (v := (σ0.1 3)) rfl ?_
    refine z_imul M dt_X12_together_0.2.2.2.1 ?_
    refine z_icmp_ge (tgt := 105) M dt_X12_together_0.2.2.2.2 (by decide) (fun hc => ?_) (fun hc => ?_)
    · have h := gIt hc h
      refine z_lload M dt_X12_together_3.2.2.1.2 4 rfl ?_
      refine z_lload M dt_X12_together_3.2.2.2.1 7 rfl ?_
      refine z_lmul M dt_X12_together_3.2.2.2.2 ?_
      refine z_lload M dt_X12_together_4.1.1.1 5 rfl ?_
      refine z_lload M dt_X12_together_4.1.1.2 6 rfl ?_
      refine z_lmul M dt_X12_together_4.1.2 ?_
      refine z_lsub M dt_X12_together_4.2.1 ?_
      obtain rfl := Option.some.inj h
      exact z_lret M dt_X12_together_4.2.2
    · have h := gIf hc h
      refine z_aload_n M dt_X12_together_1.1.1.1.1 rfl 0 rfl ?_
      refine z_iload M dt_X12_together_1.1.1.1.2 8 rfl ?_
      refine z_iload_n M dt_X12_together_1.1.1.2.1 rfl 1 rfl ?_
      obtain ⟨t1, hc, h⟩ := gBd h
      refine k_X12_areTold M hc u1770 (Nat.le_of_ble_eq_true rfl) (Nat.le_of_ble_eq_true rfl) dt_X12_together_1.1.1.2.2 ?_
      refine z_if_eq (tgt := 99) M dt_X12_together_1.1.2.1.1 (by decide) (fun hc => ?_) (fun hc => ?_)
      · have h := gIt hc h
        refine z_iinc (v := (v12 + (1 : Int32))) (lv' := [(12, .int (v12 + (1 : Int32))), (0, .ref (a 0)), (1, .int v1), (2, .int v2), (3, .int v3), (4, .long v4), (6, .long v6), (8, .long v8), (10, .long v10)]) M dt_X12_together_3.2.1.2.2 (k := 8) rfl (congrArg (fun q => v12 + q) ki_1) (by decide) rfl ?_
        refine z_goto (tgt := 15) M dt_X12_together_3.2.2.1.1 (by decide) ?_
        refine z_sub M [1, 2, 3, 4, 5, 6, 7, 8, 0] (lv' := [(0, .ref (a 0)), (1, .int v1), (2, .int v2), (3, .int v3), (4, .long v4), (6, .long v6), (8, .long v8), (10, .long v10), (12, .int (v12 + (1 : Int32)))]) rfl ?_
        exact ih v4 v6 v8 v10 (v12 + (1 : Int32)) h
      · have h := gIf hc h
        refine z_aload_n M dt_X12_together_1.1.2.1.2 rfl 0 rfl ?_
        refine z_aload_n M dt_X12_together_1.1.2.2.1 rfl 0 rfl ?_
        refine gf_X12_threeKind M u1995 dt_X12_together_1.1.2.2.2 ?_
        refine z_iload_n M dt_X12_together_1.2.1.1.1 rfl 2 rfl ?_
        have ⟨hg, h⟩ := gIx_s h
        refine al_M15 (σ := σ0) M (f := (σ0.2.1 13)) rfl hg dt_X12_together_1.2.1.1.2 ?_
        refine z_iload M dt_X12_together_1.2.1.2.1 8 rfl ?_
        refine z_iload_n M dt_X12_together_1.2.1.2.2 rfl 1 rfl ?_
        obtain ⟨t2, hc, h⟩ := gBd h
        refine k_X12_at M hc u1556 (Nat.le_of_ble_eq_true rfl) (Nat.le_of_ble_eq_true rfl) dt_X12_together_1.2.2.1.1 ?_
        refine z_i2l M dt_X12_together_1.2.2.1.2 ?_
        refine z_lstore (lv' := [(13, .long (Int32.toInt64 t2)), (0, .ref (a 0)), (1, .int v1), (2, .int v2), (3, .int v3), (4, .long v4), (6, .long v6), (8, .long v8), (10, .long v10), (12, .int v12)]) M dt_X12_together_1.2.2.2.1 (by decide) rfl ?_
        refine z_aload_n M dt_X12_together_1.2.2.2.2 rfl 1 rfl ?_
        refine z_aload_n M dt_X12_together_2.1.1.1.1 rfl 1 rfl ?_
        refine gf_X12_threeKind M u1995 dt_X12_together_2.1.1.1.2 ?_
        refine z_iload_n M dt_X12_together_2.1.1.2.1 rfl 4 rfl ?_
        have ⟨hg, h⟩ := gIx_s h
        refine al_M15 (σ := σ0) M (f := (σ0.2.1 13)) rfl hg dt_X12_together_2.1.1.2.2 ?_
        refine z_iload M dt_X12_together_2.1.2.1.1 9 rfl ?_
        refine z_iload_n M dt_X12_together_2.1.2.1.2 rfl 2 rfl ?_
        obtain ⟨t3, hc, h⟩ := gBd h
        refine k_X12_at M hc u1556 (Nat.le_of_ble_eq_true rfl) (Nat.le_of_ble_eq_true rfl) dt_X12_together_2.1.2.2.1 ?_
        refine z_i2l M dt_X12_together_2.1.2.2.2 ?_
        refine z_lstore (lv' := [(15, .long (Int32.toInt64 t3)), (13, .long (Int32.toInt64 t2)), (0, .ref (a 0)), (1, .int v1), (2, .int v2), (3, .int v3), (4, .long v4), (6, .long v6), (8, .long v8), (10, .long v10), (12, .int v12)]) M dt_X12_together_2.2.1.1.1 (by decide) rfl ?_
        refine z_lload M dt_X12_together_2.2.1.1.2 6 rfl ?_
        refine z_lconst (v := 1) M dt_X12_together_2.2.1.2.1 (by decide) ?_
        refine z_ladd M dt_X12_together_2.2.1.2.2 ?_
        refine z_lstore (lv' := [(4, .long (v4 + (1 : Int64))), (15, .long (Int32.toInt64 t3)), (13, .long (Int32.toInt64 t2)), (0, .ref (a 0)), (1, .int v1), (2, .int v2), (3, .int v3), (6, .long v6), (8, .long v8), (10, .long v10), (12, .int v12)]) M dt_X12_together_2.2.2.1.1 (by decide) rfl ?_
        refine z_lload M dt_X12_together_2.2.2.1.2 7 rfl ?_
        refine z_lload M dt_X12_together_2.2.2.2.1 2 rfl ?_
        refine z_ladd M dt_X12_together_2.2.2.2.2 ?_
        refine z_lstore (lv' := [(6, .long (v6 + (Int32.toInt64 t2))), (4, .long (v4 + (1 : Int64))), (15, .long (Int32.toInt64 t3)), (13, .long (Int32.toInt64 t2)), (0, .ref (a 0)), (1, .int v1), (2, .int v2), (3, .int v3), (8, .long v8), (10, .long v10), (12, .int v12)]) M dt_X12_together_3.1.1.1.1 (by decide) rfl ?_
        refine z_lload M dt_X12_together_3.1.1.1.2 8 rfl ?_
        refine z_lload M dt_X12_together_3.1.1.2.1 2 rfl ?_
        refine z_ladd M dt_X12_together_3.1.1.2.2 ?_
        refine z_lstore (lv' := [(8, .long (v8 + (Int32.toInt64 t3))), (6, .long (v6 + (Int32.toInt64 t2))), (4, .long (v4 + (1 : Int64))), (15, .long (Int32.toInt64 t3)), (13, .long (Int32.toInt64 t2)), (0, .ref (a 0)), (1, .int v1), (2, .int v2), (3, .int v3), (10, .long v10), (12, .int v12)]) M dt_X12_together_3.1.2.1.1 (by decide) rfl ?_
        refine z_lload M dt_X12_together_3.1.2.1.2 9 rfl ?_
        refine z_lload M dt_X12_together_3.1.2.2.1 4 rfl ?_
        refine z_lload M dt_X12_together_3.1.2.2.2 3 rfl ?_
        refine z_lmul M dt_X12_together_3.2.1.1.1 ?_
        refine z_ladd M dt_X12_together_3.2.1.1.2 ?_
        refine z_lstore (lv' := [(10, .long (v10 + ((Int32.toInt64 t2) * (Int32.toInt64 t3)))), (8, .long (v8 + (Int32.toInt64 t3))), (6, .long (v6 + (Int32.toInt64 t2))), (4, .long (v4 + (1 : Int64))), (15, .long (Int32.toInt64 t3)), (13, .long (Int32.toInt64 t2)), (0, .ref (a 0)), (1, .int v1), (2, .int v2), (3, .int v3), (12, .int v12)]) M dt_X12_together_3.2.1.2.1 (by decide) rfl ?_
        refine z_iinc (v := (v12 + (1 : Int32))) (lv' := [(12, .int (v12 + (1 : Int32))), (10, .long (v10 + ((Int32.toInt64 t2) * (Int32.toInt64 t3)))), (8, .long (v8 + (Int32.toInt64 t3))), (6, .long (v6 + (Int32.toInt64 t2))), (4, .long (v4 + (1 : Int64))), (15, .long (Int32.toInt64 t3)), (13, .long (Int32.toInt64 t2)), (0, .ref (a 0)), (1, .int v1), (2, .int v2), (3, .int v3)]) M dt_X12_together_3.2.1.2.2 (k := 10) rfl (congrArg (fun q => v12 + q) ki_1) (by decide) rfl ?_
        refine z_goto (tgt := 15) M dt_X12_together_3.2.2.1.1 (by decide) ?_
        refine z_sub M [7, 8, 9, 10, 4, 3, 2, 1, 0] (lv' := [(0, .ref (a 0)), (1, .int v1), (2, .int v2), (3, .int v3), (4, .long (v4 + (1 : Int64))), (6, .long (v6 + (Int32.toInt64 t2))), (8, .long (v8 + (Int32.toInt64 t3))), (10, .long (v10 + ((Int32.toInt64 t2) * (Int32.toInt64 t3)))), (12, .int (v12 + (1 : Int32)))]) rfl ?_
        exact ih (v4 + (1 : Int64)) (v6 + (Int32.toInt64 t2)) (v8 + (Int32.toInt64 t3)) (v10 + ((Int32.toInt64 t2) * (Int32.toInt64 t3))) (v12 + (1 : Int32)) h
set_option maxHeartbeats 4000000 in
set_option maxRecDepth 100000 in
theorem m_X12_together (hD : ∀ σ, va_D A (mW a cy ad σ)) {σ0 : Zst} {p0 : Int32} {p1 : Int32} {p2 : Int32} {o : Int64} (h : f_X12_together σ0 p0 p1 p2 = some o) : zT l D zcl (zty cy) A ad (mW a cy ad) yX12_together cX12_together 17 (some .long) 4 [.ref (a 0), .int p0, .int p1, .int p2] σ0 σ0 (some (.long o)) := by
  refine z_met pn_X12 hD (Nat.le_of_ble_eq_true rfl) rfl (fun G M => ?_)
  refine z_lconst (v := 0) M dt_X12_together_0.1.1.1.1 (by decide) ?_
  refine z_lstore (lv' := [(4, .long (0 : Int64)), (0, .ref (a 0)), (1, .int p0), (2, .int p1), (3, .int p2)]) M dt_X12_together_0.1.1.1.2 (by decide) rfl ?_
  refine z_lconst (v := 0) M dt_X12_together_0.1.1.2.1 (by decide) ?_
  refine z_lstore (lv' := [(6, .long (0 : Int64)), (4, .long (0 : Int64)), (0, .ref (a 0)), (1, .int p0), (2, .int p1), (3, .int p2)]) M dt_X12_together_0.1.1.2.2 (by decide) rfl ?_
  refine z_lconst (v := 0) M dt_X12_together_0.1.2.1.1 (by decide) ?_
  refine z_lstore (lv' := [(8, .long (0 : Int64)), (6, .long (0 : Int64)), (4, .long (0 : Int64)), (0, .ref (a 0)), (1, .int p0), (2, .int p1), (3, .int p2)]) M dt_X12_together_0.1.2.1.2 (by decide) rfl ?_
  refine z_lconst (v := 0) M dt_X12_together_0.1.2.2.1 (by decide) ?_
  refine z_lstore (lv' := [(10, .long (0 : Int64)), (8, .long (0 : Int64)), (6, .long (0 : Int64)), (4, .long (0 : Int64)), (0, .ref (a 0)), (1, .int p0), (2, .int p1), (3, .int p2)]) M dt_X12_together_0.1.2.2.2 (by decide) rfl ?_
  refine z_iconst M dt_X12_together_0.2.1.1.1 ki_0 ?_
  refine z_istore (lv' := [(12, .int (0 : Int32)), (10, .long (0 : Int64)), (8, .long (0 : Int64)), (6, .long (0 : Int64)), (4, .long (0 : Int64)), (0, .ref (a 0)), (1, .int p0), (2, .int p1), (3, .int p2)]) M dt_X12_together_0.2.1.1.2 (by decide) rfl ?_
  refine z_sub M [5, 6, 7, 8, 4, 3, 2, 1, 0] (lv' := [(0, .ref (a 0)), (1, .int p0), (2, .int p1), (3, .int p2), (4, .long (0 : Int64)), (6, .long (0 : Int64)), (8, .long (0 : Int64)), (10, .long (0 : Int64)), (12, .int (0 : Int32))]) rfl ?_
  exact wL_X12_together_15 M  p0 p1 p2 zFu (0 : Int64) (0 : Int64) (0 : Int64) (0 : Int64) (0 : Int32) h
theorem k_X12_together {n : Nat} (M : zM l D zcl (zty cy) A ad (zR n) (mW a cy ad) own cc nL rt σo ov G) {p0 : Int32} {p1 : Int32} {p2 : Int32} {o : Int64} (h : f_X12_together σ p0 p1 p2 = some o) {index : Nat} (hl : Cond.methodLink own index yX12_together ∈ uw) (hR : 5 ≤ n) (hW : (st.map fun v => v.category).sum ≤ 8) (d : decode cc pc = .ok (.invokevirtual index, 3)) (kk : G σ lv (pc + 3) (.long o :: st)) : G σ lv pc (.int p2 :: .int p1 :: .int p0 :: .ref (a 0) :: st) := z_callV M [.int p0, .int p1, .int p2] (m_X12_together (zM_hD M) h) (hM0 σ) rfl hl u99 u1777 u1776 u71 hd_X12_together hR (by decide) rfl hW d kk
set_option maxHeartbeats 4000000 in
set_option maxRecDepth 100000 in
theorem wL_X12_thousandths_92 {o : Int64} (M : zM l D zcl0 tys A ad (zR 1) wf RX12 cX12_thousandths 18 (some .long) σ0 (some (.long o)) G) {k139 : Int32 → Int64 → Option Int64}  (v4 : Int32) (v7 : Int64) (v9 : Int64) (v11 : Int64) (v13 : Int32) (Hk139 : ∀ (w14 : Int32) (w15 : Int64), k139 w14 w15 = some o → G σ0 [(4, .int v4), (7, .long v7), (9, .long v9), (13, .int v13), (14, .int w14), (15, .long w15)] 139 []) :
    ∀ (n92 : Nat) (v14 : Int32) (v15 : Int64) (v17 : Int32), L_X12_thousandths_92 k139 v4 v7 v9 v11 v13 n92 v14 v15 v17 = some o → G σ0 [(4, .int v4), (7, .long v7), (9, .long v9), (11, .long v11), (13, .int v13), (14, .int v14), (15, .long v15), (17, .int v17)] 92 [] := by
  intro n92
  induction n92 with
  | zero => intro v14 v15 v17 h; exact nomatch (show (none : Option Int64) = some _ from h)
  | succ n92 ih =>
    intro v14 v15 v17 h
    refine z_iload M dt_X12_thousandths_3.2.1.1.1 7 rfl ?_
    refine z_bipush M dt_X12_thousandths_3.2.1.1.2 kb_10 ?_
    refine z_icmp_ge (tgt := 139) M dt_X12_thousandths_3.2.1.2.1 (by decide) (fun hc => ?_) (fun hc => ?_)
    · have h := gIt hc h
      refine z_sub M [0, 1, 2, 4, 5, 6] (lv' := [(4, .int v4), (7, .long v7), (9, .long v9), (13, .int v13), (14, .int v14), (15, .long v15)]) rfl ?_
      exact Hk139 v14 v15 h
    · have h := gIf hc h
      refine z_lload M dt_X12_thousandths_3.2.1.2.2 6 rfl ?_
      refine z_lload M dt_X12_thousandths_3.2.2.1.1 1 rfl ?_
      refine z_lload M dt_X12_thousandths_3.2.2.1.2 3 rfl ?_
      refine z_lsub M dt_X12_thousandths_3.2.2.2.1 ?_
      refine z_lcmp_lt (tgt := 126) M dt_X12_thousandths_3.2.2.2.2 dt_X12_thousandths_4.1.1.1.1 (by decide) (fun hc => ?_) (fun hc => ?_)
      · have h := gIt hc h
        refine z_lload M dt_X12_thousandths_4.2.1.1.2 6 rfl ?_
        refine z_lload M dt_X12_thousandths_4.2.1.2.1 3 rfl ?_
        refine z_ladd M dt_X12_thousandths_4.2.1.2.2 ?_
        refine z_lstore (lv' := [(15, .long (v15 + v11)), (4, .int v4), (7, .long v7), (9, .long v9), (11, .long v11), (13, .int v13), (14, .int v14), (17, .int v17)]) M dt_X12_thousandths_4.2.2.1.1 (by decide) rfl ?_
        refine z_iinc (v := (v17 + (1 : Int32))) (lv' := [(17, .int (v17 + (1 : Int32))), (15, .long (v15 + v11)), (4, .int v4), (7, .long v7), (9, .long v9), (11, .long v11), (13, .int v13), (14, .int v14)]) M dt_X12_thousandths_4.2.2.1.2 (k := 7) rfl (congrArg (fun q => v17 + q) ki_1) (by decide) rfl ?_
        refine z_goto (tgt := 92) M dt_X12_thousandths_4.2.2.2.1 (by decide) ?_
        refine z_sub M [2, 3, 4, 5, 6, 7, 1, 0] (lv' := [(4, .int v4), (7, .long v7), (9, .long v9), (11, .long v11), (13, .int v13), (14, .int v14), (15, .long (v15 + v11)), (17, .int (v17 + (1 : Int32)))]) rfl ?_
        exact ih v14 (v15 + v11) (v17 + (1 : Int32)) h
      · have h := gIf hc h
        refine z_lload M dt_X12_thousandths_4.1.1.1.2 6 rfl ?_
        refine z_lload M dt_X12_thousandths_4.1.1.2.1 1 rfl ?_
        refine z_lload M dt_X12_thousandths_4.1.1.2.2 3 rfl ?_
        refine z_lsub M dt_X12_thousandths_4.1.2.1.1 ?_
        refine z_lsub M dt_X12_thousandths_4.1.2.1.2 ?_
        refine z_lstore (lv' := [(15, .long (v15 - (v7 - v11))), (4, .int v4), (7, .long v7), (9, .long v9), (11, .long v11), (13, .int v13), (14, .int v14), (17, .int v17)]) M dt_X12_thousandths_4.1.2.2.1 (by decide) rfl ?_
        refine z_iinc (v := (v14 + (1 : Int32))) (lv' := [(14, .int (v14 + (1 : Int32))), (15, .long (v15 - (v7 - v11))), (4, .int v4), (7, .long v7), (9, .long v9), (11, .long v11), (13, .int v13), (17, .int v17)]) M dt_X12_thousandths_4.1.2.2.2 (k := 6) rfl (congrArg (fun q => v14 + q) ki_1) (by decide) rfl ?_
        refine z_goto (tgt := 133) M dt_X12_thousandths_4.2.1.1.1 (by decide) ?_
        refine z_iinc (v := (v17 + (1 : Int32))) (lv' := [(17, .int (v17 + (1 : Int32))), (14, .int (v14 + (1 : Int32))), (15, .long (v15 - (v7 - v11))), (4, .int v4), (7, .long v7), (9, .long v9), (11, .long v11), (13, .int v13)]) M dt_X12_thousandths_4.2.2.1.2 (k := 7) rfl (congrArg (fun q => v17 + q) ki_1) (by decide) rfl ?_
        refine z_goto (tgt := 92) M dt_X12_thousandths_4.2.2.2.1 (by decide) ?_
        refine z_sub M [3, 4, 5, 6, 7, 1, 2, 0] (lv' := [(4, .int v4), (7, .long v7), (9, .long v9), (11, .long v11), (13, .int v13), (14, .int (v14 + (1 : Int32))), (15, .long (v15 - (v7 - v11))), (17, .int (v17 + (1 : Int32)))]) rfl ?_
        exact ih (v14 + (1 : Int32)) (v15 - (v7 - v11)) (v17 + (1 : Int32)) h
set_option maxHeartbeats 4000000 in
set_option maxRecDepth 100000 in
theorem wJ_X12_thousandths_139 {o : Int64} (M : zM l D zcl0 tys A ad (zR 1) wf RX12 cX12_thousandths 18 (some .long) σ0 (some (.long o)) G) {k77 : Int64 → Int64 → Int32 → Option Int64}  (v4 : Int32) (v7 : Int64) (v9 : Int64) (v13 : Int32) (v14 : Int32) (v15 : Int64) (Hk77 : ∀ (w9 : Int64) (w11 : Int64) (w13 : Int32), k77 w9 w11 w13 = some o → G σ0 [(4, .int v4), (7, .long v7), (9, .long w9), (11, .long w11), (13, .int w13)] 77 []) (h : J_X12_thousandths_139 k77 v4 v7 v9 v13 v14 v15 = some o) : G σ0 [(4, .int v4), (7, .long v7), (9, .long v9), (13, .int v13), (14, .int v14), (15, .long v15)] 139 [] := by
  refine z_ldc2 M dt_X12_thousandths_4.2.2.2.2 u1781 ?_
  refine z_lload M dt_X12_thousandths_5.1.1.1.1 2 rfl ?_
  refine z_lmul M dt_X12_thousandths_5.1.1.1.2 ?_
  refine z_iload M dt_X12_thousandths_5.1.1.2.1 4 rfl ?_
  refine z_i2l M dt_X12_thousandths_5.1.1.2.2 ?_
  refine z_ladd M dt_X12_thousandths_5.1.2.1.1 ?_
  refine z_lstore (lv' := [(9, .long (((10 : Int64) * v9) + (Int32.toInt64 v14))), (4, .int v4), (7, .long v7), (13, .int v13), (14, .int v14), (15, .long v15)]) M dt_X12_thousandths_5.1.2.1.2 (by decide) rfl ?_
  refine z_lload M dt_X12_thousandths_5.1.2.2.1 5 rfl ?_
  refine z_lstore (lv' := [(11, .long v15), (9, .long (((10 : Int64) * v9) + (Int32.toInt64 v14))), (4, .int v4), (7, .long v7), (13, .int v13), (14, .int v14), (15, .long v15)]) M dt_X12_thousandths_5.1.2.2.2 (by decide) rfl ?_
  refine z_iinc (v := (v13 + (1 : Int32))) (lv' := [(13, .int (v13 + (1 : Int32))), (11, .long v15), (9, .long (((10 : Int64) * v9) + (Int32.toInt64 v14))), (4, .int v4), (7, .long v7), (14, .int v14), (15, .long v15)]) M dt_X12_thousandths_5.2.1.1.1 (k := 4) rfl (congrArg (fun q => v13 + q) ki_1) (by decide) rfl ?_
  refine z_goto (tgt := 77) M dt_X12_thousandths_5.2.1.1.2 (by decide) ?_
  refine z_sub M [3, 4, 2, 1, 0] (lv' := [(4, .int v4), (7, .long v7), (9, .long (((10 : Int64) * v9) + (Int32.toInt64 v14))), (11, .long v15), (13, .int (v13 + (1 : Int32)))]) rfl ?_
  exact Hk77 (((10 : Int64) * v9) + (Int32.toInt64 v14)) v15 (v13 + (1 : Int32)) h
set_option maxHeartbeats 4000000 in
set_option maxRecDepth 100000 in
theorem wL_X12_thousandths_77 {o : Int64} (M : zM l D zcl0 tys A ad (zR 1) wf RX12 cX12_thousandths 18 (some .long) σ0 (some (.long o)) G) {k161 : Int64 → Option Int64}  (v4 : Int32) (v7 : Int64) (Hk161 : ∀ (w9 : Int64), k161 w9 = some o → G σ0 [(4, .int v4), (9, .long w9)] 161 []) :
    ∀ (n77 : Nat) (v9 : Int64) (v11 : Int64) (v13 : Int32), L_X12_thousandths_77 k161 v4 v7 n77 v9 v11 v13 = some o → G σ0 [(4, .int v4), (7, .long v7), (9, .long v9), (11, .long v11), (13, .int v13)] 77 [] := by
  intro n77
  induction n77 with
  | zero => intro v9 v11 v13 h; exact nomatch (show (none : Option Int64) = some _ from h)
  | succ n77 ih =>
    intro v9 v11 v13 h
    refine z_iload M dt_X12_thousandths_2.2.2.2.2 4 rfl ?_
    refine z_iconst M dt_X12_thousandths_3.1.1.1.1 ki_3 ?_
    refine z_icmp_ge (tgt := 161) M dt_X12_thousandths_3.1.1.1.2 (by decide) (fun hc => ?_) (fun hc => ?_)
    · have h := gIt hc h
      refine z_sub M [0, 2] (lv' := [(4, .int v4), (9, .long v9)]) rfl ?_
      exact Hk161 v9 h
    · have h := gIf hc h
      refine z_iconst M dt_X12_thousandths_3.1.1.2.1 ki_0 ?_
      refine z_istore (lv' := [(14, .int (0 : Int32)), (4, .int v4), (7, .long v7), (9, .long v9), (11, .long v11), (13, .int v13)]) M dt_X12_thousandths_3.1.1.2.2 (by decide) rfl ?_
      refine z_lconst (v := 0) M dt_X12_thousandths_3.1.2.1.1 (by decide) ?_
      refine z_lstore (lv' := [(15, .long (0 : Int64)), (14, .int (0 : Int32)), (4, .int v4), (7, .long v7), (9, .long v9), (11, .long v11), (13, .int v13)]) M dt_X12_thousandths_3.1.2.1.2 (by decide) rfl ?_
      refine z_iconst M dt_X12_thousandths_3.1.2.2.1 ki_0 ?_
      refine z_istore (lv' := [(17, .int (0 : Int32)), (15, .long (0 : Int64)), (14, .int (0 : Int32)), (4, .int v4), (7, .long v7), (9, .long v9), (11, .long v11), (13, .int v13)]) M dt_X12_thousandths_3.1.2.2.2 (by decide) rfl ?_
      refine z_sub M [3, 4, 5, 6, 7, 2, 1, 0] (lv' := [(4, .int v4), (7, .long v7), (9, .long v9), (11, .long v11), (13, .int v13), (14, .int (0 : Int32)), (15, .long (0 : Int64)), (17, .int (0 : Int32))]) rfl ?_
      exact wL_X12_thousandths_92 M (k139 := (fun w1 w2 => J_X12_thousandths_139 (fun w9 w11 w13 => L_X12_thousandths_77 k161 v4 v7 n77 w9 w11 w13) v4 v7 v9 v13 w1 w2)) v4 v7 v9 v11 v13 (fun w1 w2 h => by
          exact wJ_X12_thousandths_139 M (k77 := (fun w9 w11 w13 => L_X12_thousandths_77 k161 v4 v7 n77 w9 w11 w13)) v4 v7 v9 v13 w1 w2 ih h) zFu (0 : Int32) (0 : Int64) (0 : Int32) h
set_option maxHeartbeats 4000000 in
set_option maxRecDepth 100000 in
theorem wJ_X12_thousandths_161 {o : Int64} (M : zM l D zcl0 tys A ad (zR 1) wf RX12 cX12_thousandths 18 (some .long) σ0 (some (.long o)) G)  (v4 : Int32) (v9 : Int64)  (h : J_X12_thousandths_161 v4 v9 = some o) : G σ0 [(4, .int v4), (9, .long v9)] 161 [] := by
  refine z_iload M dt_X12_thousandths_5.2.1.2.1 0 rfl ?_
  have hJ4 : G σ0 [(4, .int v4), (9, .long v9)] 174 [.long (if v4 = (0 : Int32) then v9 else (-v9))] := by
    obtain rfl := Option.some.inj h
    exact z_lret M dt_X12_thousandths_6
  refine z_if_eq (tgt := 172) M dt_X12_thousandths_5.2.1.2.2 (by decide) (fun hc3 => ?_) (fun hc3 => ?_)
  · refine z_lload M dt_X12_thousandths_5.2.2.2.2 1 rfl ?_
    exact (zTtL hc3 hJ4)
  · refine z_lload M dt_X12_thousandths_5.2.2.1.1 1 rfl ?_
    refine z_lneg M dt_X12_thousandths_5.2.2.1.2 ?_
    refine z_goto (tgt := 174) M dt_X12_thousandths_5.2.2.2.1 (by decide) ?_
    exact (zTfL hc3 hJ4)
set_option maxHeartbeats 4000000 in
set_option maxRecDepth 100000 in
theorem m_X12_thousandths (hD : ∀ σ, va_D A (wf σ)) {σ0 : Zst} {p0 : Int64} {p1 : Int64} {o : Int64} (h : f_X12_thousandths p0 p1 = some o) : zT l D zcl0 tys A ad wf yX12_thousandths cX12_thousandths 18 (some .long) 1 [.long p0, .long p1] σ0 σ0 (some (.long o)) := by
  refine z_met pn_X12 hD (Nat.le_of_ble_eq_true rfl) rfl (fun G M => ?_)
  refine z_lload_n M dt_X12_thousandths_0.1.1.1.1 rfl 0 rfl ?_
  refine z_lconst (v := 0) M dt_X12_thousandths_0.1.1.1.2 (by decide) ?_
  have hJ6 : G σ0 [(0, .long p0), (2, .long p1)] 11 [.int (if (0 : Int64) ≤ p0 then (0 : Int32) else (1 : Int32))] := by
    refine z_lload_n M dt_X12_thousandths_0.1.2.2.2 rfl 1 rfl ?_
    refine z_lconst (v := 0) M dt_X12_thousandths_0.2.1.1.1 (by decide) ?_
    have hJ8 : G σ0 [(0, .long p0), (2, .long p1)] 22 [.int (if (0 : Int64) ≤ p1 then (0 : Int32) else (1 : Int32)), .int (if (0 : Int64) ≤ p0 then (0 : Int32) else (1 : Int32))] := by
      have hJ10 : G σ0 [(0, .long p0), (2, .long p1)] 30 [.int (if (if (0 : Int64) ≤ p0 then (0 : Int32) else (1 : Int32)) = (if (0 : Int64) ≤ p1 then (0 : Int32) else (1 : Int32)) then (0 : Int32) else (1 : Int32))] := by
        refine z_istore (lv' := [(4, .int (if (if (0 : Int64) ≤ p0 then (0 : Int32) else (1 : Int32)) = (if (0 : Int64) ≤ p1 then (0 : Int32) else (1 : Int32)) then (0 : Int32) else (1 : Int32))), (0, .long p0), (2, .long p1)]) M dt_X12_thousandths_1.1.1.2.1 (by decide) rfl ?_
        refine z_lload_n M dt_X12_thousandths_1.1.1.2.2 rfl 1 rfl ?_
        refine z_lconst (v := 0) M dt_X12_thousandths_1.1.2.1.1 (by decide) ?_
        have hJ12 : G σ0 [(4, .int (if (if (0 : Int64) ≤ p0 then (0 : Int32) else (1 : Int32)) = (if (0 : Int64) ≤ p1 then (0 : Int32) else (1 : Int32)) then (0 : Int32) else (1 : Int32))), (0, .long p0), (2, .long p1)] 44 [.long (if (0 : Int64) ≤ p0 then p0 else (-p0))] := by
          refine z_lstore (lv' := [(5, .long (if (0 : Int64) ≤ p0 then p0 else (-p0))), (4, .int (if (if (0 : Int64) ≤ p0 then (0 : Int32) else (1 : Int32)) = (if (0 : Int64) ≤ p1 then (0 : Int32) else (1 : Int32)) then (0 : Int32) else (1 : Int32))), (0, .long p0), (2, .long p1)]) M dt_X12_thousandths_1.2.1.2.2 (by decide) rfl ?_
          refine z_lload_n M dt_X12_thousandths_1.2.2.1.1 rfl 3 rfl ?_
          refine z_lconst (v := 0) M dt_X12_thousandths_1.2.2.1.2 (by decide) ?_
          have hJ14 : G σ0 [(5, .long (if (0 : Int64) ≤ p0 then p0 else (-p0))), (4, .int (if (if (0 : Int64) ≤ p0 then (0 : Int32) else (1 : Int32)) = (if (0 : Int64) ≤ p1 then (0 : Int32) else (1 : Int32)) then (0 : Int32) else (1 : Int32))), (0, .long p0), (2, .long p1)] 58 [.long (if (0 : Int64) ≤ p1 then p1 else (-p1))] := by
            refine z_lstore (lv' := [(7, .long (if (0 : Int64) ≤ p1 then p1 else (-p1))), (5, .long (if (0 : Int64) ≤ p0 then p0 else (-p0))), (4, .int (if (if (0 : Int64) ≤ p0 then (0 : Int32) else (1 : Int32)) = (if (0 : Int64) ≤ p1 then (0 : Int32) else (1 : Int32)) then (0 : Int32) else (1 : Int32))), (0, .long p0), (2, .long p1)]) M dt_X12_thousandths_2.1.2.1.1 (by decide) rfl ?_
            refine z_lload M dt_X12_thousandths_2.1.2.1.2 1 rfl ?_
            refine z_lload M dt_X12_thousandths_2.1.2.2.1 0 rfl ?_
            have ⟨hg, h⟩ := gNzL_s h
            refine z_ldiv M dt_X12_thousandths_2.1.2.2.2 hg ?_
            refine z_lstore (lv' := [(9, .long ((if (0 : Int64) ≤ p0 then p0 else (-p0)) / (if (0 : Int64) ≤ p1 then p1 else (-p1)))), (7, .long (if (0 : Int64) ≤ p1 then p1 else (-p1))), (5, .long (if (0 : Int64) ≤ p0 then p0 else (-p0))), (4, .int (if (if (0 : Int64) ≤ p0 then (0 : Int32) else (1 : Int32)) = (if (0 : Int64) ≤ p1 then (0 : Int32) else (1 : Int32)) then (0 : Int32) else (1 : Int32))), (0, .long p0), (2, .long p1)]) M dt_X12_thousandths_2.2.1.1.1 (by decide) rfl ?_
            refine z_lload M dt_X12_thousandths_2.2.1.1.2 2 rfl ?_
            refine z_lload M dt_X12_thousandths_2.2.1.2.1 1 rfl ?_
            have ⟨hg, h⟩ := gNzL_s h
            refine z_lrem M dt_X12_thousandths_2.2.1.2.2 hg ?_
            refine z_lstore (lv' := [(11, .long (jRemL (if (0 : Int64) ≤ p0 then p0 else (-p0)) (if (0 : Int64) ≤ p1 then p1 else (-p1)))), (9, .long ((if (0 : Int64) ≤ p0 then p0 else (-p0)) / (if (0 : Int64) ≤ p1 then p1 else (-p1)))), (7, .long (if (0 : Int64) ≤ p1 then p1 else (-p1))), (5, .long (if (0 : Int64) ≤ p0 then p0 else (-p0))), (4, .int (if (if (0 : Int64) ≤ p0 then (0 : Int32) else (1 : Int32)) = (if (0 : Int64) ≤ p1 then (0 : Int32) else (1 : Int32)) then (0 : Int32) else (1 : Int32))), (0, .long p0), (2, .long p1)]) M dt_X12_thousandths_2.2.2.1.1 (by decide) rfl ?_
            refine z_iconst M dt_X12_thousandths_2.2.2.1.2 ki_0 ?_
            refine z_istore (lv' := [(13, .int (0 : Int32)), (11, .long (jRemL (if (0 : Int64) ≤ p0 then p0 else (-p0)) (if (0 : Int64) ≤ p1 then p1 else (-p1)))), (9, .long ((if (0 : Int64) ≤ p0 then p0 else (-p0)) / (if (0 : Int64) ≤ p1 then p1 else (-p1)))), (7, .long (if (0 : Int64) ≤ p1 then p1 else (-p1))), (5, .long (if (0 : Int64) ≤ p0 then p0 else (-p0))), (4, .int (if (if (0 : Int64) ≤ p0 then (0 : Int32) else (1 : Int32)) = (if (0 : Int64) ≤ p1 then (0 : Int32) else (1 : Int32)) then (0 : Int32) else (1 : Int32))), (0, .long p0), (2, .long p1)]) M dt_X12_thousandths_2.2.2.2.1 (by decide) rfl ?_
            refine z_sub M [5, 3, 2, 1, 0] (lv' := [(4, .int (if (if (0 : Int64) ≤ p0 then (0 : Int32) else (1 : Int32)) = (if (0 : Int64) ≤ p1 then (0 : Int32) else (1 : Int32)) then (0 : Int32) else (1 : Int32))), (7, .long (if (0 : Int64) ≤ p1 then p1 else (-p1))), (9, .long ((if (0 : Int64) ≤ p0 then p0 else (-p0)) / (if (0 : Int64) ≤ p1 then p1 else (-p1)))), (11, .long (jRemL (if (0 : Int64) ≤ p0 then p0 else (-p0)) (if (0 : Int64) ≤ p1 then p1 else (-p1)))), (13, .int (0 : Int32))]) rfl ?_
            exact wL_X12_thousandths_77 M (k161 := (fun w15 => J_X12_thousandths_161 (if (if (0 : Int64) ≤ p0 then (0 : Int32) else (1 : Int32)) = (if (0 : Int64) ≤ p1 then (0 : Int32) else (1 : Int32)) then (0 : Int32) else (1 : Int32)) w15)) (if (if (0 : Int64) ≤ p0 then (0 : Int32) else (1 : Int32)) = (if (0 : Int64) ≤ p1 then (0 : Int32) else (1 : Int32)) then (0 : Int32) else (1 : Int32)) (if (0 : Int64) ≤ p1 then p1 else (-p1)) (fun w15 h => by
                exact wJ_X12_thousandths_161 M  (if (if (0 : Int64) ≤ p0 then (0 : Int32) else (1 : Int32)) = (if (0 : Int64) ≤ p1 then (0 : Int32) else (1 : Int32)) then (0 : Int32) else (1 : Int32)) w15 h) zFu ((if (0 : Int64) ≤ p0 then p0 else (-p0)) / (if (0 : Int64) ≤ p1 then p1 else (-p1))) (jRemL (if (0 : Int64) ≤ p0 then p0 else (-p0)) (if (0 : Int64) ≤ p1 then p1 else (-p1))) (0 : Int32) h
          refine z_lcmp_ge (tgt := 57) M dt_X12_thousandths_1.2.2.2.1 dt_X12_thousandths_1.2.2.2.2 (by decide) (fun hc13 => ?_) (fun hc13 => ?_)
          · refine z_lload_n M dt_X12_thousandths_2.1.1.2.2 rfl 3 rfl ?_
            exact (zTtL hc13 hJ14)
          · refine z_lload_n M dt_X12_thousandths_2.1.1.1.1 rfl 3 rfl ?_
            refine z_lneg M dt_X12_thousandths_2.1.1.1.2 ?_
            refine z_goto (tgt := 58) M dt_X12_thousandths_2.1.1.2.1 (by decide) ?_
            exact (zTfL hc13 hJ14)
        refine z_lcmp_ge (tgt := 43) M dt_X12_thousandths_1.1.2.1.2 dt_X12_thousandths_1.1.2.2.1 (by decide) (fun hc11 => ?_) (fun hc11 => ?_)
        · refine z_lload_n M dt_X12_thousandths_1.2.1.2.1 rfl 1 rfl ?_
          exact (zTtL hc11 hJ12)
        · refine z_lload_n M dt_X12_thousandths_1.1.2.2.2 rfl 1 rfl ?_
          refine z_lneg M dt_X12_thousandths_1.2.1.1.1 ?_
          refine z_goto (tgt := 44) M dt_X12_thousandths_1.2.1.1.2 (by decide) ?_
          exact (zTfL hc11 hJ12)
      refine z_icmp_eq (tgt := 29) M dt_X12_thousandths_0.2.2.2.1 (by decide) (fun hc9 => ?_) (fun hc9 => ?_)
      · refine z_iconst M dt_X12_thousandths_1.1.1.1.2 ki_0 ?_
        exact (zTt hc9 hJ10)
      · refine z_iconst M dt_X12_thousandths_0.2.2.2.2 ki_1 ?_
        refine z_goto (tgt := 30) M dt_X12_thousandths_1.1.1.1.1 (by decide) ?_
        exact (zTf hc9 hJ10)
    refine z_lcmp_ge (tgt := 21) M dt_X12_thousandths_0.2.1.1.2 dt_X12_thousandths_0.2.1.2.1 (by decide) (fun hc7 => ?_) (fun hc7 => ?_)
    · refine z_iconst M dt_X12_thousandths_0.2.2.1.2 ki_0 ?_
      exact (zTt hc7 hJ8)
    · refine z_iconst M dt_X12_thousandths_0.2.1.2.2 ki_1 ?_
      refine z_goto (tgt := 22) M dt_X12_thousandths_0.2.2.1.1 (by decide) ?_
      exact (zTf hc7 hJ8)
  refine z_lcmp_ge (tgt := 10) M dt_X12_thousandths_0.1.1.2.1 dt_X12_thousandths_0.1.1.2.2 (by decide) (fun hc5 => ?_) (fun hc5 => ?_)
  · refine z_iconst M dt_X12_thousandths_0.1.2.2.1 ki_0 ?_
    exact (zTt hc5 hJ6)
  · refine z_iconst M dt_X12_thousandths_0.1.2.1.1 ki_1 ?_
    refine z_goto (tgt := 11) M dt_X12_thousandths_0.1.2.1.2 (by decide) ?_
    exact (zTf hc5 hJ6)
theorem k_X12_thousandths {n : Nat} (M : zM l D zcl0 tys A ad (zR n) wf own cc nL rt σo ov G) {p0 : Int64} {p1 : Int64} {o : Int64} (h : f_X12_thousandths p0 p1 = some o) {index : Nat} (hl : Cond.methodLink own index yX12_thousandths ∈ uw) (hR : 2 ≤ n) (hW : (st.map fun v => v.category).sum ≤ 8) (d : decode cc pc = .ok (.invokestatic index, 3)) (kk : G σ lv (pc + 3) (.long o :: st)) : G σ lv pc (.long p1 :: .long p0 :: st) := z_callS M [.long p0, .long p1] (m_X12_thousandths (zM_hD M) h) hl u99 u1780 u1779 hd_X12_thousandths hR (by decide) rfl hW d kk
end ZWK
