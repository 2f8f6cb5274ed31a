section ZWK
variable {l : Launch} {D : va_G} {A : Nat → Prop} {ad : (Nat → Nat) × (Nat → Nat)} {a : Nat → Nat} {cy : ClassId × (ClassId × (ClassId × ClassId))} {own : String} {cc : ByteArray} {nL : Nat} {rt : Option FieldType} {σo : Zst} {ov : Option Value} {G : Zst → List (Nat × Value) → Nat → List Value → Prop}
variable {σ σ0 : Zst} {lv : List (Nat × Value)} {pc : Nat} {st : List Value} {zcl0 : List vw_C} {tys : List (ClassId × FieldType)} {wf : Zst → va_W}
set_option maxHeartbeats 4000000 in
set_option maxRecDepth 100000 in
theorem m_X2_here (hD : ∀ σ, va_D A (cW a cy σ)) {σ0 : Zst}  {o : Int32} (h : f_X2_here σ0 = some o) : zT l D zcl (zty cy) A ad (cW a cy) yX2_here cX2_here 1 (some .int) 2 [.ref (a 13)] σ0 σ0 (some (.int o)) := by
  refine z_met pn_X2 hD (Nat.le_of_ble_eq_true rfl) rfl (fun G M => ?_)
  refine z_aload_n M dt_X2_here_0.1.1.1 rfl 0 rfl ?_
  refine z_aload_n M dt_X2_here_0.1.1.2 rfl 0 rfl ?_
  refine gf_X2_which (σ := σ0) M u186 dt_X2_here_0.1.2.1 (v := (σ0.1 3)) rfl ?_
  refine z_aload_n M dt_X2_here_0.1.2.2 rfl 0 rfl ?_
  refine gf_X2_at (σ := σ0) M u191 dt_X2_here_0.2.1.1 (v := (σ0.1 8)) rfl ?_
  obtain ⟨t1, hc, h⟩ := gBd h
  refine ku_Laws_signAt_X1_signAt_L M hc u816 (Nat.le_of_ble_eq_true rfl) (Nat.le_of_ble_eq_true rfl) dt_X2_here_0.2.1.2 ?_
  obtain rfl := Option.some.inj h
  exact z_iret M dt_X2_here_0.2.2
theorem k_X2_here {n : Nat} (M : zM l D zcl (zty cy) A ad (zR n) (cW a cy) own cc nL rt σo ov G)  {o : Int32} (h : f_X2_here σ = some o) {index : Nat} (hl : Cond.methodLink own index yX2_here ∈ uw) (hR : 3 ≤ n) (hW : (st.map fun v => v.category).sum ≤ 8) (d : decode cc pc = .ok (.invokevirtual index, 3)) (kk : G σ lv (pc + 3) (.int o :: st)) : G σ lv pc (.ref (a 13) :: st) := z_callV M [] (m_X2_here (zM_hD M) h) (hC13 σ) rfl hl u92 u815 u814 u10 hd_X2_here hR (by decide) rfl hW d kk
abbrev zHF_X2rec (l : Launch) (D : va_G) (A : Nat → Prop) (ad : (Nat → Nat) × (Nat → Nat)) (a : Nat → Nat) (cy : ClassId × (ClassId × (ClassId × ClassId))) (n : Nat) (F : Nat → Zst → Int32 → Option (Zst × Int32)) : Prop :=
  (∀ (σ : Zst) (x : Int32) (o : Zst × Int32), F 0 σ x = some o → zT l D zcl (zty cy) A ad (cW a cy) yX2_either cX2_either 4 (some .int) n [.ref (a 13), .int x] σ o.1 (some (.int o.2))) ∧
  (∀ (σ : Zst) (x : Int32) (o : Zst × Int32), F 1 σ x = some o → zT l D zcl (zty cy) A ad (cW a cy) yX2_both cX2_both 4 (some .int) n [.ref (a 13), .int x] σ o.1 (some (.int o.2))) ∧
  (∀ (σ : Zst) (x : Int32) (o : Zst × Int32), F 2 σ x = some o → zT l D zcl (zty cy) A ad (cW a cy) yX2_comparison cX2_comparison 6 (some .int) n [.ref (a 13), .int x] σ o.1 (some (.int o.2))) ∧
  (∀ (σ : Zst) (x : Int32) (o : Zst × Int32), F 3 σ x = some o → zT l D zcl (zty cy) A ad (cW a cy) yX2_added cX2_added 5 (some .int) n [.ref (a 13), .int x] σ o.1 (some (.int o.2))) ∧
  (∀ (σ : Zst) (x : Int32) (o : Zst × Int32), F 4 σ x = some o → zT l D zcl (zty cy) A ad (cW a cy) yX2_multiplied cX2_multiplied 5 (some .int) n [.ref (a 13), .int x] σ o.1 (some (.int o.2))) ∧
  (∀ (σ : Zst) (x : Int32) (o : Zst × Int32), F 5 σ x = some o → zT l D zcl (zty cy) A ad (cW a cy) yX2_thing cX2_thing 6 (some .int) n [.ref (a 13), .int x] σ o.1 (some (.int o.2))) ∧
  (∀ (σ : Zst) (x : Int32) (o : Zst × Int32), F 6 σ x = some o → zT l D zcl (zty cy) A ad (cW a cy) yX2_bareThing cX2_bareThing 4 (some .int) n [.ref (a 13), .int x] σ o.1 (some (.int o.2)))
theorem kr_X2_either {n0 n : Nat} (M : zM l D zcl (zty cy) A ad (zR n) (cW a cy) own cc nL rt σo ov G) {p0 : Int32} {o : Zst × Int32} (hT : zT l D zcl (zty cy) A ad (cW a cy) yX2_either cX2_either 4 (some .int) n0 [.ref (a 13), .int p0] σ o.1 (some (.int o.2))) {index : Nat} (hl : Cond.methodLink own index yX2_either ∈ uw) (hR : n0 + 1 ≤ n) (hW : (st.map fun v => v.category).sum ≤ 8) (d : decode cc pc = .ok (.invokevirtual index, 3)) (kk : G o.1 lv (pc + 3) (.int o.2 :: st)) : G σ lv pc (.int p0 :: .ref (a 13) :: st) := z_callV M [.int p0] hT (hC13 σ) rfl hl u92 u791 u790 u4 hd_X2_either hR (by decide) rfl hW d kk
theorem kr_X2_both {n0 n : Nat} (M : zM l D zcl (zty cy) A ad (zR n) (cW a cy) own cc nL rt σo ov G) {p0 : Int32} {o : Zst × Int32} (hT : zT l D zcl (zty cy) A ad (cW a cy) yX2_both cX2_both 4 (some .int) n0 [.ref (a 13), .int p0] σ o.1 (some (.int o.2))) {index : Nat} (hl : Cond.methodLink own index yX2_both ∈ uw) (hR : n0 + 1 ≤ n) (hW : (st.map fun v => v.category).sum ≤ 8) (d : decode cc pc = .ok (.invokevirtual index, 3)) (kk : G o.1 lv (pc + 3) (.int o.2 :: st)) : G σ lv pc (.int p0 :: .ref (a 13) :: st) := z_callV M [.int p0] hT (hC13 σ) rfl hl u92 u795 u794 u5 hd_X2_both hR (by decide) rfl hW d kk
theorem kr_X2_comparison {n0 n : Nat} (M : zM l D zcl (zty cy) A ad (zR n) (cW a cy) own cc nL rt σo ov G) {p0 : Int32} {o : Zst × Int32} (hT : zT l D zcl (zty cy) A ad (cW a cy) yX2_comparison cX2_comparison 6 (some .int) n0 [.ref (a 13), .int p0] σ o.1 (some (.int o.2))) {index : Nat} (hl : Cond.methodLink own index yX2_comparison ∈ uw) (hR : n0 + 1 ≤ n) (hW : (st.map fun v => v.category).sum ≤ 8) (d : decode cc pc = .ok (.invokevirtual index, 3)) (kk : G o.1 lv (pc + 3) (.int o.2 :: st)) : G σ lv pc (.int p0 :: .ref (a 13) :: st) := z_callV M [.int p0] hT (hC13 σ) rfl hl u92 u799 u798 u6 hd_X2_comparison hR (by decide) rfl hW d kk
theorem kr_X2_added {n0 n : Nat} (M : zM l D zcl (zty cy) A ad (zR n) (cW a cy) own cc nL rt σo ov G) {p0 : Int32} {o : Zst × Int32} (hT : zT l D zcl (zty cy) A ad (cW a cy) yX2_added cX2_added 5 (some .int) n0 [.ref (a 13), .int p0] σ o.1 (some (.int o.2))) {index : Nat} (hl : Cond.methodLink own index yX2_added ∈ uw) (hR : n0 + 1 ≤ n) (hW : (st.map fun v => v.category).sum ≤ 8) (d : decode cc pc = .ok (.invokevirtual index, 3)) (kk : G o.1 lv (pc + 3) (.int o.2 :: st)) : G σ lv pc (.int p0 :: .ref (a 13) :: st) := z_callV M [.int p0] hT (hC13 σ) rfl hl u92 u803 u802 u7 hd_X2_added hR (by decide) rfl hW d kk
theorem kr_X2_multiplied {n0 n : Nat} (M : zM l D zcl (zty cy) A ad (zR n) (cW a cy) own cc nL rt σo ov G) {p0 : Int32} {o : Zst × Int32} (hT : zT l D zcl (zty cy) A ad (cW a cy) yX2_multiplied cX2_multiplied 5 (some .int) n0 [.ref (a 13), .int p0] σ o.1 (some (.int o.2))) {index : Nat} (hl : Cond.methodLink own index yX2_multiplied ∈ uw) (hR : n0 + 1 ≤ n) (hW : (st.map fun v => v.category).sum ≤ 8) (d : decode cc pc = .ok (.invokevirtual index, 3)) (kk : G o.1 lv (pc + 3) (.int o.2 :: st)) : G σ lv pc (.int p0 :: .ref (a 13) :: st) := z_callV M [.int p0] hT (hC13 σ) rfl hl u92 u807 u806 u8 hd_X2_multiplied hR (by decide) rfl hW d kk
theorem kr_X2_thing {n0 n : Nat} (M : zM l D zcl (zty cy) A ad (zR n) (cW a cy) own cc nL rt σo ov G) {p0 : Int32} {o : Zst × Int32} (hT : zT l D zcl (zty cy) A ad (cW a cy) yX2_thing cX2_thing 6 (some .int) n0 [.ref (a 13), .int p0] σ o.1 (some (.int o.2))) {index : Nat} (hl : Cond.methodLink own index yX2_thing ∈ uw) (hR : n0 + 1 ≤ n) (hW : (st.map fun v => v.category).sum ≤ 8) (d : decode cc pc = .ok (.invokevirtual index, 3)) (kk : G o.1 lv (pc + 3) (.int o.2 :: st)) : G σ lv pc (.int p0 :: .ref (a 13) :: st) := z_callV M [.int p0] hT (hC13 σ) rfl hl u92 u811 u810 u9 hd_X2_thing hR (by decide) rfl hW d kk
theorem kr_X2_bareThing {n0 n : Nat} (M : zM l D zcl (zty cy) A ad (zR n) (cW a cy) own cc nL rt σo ov G) {p0 : Int32} {o : Zst × Int32} (hT : zT l D zcl (zty cy) A ad (cW a cy) yX2_bareThing cX2_bareThing 4 (some .int) n0 [.ref (a 13), .int p0] σ o.1 (some (.int o.2))) {index : Nat} (hl : Cond.methodLink own index yX2_bareThing ∈ uw) (hR : n0 + 1 ≤ n) (hW : (st.map fun v => v.category).sum ≤ 8) (d : decode cc pc = .ok (.invokevirtual index, 3)) (kk : G o.1 lv (pc + 3) (.int o.2 :: st)) : G σ lv pc (.int p0 :: .ref (a 13) :: st) := z_callV M [.int p0] hT (hC13 σ) rfl hl u92 u825 u824 u11 hd_X2_bareThing hR (by decide) rfl hW d kk
set_option maxHeartbeats 4000000 in
set_option maxRecDepth 100000 in
theorem wL_X2_either_6 {n : Nat} (hn : 2 ≤ n) {F : Nat → Zst → Int32 → Option (Zst × Int32)} (HF : zHF_X2rec l D A ad a cy n F) {o : (Zst × Int32)} (M : zM l D zcl (zty cy) A ad (zR (n + 1)) (cW a cy) RX2 cX2_either 4 (some .int) o.1 (some (.int o.2)) G)  (v1 : Int32)  :
    ∀ (n6 : Nat) (σ : Zst) (v2 : Int32), L_X2_either_6 F v1 n6 σ v2 = some o → G σ [(0, .ref (a 13)), (1, .int v1), (2, .int v2)] 6 [] := by
  intro n6
  induction n6 with
  | zero => intro σ v2 h; exact nomatch (show (none : Option (Zst × Int32)) = some _ from h)
  | succ n6 ih =>
    intro σ v2 h
    refine z_aload_n M dt_X2_either_0.1.2.1.1 rfl 0 rfl ?_
    refine gf_X2_at (σ := σ) M u191 dt_X2_either_0.1.2.1.2 (v := (σ.1 8)) rfl ?_
    refine z_aload_n M dt_X2_either_0.1.2.2.1 rfl 0 rfl ?_
    refine gf_X2_till (σ := σ) M u192 dt_X2_either_0.1.2.2.2 (v := (σ.1 9)) rfl ?_
    refine z_icmp_ge (tgt := 59) M dt_X2_either_0.2.1.1.1 (by decide) (fun hc => ?_) (fun hc => ?_)
    · have h := gIt hc h
      refine z_iload_n M dt_X2_either_2.1 rfl 2 rfl ?_
      obtain rfl := Option.some.inj h
      exact z_iret M dt_X2_either_2.2
    · have h := gIf hc h
      refine z_aload_n M dt_X2_either_0.2.1.1.2 rfl 0 rfl ?_
      obtain ⟨t1, hc, h⟩ := gBd h
      refine k_X2_here M hc u812 (by omega) (Nat.le_of_ble_eq_true rfl) dt_X2_either_0.2.1.2.1 ?_
      refine z_bipush M dt_X2_either_0.2.1.2.2 kb_124 ?_
      refine z_icmp_ne (tgt := 59) M dt_X2_either_0.2.2.1.1 (by decide) (fun hc => ?_) (fun hc => ?_)
      · have h := gIf hc h
        refine z_iload_n M dt_X2_either_2.1 rfl 2 rfl ?_
        obtain rfl := Option.some.inj h
        exact z_iret M dt_X2_either_2.2
      · have h := gIt hc h
        refine z_aload_n M dt_X2_either_0.2.2.1.2 rfl 0 rfl ?_
        refine z_dup M dt_X2_either_0.2.2.2.1 rfl ?_
        refine gf_X2_at (σ := σ) M u191 dt_X2_either_0.2.2.2.2 (v := (σ.1 8)) rfl ?_
        refine z_iconst M dt_X2_either_1.1.1.1.1 ki_1 ?_
        refine z_iadd M dt_X2_either_1.1.1.1.2 ?_
        refine pf_X2_at M u191 dt_X2_either_1.1.1.2.1 ?_
        refine z_aload_n M dt_X2_either_1.1.1.2.2 rfl 0 rfl ?_
        refine z_iload_n M dt_X2_either_1.1.2.1.1 rfl 1 rfl ?_
        obtain ⟨t2, hc, h⟩ := gBd h
        refine kr_X2_both M (HF.2.1 _ _ _ hc) u792 (Nat.le_refl _) (Nat.le_of_ble_eq_true rfl) dt_X2_either_1.1.2.1.2 ?_
        refine z_istore_n (lv' := [(3, .int t2.2), (0, .ref (a 13)), (1, .int v1), (2, .int v2)]) M dt_X2_either_1.1.2.2.1 rfl (by decide) rfl ?_
        refine z_iload_n M dt_X2_either_1.1.2.2.2 rfl 3 rfl ?_
        have hJ5 : G t2.1 [(3, .int t2.2), (0, .ref (a 13)), (1, .int v1), (2, .int v2)] 55 [.int (if v2 = (0 : Int32) then (if t2.2 = (0 : Int32) then (0 : Int32) else (1 : Int32)) else (1 : Int32))] := by
          refine z_istore_n (lv' := [(2, .int (if v2 = (0 : Int32) then (if t2.2 = (0 : Int32) then (0 : Int32) else (1 : Int32)) else (1 : Int32))), (3, .int t2.2), (0, .ref (a 13)), (1, .int v1)]) M dt_X2_either_1.2.2.2.1 rfl (by decide) rfl ?_
          refine z_goto (tgt := 6) M dt_X2_either_1.2.2.2.2 (by decide) ?_
          refine z_sub M [2, 3, 0] (lv' := [(0, .ref (a 13)), (1, .int v1), (2, .int (if v2 = (0 : Int32) then (if t2.2 = (0 : Int32) then (0 : Int32) else (1 : Int32)) else (1 : Int32)))]) rfl ?_
          exact ih t2.1 (if v2 = (0 : Int32) then (if t2.2 = (0 : Int32) then (0 : Int32) else (1 : Int32)) else (1 : Int32)) h
        refine z_if_ne (tgt := 50) M dt_X2_either_1.2.1.1.1 (by decide) (fun hc3 => ?_) (fun hc3 => ?_)
        · refine z_iconst M dt_X2_either_1.2.1.2.2 ki_1 ?_
          refine z_goto (tgt := 55) M dt_X2_either_1.2.2.1.1 (by decide) ?_
          exact (zTf hc3 hJ5)
        · refine z_iload_n M dt_X2_either_1.2.1.1.2 rfl 0 rfl ?_
          refine z_if_eq (tgt := 54) M dt_X2_either_1.2.1.2.1 (by decide) (fun hc4 => ?_) (fun hc4 => ?_)
          · refine z_iconst M dt_X2_either_1.2.2.1.2 ki_0 ?_
            exact (zTt hc4 (zTt hc3 hJ5))
          · refine z_iconst M dt_X2_either_1.2.1.2.2 ki_1 ?_
            refine z_goto (tgt := 55) M dt_X2_either_1.2.2.1.1 (by decide) ?_
            exact (zTf hc4 (zTt hc3 hJ5))
set_option maxHeartbeats 4000000 in
set_option maxRecDepth 100000 in
theorem m_X2_either {n : Nat} (hn : 2 ≤ n) {F : Nat → Zst → Int32 → Option (Zst × Int32)} (HF : zHF_X2rec l D A ad a cy n F) (hD : ∀ σ, va_D A (cW a cy σ)) {σ : Zst} {p0 : Int32} {o : (Zst × Int32)} (h : f_X2_either F σ p0 = some o) : zT l D zcl (zty cy) A ad (cW a cy) yX2_either cX2_either 4 (some .int) (n + 1) [.ref (a 13), .int p0] σ o.1 (some (.int o.2)) := by
  refine z_met pn_X2 hD (Nat.le_of_ble_eq_true rfl) rfl (fun G M => ?_)
  refine z_aload_n M dt_X2_either_0.1.1.1.1 rfl 0 rfl ?_
  refine z_iload_n M dt_X2_either_0.1.1.1.2 rfl 1 rfl ?_
  obtain ⟨t6, hc, h⟩ := gBd h
  refine kr_X2_both M (HF.2.1 _ _ _ hc) u792 (Nat.le_refl _) (Nat.le_of_ble_eq_true rfl) dt_X2_either_0.1.1.2.1 ?_
  refine z_istore_n (lv' := [(2, .int t6.2), (0, .ref (a 13)), (1, .int p0)]) M dt_X2_either_0.1.1.2.2 rfl (by decide) rfl ?_
  refine z_sub M [1, 2, 0] (lv' := [(0, .ref (a 13)), (1, .int p0), (2, .int t6.2)]) rfl ?_
  exact wL_X2_either_6 hn HF M  p0 zFu t6.1 t6.2 h
set_option maxHeartbeats 4000000 in
set_option maxRecDepth 100000 in
theorem wL_X2_both_6 {n : Nat} (hn : 2 ≤ n) {F : Nat → Zst → Int32 → Option (Zst × Int32)} (HF : zHF_X2rec l D A ad a cy n F) {o : (Zst × Int32)} (M : zM l D zcl (zty cy) A ad (zR (n + 1)) (cW a cy) RX2 cX2_both 4 (some .int) o.1 (some (.int o.2)) G)  (v1 : Int32)  :
    ∀ (n6 : Nat) (σ : Zst) (v2 : Int32), L_X2_both_6 F v1 n6 σ v2 = some o → G σ [(0, .ref (a 13)), (1, .int v1), (2, .int v2)] 6 [] := by
  intro n6
  induction n6 with
  | zero => intro σ v2 h; exact nomatch (show (none : Option (Zst × Int32)) = some _ from h)
  | succ n6 ih =>
    intro σ v2 h
    refine z_aload_n M dt_X2_both_0.1.2.1.1 rfl 0 rfl ?_
    refine gf_X2_at (σ := σ) M u191 dt_X2_both_0.1.2.1.2 (v := (σ.1 8)) rfl ?_
    refine z_aload_n M dt_X2_both_0.1.2.2.1 rfl 0 rfl ?_
    refine gf_X2_till (σ := σ) M u192 dt_X2_both_0.1.2.2.2 (v := (σ.1 9)) rfl ?_
    refine z_icmp_ge (tgt := 59) M dt_X2_both_0.2.1.1.1 (by decide) (fun hc => ?_) (fun hc => ?_)
    · have h := gIt hc h
      refine z_iload_n M dt_X2_both_2.1 rfl 2 rfl ?_
      obtain rfl := Option.some.inj h
      exact z_iret M dt_X2_both_2.2
    · have h := gIf hc h
      refine z_aload_n M dt_X2_both_0.2.1.1.2 rfl 0 rfl ?_
      obtain ⟨t1, hc, h⟩ := gBd h
      refine k_X2_here M hc u812 (by omega) (Nat.le_of_ble_eq_true rfl) dt_X2_both_0.2.1.2.1 ?_
      refine z_bipush M dt_X2_both_0.2.1.2.2 kb_38 ?_
      refine z_icmp_ne (tgt := 59) M dt_X2_both_0.2.2.1.1 (by decide) (fun hc => ?_) (fun hc => ?_)
      · have h := gIf hc h
        refine z_iload_n M dt_X2_both_2.1 rfl 2 rfl ?_
        obtain rfl := Option.some.inj h
        exact z_iret M dt_X2_both_2.2
      · have h := gIt hc h
        refine z_aload_n M dt_X2_both_0.2.2.1.2 rfl 0 rfl ?_
        refine z_dup M dt_X2_both_0.2.2.2.1 rfl ?_
        refine gf_X2_at (σ := σ) M u191 dt_X2_both_0.2.2.2.2 (v := (σ.1 8)) rfl ?_
        refine z_iconst M dt_X2_both_1.1.1.1.1 ki_1 ?_
        refine z_iadd M dt_X2_both_1.1.1.1.2 ?_
        refine pf_X2_at M u191 dt_X2_both_1.1.1.2.1 ?_
        refine z_aload_n M dt_X2_both_1.1.1.2.2 rfl 0 rfl ?_
        refine z_iload_n M dt_X2_both_1.1.2.1.1 rfl 1 rfl ?_
        obtain ⟨t2, hc, h⟩ := gBd h
        refine kr_X2_comparison M (HF.2.2.1 _ _ _ hc) u796 (Nat.le_refl _) (Nat.le_of_ble_eq_true rfl) dt_X2_both_1.1.2.1.2 ?_
        refine z_istore_n (lv' := [(3, .int t2.2), (0, .ref (a 13)), (1, .int v1), (2, .int v2)]) M dt_X2_both_1.1.2.2.1 rfl (by decide) rfl ?_
        refine z_iload_n M dt_X2_both_1.1.2.2.2 rfl 3 rfl ?_
        have hJ5 : G t2.1 [(3, .int t2.2), (0, .ref (a 13)), (1, .int v1), (2, .int v2)] 55 [.int (if v2 = (0 : Int32) then (0 : Int32) else (if t2.2 = (0 : Int32) then (0 : Int32) else (1 : Int32)))] := by
          refine z_istore_n (lv' := [(2, .int (if v2 = (0 : Int32) then (0 : Int32) else (if t2.2 = (0 : Int32) then (0 : Int32) else (1 : Int32)))), (3, .int t2.2), (0, .ref (a 13)), (1, .int v1)]) M dt_X2_both_1.2.2.2.1 rfl (by decide) rfl ?_
          refine z_goto (tgt := 6) M dt_X2_both_1.2.2.2.2 (by decide) ?_
          refine z_sub M [2, 3, 0] (lv' := [(0, .ref (a 13)), (1, .int v1), (2, .int (if v2 = (0 : Int32) then (0 : Int32) else (if t2.2 = (0 : Int32) then (0 : Int32) else (1 : Int32))))]) rfl ?_
          exact ih t2.1 (if v2 = (0 : Int32) then (0 : Int32) else (if t2.2 = (0 : Int32) then (0 : Int32) else (1 : Int32))) h
        refine z_if_eq (tgt := 54) M dt_X2_both_1.2.1.1.1 (by decide) (fun hc3 => ?_) (fun hc3 => ?_)
        · refine z_iconst M dt_X2_both_1.2.2.1.2 ki_0 ?_
          exact (zTt hc3 hJ5)
        · refine z_iload_n M dt_X2_both_1.2.1.1.2 rfl 0 rfl ?_
          refine z_if_eq (tgt := 54) M dt_X2_both_1.2.1.2.1 (by decide) (fun hc4 => ?_) (fun hc4 => ?_)
          · refine z_iconst M dt_X2_both_1.2.2.1.2 ki_0 ?_
            exact (zTt hc4 (zTf hc3 hJ5))
          · refine z_iconst M dt_X2_both_1.2.1.2.2 ki_1 ?_
            refine z_goto (tgt := 55) M dt_X2_both_1.2.2.1.1 (by decide) ?_
            exact (zTf hc4 (zTf hc3 hJ5))
set_option maxHeartbeats 4000000 in
set_option maxRecDepth 100000 in
theorem m_X2_both {n : Nat} (hn : 2 ≤ n) {F : Nat → Zst → Int32 → Option (Zst × Int32)} (HF : zHF_X2rec l D A ad a cy n F) (hD : ∀ σ, va_D A (cW a cy σ)) {σ : Zst} {p0 : Int32} {o : (Zst × Int32)} (h : f_X2_both F σ p0 = some o) : zT l D zcl (zty cy) A ad (cW a cy) yX2_both cX2_both 4 (some .int) (n + 1) [.ref (a 13), .int p0] σ o.1 (some (.int o.2)) := by
  refine z_met pn_X2 hD (Nat.le_of_ble_eq_true rfl) rfl (fun G M => ?_)
  refine z_aload_n M dt_X2_both_0.1.1.1.1 rfl 0 rfl ?_
  refine z_iload_n M dt_X2_both_0.1.1.1.2 rfl 1 rfl ?_
  obtain ⟨t6, hc, h⟩ := gBd h
  refine kr_X2_comparison M (HF.2.2.1 _ _ _ hc) u796 (Nat.le_refl _) (Nat.le_of_ble_eq_true rfl) dt_X2_both_0.1.1.2.1 ?_
  refine z_istore_n (lv' := [(2, .int t6.2), (0, .ref (a 13)), (1, .int p0)]) M dt_X2_both_0.1.1.2.2 rfl (by decide) rfl ?_
  refine z_sub M [1, 2, 0] (lv' := [(0, .ref (a 13)), (1, .int p0), (2, .int t6.2)]) rfl ?_
  exact wL_X2_both_6 hn HF M  p0 zFu t6.1 t6.2 h
set_option maxHeartbeats 4000000 in
set_option maxRecDepth 100000 in
theorem m_X2_comparison {n : Nat} (hn : 2 ≤ n) {F : Nat → Zst → Int32 → Option (Zst × Int32)} (HF : zHF_X2rec l D A ad a cy n F) (hD : ∀ σ, va_D A (cW a cy σ)) {σ : Zst} {p0 : Int32} {o : (Zst × Int32)} (h : f_X2_comparison F σ p0 = some o) : zT l D zcl (zty cy) A ad (cW a cy) yX2_comparison cX2_comparison 6 (some .int) (n + 1) [.ref (a 13), .int p0] σ o.1 (some (.int o.2)) := by
  refine z_met pn_X2 hD (Nat.le_of_ble_eq_true rfl) rfl (fun G M => ?_)
  refine z_aload_n M dt_X2_comparison_0.1.1.1.1 rfl 0 rfl ?_
  refine z_iload_n M dt_X2_comparison_0.1.1.1.2 rfl 1 rfl ?_
  obtain ⟨t1, hc, h⟩ := gBd h
  refine kr_X2_added M (HF.2.2.2.1 _ _ _ hc) u800 (Nat.le_refl _) (Nat.le_of_ble_eq_true rfl) dt_X2_comparison_0.1.1.2.1 ?_
  refine z_istore_n (lv' := [(2, .int t1.2), (0, .ref (a 13)), (1, .int p0)]) M dt_X2_comparison_0.1.1.2.2 rfl (by decide) rfl ?_
  refine z_aload_n M dt_X2_comparison_0.1.2.1.1 rfl 1 rfl ?_
  obtain ⟨t2, hc, h⟩ := gBd h
  refine k_X2_here M hc u812 (by omega) (Nat.le_of_ble_eq_true rfl) dt_X2_comparison_0.1.2.1.2 ?_
  refine z_istore_n (lv' := [(3, .int t2), (2, .int t1.2), (0, .ref (a 13)), (1, .int p0)]) M dt_X2_comparison_0.1.2.2.1 rfl (by decide) rfl ?_
  refine z_iload_n M dt_X2_comparison_0.1.2.2.2 rfl 0 rfl ?_
  refine k_X2_isComparison M u635 (by omega) (Nat.le_of_ble_eq_true rfl) dt_X2_comparison_0.2.1.1.1 ?_
  refine z_if_ne (tgt := 20) M dt_X2_comparison_0.2.1.1.2 (by decide) (fun hc => ?_) (fun hc => ?_)
  · have h := gIf hc h
    refine z_aload_n M dt_X2_comparison_0.2.2.1.1 rfl 2 rfl ?_
    refine z_dup M dt_X2_comparison_0.2.2.1.2 rfl ?_
    refine gf_X2_at (σ := t1.1) M u191 dt_X2_comparison_0.2.2.2.1 (v := (t1.1.1 8)) rfl ?_
    refine z_iconst M dt_X2_comparison_0.2.2.2.2 ki_1 ?_
    refine z_iadd M dt_X2_comparison_1.1.1.1.1 ?_
    refine pf_X2_at M u191 dt_X2_comparison_1.1.1.1.2 ?_
    refine z_aload_n M dt_X2_comparison_1.1.1.2.1 rfl 2 rfl ?_
    refine z_iload_n M dt_X2_comparison_1.1.1.2.2 rfl 3 rfl ?_
    obtain ⟨t3, hc, h⟩ := gBd h
    refine kr_X2_added M (HF.2.2.2.1 _ _ _ hc) u800 (Nat.le_refl _) (Nat.le_of_ble_eq_true rfl) dt_X2_comparison_1.1.2.1.1 ?_
    refine z_istore (lv' := [(4, .int t3.2), (3, .int t2), (2, .int t1.2), (0, .ref (a 13)), (1, .int p0)]) M dt_X2_comparison_1.1.2.1.2 (by decide) rfl ?_
    refine z_iload_n M dt_X2_comparison_1.1.2.2.1 rfl 1 rfl ?_
    refine z_bipush M dt_X2_comparison_1.1.2.2.2 kb_60 ?_
    have hJ9 : G t3.1 [(4, .int t3.2), (3, .int t2), (2, .int t1.2), (0, .ref (a 13)), (1, .int p0)] 88 [.int (if t2 = (60 : Int32) then (if t3.2 ≤ t1.2 then (0 : Int32) else (1 : Int32)) else (if t2 = (62 : Int32) then (if t1.2 ≤ t3.2 then (0 : Int32) else (1 : Int32)) else (if t1.2 = t3.2 then (1 : Int32) else (0 : Int32))))] := by
      refine z_istore (lv' := [(5, .int (if t2 = (60 : Int32) then (if t3.2 ≤ t1.2 then (0 : Int32) else (1 : Int32)) else (if t2 = (62 : Int32) then (if t1.2 ≤ t3.2 then (0 : Int32) else (1 : Int32)) else (if t1.2 = t3.2 then (1 : Int32) else (0 : Int32))))), (4, .int t3.2), (3, .int t2), (2, .int t1.2), (0, .ref (a 13)), (1, .int p0)]) M dt_X2_comparison_3.1.1.1 (by decide) rfl ?_
      refine z_iload M dt_X2_comparison_3.1.1.2 0 rfl ?_
      have hJ11 : G t3.1 [(5, .int (if t2 = (60 : Int32) then (if t3.2 ≤ t1.2 then (0 : Int32) else (1 : Int32)) else (if t2 = (62 : Int32) then (if t1.2 ≤ t3.2 then (0 : Int32) else (1 : Int32)) else (if t1.2 = t3.2 then (1 : Int32) else (0 : Int32))))), (4, .int t3.2), (3, .int t2), (2, .int t1.2), (0, .ref (a 13)), (1, .int p0)] 100 [.int (if (if t2 = (60 : Int32) then (if t3.2 ≤ t1.2 then (0 : Int32) else (1 : Int32)) else (if t2 = (62 : Int32) then (if t1.2 ≤ t3.2 then (0 : Int32) else (1 : Int32)) else (if t1.2 = t3.2 then (1 : Int32) else (0 : Int32)))) = (0 : Int32) then (0 : Int32) else (1 : Int32))] := by
        obtain rfl := Option.some.inj h
        exact z_iret M dt_X2_comparison_3.2.2
      refine z_if_eq (tgt := 99) M dt_X2_comparison_3.1.2.1 (by decide) (fun hc10 => ?_) (fun hc10 => ?_)
      · refine z_iconst M dt_X2_comparison_3.2.1.2 ki_0 ?_
        exact (zTt hc10 hJ11)
      · refine z_iconst M dt_X2_comparison_3.1.2.2 ki_1 ?_
        refine z_goto (tgt := 100) M dt_X2_comparison_3.2.1.1 (by decide) ?_
        exact (zTf hc10 hJ11)
    refine z_icmp_ne (tgt := 57) M dt_X2_comparison_1.2.1.1.1 (by decide) (fun hc4 => ?_) (fun hc4 => ?_)
    · refine z_iload_n M dt_X2_comparison_2.1.1.1.1 rfl 1 rfl ?_
      refine z_bipush M dt_X2_comparison_2.1.1.1.2 kb_62 ?_
      refine z_icmp_ne (tgt := 77) M dt_X2_comparison_2.1.1.2.1 (by decide) (fun hc6 => ?_) (fun hc6 => ?_)
      · refine z_iload_n M dt_X2_comparison_2.2.1.2.1 rfl 2 rfl ?_
        refine z_iload M dt_X2_comparison_2.2.1.2.2 0 rfl ?_
        refine z_icmp_ne (tgt := 87) M dt_X2_comparison_2.2.2.1.1 (by decide) (fun hc8 => ?_) (fun hc8 => ?_)
        · refine z_iconst M dt_X2_comparison_2.2.2.2.2 ki_0 ?_
          exact (zTf hc8 (zTf hc6 (zTf hc4 hJ9)))
        · refine z_iconst M dt_X2_comparison_2.2.2.1.2 ki_1 ?_
          refine z_goto (tgt := 88) M dt_X2_comparison_2.2.2.2.1 (by decide) ?_
          exact (zTt hc8 (zTf hc6 (zTf hc4 hJ9)))
      · refine z_iload_n M dt_X2_comparison_2.1.1.2.2 rfl 2 rfl ?_
        refine z_iload M dt_X2_comparison_2.1.2.1.1 0 rfl ?_
        refine z_icmp_le (tgt := 73) M dt_X2_comparison_2.1.2.1.2 (by decide) (fun hc7 => ?_) (fun hc7 => ?_)
        · refine z_iconst M dt_X2_comparison_2.2.1.1.1 ki_0 ?_
          refine z_goto (tgt := 88) M dt_X2_comparison_2.2.1.1.2 (by decide) ?_
          exact (zTt hc7 (zTt hc6 (zTf hc4 hJ9)))
        · refine z_iconst M dt_X2_comparison_2.1.2.2.1 ki_1 ?_
          refine z_goto (tgt := 88) M dt_X2_comparison_2.1.2.2.2 (by decide) ?_
          exact (zTf hc7 (zTt hc6 (zTf hc4 hJ9)))
    · refine z_iload_n M dt_X2_comparison_1.2.1.1.2 rfl 2 rfl ?_
      refine z_iload M dt_X2_comparison_1.2.1.2.1 0 rfl ?_
      refine z_icmp_ge (tgt := 53) M dt_X2_comparison_1.2.1.2.2 (by decide) (fun hc5 => ?_) (fun hc5 => ?_)
      · refine z_iconst M dt_X2_comparison_1.2.2.2.1 ki_0 ?_
        refine z_goto (tgt := 88) M dt_X2_comparison_1.2.2.2.2 (by decide) ?_
        exact (zTt hc5 (zTt hc4 hJ9))
      · refine z_iconst M dt_X2_comparison_1.2.2.1.1 ki_1 ?_
        refine z_goto (tgt := 88) M dt_X2_comparison_1.2.2.1.2 (by decide) ?_
        exact (zTf hc5 (zTt hc4 hJ9))
  · have h := gIt hc h
    refine z_iload_n M dt_X2_comparison_0.2.1.2.1 rfl 1 rfl ?_
    obtain rfl := Option.some.inj h
    exact z_iret M dt_X2_comparison_0.2.1.2.2
set_option maxHeartbeats 4000000 in
set_option maxRecDepth 100000 in
theorem wJ_X2_added_35 {n : Nat} (hn : 2 ≤ n) {F : Nat → Zst → Int32 → Option (Zst × Int32)} (HF : zHF_X2rec l D A ad a cy n F) {o : (Zst × Int32)} (M : zM l D zcl (zty cy) A ad (zR (n + 1)) (cW a cy) RX2 cX2_added 5 (some .int) o.1 (some (.int o.2)) G) {k6 : Zst → Int32 → Option (Zst × Int32)} (σ : Zst) (v1 : Int32) (v2 : Int32) (Hk6 : ∀ (σ : Zst) (w2 : Int32), k6 σ w2 = some o → G σ [(0, .ref (a 13)), (1, .int v1), (2, .int w2)] 6 []) (h : J_X2_added_35 F k6 σ v1 v2 = some o) : G σ [(0, .ref (a 13)), (1, .int v1), (2, .int v2)] 35 [] := by
  refine z_aload_n M dt_X2_added_1.1.1.1.2 rfl 0 rfl ?_
  obtain ⟨t1, hc, h⟩ := gBd h
  refine k_X2_here M hc u812 (by omega) (Nat.le_of_ble_eq_true rfl) dt_X2_added_1.1.1.2.1 ?_
  refine z_bipush M dt_X2_added_1.1.1.2.2 kb_43 ?_
  have hJ3 : G σ [(0, .ref (a 13)), (1, .int v1), (2, .int v2)] 49 [.int (if t1 = (43 : Int32) then (1 : Int32) else (0 : Int32))] := by
    refine z_istore_n (lv' := [(3, .int (if t1 = (43 : Int32) then (1 : Int32) else (0 : Int32))), (0, .ref (a 13)), (1, .int v1), (2, .int v2)]) M dt_X2_added_1.2.1.1.1 rfl (by decide) rfl ?_
    refine z_aload_n M dt_X2_added_1.2.1.1.2 rfl 1 rfl ?_
    refine z_dup M dt_X2_added_1.2.1.2.1 rfl ?_
    refine gf_X2_at (σ := σ) M u191 dt_X2_added_1.2.1.2.2 (v := (σ.1 8)) rfl ?_
    refine z_iconst M dt_X2_added_1.2.2.1.1 ki_1 ?_
    refine z_iadd M dt_X2_added_1.2.2.1.2 ?_
    refine pf_X2_at M u191 dt_X2_added_1.2.2.2.1 ?_
    refine z_aload_n M dt_X2_added_1.2.2.2.2 rfl 1 rfl ?_
    refine z_iload_n M dt_X2_added_2.1.1.1.1 rfl 2 rfl ?_
    obtain ⟨t4, hc, h⟩ := gBd h
    refine kr_X2_multiplied M (HF.2.2.2.2.1 _ _ _ hc) u804 (Nat.le_refl _) (Nat.le_of_ble_eq_true rfl) dt_X2_added_2.1.1.1.2 ?_
    refine z_istore (lv' := [(4, .int t4.2), (3, .int (if t1 = (43 : Int32) then (1 : Int32) else (0 : Int32))), (0, .ref (a 13)), (1, .int v1), (2, .int v2)]) M dt_X2_added_2.1.1.2.1 (by decide) rfl ?_
    refine z_iload_n M dt_X2_added_2.1.1.2.2 rfl 1 rfl ?_
    have hJ6 : G t4.1 [(4, .int t4.2), (3, .int (if t1 = (43 : Int32) then (1 : Int32) else (0 : Int32))), (0, .ref (a 13)), (1, .int v1), (2, .int v2)] 82 [.int (if (if t1 = (43 : Int32) then (1 : Int32) else (0 : Int32)) = (0 : Int32) then (v2 - t4.2) else (v2 + t4.2))] := by
      refine z_istore_n (lv' := [(2, .int (if (if t1 = (43 : Int32) then (1 : Int32) else (0 : Int32)) = (0 : Int32) then (v2 - t4.2) else (v2 + t4.2))), (4, .int t4.2), (3, .int (if t1 = (43 : Int32) then (1 : Int32) else (0 : Int32))), (0, .ref (a 13)), (1, .int v1)]) M dt_X2_added_2.2.2.1.1 rfl (by decide) rfl ?_
      refine z_goto (tgt := 6) M dt_X2_added_2.2.2.1.2 (by decide) ?_
      refine z_sub M [3, 4, 0] (lv' := [(0, .ref (a 13)), (1, .int v1), (2, .int (if (if t1 = (43 : Int32) then (1 : Int32) else (0 : Int32)) = (0 : Int32) then (v2 - t4.2) else (v2 + t4.2)))]) rfl ?_
      exact Hk6 t4.1 (if (if t1 = (43 : Int32) then (1 : Int32) else (0 : Int32)) = (0 : Int32) then (v2 - t4.2) else (v2 + t4.2)) h
    refine z_if_eq (tgt := 78) M dt_X2_added_2.1.2.1.1 (by decide) (fun hc5 => ?_) (fun hc5 => ?_)
    · refine z_iload_n M dt_X2_added_2.2.1.1.2 rfl 4 rfl ?_
      refine z_iload M dt_X2_added_2.2.1.2.1 0 rfl ?_
      refine z_isub M dt_X2_added_2.2.1.2.2 ?_
      exact (zTt hc5 hJ6)
    · refine z_iload_n M dt_X2_added_2.1.2.1.2 rfl 4 rfl ?_
      refine z_iload M dt_X2_added_2.1.2.2.1 0 rfl ?_
      refine z_iadd M dt_X2_added_2.1.2.2.2 ?_
      refine z_goto (tgt := 82) M dt_X2_added_2.2.1.1.1 (by decide) ?_
      exact (zTf hc5 hJ6)
  refine z_icmp_ne (tgt := 48) M dt_X2_added_1.1.2.1.1 (by decide) (fun hc2 => ?_) (fun hc2 => ?_)
  · refine z_iconst M dt_X2_added_1.1.2.2.2 ki_0 ?_
    exact (zTf hc2 hJ3)
  · refine z_iconst M dt_X2_added_1.1.2.1.2 ki_1 ?_
    refine z_goto (tgt := 49) M dt_X2_added_1.1.2.2.1 (by decide) ?_
    exact (zTt hc2 hJ3)
set_option maxHeartbeats 4000000 in
set_option maxRecDepth 100000 in
theorem wL_X2_added_6 {n : Nat} (hn : 2 ≤ n) {F : Nat → Zst → Int32 → Option (Zst × Int32)} (HF : zHF_X2rec l D A ad a cy n F) {o : (Zst × Int32)} (M : zM l D zcl (zty cy) A ad (zR (n + 1)) (cW a cy) RX2 cX2_added 5 (some .int) o.1 (some (.int o.2)) G)  (v1 : Int32)  :
    ∀ (n6 : Nat) (σ : Zst) (v2 : Int32), L_X2_added_6 F v1 n6 σ v2 = some o → G σ [(0, .ref (a 13)), (1, .int v1), (2, .int v2)] 6 [] := by
  intro n6
  induction n6 with
  | zero => intro σ v2 h; exact nomatch (show (none : Option (Zst × Int32)) = some _ from h)
  | succ n6 ih =>
    intro σ v2 h
    refine z_aload_n M dt_X2_added_0.1.2.1.1 rfl 0 rfl ?_
    refine gf_X2_at (σ := σ) M u191 dt_X2_added_0.1.2.1.2 (v := (σ.1 8)) rfl ?_
    refine z_aload_n M dt_X2_added_0.1.2.2.1 rfl 0 rfl ?_
    refine gf_X2_till (σ := σ) M u192 dt_X2_added_0.1.2.2.2 (v := (σ.1 9)) rfl ?_
    refine z_icmp_ge (tgt := 86) M dt_X2_added_0.2.1.1.1 (by decide) (fun hc => ?_) (fun hc => ?_)
    · have h := gIt hc h
      refine z_iload_n M dt_X2_added_2.2.2.2.1 rfl 2 rfl ?_
      obtain rfl := Option.some.inj h
      exact z_iret M dt_X2_added_2.2.2.2.2
    · have h := gIf hc h
      refine z_aload_n M dt_X2_added_0.2.1.1.2 rfl 0 rfl ?_
      obtain ⟨t7, hc, h⟩ := gBd h
      refine k_X2_here M hc u812 (by omega) (Nat.le_of_ble_eq_true rfl) dt_X2_added_0.2.1.2.1 ?_
      refine z_bipush M dt_X2_added_0.2.1.2.2 kb_43 ?_
      refine z_icmp_eq (tgt := 35) M dt_X2_added_0.2.2.1.1 (by decide) (fun hc => ?_) (fun hc => ?_)
      · have h := gIt hc h
        exact wJ_X2_added_35 hn HF M (k6 := (fun σ w2 => L_X2_added_6 F v1 n6 σ w2)) σ v1 v2 ih h
      · have h := gIf hc h
        refine z_aload_n M dt_X2_added_0.2.2.1.2 rfl 0 rfl ?_
        obtain ⟨t8, hc, h⟩ := gBd h
        refine k_X2_here M hc u812 (by omega) (Nat.le_of_ble_eq_true rfl) dt_X2_added_0.2.2.2.1 ?_
        refine z_bipush M dt_X2_added_0.2.2.2.2 kb_45 ?_
        refine z_icmp_ne (tgt := 86) M dt_X2_added_1.1.1.1.1 (by decide) (fun hc => ?_) (fun hc => ?_)
        · have h := gIf hc h
          refine z_iload_n M dt_X2_added_2.2.2.2.1 rfl 2 rfl ?_
          obtain rfl := Option.some.inj h
          exact z_iret M dt_X2_added_2.2.2.2.2
        · have h := gIt hc h
          exact wJ_X2_added_35 hn HF M (k6 := (fun σ w2 => L_X2_added_6 F v1 n6 σ w2)) σ v1 v2 ih h
set_option maxHeartbeats 4000000 in
set_option maxRecDepth 100000 in
theorem m_X2_added {n : Nat} (hn : 2 ≤ n) {F : Nat → Zst → Int32 → Option (Zst × Int32)} (HF : zHF_X2rec l D A ad a cy n F) (hD : ∀ σ, va_D A (cW a cy σ)) {σ : Zst} {p0 : Int32} {o : (Zst × Int32)} (h : f_X2_added F σ p0 = some o) : zT l D zcl (zty cy) A ad (cW a cy) yX2_added cX2_added 5 (some .int) (n + 1) [.ref (a 13), .int p0] σ o.1 (some (.int o.2)) := by
  refine z_met pn_X2 hD (Nat.le_of_ble_eq_true rfl) rfl (fun G M => ?_)
  refine z_aload_n M dt_X2_added_0.1.1.1.1 rfl 0 rfl ?_
  refine z_iload_n M dt_X2_added_0.1.1.1.2 rfl 1 rfl ?_
  obtain ⟨t9, hc, h⟩ := gBd h
  refine kr_X2_multiplied M (HF.2.2.2.2.1 _ _ _ hc) u804 (Nat.le_refl _) (Nat.le_of_ble_eq_true rfl) dt_X2_added_0.1.1.2.1 ?_
  refine z_istore_n (lv' := [(2, .int t9.2), (0, .ref (a 13)), (1, .int p0)]) M dt_X2_added_0.1.1.2.2 rfl (by decide) rfl ?_
  refine z_sub M [1, 2, 0] (lv' := [(0, .ref (a 13)), (1, .int p0), (2, .int t9.2)]) rfl ?_
  exact wL_X2_added_6 hn HF M  p0 zFu t9.1 t9.2 h
set_option maxHeartbeats 4000000 in
set_option maxRecDepth 100000 in
theorem wJ_X2_multiplied_35 {n : Nat} (hn : 2 ≤ n) {F : Nat → Zst → Int32 → Option (Zst × Int32)} (HF : zHF_X2rec l D A ad a cy n F) {o : (Zst × Int32)} (M : zM l D zcl (zty cy) A ad (zR (n + 1)) (cW a cy) RX2 cX2_multiplied 5 (some .int) o.1 (some (.int o.2)) G) {k6 : Zst → Int32 → Option (Zst × Int32)} (σ : Zst) (v1 : Int32) (v2 : Int32) (Hk6 : ∀ (σ : Zst) (w2 : Int32), k6 σ w2 = some o → G σ [(0, .ref (a 13)), (1, .int v1), (2, .int w2)] 6 []) (h : J_X2_multiplied_35 F k6 σ v1 v2 = some o) : G σ [(0, .ref (a 13)), (1, .int v1), (2, .int v2)] 35 [] := by
  refine z_aload_n M dt_X2_multiplied_1.1.1.1.2 rfl 0 rfl ?_
  obtain ⟨t1, hc, h⟩ := gBd h
  refine k_X2_here M hc u812 (by omega) (Nat.le_of_ble_eq_true rfl) dt_X2_multiplied_1.1.1.2.1 ?_
  refine z_bipush M dt_X2_multiplied_1.1.1.2.2 kb_42 ?_
  have hJ3 : G σ [(0, .ref (a 13)), (1, .int v1), (2, .int v2)] 49 [.int (if t1 = (42 : Int32) then (1 : Int32) else (0 : Int32))] := by
    refine z_istore_n (lv' := [(3, .int (if t1 = (42 : Int32) then (1 : Int32) else (0 : Int32))), (0, .ref (a 13)), (1, .int v1), (2, .int v2)]) M dt_X2_multiplied_1.2.1.1.1 rfl (by decide) rfl ?_
    refine z_aload_n M dt_X2_multiplied_1.2.1.1.2 rfl 1 rfl ?_
    refine z_dup M dt_X2_multiplied_1.2.1.2.1 rfl ?_
    refine gf_X2_at (σ := σ) M u191 dt_X2_multiplied_1.2.1.2.2 (v := (σ.1 8)) rfl ?_
    refine z_iconst M dt_X2_multiplied_1.2.2.1.1 ki_1 ?_
    refine z_iadd M dt_X2_multiplied_1.2.2.1.2 ?_
    refine pf_X2_at M u191 dt_X2_multiplied_1.2.2.2.1 ?_
    refine z_aload_n M dt_X2_multiplied_1.2.2.2.2 rfl 1 rfl ?_
    refine z_iload_n M dt_X2_multiplied_2.1.1.1.1 rfl 2 rfl ?_
    obtain ⟨t4, hc, h⟩ := gBd h
    refine kr_X2_thing M (HF.2.2.2.2.2.1 _ _ _ hc) u808 (Nat.le_refl _) (Nat.le_of_ble_eq_true rfl) dt_X2_multiplied_2.1.1.1.2 ?_
    refine z_istore (lv' := [(4, .int t4.2), (3, .int (if t1 = (42 : Int32) then (1 : Int32) else (0 : Int32))), (0, .ref (a 13)), (1, .int v1), (2, .int v2)]) M dt_X2_multiplied_2.1.1.2.1 (by decide) rfl ?_
    refine z_iload_n M dt_X2_multiplied_2.1.1.2.2 rfl 1 rfl ?_
    refine z_if_eq (tgt := 78) M dt_X2_multiplied_2.1.2.1.1 (by decide) (fun hc => ?_) (fun hc => ?_)
    · have h := gIt hc h
      refine z_iload M dt_X2_multiplied_2.2.1.1.2 0 rfl ?_
      refine z_if_ne (tgt := 87) M dt_X2_multiplied_2.2.1.2.1 (by decide) (fun hc => ?_) (fun hc => ?_)
      · have h := gIf hc h
        refine z_iload_n M dt_X2_multiplied_2.2.2.1.2 rfl 4 rfl ?_
        refine z_iload M dt_X2_multiplied_2.2.2.2.1 0 rfl ?_
        have ⟨hg, h⟩ := gNz_s h
        refine z_idiv M dt_X2_multiplied_2.2.2.2.2 hg ?_
        refine z_istore_n (lv' := [(2, .int (v2 / t4.2)), (4, .int t4.2), (3, .int (if t1 = (42 : Int32) then (1 : Int32) else (0 : Int32))), (0, .ref (a 13)), (1, .int v1)]) M dt_X2_multiplied_3.1.1 rfl (by decide) rfl ?_
        refine z_goto (tgt := 6) M dt_X2_multiplied_3.1.2 (by decide) ?_
        refine z_sub M [3, 4, 0] (lv' := [(0, .ref (a 13)), (1, .int v1), (2, .int (v2 / t4.2))]) rfl ?_
        exact Hk6 t4.1 (v2 / t4.2) h
      · have h := gIt hc h
        refine z_iconst M dt_X2_multiplied_2.2.1.2.2 ki_0 ?_
        refine z_goto (tgt := 91) M dt_X2_multiplied_2.2.2.1.1 (by decide) ?_
        refine z_istore_n (lv' := [(2, .int (0 : Int32)), (4, .int t4.2), (3, .int (if t1 = (42 : Int32) then (1 : Int32) else (0 : Int32))), (0, .ref (a 13)), (1, .int v1)]) M dt_X2_multiplied_3.1.1 rfl (by decide) rfl ?_
        refine z_goto (tgt := 6) M dt_X2_multiplied_3.1.2 (by decide) ?_
        refine z_sub M [3, 4, 0] (lv' := [(0, .ref (a 13)), (1, .int v1), (2, .int (0 : Int32))]) rfl ?_
        exact Hk6 t4.1 (0 : Int32) h
    · have h := gIf hc h
      refine z_iload_n M dt_X2_multiplied_2.1.2.1.2 rfl 4 rfl ?_
      refine z_iload M dt_X2_multiplied_2.1.2.2.1 0 rfl ?_
      refine z_imul M dt_X2_multiplied_2.1.2.2.2 ?_
      refine z_goto (tgt := 91) M dt_X2_multiplied_2.2.1.1.1 (by decide) ?_
      refine z_istore_n (lv' := [(2, .int (v2 * t4.2)), (4, .int t4.2), (3, .int (if t1 = (42 : Int32) then (1 : Int32) else (0 : Int32))), (0, .ref (a 13)), (1, .int v1)]) M dt_X2_multiplied_3.1.1 rfl (by decide) rfl ?_
      refine z_goto (tgt := 6) M dt_X2_multiplied_3.1.2 (by decide) ?_
      refine z_sub M [3, 4, 0] (lv' := [(0, .ref (a 13)), (1, .int v1), (2, .int (v2 * t4.2))]) rfl ?_
      exact Hk6 t4.1 (v2 * t4.2) h
  refine z_icmp_ne (tgt := 48) M dt_X2_multiplied_1.1.2.1.1 (by decide) (fun hc2 => ?_) (fun hc2 => ?_)
  · refine z_iconst M dt_X2_multiplied_1.1.2.2.2 ki_0 ?_
    exact (zTf hc2 hJ3)
  · refine z_iconst M dt_X2_multiplied_1.1.2.1.2 ki_1 ?_
    refine z_goto (tgt := 49) M dt_X2_multiplied_1.1.2.2.1 (by decide) ?_
    exact (zTt hc2 hJ3)
set_option maxHeartbeats 4000000 in
set_option maxRecDepth 100000 in
theorem wL_X2_multiplied_6 {n : Nat} (hn : 2 ≤ n) {F : Nat → Zst → Int32 → Option (Zst × Int32)} (HF : zHF_X2rec l D A ad a cy n F) {o : (Zst × Int32)} (M : zM l D zcl (zty cy) A ad (zR (n + 1)) (cW a cy) RX2 cX2_multiplied 5 (some .int) o.1 (some (.int o.2)) G)  (v1 : Int32)  :
    ∀ (n6 : Nat) (σ : Zst) (v2 : Int32), L_X2_multiplied_6 F v1 n6 σ v2 = some o → G σ [(0, .ref (a 13)), (1, .int v1), (2, .int v2)] 6 [] := by
  intro n6
  induction n6 with
  | zero => intro σ v2 h; exact nomatch (show (none : Option (Zst × Int32)) = some _ from h)
  | succ n6 ih =>
    intro σ v2 h
    refine z_aload_n M dt_X2_multiplied_0.1.2.1.1 rfl 0 rfl ?_
    refine gf_X2_at (σ := σ) M u191 dt_X2_multiplied_0.1.2.1.2 (v := (σ.1 8)) rfl ?_
    refine z_aload_n M dt_X2_multiplied_0.1.2.2.1 rfl 0 rfl ?_
    refine gf_X2_till (σ := σ) M u192 dt_X2_multiplied_0.1.2.2.2 (v := (σ.1 9)) rfl ?_
    refine z_icmp_ge (tgt := 95) M dt_X2_multiplied_0.2.1.1.1 (by decide) (fun hc => ?_) (fun hc => ?_)
    · have h := gIt hc h
      refine z_iload_n M dt_X2_multiplied_3.2.1 rfl 2 rfl ?_
      obtain rfl := Option.some.inj h
      exact z_iret M dt_X2_multiplied_3.2.2
    · have h := gIf hc h
      refine z_aload_n M dt_X2_multiplied_0.2.1.1.2 rfl 0 rfl ?_
      obtain ⟨t5, hc, h⟩ := gBd h
      refine k_X2_here M hc u812 (by omega) (Nat.le_of_ble_eq_true rfl) dt_X2_multiplied_0.2.1.2.1 ?_
      refine z_bipush M dt_X2_multiplied_0.2.1.2.2 kb_42 ?_
      refine z_icmp_eq (tgt := 35) M dt_X2_multiplied_0.2.2.1.1 (by decide) (fun hc => ?_) (fun hc => ?_)
      · have h := gIt hc h
        exact wJ_X2_multiplied_35 hn HF M (k6 := (fun σ w2 => L_X2_multiplied_6 F v1 n6 σ w2)) σ v1 v2 ih h
      · have h := gIf hc h
        refine z_aload_n M dt_X2_multiplied_0.2.2.1.2 rfl 0 rfl ?_
        obtain ⟨t6, hc, h⟩ := gBd h
        refine k_X2_here M hc u812 (by omega) (Nat.le_of_ble_eq_true rfl) dt_X2_multiplied_0.2.2.2.1 ?_
        refine z_bipush M dt_X2_multiplied_0.2.2.2.2 kb_47 ?_
        refine z_icmp_ne (tgt := 95) M dt_X2_multiplied_1.1.1.1.1 (by decide) (fun hc => ?_) (fun hc => ?_)
        · have h := gIf hc h
          refine z_iload_n M dt_X2_multiplied_3.2.1 rfl 2 rfl ?_
          obtain rfl := Option.some.inj h
          exact z_iret M dt_X2_multiplied_3.2.2
        · have h := gIt hc h
          exact wJ_X2_multiplied_35 hn HF M (k6 := (fun σ w2 => L_X2_multiplied_6 F v1 n6 σ w2)) σ v1 v2 ih h
set_option maxHeartbeats 4000000 in
set_option maxRecDepth 100000 in
theorem m_X2_multiplied {n : Nat} (hn : 2 ≤ n) {F : Nat → Zst → Int32 → Option (Zst × Int32)} (HF : zHF_X2rec l D A ad a cy n F) (hD : ∀ σ, va_D A (cW a cy σ)) {σ : Zst} {p0 : Int32} {o : (Zst × Int32)} (h : f_X2_multiplied F σ p0 = some o) : zT l D zcl (zty cy) A ad (cW a cy) yX2_multiplied cX2_multiplied 5 (some .int) (n + 1) [.ref (a 13), .int p0] σ o.1 (some (.int o.2)) := by
  refine z_met pn_X2 hD (Nat.le_of_ble_eq_true rfl) rfl (fun G M => ?_)
  refine z_aload_n M dt_X2_multiplied_0.1.1.1.1 rfl 0 rfl ?_
  refine z_iload_n M dt_X2_multiplied_0.1.1.1.2 rfl 1 rfl ?_
  obtain ⟨t7, hc, h⟩ := gBd h
  refine kr_X2_thing M (HF.2.2.2.2.2.1 _ _ _ hc) u808 (Nat.le_refl _) (Nat.le_of_ble_eq_true rfl) dt_X2_multiplied_0.1.1.2.1 ?_
  refine z_istore_n (lv' := [(2, .int t7.2), (0, .ref (a 13)), (1, .int p0)]) M dt_X2_multiplied_0.1.1.2.2 rfl (by decide) rfl ?_
  refine z_sub M [1, 2, 0] (lv' := [(0, .ref (a 13)), (1, .int p0), (2, .int t7.2)]) rfl ?_
  exact wL_X2_multiplied_6 hn HF M  p0 zFu t7.1 t7.2 h
set_option maxHeartbeats 4000000 in
set_option maxRecDepth 100000 in
theorem wL_X2_thing_5 {n : Nat} (hn : 2 ≤ n) {F : Nat → Zst → Int32 → Option (Zst × Int32)} (HF : zHF_X2rec l D A ad a cy n F) {o : (Zst × Int32)} (M : zM l D zcl (zty cy) A ad (zR (n + 1)) (cW a cy) RX2 cX2_thing 6 (some .int) o.1 (some (.int o.2)) G) {k47 : Zst → Option (Zst × Int32)}  (v1 : Int32) (v2 : Int32) (Hk47 : ∀ (σ : Zst), k47 σ = some o → G σ [(0, .ref (a 13)), (1, .int v1), (2, .int v2)] 47 []) :
    ∀ (n5 : Nat) (σ : Zst), L_X2_thing_5 F k47 v1 v2 n5 σ = some o → G σ [(0, .ref (a 13)), (1, .int v1), (2, .int v2)] 5 [] := by
  intro n5
  induction n5 with
  | zero => intro σ h; exact nomatch (show (none : Option (Zst × Int32)) = some _ from h)
  | succ n5 ih =>
    intro σ h
    refine z_aload_n M dt_X2_thing_0.1.1.2.2 rfl 0 rfl ?_
    refine gf_X2_at (σ := σ) M u191 dt_X2_thing_0.1.2.1.1 (v := (σ.1 8)) rfl ?_
    refine z_aload_n M dt_X2_thing_0.1.2.1.2 rfl 0 rfl ?_
    refine gf_X2_till (σ := σ) M u192 dt_X2_thing_0.1.2.2.1 (v := (σ.1 9)) rfl ?_
    refine z_icmp_ge (tgt := 47) M dt_X2_thing_0.1.2.2.2 (by decide) (fun hc => ?_) (fun hc => ?_)
    · have h := gIt hc h
      exact Hk47 σ h
    · have h := gIf hc h
      refine z_aload_n M dt_X2_thing_0.2.1.1.1 rfl 0 rfl ?_
      obtain ⟨t1, hc, h⟩ := gBd h
      refine k_X2_here M hc u812 (by omega) (Nat.le_of_ble_eq_true rfl) dt_X2_thing_0.2.1.1.2 ?_
      refine z_bipush M dt_X2_thing_0.2.1.2.1 kb_33 ?_
      refine z_icmp_eq (tgt := 34) M dt_X2_thing_0.2.1.2.2 (by decide) (fun hc => ?_) (fun hc => ?_)
      · have h := gIt hc h
        refine z_aload_n M dt_X2_thing_1.1.1.1.1 rfl 0 rfl ?_
        refine z_dup M dt_X2_thing_1.1.1.1.2 rfl ?_
        refine gf_X2_at (σ := σ) M u191 dt_X2_thing_1.1.1.2.1 (v := (σ.1 8)) rfl ?_
        refine z_iconst M dt_X2_thing_1.1.1.2.2 ki_1 ?_
        refine z_iadd M dt_X2_thing_1.1.2.1.1 ?_
        refine pf_X2_at M u191 dt_X2_thing_1.1.2.1.2 ?_
        refine z_goto (tgt := 5) M dt_X2_thing_1.1.2.2.1 (by decide) ?_
        exact ih (zI σ 8 ((σ.1 8) + (1 : Int32))) h
      · have h := gIf hc h
        refine z_aload_n M dt_X2_thing_0.2.2.1.1 rfl 0 rfl ?_
        obtain ⟨t2, hc, h⟩ := gBd h
        refine k_X2_here M hc u812 (by omega) (Nat.le_of_ble_eq_true rfl) dt_X2_thing_0.2.2.1.2 ?_
        refine z_bipush M dt_X2_thing_0.2.2.2.1 kb_45 ?_
        refine z_icmp_ne (tgt := 47) M dt_X2_thing_0.2.2.2.2 (by decide) (fun hc => ?_) (fun hc => ?_)
        · have h := gIf hc h
          exact Hk47 σ h
        · have h := gIt hc h
          refine z_aload_n M dt_X2_thing_1.1.1.1.1 rfl 0 rfl ?_
          refine z_dup M dt_X2_thing_1.1.1.1.2 rfl ?_
          refine gf_X2_at (σ := σ) M u191 dt_X2_thing_1.1.1.2.1 (v := (σ.1 8)) rfl ?_
          refine z_iconst M dt_X2_thing_1.1.1.2.2 ki_1 ?_
          refine z_iadd M dt_X2_thing_1.1.2.1.1 ?_
          refine pf_X2_at M u191 dt_X2_thing_1.1.2.1.2 ?_
          refine z_goto (tgt := 5) M dt_X2_thing_1.1.2.2.1 (by decide) ?_
          exact ih (zI σ 8 ((σ.1 8) + (1 : Int32))) h
set_option maxHeartbeats 4000000 in
set_option maxRecDepth 100000 in
theorem wL_X2_thing_64 {n : Nat} (hn : 2 ≤ n) {F : Nat → Zst → Int32 → Option (Zst × Int32)} (HF : zHF_X2rec l D A ad a cy n F) {o : (Zst × Int32)} (M : zM l D zcl (zty cy) A ad (zR (n + 1)) (cW a cy) RX2 cX2_thing 6 (some .int) o.1 (some (.int o.2)) G) (σ : Zst) (v2 : Int32)  :
    ∀ (n64 : Nat) (v4 : Int32) (v5 : Int32), L_X2_thing_64 F σ v2 n64 v4 v5 = some o → G σ [(0, .ref (a 13)), (2, .int v2), (4, .int v4), (5, .int v5)] 64 [] := by
  intro n64
  induction n64 with
  | zero => intro v4 v5 h; exact nomatch (show (none : Option (Zst × Int32)) = some _ from h)
  | succ n64 ih =>
    intro v4 v5 h
    refine z_iload M dt_X2_thing_2.1.1.2.1 3 rfl ?_
    refine z_iload_n M dt_X2_thing_2.1.1.2.2 rfl 1 rfl ?_
    refine z_icmp_lt (tgt := 109) M dt_X2_thing_2.1.2.1.1 (by decide) (fun hc => ?_) (fun hc => ?_)
    · have h := gIt hc h
      refine z_iload M dt_X2_thing_3.2.2.1 2 rfl ?_
      obtain rfl := Option.some.inj h
      exact z_iret M dt_X2_thing_3.2.2.2
    · have h := gIf hc h
      refine z_aload_n M dt_X2_thing_2.1.2.1.2 rfl 0 rfl ?_
      refine z_aload_n M dt_X2_thing_2.1.2.2.1 rfl 0 rfl ?_
      refine gf_X2_which (σ := σ) M u186 dt_X2_thing_2.1.2.2.2 (v := (σ.1 3)) rfl ?_
      refine z_iload M dt_X2_thing_2.2.1.1.1 3 rfl ?_
      obtain ⟨t3, hc, h⟩ := gBd h
      refine ku_Laws_signAt_X1_signAt_L M hc u816 (by omega) (Nat.le_of_ble_eq_true rfl) dt_X2_thing_2.2.1.1.2 ?_
      refine z_bipush M dt_X2_thing_2.2.1.2.1 kb_45 ?_
      have hJ6 : G σ [(0, .ref (a 13)), (2, .int v2), (4, .int v4), (5, .int v5)] 101 [.int (if t3 = (45 : Int32) then (-v4) else (if v4 = (0 : Int32) then (1 : Int32) else (0 : Int32)))] := by
        refine z_istore (lv' := [(4, .int (if t3 = (45 : Int32) then (-v4) else (if v4 = (0 : Int32) then (1 : Int32) else (0 : Int32)))), (0, .ref (a 13)), (2, .int v2), (5, .int v5)]) M dt_X2_thing_3.1.2.2 (by decide) rfl ?_
        refine z_iinc (v := (v5 + (-1 : Int32))) (lv' := [(5, .int (v5 + (-1 : Int32))), (4, .int (if t3 = (45 : Int32) then (-v4) else (if v4 = (0 : Int32) then (1 : Int32) else (0 : Int32)))), (0, .ref (a 13)), (2, .int v2)]) M dt_X2_thing_3.2.1.1 (k := 3) rfl (congrArg (fun q => v5 + q) ki_m1) (by decide) rfl ?_
        refine z_goto (tgt := 64) M dt_X2_thing_3.2.1.2 (by decide) ?_
        refine z_sub M [2, 3, 1, 0] (lv' := [(0, .ref (a 13)), (2, .int v2), (4, .int (if t3 = (45 : Int32) then (-v4) else (if v4 = (0 : Int32) then (1 : Int32) else (0 : Int32)))), (5, .int (v5 + (-1 : Int32)))]) rfl ?_
        exact ih (if t3 = (45 : Int32) then (-v4) else (if v4 = (0 : Int32) then (1 : Int32) else (0 : Int32))) (v5 + (-1 : Int32)) h
      refine z_icmp_ne (tgt := 91) M dt_X2_thing_2.2.1.2.2 (by decide) (fun hc4 => ?_) (fun hc4 => ?_)
      · refine z_iload M dt_X2_thing_2.2.2.2.2 2 rfl ?_
        refine z_if_ne (tgt := 100) M dt_X2_thing_3.1.1.1.1 (by decide) (fun hc5 => ?_) (fun hc5 => ?_)
        · refine z_iconst M dt_X2_thing_3.1.2.1 ki_0 ?_
          exact (zTf hc5 (zTf hc4 hJ6))
        · refine z_iconst M dt_X2_thing_3.1.1.1.2 ki_1 ?_
          refine z_goto (tgt := 101) M dt_X2_thing_3.1.1.2 (by decide) ?_
          exact (zTt hc5 (zTf hc4 hJ6))
      · refine z_iload M dt_X2_thing_2.2.2.1.1 2 rfl ?_
        refine z_ineg M dt_X2_thing_2.2.2.1.2 ?_
        refine z_goto (tgt := 101) M dt_X2_thing_2.2.2.2.1 (by decide) ?_
        exact (zTt hc4 hJ6)
set_option maxHeartbeats 4000000 in
set_option maxRecDepth 100000 in
theorem wJ_X2_thing_47 {n : Nat} (hn : 2 ≤ n) {F : Nat → Zst → Int32 → Option (Zst × Int32)} (HF : zHF_X2rec l D A ad a cy n F) {o : (Zst × Int32)} (M : zM l D zcl (zty cy) A ad (zR (n + 1)) (cW a cy) RX2 cX2_thing 6 (some .int) o.1 (some (.int o.2)) G) (σ : Zst) (v1 : Int32) (v2 : Int32)  (h : J_X2_thing_47 F σ v1 v2 = some o) : G σ [(0, .ref (a 13)), (1, .int v1), (2, .int v2)] 47 [] := by
  refine z_aload_n M dt_X2_thing_1.1.2.2.2 rfl 0 rfl ?_
  refine gf_X2_at (σ := σ) M u191 dt_X2_thing_1.2.1.1.1 (v := (σ.1 8)) rfl ?_
  refine z_istore_n (lv' := [(3, .int (σ.1 8)), (0, .ref (a 13)), (1, .int v1), (2, .int v2)]) M dt_X2_thing_1.2.1.1.2 rfl (by decide) rfl ?_
  refine z_aload_n M dt_X2_thing_1.2.1.2.1 rfl 1 rfl ?_
  refine z_iload_n M dt_X2_thing_1.2.1.2.2 rfl 2 rfl ?_
  obtain ⟨t7, hc, h⟩ := gBd h
  refine kr_X2_bareThing M (HF.2.2.2.2.2.2 _ _ _ hc) u822 (Nat.le_refl _) (Nat.le_of_ble_eq_true rfl) dt_X2_thing_1.2.2.1.1 ?_
  refine z_istore (lv' := [(4, .int t7.2), (3, .int (σ.1 8)), (0, .ref (a 13)), (1, .int v1), (2, .int v2)]) M dt_X2_thing_1.2.2.1.2 (by decide) rfl ?_
  refine z_iload_n M dt_X2_thing_1.2.2.2.1 rfl 1 rfl ?_
  refine z_iconst M dt_X2_thing_1.2.2.2.2 ki_1 ?_
  refine z_isub M dt_X2_thing_2.1.1.1.1 ?_
  refine z_istore (lv' := [(5, .int ((σ.1 8) - (1 : Int32))), (4, .int t7.2), (3, .int (σ.1 8)), (0, .ref (a 13)), (1, .int v1), (2, .int v2)]) M dt_X2_thing_2.1.1.1.2 (by decide) rfl ?_
  refine z_sub M [3, 5, 1, 0] (lv' := [(0, .ref (a 13)), (2, .int v2), (4, .int t7.2), (5, .int ((σ.1 8) - (1 : Int32)))]) rfl ?_
  exact wL_X2_thing_64 hn HF M  t7.1 v2 zFu t7.2 ((σ.1 8) - (1 : Int32)) h
set_option maxHeartbeats 4000000 in
set_option maxRecDepth 100000 in
theorem m_X2_thing {n : Nat} (hn : 2 ≤ n) {F : Nat → Zst → Int32 → Option (Zst × Int32)} (HF : zHF_X2rec l D A ad a cy n F) (hD : ∀ σ, va_D A (cW a cy σ)) {σ : Zst} {p0 : Int32} {o : (Zst × Int32)} (h : f_X2_thing F σ p0 = some o) : zT l D zcl (zty cy) A ad (cW a cy) yX2_thing cX2_thing 6 (some .int) (n + 1) [.ref (a 13), .int p0] σ o.1 (some (.int o.2)) := by
  refine z_met pn_X2 hD (Nat.le_of_ble_eq_true rfl) rfl (fun G M => ?_)
  refine z_aload_n M dt_X2_thing_0.1.1.1.1 rfl 0 rfl ?_
  refine gf_X2_at (σ := σ) M u191 dt_X2_thing_0.1.1.1.2 (v := (σ.1 8)) rfl ?_
  refine z_istore_n (lv' := [(2, .int (σ.1 8)), (0, .ref (a 13)), (1, .int p0)]) M dt_X2_thing_0.1.1.2.1 rfl (by decide) rfl ?_
  refine z_sub M [1, 2, 0] (lv' := [(0, .ref (a 13)), (1, .int p0), (2, .int (σ.1 8))]) rfl ?_
  exact wL_X2_thing_5 hn HF M (k47 := (fun σ8 => J_X2_thing_47 F σ8 p0 (σ.1 8))) p0 (σ.1 8) (fun σ8 h => by
      exact wJ_X2_thing_47 hn HF M  σ8 p0 (σ.1 8) h) zFu σ h
set_option maxHeartbeats 4000000 in
set_option maxRecDepth 100000 in
theorem m_X4_draw (hD : ∀ σ, va_D A (cW a cy σ)) {σ : Zst} {p0 : Int32} {o : (Zst × Int32)} (h : f_X4_draw σ p0 = some o) : zT l D zcl (zty cy) A ad (cW a cy) yX4_draw cX4_draw 2 (some .int) 1 [.ref (a 5), .int p0] σ o.1 (some (.int o.2)) := by
  refine z_met pn_X4 hD (Nat.le_of_ble_eq_true rfl) rfl (fun G M => ?_)
  refine z_aload_n M dt_X4_draw_0.1.1.1.1 rfl 0 rfl ?_
  refine z_aload_n M dt_X4_draw_0.1.1.1.2 rfl 0 rfl ?_
  refine gf_X4_r (σ := σ) M u162 dt_X4_draw_0.1.1.2.1 (v := (σ.1 2)) rfl ?_
  refine z_ldc M dt_X4_draw_0.1.1.2.2 u830 ?_
  refine z_imul M dt_X4_draw_0.1.2.1.1 ?_
  refine z_sipush M dt_X4_draw_0.1.2.1.2 ks_12345 ?_
  refine z_iadd M dt_X4_draw_0.1.2.2.1 ?_
  refine pf_X4_r M u162 dt_X4_draw_0.1.2.2.2 ?_
  refine z_iload_n M dt_X4_draw_0.2.1.1.1 rfl 1 rfl ?_
  refine z_if_le (tgt := 31) M dt_X4_draw_0.2.1.1.2 (by decide) (fun hc => ?_) (fun hc => ?_)
  · have h := gIt hc h
    refine z_iconst M dt_X4_draw_1.1.2 ki_0 ?_
    obtain rfl := Option.some.inj h
    exact z_iret M dt_X4_draw_1.2
  · have h := gIf hc h
    refine z_aload_n M dt_X4_draw_0.2.1.2.1 rfl 0 rfl ?_
    refine gf_X4_r (σ := (zI σ 2 (((σ.1 2) * (1103515245 : Int32)) + (12345 : Int32)))) M u162 dt_X4_draw_0.2.1.2.2 (v := (((σ.1 2) * (1103515245 : Int32)) + (12345 : Int32))) rfl ?_
    refine z_bipush M dt_X4_draw_0.2.2.1.1 kb_16 ?_
    refine z_iushr M dt_X4_draw_0.2.2.1.2 ?_
    refine z_iload_n M dt_X4_draw_0.2.2.2.1 rfl 1 rfl ?_
    have ⟨hg, h⟩ := gNz_s h
    refine z_irem M dt_X4_draw_0.2.2.2.2 hg ?_
    refine z_goto (tgt := 32) M dt_X4_draw_1.1.1 (by decide) ?_
    obtain rfl := Option.some.inj h
    exact z_iret M dt_X4_draw_1.2
theorem k_X4_draw {n : Nat} (M : zM l D zcl (zty cy) A ad (zR n) (cW a cy) own cc nL rt σo ov G) {p0 : Int32} {o : (Zst × Int32)} (h : f_X4_draw σ p0 = some o) {index : Nat} (hl : Cond.methodLink own index yX4_draw ∈ uw) (hR : 2 ≤ n) (hW : (st.map fun v => v.category).sum ≤ 8) (d : decode cc pc = .ok (.invokevirtual index, 3)) (kk : G o.1 lv (pc + 3) (.int o.2 :: st)) : G σ lv pc (.int p0 :: .ref (a 5) :: st) := z_callV M [.int p0] (m_X4_draw (zM_hD M) h) (hC5 σ) rfl hl u90 u829 u827 u828 hd_X4_draw hR (by decide) rfl hW d kk
set_option maxHeartbeats 4000000 in
set_option maxRecDepth 100000 in
theorem wL_X2_bareThing_14 {n : Nat} (hn : 2 ≤ n) {F : Nat → Zst → Int32 → Option (Zst × Int32)} (HF : zHF_X2rec l D A ad a cy n F) {o : (Zst × Int32)} (M : zM l D zcl (zty cy) A ad (zR (n + 1)) (cW a cy) RX2 cX2_bareThing 4 (some .int) o.1 (some (.int o.2)) G)    :
    ∀ (n14 : Nat) (σ : Zst) (v3 : Int32), L_X2_bareThing_14 F n14 σ v3 = some o → G σ [(0, .ref (a 13)), (3, .int v3)] 14 [] := by
  intro n14
  induction n14 with
  | zero => intro σ v3 h; exact nomatch (show (none : Option (Zst × Int32)) = some _ from h)
  | succ n14 ih =>
    intro σ v3 h
    refine z_aload_n M dt_X2_bareThing_0.2.1.1.1 rfl 0 rfl ?_
    refine gf_X2_at (σ := σ) M u191 dt_X2_bareThing_0.2.1.1.2 (v := (σ.1 8)) rfl ?_
    refine z_aload_n M dt_X2_bareThing_0.2.1.2.1 rfl 0 rfl ?_
    refine gf_X2_till (σ := σ) M u192 dt_X2_bareThing_0.2.1.2.2 (v := (σ.1 9)) rfl ?_
    refine z_icmp_ge (tgt := 61) M dt_X2_bareThing_0.2.2.1.1 (by decide) (fun hc => ?_) (fun hc => ?_)
    · have h := gIt hc h
      refine z_iload_n M dt_X2_bareThing_2.1.1.1.2 rfl 1 rfl ?_
      obtain rfl := Option.some.inj h
      exact z_iret M dt_X2_bareThing_2.1.1.2.1
    · have h := gIf hc h
      refine z_aload_n M dt_X2_bareThing_0.2.2.1.2 rfl 0 rfl ?_
      obtain ⟨t1, hc, h⟩ := gBd h
      refine k_X2_here M hc u812 (by omega) (Nat.le_of_ble_eq_true rfl) dt_X2_bareThing_0.2.2.2.1 ?_
      refine k_X2_isDigit M u624 (by omega) (Nat.le_of_ble_eq_true rfl) dt_X2_bareThing_0.2.2.2.2 ?_
      refine z_if_eq (tgt := 61) M dt_X2_bareThing_1.1.1.1.1 (by decide) (fun hc => ?_) (fun hc => ?_)
      · have h := gIt hc h
        refine z_iload_n M dt_X2_bareThing_2.1.1.1.2 rfl 1 rfl ?_
        obtain rfl := Option.some.inj h
        exact z_iret M dt_X2_bareThing_2.1.1.2.1
      · have h := gIf hc h
        refine z_iload_n M dt_X2_bareThing_1.1.1.1.2 rfl 1 rfl ?_
        refine z_bipush M dt_X2_bareThing_1.1.1.2.1 kb_10 ?_
        refine z_imul M dt_X2_bareThing_1.1.1.2.2 ?_
        refine z_aload_n M dt_X2_bareThing_1.1.2.1.1 rfl 0 rfl ?_
        obtain ⟨t2, hc, h⟩ := gBd h
        refine k_X2_here M hc u812 (by omega) (Nat.le_of_ble_eq_true rfl) dt_X2_bareThing_1.1.2.1.2 ?_
        refine z_iadd M dt_X2_bareThing_1.1.2.2.1 ?_
        refine z_bipush M dt_X2_bareThing_1.1.2.2.2 kb_48 ?_
        refine z_isub M dt_X2_bareThing_1.2.1.1.1 ?_
        refine z_istore_n (lv' := [(3, .int (((v3 * (10 : Int32)) + t2) - (48 : Int32))), (0, .ref (a 13))]) M dt_X2_bareThing_1.2.1.1.2 rfl (by decide) rfl ?_
        refine z_aload_n M dt_X2_bareThing_1.2.1.2.1 rfl 1 rfl ?_
        refine z_dup M dt_X2_bareThing_1.2.1.2.2 rfl ?_
        refine gf_X2_at (σ := σ) M u191 dt_X2_bareThing_1.2.2.1.1 (v := (σ.1 8)) rfl ?_
        refine z_iconst M dt_X2_bareThing_1.2.2.1.2 ki_1 ?_
        refine z_iadd M dt_X2_bareThing_1.2.2.2.1 ?_
        refine pf_X2_at M u191 dt_X2_bareThing_1.2.2.2.2 ?_
        refine z_goto (tgt := 14) M dt_X2_bareThing_2.1.1.1.1 (by decide) ?_
        refine z_sub M [1, 0] (lv' := [(0, .ref (a 13)), (3, .int (((v3 * (10 : Int32)) + t2) - (48 : Int32)))]) rfl ?_
        exact ih (zI σ 8 ((σ.1 8) + (1 : Int32))) (((v3 * (10 : Int32)) + t2) - (48 : Int32)) h
set_option maxHeartbeats 4000000 in
set_option maxRecDepth 100000 in
theorem wJ_X2_bareThing_104 {n : Nat} (hn : 2 ≤ n) {F : Nat → Zst → Int32 → Option (Zst × Int32)} (HF : zHF_X2rec l D A ad a cy n F) {o : (Zst × Int32)} (M : zM l D zcl (zty cy) A ad (zR (n + 1)) (cW a cy) RX2 cX2_bareThing 4 (some .int) o.1 (some (.int o.2)) G) (σ : Zst) (v2 : Int32)  (h : J_X2_bareThing_104 F σ v2 = some o) : G σ [(0, .ref (a 13)), (2, .int v2)] 104 [] := by
  refine z_iload_n M dt_X2_bareThing_3.2.2.1.2 rfl 1 rfl ?_
  refine z_bipush M dt_X2_bareThing_3.2.2.2.1 kb_97 ?_
  refine z_isub M dt_X2_bareThing_3.2.2.2.2 ?_
  refine z_istore_n (lv' := [(3, .int (v2 - (97 : Int32))), (0, .ref (a 13)), (2, .int v2)]) M dt_X2_bareThing_4.1.1.1.1 rfl (by decide) rfl ?_
  refine z_iload_n M dt_X2_bareThing_4.1.1.1.2 rfl 2 rfl ?_
  refine z_bipush M dt_X2_bareThing_4.1.1.2.1 kb_122 ?_
  refine z_icmp_ne (tgt := 127) M dt_X2_bareThing_4.1.1.2.2 (by decide) (fun hc => ?_) (fun hc => ?_)
  · have h := gIf hc h
    refine z_iload_n M dt_X2_bareThing_4.2.1.1.2 rfl 0 rfl ?_
    refine z_if_lt (tgt := 149) M dt_X2_bareThing_4.2.1.2.1 (by decide) (fun hc => ?_) (fun hc => ?_)
    · have h := gIt hc h
      refine z_iconst M dt_X2_bareThing_5.2.1.2 ki_0 ?_
      obtain rfl := Option.some.inj h
      exact z_iret M dt_X2_bareThing_5.2.2
    · have h := gIf hc h
      refine z_iload_n M dt_X2_bareThing_4.2.1.2.2 rfl 0 rfl ?_
      refine z_aload_n M dt_X2_bareThing_4.2.2.1.1 rfl 1 rfl ?_
      refine gf_X2_known M u185 dt_X2_bareThing_4.2.2.1.2 ?_
      refine ln_C16 M dt_X2_bareThing_4.2.2.2.1 ?_
      refine z_icmp_ge (tgt := 149) M dt_X2_bareThing_4.2.2.2.2 (by decide) (fun hc => ?_) (fun hc => ?_)
      · have h := gIt hc h
        refine z_iconst M dt_X2_bareThing_5.2.1.2 ki_0 ?_
        obtain rfl := Option.some.inj h
        exact z_iret M dt_X2_bareThing_5.2.2
      · have h := gIf hc h
        refine z_aload_n M dt_X2_bareThing_5.1.1.1 rfl 1 rfl ?_
        refine gf_X2_known M u185 dt_X2_bareThing_5.1.1.2 ?_
        refine z_iload_n M dt_X2_bareThing_5.1.2.1 rfl 0 rfl ?_
        have ⟨hg, h⟩ := gIx_s h
        refine al_C16 (σ := σ) M (f := (σ.2.1 9)) rfl hg dt_X2_bareThing_5.1.2.2 ?_
        refine z_goto (tgt := 150) M dt_X2_bareThing_5.2.1.1 (by decide) ?_
        obtain rfl := Option.some.inj h
        exact z_iret M dt_X2_bareThing_5.2.2
  · have h := gIt hc h
    refine z_aload_n M dt_X2_bareThing_4.1.2.1.1 rfl 1 rfl ?_
    refine gf_X2_numbers M u184 dt_X2_bareThing_4.1.2.1.2 ?_
    refine z_bipush M dt_X2_bareThing_4.1.2.2.1 kb_10 ?_
    obtain ⟨t3, hc, h⟩ := gBd h
    refine k_X4_draw M hc u826 (by omega) (Nat.le_of_ble_eq_true rfl) dt_X2_bareThing_4.1.2.2.2 ?_
    refine z_goto (tgt := 150) M dt_X2_bareThing_4.2.1.1.1 (by decide) ?_
    obtain rfl := Option.some.inj h
    exact z_iret M dt_X2_bareThing_5.2.2
set_option maxHeartbeats 4000000 in
set_option maxRecDepth 100000 in
theorem m_X2_bareThing {n : Nat} (hn : 2 ≤ n) {F : Nat → Zst → Int32 → Option (Zst × Int32)} (HF : zHF_X2rec l D A ad a cy n F) (hD : ∀ σ, va_D A (cW a cy σ)) {σ : Zst} {p0 : Int32} {o : (Zst × Int32)} (h : f_X2_bareThing F σ p0 = some o) : zT l D zcl (zty cy) A ad (cW a cy) yX2_bareThing cX2_bareThing 4 (some .int) (n + 1) [.ref (a 13), .int p0] σ o.1 (some (.int o.2)) := by
  refine z_met pn_X2 hD (Nat.le_of_ble_eq_true rfl) rfl (fun G M => ?_)
  refine z_aload_n M dt_X2_bareThing_0.1.1.1.1 rfl 0 rfl ?_
  obtain ⟨t4, hc, h⟩ := gBd h
  refine k_X2_here M hc u812 (by omega) (Nat.le_of_ble_eq_true rfl) dt_X2_bareThing_0.1.1.1.2 ?_
  refine z_istore_n (lv' := [(2, .int t4), (0, .ref (a 13)), (1, .int p0)]) M dt_X2_bareThing_0.1.1.2.1 rfl (by decide) rfl ?_
  refine z_iload_n M dt_X2_bareThing_0.1.1.2.2 rfl 0 rfl ?_
  refine k_X2_isDigit M u624 (by omega) (Nat.le_of_ble_eq_true rfl) dt_X2_bareThing_0.1.2.1.1 ?_
  refine z_if_eq (tgt := 63) M dt_X2_bareThing_0.1.2.1.2 (by decide) (fun hc => ?_) (fun hc => ?_)
  · have h := gIt hc h
    refine z_aload_n M dt_X2_bareThing_2.1.1.2.2 rfl 1 rfl ?_
    refine z_dup M dt_X2_bareThing_2.1.2.1.1 rfl ?_
    refine gf_X2_at (σ := σ) M u191 dt_X2_bareThing_2.1.2.1.2 (v := (σ.1 8)) rfl ?_
    refine z_iconst M dt_X2_bareThing_2.1.2.2.1 ki_1 ?_
    refine z_iadd M dt_X2_bareThing_2.1.2.2.2 ?_
    refine pf_X2_at M u191 dt_X2_bareThing_2.2.1.1.1 ?_
    refine z_iload_n M dt_X2_bareThing_2.2.1.1.2 rfl 0 rfl ?_
    refine z_bipush M dt_X2_bareThing_2.2.1.2.1 kb_40 ?_
    refine z_icmp_ne (tgt := 104) M dt_X2_bareThing_2.2.1.2.2 (by decide) (fun hc => ?_) (fun hc => ?_)
    · have h := gIf hc h
      refine z_sub M [1, 0] (lv' := [(0, .ref (a 13)), (2, .int t4)]) rfl ?_
      exact wJ_X2_bareThing_104 hn HF M  (zI σ 8 ((σ.1 8) + (1 : Int32))) t4 h
    · have h := gIt hc h
      refine z_iload_n M dt_X2_bareThing_2.2.2.1.1 rfl 2 rfl ?_
      refine z_iconst M dt_X2_bareThing_2.2.2.1.2 ki_5 ?_
      refine z_icmp_ge (tgt := 104) M dt_X2_bareThing_2.2.2.2.1 (by decide) (fun hc => ?_) (fun hc => ?_)
      · have h := gIt hc h
        refine z_sub M [1, 0] (lv' := [(0, .ref (a 13)), (2, .int t4)]) rfl ?_
        exact wJ_X2_bareThing_104 hn HF M  (zI σ 8 ((σ.1 8) + (1 : Int32))) t4 h
      · have h := gIf hc h
        refine z_aload_n M dt_X2_bareThing_2.2.2.2.2 rfl 1 rfl ?_
        refine z_iload_n M dt_X2_bareThing_3.1.1.1.1 rfl 2 rfl ?_
        refine z_iconst M dt_X2_bareThing_3.1.1.1.2 ki_1 ?_
        refine z_iadd M dt_X2_bareThing_3.1.1.2.1 ?_
        obtain ⟨t5, hc, h⟩ := gBd h
        refine kr_X2_either M (HF.1 _ _ _ hc) u788 (Nat.le_refl _) (Nat.le_of_ble_eq_true rfl) dt_X2_bareThing_3.1.1.2.2 ?_
        refine z_istore_n (lv' := [(3, .int t5.2), (2, .int t4), (0, .ref (a 13)), (1, .int p0)]) M dt_X2_bareThing_3.1.2.1.1 rfl (by decide) rfl ?_
        refine z_aload_n M dt_X2_bareThing_3.1.2.1.2 rfl 2 rfl ?_
        refine z_dup M dt_X2_bareThing_3.1.2.2.1 rfl ?_
        refine gf_X2_at (σ := t5.1) M u191 dt_X2_bareThing_3.1.2.2.2 (v := (t5.1.1 8)) rfl ?_
        refine z_iconst M dt_X2_bareThing_3.2.1.1.1 ki_1 ?_
        refine z_iadd M dt_X2_bareThing_3.2.1.1.2 ?_
        refine pf_X2_at M u191 dt_X2_bareThing_3.2.1.2.1 ?_
        refine z_iload_n M dt_X2_bareThing_3.2.1.2.2 rfl 0 rfl ?_
        obtain rfl := Option.some.inj h
        exact z_iret M dt_X2_bareThing_3.2.2.1.1
  · have h := gIf hc h
    refine z_iconst M dt_X2_bareThing_0.1.2.2.1 ki_0 ?_
    refine z_istore_n (lv' := [(3, .int (0 : Int32)), (2, .int t4), (0, .ref (a 13)), (1, .int p0)]) M dt_X2_bareThing_0.1.2.2.2 rfl (by decide) rfl ?_
    refine z_sub M [2, 0] (lv' := [(0, .ref (a 13)), (3, .int (0 : Int32))]) rfl ?_
    exact wL_X2_bareThing_14 hn HF M   zFu σ (0 : Int32) h
theorem f_X2rec_0 (d : Nat) (σ : Zst) (x : Int32) : f_X2rec (d + 1) 0 σ x = f_X2_either (f_X2rec d) σ x := by
  unfold f_X2rec
  rw [if_pos rfl]
theorem f_X2rec_1 (d : Nat) (σ : Zst) (x : Int32) : f_X2rec (d + 1) 1 σ x = f_X2_both (f_X2rec d) σ x := by
  unfold f_X2rec
  rw [if_neg (by decide), if_pos rfl]
theorem f_X2rec_2 (d : Nat) (σ : Zst) (x : Int32) : f_X2rec (d + 1) 2 σ x = f_X2_comparison (f_X2rec d) σ x := by
  unfold f_X2rec
  rw [if_neg (by decide), if_neg (by decide), if_pos rfl]
theorem f_X2rec_3 (d : Nat) (σ : Zst) (x : Int32) : f_X2rec (d + 1) 3 σ x = f_X2_added (f_X2rec d) σ x := by
  unfold f_X2rec
  rw [if_neg (by decide), if_neg (by decide), if_neg (by decide), if_pos rfl]
theorem f_X2rec_4 (d : Nat) (σ : Zst) (x : Int32) : f_X2rec (d + 1) 4 σ x = f_X2_multiplied (f_X2rec d) σ x := by
  unfold f_X2rec
  rw [if_neg (by decide), if_neg (by decide), if_neg (by decide), if_neg (by decide), if_pos rfl]
theorem f_X2rec_5 (d : Nat) (σ : Zst) (x : Int32) : f_X2rec (d + 1) 5 σ x = f_X2_thing (f_X2rec d) σ x := by
  unfold f_X2rec
  rw [if_neg (by decide), if_neg (by decide), if_neg (by decide), if_neg (by decide), if_neg (by decide), if_pos rfl]
theorem f_X2rec_6 (d : Nat) (σ : Zst) (x : Int32) : f_X2rec (d + 1) 6 σ x = f_X2_bareThing (f_X2rec d) σ x := by
  unfold f_X2rec
  rw [if_neg (by decide), if_neg (by decide), if_neg (by decide), if_neg (by decide), if_neg (by decide), if_neg (by decide), if_pos rfl]
set_option maxRecDepth 100000 in
theorem mg_X2rec (hD : ∀ σ, va_D A (cW a cy σ)) : ∀ d, zHF_X2rec l D A ad a cy (2 + d) (f_X2rec d) := by
  intro d
  induction d with
  | zero => refine ⟨?_, ?_, ?_, ?_, ?_, ?_, ?_⟩ <;> (intro σ x o h; exact nomatch (show (none : Option (Zst × Int32)) = some _ from h))
  | succ d ih =>
    refine ⟨?_, ?_, ?_, ?_, ?_, ?_, ?_⟩
    · intro σ x o h
      exact m_X2_either (n := 2 + d) (by omega) ih hD ((f_X2rec_0 d σ x).symm.trans h)
    · intro σ x o h
      exact m_X2_both (n := 2 + d) (by omega) ih hD ((f_X2rec_1 d σ x).symm.trans h)
    · intro σ x o h
      exact m_X2_comparison (n := 2 + d) (by omega) ih hD ((f_X2rec_2 d σ x).symm.trans h)
    · intro σ x o h
      exact m_X2_added (n := 2 + d) (by omega) ih hD ((f_X2rec_3 d σ x).symm.trans h)
    · intro σ x o h
      exact m_X2_multiplied (n := 2 + d) (by omega) ih hD ((f_X2rec_4 d σ x).symm.trans h)
    · intro σ x o h
      exact m_X2_thing (n := 2 + d) (by omega) ih hD ((f_X2rec_5 d σ x).symm.trans h)
    · intro σ x o h
      exact m_X2_bareThing (n := 2 + d) (by omega) ih hD ((f_X2rec_6 d σ x).symm.trans h)
theorem m_X2_either_top (hD : ∀ σ, va_D A (cW a cy σ)) {σ : Zst} {p0 : Int32} {o : Zst × Int32} (h : f_X2rec zDp 0 σ p0 = some o) : zT l D zcl (zty cy) A ad (cW a cy) yX2_either cX2_either 4 (some .int) 202 [.ref (a 13), .int p0] σ o.1 (some (.int o.2)) := by
  have q := (mg_X2rec (l := l) (D := D) (ad := ad) hD zDp).1 _ _ _ h
  rw [zDp_eq] at q
  exact q
theorem m_X2_both_top (hD : ∀ σ, va_D A (cW a cy σ)) {σ : Zst} {p0 : Int32} {o : Zst × Int32} (h : f_X2rec zDp 1 σ p0 = some o) : zT l D zcl (zty cy) A ad (cW a cy) yX2_both cX2_both 4 (some .int) 202 [.ref (a 13), .int p0] σ o.1 (some (.int o.2)) := by
  have q := (mg_X2rec (l := l) (D := D) (ad := ad) hD zDp).2.1 _ _ _ h
  rw [zDp_eq] at q
  exact q
theorem m_X2_comparison_top (hD : ∀ σ, va_D A (cW a cy σ)) {σ : Zst} {p0 : Int32} {o : Zst × Int32} (h : f_X2rec zDp 2 σ p0 = some o) : zT l D zcl (zty cy) A ad (cW a cy) yX2_comparison cX2_comparison 6 (some .int) 202 [.ref (a 13), .int p0] σ o.1 (some (.int o.2)) := by
  have q := (mg_X2rec (l := l) (D := D) (ad := ad) hD zDp).2.2.1 _ _ _ h
  rw [zDp_eq] at q
  exact q
theorem m_X2_added_top (hD : ∀ σ, va_D A (cW a cy σ)) {σ : Zst} {p0 : Int32} {o : Zst × Int32} (h : f_X2rec zDp 3 σ p0 = some o) : zT l D zcl (zty cy) A ad (cW a cy) yX2_added cX2_added 5 (some .int) 202 [.ref (a 13), .int p0] σ o.1 (some (.int o.2)) := by
  have q := (mg_X2rec (l := l) (D := D) (ad := ad) hD zDp).2.2.2.1 _ _ _ h
  rw [zDp_eq] at q
  exact q
theorem m_X2_multiplied_top (hD : ∀ σ, va_D A (cW a cy σ)) {σ : Zst} {p0 : Int32} {o : Zst × Int32} (h : f_X2rec zDp 4 σ p0 = some o) : zT l D zcl (zty cy) A ad (cW a cy) yX2_multiplied cX2_multiplied 5 (some .int) 202 [.ref (a 13), .int p0] σ o.1 (some (.int o.2)) := by
  have q := (mg_X2rec (l := l) (D := D) (ad := ad) hD zDp).2.2.2.2.1 _ _ _ h
  rw [zDp_eq] at q
  exact q
theorem m_X2_thing_top (hD : ∀ σ, va_D A (cW a cy σ)) {σ : Zst} {p0 : Int32} {o : Zst × Int32} (h : f_X2rec zDp 5 σ p0 = some o) : zT l D zcl (zty cy) A ad (cW a cy) yX2_thing cX2_thing 6 (some .int) 202 [.ref (a 13), .int p0] σ o.1 (some (.int o.2)) := by
  have q := (mg_X2rec (l := l) (D := D) (ad := ad) hD zDp).2.2.2.2.2.1 _ _ _ h
  rw [zDp_eq] at q
  exact q
theorem m_X2_bareThing_top (hD : ∀ σ, va_D A (cW a cy σ)) {σ : Zst} {p0 : Int32} {o : Zst × Int32} (h : f_X2rec zDp 6 σ p0 = some o) : zT l D zcl (zty cy) A ad (cW a cy) yX2_bareThing cX2_bareThing 4 (some .int) 202 [.ref (a 13), .int p0] σ o.1 (some (.int o.2)) := by
  have q := (mg_X2rec (l := l) (D := D) (ad := ad) hD zDp).2.2.2.2.2.2 _ _ _ h
  rw [zDp_eq] at q
  exact q
theorem k_X2_either_top {n : Nat} (M : zM l D zcl (zty cy) A ad (zR n) (cW a cy) own cc nL rt σo ov G) {p0 : Int32} {o : (Zst × Int32)} (h : f_X2rec zDp 0 σ p0 = some o) {index : Nat} (hl : Cond.methodLink own index yX2_either ∈ uw) (hR : 203 ≤ n) (hW : (st.map fun v => v.category).sum ≤ 8) (d : decode cc pc = .ok (.invokevirtual index, 3)) (kk : G o.1 lv (pc + 3) (.int o.2 :: st)) : G σ lv pc (.int p0 :: .ref (a 13) :: st) := z_callV M [.int p0] (m_X2_either_top (zM_hD M) h) (hC13 σ) rfl hl u92 u791 u790 u4 hd_X2_either hR (by decide) rfl hW d kk
set_option maxHeartbeats 4000000 in
set_option maxRecDepth 100000 in
theorem m_X2_reckon (hD : ∀ σ, va_D A (cW a cy σ)) {σ : Zst} {p0 : Int32} {p1 : Int32} {o : (Zst × Int32)} (h : f_X2_reckon σ p0 p1 = some o) : zT l D zcl (zty cy) A ad (cW a cy) yX2_reckon cX2_reckon 3 (some .int) 203 [.ref (a 13), .int p0, .int p1] σ o.1 (some (.int o.2)) := by
  refine z_met pn_X2 hD (Nat.le_of_ble_eq_true rfl) rfl (fun G M => ?_)
  refine z_aload_n M dt_X2_reckon_0.1.1.1.1 rfl 0 rfl ?_
  refine z_iload_n M dt_X2_reckon_0.1.1.1.2 rfl 1 rfl ?_
  refine pf_X2_which M u186 dt_X2_reckon_0.1.1.2.1 ?_
  refine z_aload_n M dt_X2_reckon_0.1.1.2.2 rfl 0 rfl ?_
  refine z_iconst M dt_X2_reckon_0.1.2.1.1 ki_0 ?_
  refine pf_X2_at M u191 dt_X2_reckon_0.1.2.1.2 ?_
  refine z_aload_n M dt_X2_reckon_0.1.2.2.1 rfl 0 rfl ?_
  refine z_aload_n M dt_X2_reckon_0.1.2.2.2 rfl 0 rfl ?_
  refine z_iload_n M dt_X2_reckon_0.2.1.1.1 rfl 1 rfl ?_
  obtain ⟨t1, hc, h⟩ := gBd h
  refine ku_Laws_sizeOf_X1_sizeOf_L M hc u782 (Nat.le_of_ble_eq_true rfl) (Nat.le_of_ble_eq_true rfl) dt_X2_reckon_0.2.1.1.2 ?_
  refine pf_X2_till M u192 dt_X2_reckon_0.2.1.2.1 ?_
  refine z_aload_n M dt_X2_reckon_0.2.1.2.2 rfl 0 rfl ?_
  refine gf_X2_till (σ := (zI (zI (zI σ 3 p0) 8 (0 : Int32)) 9 t1)) M u192 dt_X2_reckon_0.2.2.1.1 (v := t1) rfl ?_
  refine z_if_ne (tgt := 30) M dt_X2_reckon_0.2.2.1.2 (by decide) (fun hc => ?_) (fun hc => ?_)
  · have h := gIf hc h
    refine z_aload_n M dt_X2_reckon_1.1.1 rfl 0 rfl ?_
    refine z_iconst M dt_X2_reckon_1.1.2 ki_0 ?_
    obtain ⟨t2, hc, h⟩ := gBd h
    refine k_X2_either_top M hc u788 (Nat.le_of_ble_eq_true rfl) (Nat.le_of_ble_eq_true rfl) dt_X2_reckon_1.2.1 ?_
    obtain rfl := Option.some.inj h
    exact z_iret M dt_X2_reckon_1.2.2
  · have h := gIt hc h
    refine z_iload_n M dt_X2_reckon_0.2.2.2.1 rfl 2 rfl ?_
    refine z_goto (tgt := 35) M dt_X2_reckon_0.2.2.2.2 (by decide) ?_
    obtain rfl := Option.some.inj h
    exact z_iret M dt_X2_reckon_1.2.2
theorem k_X2_reckon {n : Nat} (M : zM l D zcl (zty cy) A ad (zR n) (cW a cy) own cc nL rt σo ov G) {p0 : Int32} {p1 : Int32} {o : (Zst × Int32)} (h : f_X2_reckon σ p0 p1 = some o) {index : Nat} (hl : Cond.methodLink own index yX2_reckon ∈ uw) (hR : 204 ≤ n) (hW : (st.map fun v => v.category).sum ≤ 8) (d : decode cc pc = .ok (.invokevirtual index, 3)) (kk : G o.1 lv (pc + 3) (.int o.2 :: st)) : G σ lv pc (.int p1 :: .int p0 :: .ref (a 13) :: st) := z_callV M [.int p0, .int p1] (m_X2_reckon (zM_hD M) h) (hC13 σ) rfl hl u92 u781 u779 u780 hd_X2_reckon hR (by decide) rfl hW d kk
set_option maxHeartbeats 4000000 in
set_option maxRecDepth 100000 in
theorem m_X4_addToBag (hD : ∀ σ, va_D A (cW a cy σ)) {σ : Zst} {p0 : Int32} {p1 : Int32} {p2 : Int32} {o : Zst} (h : f_X4_addToBag σ p0 p1 p2 = some o) : zT l D zcl (zty cy) A ad (cW a cy) yX4_addToBag cX4_addToBag 5 none 3 [.ref (a 5), .int p0, .int p1, .int p2] σ o none := by
  refine z_met pn_X4 hD (Nat.le_of_ble_eq_true rfl) rfl (fun G M => ?_)
  refine z_iconst M dt_X4_addToBag_0.1.1.1.1 ki_0 ?_
  refine z_aload_n M dt_X4_addToBag_0.1.1.1.2 rfl 0 rfl ?_
  refine z_iconst M dt_X4_addToBag_0.1.1.2.1 ki_0 ?_
  refine z_iload_n M dt_X4_addToBag_0.1.1.2.2 rfl 1 rfl ?_
  refine z_iload_n M dt_X4_addToBag_0.1.2.1.1 rfl 2 rfl ?_
  obtain ⟨t1, hc, h⟩ := gBd h
  refine k_X4_of M hc u839 (Nat.le_of_ble_eq_true rfl) (Nat.le_of_ble_eq_true rfl) dt_X4_addToBag_0.1.2.1.2 ?_
  refine z_mmax M u840 u677 u100 u678 (Nat.le_of_ble_eq_true rfl) (Nat.le_of_ble_eq_true rfl) dt_X4_addToBag_0.1.2.2.1 ?_
  refine z_istore (lv' := [(4, .int (jMax (0 : Int32) t1)), (0, .ref (a 5)), (1, .int p0), (2, .int p1), (3, .int p2)]) M dt_X4_addToBag_0.1.2.2.2 (by decide) rfl ?_
  refine z_aload_n M dt_X4_addToBag_0.2.1.1.1 rfl 1 rfl ?_
  refine z_iconst M dt_X4_addToBag_0.2.1.1.2 ki_0 ?_
  refine z_iload_n M dt_X4_addToBag_0.2.1.2.1 rfl 2 rfl ?_
  refine z_iload_n M dt_X4_addToBag_0.2.1.2.2 rfl 3 rfl ?_
  refine z_sipush M dt_X4_addToBag_0.2.2.1.1 ks_999 ?_
  refine z_iload M dt_X4_addToBag_0.2.2.1.2 0 rfl ?_
  refine z_iload_n M dt_X4_addToBag_0.2.2.2.1 rfl 4 rfl ?_
  refine z_iadd M dt_X4_addToBag_0.2.2.2.2 ?_
  refine z_mmin M u841 u680 u100 u681 (Nat.le_of_ble_eq_true rfl) (Nat.le_of_ble_eq_true rfl) dt_X4_addToBag_1.1.1 ?_
  obtain ⟨t2, hc, h⟩ := gBd h
  refine k_X4_change M hc u842 (Nat.le_of_ble_eq_true rfl) (Nat.le_of_ble_eq_true rfl) dt_X4_addToBag_1.1.2 ?_
  obtain rfl := Option.some.inj h
  exact z_vret M dt_X4_addToBag_1.2
theorem k_X4_addToBag {n : Nat} (M : zM l D zcl (zty cy) A ad (zR n) (cW a cy) own cc nL rt σo ov G) {p0 : Int32} {p1 : Int32} {p2 : Int32} {o : Zst} (h : f_X4_addToBag σ p0 p1 p2 = some o) {index : Nat} (hl : Cond.methodLink own index yX4_addToBag ∈ uw) (hR : 4 ≤ n) (hW : (st.map fun v => v.category).sum ≤ 8) (d : decode cc pc = .ok (.invokevirtual index, 3)) (kk : G o lv (pc + 3) (st)) : G σ lv pc (.int p2 :: .int p1 :: .int p0 :: .ref (a 5) :: st) := z_callV M [.int p0, .int p1, .int p2] (m_X4_addToBag (zM_hD M) h) (hC5 σ) rfl hl u90 u838 u836 u837 hd_X4_addToBag hR (by decide) rfl hW d kk
set_option maxHeartbeats 4000000 in
set_option maxRecDepth 100000 in
theorem m_X10_throwAway (hD : ∀ σ, va_D A (cW a cy σ)) {σ : Zst} {p0 : Int32} {p1 : Int32} {p2 : Int32} {p3 : Int32} {o : (Zst × Int32)} (h : f_X10_throwAway σ p0 p1 p2 p3 = some o) : zT l D zcl (zty cy) A ad (cW a cy) yX10_throwAway cX10_throwAway 8 (some .int) 4 [.ref (a 17), .int p0, .int p1, .int p2, .int p3] σ o.1 (some (.int o.2)) := by
  refine z_met pn_X10 hD (Nat.le_of_ble_eq_true rfl) rfl (fun G M => ?_)
  refine z_aload_n M dt_X10_throwAway_0.1.1.1.1 rfl 0 rfl ?_
  refine z_iload_n M dt_X10_throwAway_0.1.1.1.2 rfl 3 rfl ?_
  refine k_X10_hasSort M u480 (Nat.le_of_ble_eq_true rfl) (Nat.le_of_ble_eq_true rfl) dt_X10_throwAway_0.1.1.2.1 ?_
  refine z_if_ne (tgt := 10) M dt_X10_throwAway_0.1.1.2.2 (by decide) (fun hc => ?_) (fun hc => ?_)
  · have h := gIf hc h
    refine z_iload M dt_X10_throwAway_0.1.2.2.1 4 rfl ?_
    refine z_aload_n M dt_X10_throwAway_0.1.2.2.2 rfl 0 rfl ?_
    refine gf_X10_corners M u231 dt_X10_throwAway_0.2.1.1.1 ?_
    refine z_iload_n M dt_X10_throwAway_0.2.1.1.2 rfl 3 rfl ?_
    have ⟨hg, h⟩ := gIx_s h
    refine al_C23 (σ := σ) M (f := (σ.2.1 15)) rfl hg dt_X10_throwAway_0.2.1.2.1 ?_
    refine z_imul M dt_X10_throwAway_0.2.1.2.2 ?_
    refine z_bipush M dt_X10_throwAway_0.2.2.1.1 kb_100 ?_
    refine z_idiv M dt_X10_throwAway_0.2.2.1.2 (by decide) ?_
    refine z_istore (lv' := [(5, .int ((p3 * ((σ.2.1 15) (Int32.toNatClampNeg p2))) / (100 : Int32))), (0, .ref (a 17)), (1, .int p0), (2, .int p1), (3, .int p2), (4, .int p3)]) M dt_X10_throwAway_0.2.2.2.1 (by decide) rfl ?_
    refine z_iload M dt_X10_throwAway_0.2.2.2.2 5 rfl ?_
    refine z_iload M dt_X10_throwAway_1.1.1.1.1 5 rfl ?_
    refine z_aload_n M dt_X10_throwAway_1.1.1.1.2 rfl 1 rfl ?_
    refine gf_X10_sinks M u229 dt_X10_throwAway_1.1.1.2.1 ?_
    refine z_iload_n M dt_X10_throwAway_1.1.1.2.2 rfl 4 rfl ?_
    have ⟨hg, h⟩ := gIx_s h
    refine al_C21 (σ := σ) M (f := (σ.2.1 13)) rfl hg dt_X10_throwAway_1.1.2.1.1 ?_
    refine z_imul M dt_X10_throwAway_1.1.2.1.2 ?_
    refine z_bipush M dt_X10_throwAway_1.1.2.2.1 kb_100 ?_
    refine z_idiv M dt_X10_throwAway_1.1.2.2.2 (by decide) ?_
    refine z_isub M dt_X10_throwAway_1.2.1.1.1 ?_
    refine z_iload M dt_X10_throwAway_1.2.1.1.2 5 rfl ?_
    refine z_aload_n M dt_X10_throwAway_1.2.1.2.1 rfl 1 rfl ?_
    refine gf_X10_backs M u230 dt_X10_throwAway_1.2.1.2.2 ?_
    refine z_iload_n M dt_X10_throwAway_1.2.2.1.1 rfl 4 rfl ?_
    have ⟨hg, h⟩ := gIx_s h
    refine al_C22 (σ := σ) M (f := (σ.2.1 14)) rfl hg dt_X10_throwAway_1.2.2.1.2 ?_
    refine z_imul M dt_X10_throwAway_1.2.2.2.1 ?_
    refine z_bipush M dt_X10_throwAway_1.2.2.2.2 kb_100 ?_
    refine z_idiv M dt_X10_throwAway_2.1.1.1.1 (by decide) ?_
    refine z_isub M dt_X10_throwAway_2.1.1.1.2 ?_
    refine z_iload M dt_X10_throwAway_2.1.1.2.1 0 rfl ?_
    refine z_isub M dt_X10_throwAway_2.1.1.2.2 ?_
    refine z_istore (lv' := [(6, .int (((p3 - ((p3 * ((σ.2.1 13) (Int32.toNatClampNeg p2))) / (100 : Int32))) - ((p3 * ((σ.2.1 14) (Int32.toNatClampNeg p2))) / (100 : Int32))) - ((p3 * ((σ.2.1 15) (Int32.toNatClampNeg p2))) / (100 : Int32)))), (5, .int ((p3 * ((σ.2.1 15) (Int32.toNatClampNeg p2))) / (100 : Int32))), (0, .ref (a 17)), (1, .int p0), (2, .int p1), (3, .int p2), (4, .int p3)]) M dt_X10_throwAway_2.1.2.1.1 (by decide) rfl ?_
    refine z_aload_n M dt_X10_throwAway_2.1.2.1.2 rfl 2 rfl ?_
    refine gf_X10_numbers M u224 dt_X10_throwAway_2.1.2.2.1 ?_
    refine z_bipush M dt_X10_throwAway_2.1.2.2.2 kb_12 ?_
    refine z_iload_n M dt_X10_throwAway_2.2.1.1.1 rfl 3 rfl ?_
    refine z_imul M dt_X10_throwAway_2.2.1.1.2 ?_
    refine z_iload_n M dt_X10_throwAway_2.2.1.2.1 rfl 4 rfl ?_
    refine z_iadd M dt_X10_throwAway_2.2.1.2.2 ?_
    refine z_iload_n M dt_X10_throwAway_2.2.2.1.1 rfl 5 rfl ?_
    refine z_iload M dt_X10_throwAway_2.2.2.1.2 0 rfl ?_
    obtain ⟨t1, hc, h⟩ := gBd h
    refine k_X4_addToBag M hc u835 (Nat.le_of_ble_eq_true rfl) (Nat.le_of_ble_eq_true rfl) dt_X10_throwAway_2.2.2.2.1 ?_
    refine z_iload M dt_X10_throwAway_2.2.2.2.2 1 rfl ?_
    refine z_if_le (tgt := 114) M dt_X10_throwAway_3.1.1.1.1 (by decide) (fun hc => ?_) (fun hc => ?_)
    · have h := gIt hc h
      refine z_iload M dt_X10_throwAway_4.2.2.1 0 rfl ?_
      obtain rfl := Option.some.inj h
      exact z_iret M dt_X10_throwAway_4.2.2.2
    · have h := gIf hc h
      refine z_aload_n M dt_X10_throwAway_3.1.1.1.2 rfl 2 rfl ?_
      refine z_iload_n M dt_X10_throwAway_3.1.1.2.1 rfl 3 rfl ?_
      refine z_iconst M dt_X10_throwAway_3.1.1.2.2 ki_1 ?_
      refine z_iadd M dt_X10_throwAway_3.1.2.1.1 ?_
      refine k_X10_hasStreet M u753 (Nat.le_of_ble_eq_true rfl) (Nat.le_of_ble_eq_true rfl) dt_X10_throwAway_3.1.2.1.2 ?_
      have hJ3 : G t1 [(6, .int (((p3 - ((p3 * ((σ.2.1 13) (Int32.toNatClampNeg p2))) / (100 : Int32))) - ((p3 * ((σ.2.1 14) (Int32.toNatClampNeg p2))) / (100 : Int32))) - ((p3 * ((σ.2.1 15) (Int32.toNatClampNeg p2))) / (100 : Int32)))), (5, .int ((p3 * ((σ.2.1 15) (Int32.toNatClampNeg p2))) / (100 : Int32))), (0, .ref (a 17)), (1, .int p0), (2, .int p1), (3, .int p2), (4, .int p3)] 95 [.int (if (f_X10_hasStreet t1 (p0 + (1 : Int32))) = (0 : Int32) then (0 : Int32) else (p0 + (1 : Int32)))] := by
        refine z_istore (lv' := [(7, .int (if (f_X10_hasStreet t1 (p0 + (1 : Int32))) = (0 : Int32) then (0 : Int32) else (p0 + (1 : Int32)))), (6, .int (((p3 - ((p3 * ((σ.2.1 13) (Int32.toNatClampNeg p2))) / (100 : Int32))) - ((p3 * ((σ.2.1 14) (Int32.toNatClampNeg p2))) / (100 : Int32))) - ((p3 * ((σ.2.1 15) (Int32.toNatClampNeg p2))) / (100 : Int32)))), (5, .int ((p3 * ((σ.2.1 15) (Int32.toNatClampNeg p2))) / (100 : Int32))), (0, .ref (a 17)), (1, .int p0), (2, .int p1), (3, .int p2), (4, .int p3)]) M dt_X10_throwAway_3.2.2.1.1 (by decide) rfl ?_
        refine z_aload_n M dt_X10_throwAway_3.2.2.1.2 rfl 3 rfl ?_
        refine gf_X10_numbers M u224 dt_X10_throwAway_3.2.2.2.1 ?_
        refine z_bipush M dt_X10_throwAway_3.2.2.2.2 kb_12 ?_
        refine z_iload M dt_X10_throwAway_4.1.1.1.1 0 rfl ?_
        refine z_imul M dt_X10_throwAway_4.1.1.1.2 ?_
        refine z_iload_n M dt_X10_throwAway_4.1.1.2 rfl 5 rfl ?_
        refine z_iadd M dt_X10_throwAway_4.1.2.1 ?_
        refine z_iload_n M dt_X10_throwAway_4.1.2.2 rfl 6 rfl ?_
        refine z_iload M dt_X10_throwAway_4.2.1.1 2 rfl ?_
        obtain ⟨t4, hc, h⟩ := gBd h
        refine k_X4_addToBag M hc u835 (Nat.le_of_ble_eq_true rfl) (Nat.le_of_ble_eq_true rfl) dt_X10_throwAway_4.2.1.2 ?_
        refine z_iload M dt_X10_throwAway_4.2.2.1 1 rfl ?_
        obtain rfl := Option.some.inj h
        exact z_iret M dt_X10_throwAway_4.2.2.2
      refine z_if_eq (tgt := 94) M dt_X10_throwAway_3.1.2.2.1 (by decide) (fun hc2 => ?_) (fun hc2 => ?_)
      · refine z_iconst M dt_X10_throwAway_3.2.1.2.2 ki_0 ?_
        exact (zTt hc2 hJ3)
      · refine z_iload_n M dt_X10_throwAway_3.1.2.2.2 rfl 3 rfl ?_
        refine z_iconst M dt_X10_throwAway_3.2.1.1.1 ki_1 ?_
        refine z_iadd M dt_X10_throwAway_3.2.1.1.2 ?_
        refine z_goto (tgt := 95) M dt_X10_throwAway_3.2.1.2.1 (by decide) ?_
        exact (zTf hc2 hJ3)
  · have h := gIt hc h
    refine z_iconst M dt_X10_throwAway_0.1.2.1.1 ki_0 ?_
    obtain rfl := Option.some.inj h
    exact z_iret M dt_X10_throwAway_0.1.2.1.2
theorem k_X10_throwAway {n : Nat} (M : zM l D zcl (zty cy) A ad (zR n) (cW a cy) own cc nL rt σo ov G) {p0 : Int32} {p1 : Int32} {p2 : Int32} {p3 : Int32} {o : (Zst × Int32)} (h : f_X10_throwAway σ p0 p1 p2 p3 = some o) {index : Nat} (hl : Cond.methodLink own index yX10_throwAway ∈ uw) (hR : 5 ≤ n) (hW : (st.map fun v => v.category).sum ≤ 8) (d : decode cc pc = .ok (.invokevirtual index, 3)) (kk : G o.1 lv (pc + 3) (.int o.2 :: st)) : G σ lv pc (.int p3 :: .int p2 :: .int p1 :: .int p0 :: .ref (a 17) :: st) := z_callV M [.int p0, .int p1, .int p2, .int p3] (m_X10_throwAway (zM_hD M) h) (hC17 σ) rfl hl u93 u834 u833 u12 hd_X10_throwAway hR (by decide) rfl hW d kk
set_option maxHeartbeats 4000000 in
set_option maxRecDepth 100000 in
theorem wL_X10_liveSort_162 {o : (Zst × Int32)} (M : zM l D zcl (zty cy) A ad (zR 204) (cW a cy) RX10 cX10_liveSort 10 (some .int) o.1 (some (.int o.2)) G) {k212 : Zst → Option (Zst × Int32)}  (v1 : Int32) (v2 : Int32) (v3 : Int32) (v5 : Int32) (v6 : Int32) (v7 : Int32) (Hk212 : ∀ (σ : Zst), k212 σ = some o → G σ [(0, .ref (a 17)), (1, .int v1), (2, .int v2), (3, .int v3), (6, .int v6)] 212 []) :
    ∀ (n162 : Nat) (σ : Zst) (v8 : Int32), L_X10_liveSort_162 k212 v1 v2 v3 v5 v6 v7 n162 σ v8 = some o → G σ [(0, .ref (a 17)), (1, .int v1), (2, .int v2), (3, .int v3), (5, .int v5), (6, .int v6), (7, .int v7), (8, .int v8)] 162 [] := by
  intro n162
  induction n162 with
  | zero => intro σ v8 h; exact nomatch (show (none : Option (Zst × Int32)) = some _ from h)
  | succ n162 ih =>
    intro σ v8 h
    refine z_iload M dt_X10_liveSort_5.1.2.2.1 7 rfl ?_
    refine z_iconst M dt_X10_liveSort_5.1.2.2.2 ki_4 ?_
    refine z_icmp_ge (tgt := 212) M dt_X10_liveSort_5.2.1.1.1 (by decide) (fun hc => ?_) (fun hc => ?_)
    · have h := gIt hc h
      refine z_sub M [0, 1, 2, 3, 5] (lv' := [(0, .ref (a 17)), (1, .int v1), (2, .int v2), (3, .int v3), (6, .int v6)]) rfl ?_
      exact Hk212 σ h
    · have h := gIf hc h
      refine z_aload_n M dt_X10_liveSort_5.2.1.1.2 rfl 0 rfl ?_
      refine gf_X10_laws M u225 dt_X10_liveSort_5.2.1.2.1 ?_
      refine z_iconst M dt_X10_liveSort_5.2.1.2.2 ki_2 ?_
      refine z_iload M dt_X10_liveSort_5.2.2.1.1 7 rfl ?_
      refine z_iadd M dt_X10_liveSort_5.2.2.1.2 ?_
      refine z_iload M dt_X10_liveSort_5.2.2.2.1 4 rfl ?_
      obtain ⟨t1, hc, h⟩ := gBd h
      refine k_X2_reckon M hc u778 (Nat.le_of_ble_eq_true rfl) (Nat.le_of_ble_eq_true rfl) dt_X10_liveSort_5.2.2.2.2 ?_
      refine z_istore (lv' := [(9, .int t1.2), (0, .ref (a 17)), (1, .int v1), (2, .int v2), (3, .int v3), (5, .int v5), (6, .int v6), (7, .int v7), (8, .int v8)]) M dt_X10_liveSort_6.1.1.1.1 (by decide) rfl ?_
      refine z_aload_n M dt_X10_liveSort_6.1.1.1.2 rfl 1 rfl ?_
      refine gf_X10_numbers M u224 dt_X10_liveSort_6.1.1.2.1 ?_
      refine z_iconst M dt_X10_liveSort_6.1.1.2.2 ki_2 ?_
      refine z_iload M dt_X10_liveSort_6.1.2.1.1 8 rfl ?_
      refine z_iadd M dt_X10_liveSort_6.1.2.1.2 ?_
      refine z_iload M dt_X10_liveSort_6.1.2.2.1 7 rfl ?_
      refine z_iload_n M dt_X10_liveSort_6.1.2.2.2 rfl 4 rfl ?_
      refine z_iload M dt_X10_liveSort_6.2.1.1.1 0 rfl ?_
      refine z_iconst M dt_X10_liveSort_6.2.1.1.2 ki_0 ?_
      refine z_sipush M dt_X10_liveSort_6.2.1.2.1 ks_999 ?_
      refine kn_X11_within M u549 (Nat.le_of_ble_eq_true rfl) (Nat.le_of_ble_eq_true rfl) dt_X10_liveSort_6.2.1.2.2 ?_
      obtain ⟨t2, hc, h⟩ := gBd h
      refine k_X4_change M hc u552 (Nat.le_of_ble_eq_true rfl) (Nat.le_of_ble_eq_true rfl) dt_X10_liveSort_6.2.2.1.1 ?_
      refine z_iinc (v := (v8 + (1 : Int32))) (lv' := [(8, .int (v8 + (1 : Int32))), (9, .int t1.2), (0, .ref (a 17)), (1, .int v1), (2, .int v2), (3, .int v3), (5, .int v5), (6, .int v6), (7, .int v7)]) M dt_X10_liveSort_6.2.2.1.2 (k := 8) rfl (congrArg (fun q => v8 + q) ki_1) (by decide) rfl ?_
      refine z_goto (tgt := 162) M dt_X10_liveSort_6.2.2.2.1 (by decide) ?_
      refine z_sub M [2, 3, 4, 5, 6, 7, 8, 0] (lv' := [(0, .ref (a 17)), (1, .int v1), (2, .int v2), (3, .int v3), (5, .int v5), (6, .int v6), (7, .int v7), (8, .int (v8 + (1 : Int32)))]) rfl ?_
      exact ih t2 (v8 + (1 : Int32)) h
set_option maxHeartbeats 4000000 in
set_option maxRecDepth 100000 in
theorem wJ_X10_liveSort_212 {o : (Zst × Int32)} (M : zM l D zcl (zty cy) A ad (zR 204) (cW a cy) RX10 cX10_liveSort 10 (some .int) o.1 (some (.int o.2)) G) (σ : Zst) (v1 : Int32) (v2 : Int32) (v3 : Int32) (v6 : Int32)  (h : J_X10_liveSort_212 σ v1 v2 v3 v6 = some o) : G σ [(0, .ref (a 17)), (1, .int v1), (2, .int v2), (3, .int v3), (6, .int v6)] 212 [] := by
  refine z_aload_n M dt_X10_liveSort_6.2.2.2.2 rfl 0 rfl ?_
  refine z_iload_n M dt_X10_liveSort_7.1.1.1 rfl 1 rfl ?_
  refine z_iload_n M dt_X10_liveSort_7.1.1.2 rfl 2 rfl ?_
  refine z_iload_n M dt_X10_liveSort_7.1.2 rfl 3 rfl ?_
  refine z_iload M dt_X10_liveSort_7.2.1.1 4 rfl ?_
  obtain ⟨t3, hc, h⟩ := gBd h
  refine k_X10_throwAway M hc u831 (Nat.le_of_ble_eq_true rfl) (Nat.le_of_ble_eq_true rfl) dt_X10_liveSort_7.2.1.2 ?_
  obtain rfl := Option.some.inj h
  exact z_iret M dt_X10_liveSort_7.2.2
set_option maxHeartbeats 4000000 in
set_option maxRecDepth 100000 in
theorem m_X10_liveSort (hD : ∀ σ, va_D A (cW a cy σ)) {σ : Zst} {p0 : Int32} {p1 : Int32} {p2 : Int32} {o : (Zst × Int32)} (h : f_X10_liveSort σ p0 p1 p2 = some o) : zT l D zcl (zty cy) A ad (cW a cy) yX10_liveSort cX10_liveSort 10 (some .int) 204 [.ref (a 17), .int p0, .int p1, .int p2] σ o.1 (some (.int o.2)) := by
  refine z_met pn_X10 hD (Nat.le_of_ble_eq_true rfl) rfl (fun G M => ?_)
  refine z_aload_n M dt_X10_liveSort_0.1.1.1.1 rfl 0 rfl ?_
  refine gf_X10_laws M u225 dt_X10_liveSort_0.1.1.1.2 ?_
  refine z_bipush M dt_X10_liveSort_0.1.1.2.1 kb_107 ?_
  refine z_iload_n M dt_X10_liveSort_0.1.1.2.2 rfl 3 rfl ?_
  obtain ⟨t4, hc, h⟩ := gBd h
  refine k_X2_let M hc u757 (Nat.le_of_ble_eq_true rfl) (Nat.le_of_ble_eq_true rfl) dt_X10_liveSort_0.1.2.1.1 ?_
  refine z_aload_n M dt_X10_liveSort_0.1.2.1.2 rfl 0 rfl ?_
  refine gf_X10_laws M u225 dt_X10_liveSort_0.1.2.2.1 ?_
  refine z_bipush M dt_X10_liveSort_0.1.2.2.2 kb_114 ?_
  refine z_aload_n M dt_X10_liveSort_0.2.1.1.1 rfl 0 rfl ?_
  refine z_iload_n M dt_X10_liveSort_0.2.1.1.2 rfl 3 rfl ?_
  obtain ⟨t5, hc, h⟩ := gBd h
  refine k_X10_rightOf M hc u765 (Nat.le_of_ble_eq_true rfl) (Nat.le_of_ble_eq_true rfl) dt_X10_liveSort_0.2.1.2.1 ?_
  obtain ⟨t6, hc, h⟩ := gBd h
  refine k_X2_let M hc u757 (Nat.le_of_ble_eq_true rfl) (Nat.le_of_ble_eq_true rfl) dt_X10_liveSort_0.2.1.2.2 ?_
  refine z_aload_n M dt_X10_liveSort_0.2.2.1.1 rfl 0 rfl ?_
  refine gf_X10_laws M u225 dt_X10_liveSort_0.2.2.1.2 ?_
  refine z_bipush M dt_X10_liveSort_0.2.2.2.1 kb_108 ?_
  refine z_aload_n M dt_X10_liveSort_0.2.2.2.2 rfl 0 rfl ?_
  refine z_iload_n M dt_X10_liveSort_1.1.1.1.1 rfl 3 rfl ?_
  obtain ⟨t7, hc, h⟩ := gBd h
  refine k_X10_leavesOf M hc u769 (Nat.le_of_ble_eq_true rfl) (Nat.le_of_ble_eq_true rfl) dt_X10_liveSort_1.1.1.1.2 ?_
  obtain ⟨t8, hc, h⟩ := gBd h
  refine k_X2_let M hc u757 (Nat.le_of_ble_eq_true rfl) (Nat.le_of_ble_eq_true rfl) dt_X10_liveSort_1.1.1.2.1 ?_
  refine z_aload_n M dt_X10_liveSort_1.1.1.2.2 rfl 0 rfl ?_
  refine gf_X10_laws M u225 dt_X10_liveSort_1.1.2.1.1 ?_
  refine z_bipush M dt_X10_liveSort_1.1.2.1.2 kb_113 ?_
  refine z_aload_n M dt_X10_liveSort_1.1.2.2.1 rfl 0 rfl ?_
  refine z_iload_n M dt_X10_liveSort_1.1.2.2.2 rfl 3 rfl ?_
  refine z_iload_n M dt_X10_liveSort_1.2.1.1.1 rfl 2 rfl ?_
  obtain ⟨t9, hc, h⟩ := gBd h
  refine k_X10_isLack M hc u773 (Nat.le_of_ble_eq_true rfl) (Nat.le_of_ble_eq_true rfl) dt_X10_liveSort_1.2.1.1.2 ?_
  have hJ11 : G t8 [(0, .ref (a 17)), (1, .int p0), (2, .int p1), (3, .int p2)] 58 [.int (if t9 = (0 : Int32) then (0 : Int32) else (1 : Int32)), .int (113 : Int32), .ref (a 13)] := by
    obtain ⟨t12, hc, h⟩ := gBd h
    refine k_X2_let M hc u757 (Nat.le_of_ble_eq_true rfl) (Nat.le_of_ble_eq_true rfl) dt_X10_liveSort_1.2.2.2.1 ?_
    refine z_aload_n M dt_X10_liveSort_1.2.2.2.2 rfl 0 rfl ?_
    refine gf_X10_laws M u225 dt_X10_liveSort_2.1.1.1.1 ?_
    refine z_iconst M dt_X10_liveSort_2.1.1.1.2 ki_0 ?_
    refine z_iconst M dt_X10_liveSort_2.1.1.2.1 ki_0 ?_
    obtain ⟨t13, hc, h⟩ := gBd h
    refine k_X2_reckon M hc u778 (Nat.le_of_ble_eq_true rfl) (Nat.le_of_ble_eq_true rfl) dt_X10_liveSort_2.1.1.2.2 ?_
    refine z_iconst M dt_X10_liveSort_2.1.2.1.1 ki_0 ?_
    refine z_sipush M dt_X10_liveSort_2.1.2.1.2 ks_999 ?_
    refine kn_X11_within M u549 (Nat.le_of_ble_eq_true rfl) (Nat.le_of_ble_eq_true rfl) dt_X10_liveSort_2.1.2.2.1 ?_
    refine z_istore (lv' := [(4, .int (f_X11_within t13.2 (0 : Int32) (999 : Int32))), (0, .ref (a 17)), (1, .int p0), (2, .int p1), (3, .int p2)]) M dt_X10_liveSort_2.1.2.2.2 (by decide) rfl ?_
    refine z_aload_n M dt_X10_liveSort_2.2.1.1.1 rfl 1 rfl ?_
    refine gf_X10_laws M u225 dt_X10_liveSort_2.2.1.1.2 ?_
    refine z_bipush M dt_X10_liveSort_2.2.1.2.1 kb_98 ?_
    refine z_iload M dt_X10_liveSort_2.2.1.2.2 0 rfl ?_
    obtain ⟨t14, hc, h⟩ := gBd h
    refine k_X2_let M hc u757 (Nat.le_of_ble_eq_true rfl) (Nat.le_of_ble_eq_true rfl) dt_X10_liveSort_2.2.2.1.1 ?_
    refine z_aload_n M dt_X10_liveSort_2.2.2.1.2 rfl 1 rfl ?_
    refine gf_X10_laws M u225 dt_X10_liveSort_2.2.2.2.1 ?_
    refine z_iconst M dt_X10_liveSort_2.2.2.2.2 ki_1 ?_
    refine z_iload M dt_X10_liveSort_3.1.1.1.1 0 rfl ?_
    obtain ⟨t15, hc, h⟩ := gBd h
    refine k_X2_reckon M hc u778 (Nat.le_of_ble_eq_true rfl) (Nat.le_of_ble_eq_true rfl) dt_X10_liveSort_3.1.1.1.2 ?_
    refine z_iconst M dt_X10_liveSort_3.1.1.2.1 ki_0 ?_
    refine z_iload M dt_X10_liveSort_3.1.1.2.2 0 rfl ?_
    refine kn_X11_within M u549 (Nat.le_of_ble_eq_true rfl) (Nat.le_of_ble_eq_true rfl) dt_X10_liveSort_3.1.2.1.1 ?_
    refine z_istore (lv' := [(5, .int (f_X11_within t15.2 (0 : Int32) (f_X11_within t13.2 (0 : Int32) (999 : Int32)))), (4, .int (f_X11_within t13.2 (0 : Int32) (999 : Int32))), (0, .ref (a 17)), (1, .int p0), (2, .int p1), (3, .int p2)]) M dt_X10_liveSort_3.1.2.1.2 (by decide) rfl ?_
    refine z_aload_n M dt_X10_liveSort_3.1.2.2.1 rfl 2 rfl ?_
    refine gf_X10_laws M u225 dt_X10_liveSort_3.1.2.2.2 ?_
    refine z_bipush M dt_X10_liveSort_3.2.1.1.1 kb_101 ?_
    refine z_iload M dt_X10_liveSort_3.2.1.1.2 0 rfl ?_
    obtain ⟨t16, hc, h⟩ := gBd h
    refine k_X2_let M hc u757 (Nat.le_of_ble_eq_true rfl) (Nat.le_of_ble_eq_true rfl) dt_X10_liveSort_3.2.1.2.1 ?_
    refine z_iload M dt_X10_liveSort_3.2.1.2.2 0 rfl ?_
    refine z_aload_n M dt_X10_liveSort_3.2.2.1.1 rfl 2 rfl ?_
    refine z_iload_n M dt_X10_liveSort_3.2.2.1.2 rfl 5 rfl ?_
    obtain ⟨t17, hc, h⟩ := gBd h
    refine k_X10_leavesOf M hc u769 (Nat.le_of_ble_eq_true rfl) (Nat.le_of_ble_eq_true rfl) dt_X10_liveSort_3.2.2.2.1 ?_
    refine z_imul M dt_X10_liveSort_3.2.2.2.2 ?_
    refine z_bipush M dt_X10_liveSort_4.1.1.1.1 kb_100 ?_
    refine z_idiv M dt_X10_liveSort_4.1.1.1.2 (by decide) ?_
    refine z_iload M dt_X10_liveSort_4.1.1.2.1 1 rfl ?_
    refine z_iadd M dt_X10_liveSort_4.1.1.2.2 ?_
    refine z_iload M dt_X10_liveSort_4.1.2.1.1 0 rfl ?_
    refine z_isub M dt_X10_liveSort_4.1.2.1.2 ?_
    refine z_istore (lv' := [(6, .int (((((f_X11_within t15.2 (0 : Int32) (f_X11_within t13.2 (0 : Int32) (999 : Int32))) * t17) / (100 : Int32)) + (f_X11_within t13.2 (0 : Int32) (999 : Int32))) - (f_X11_within t15.2 (0 : Int32) (f_X11_within t13.2 (0 : Int32) (999 : Int32))))), (5, .int (f_X11_within t15.2 (0 : Int32) (f_X11_within t13.2 (0 : Int32) (999 : Int32)))), (4, .int (f_X11_within t13.2 (0 : Int32) (999 : Int32))), (0, .ref (a 17)), (1, .int p0), (2, .int p1), (3, .int p2)]) M dt_X10_liveSort_4.1.2.2.1 (by decide) rfl ?_
    refine z_bipush M dt_X10_liveSort_4.1.2.2.2 kb_12 ?_
    refine z_iload_n M dt_X10_liveSort_4.2.1.1.1 rfl 4 rfl ?_
    refine z_imul M dt_X10_liveSort_4.2.1.1.2 ?_
    refine z_iload_n M dt_X10_liveSort_4.2.1.2.1 rfl 5 rfl ?_
    refine z_iadd M dt_X10_liveSort_4.2.1.2.2 ?_
    refine z_istore (lv' := [(7, .int (((12 : Int32) * p0) + p1)), (6, .int (((((f_X11_within t15.2 (0 : Int32) (f_X11_within t13.2 (0 : Int32) (999 : Int32))) * t17) / (100 : Int32)) + (f_X11_within t13.2 (0 : Int32) (999 : Int32))) - (f_X11_within t15.2 (0 : Int32) (f_X11_within t13.2 (0 : Int32) (999 : Int32))))), (5, .int (f_X11_within t15.2 (0 : Int32) (f_X11_within t13.2 (0 : Int32) (999 : Int32)))), (4, .int (f_X11_within t13.2 (0 : Int32) (999 : Int32))), (0, .ref (a 17)), (1, .int p0), (2, .int p1), (3, .int p2)]) M dt_X10_liveSort_4.2.2.1.1 (by decide) rfl ?_
    refine z_aload_n M dt_X10_liveSort_4.2.2.1.2 rfl 4 rfl ?_
    refine gf_X10_numbers M u224 dt_X10_liveSort_4.2.2.2.1 ?_
    refine z_iconst M dt_X10_liveSort_4.2.2.2.2 ki_1 ?_
    refine z_iload M dt_X10_liveSort_5.1.1.1.1 0 rfl ?_
    refine z_iload_n M dt_X10_liveSort_5.1.1.1.2 rfl 7 rfl ?_
    refine z_iload M dt_X10_liveSort_5.1.1.2.1 3 rfl ?_
    obtain ⟨t18, hc, h⟩ := gBd h
    refine k_X4_change M hc u552 (Nat.le_of_ble_eq_true rfl) (Nat.le_of_ble_eq_true rfl) dt_X10_liveSort_5.1.1.2.2 ?_
    refine z_iconst M dt_X10_liveSort_5.1.2.1.1 ki_0 ?_
    refine z_istore (lv' := [(8, .int (0 : Int32)), (7, .int (((12 : Int32) * p0) + p1)), (6, .int (((((f_X11_within t15.2 (0 : Int32) (f_X11_within t13.2 (0 : Int32) (999 : Int32))) * t17) / (100 : Int32)) + (f_X11_within t13.2 (0 : Int32) (999 : Int32))) - (f_X11_within t15.2 (0 : Int32) (f_X11_within t13.2 (0 : Int32) (999 : Int32))))), (5, .int (f_X11_within t15.2 (0 : Int32) (f_X11_within t13.2 (0 : Int32) (999 : Int32)))), (4, .int (f_X11_within t13.2 (0 : Int32) (999 : Int32))), (0, .ref (a 17)), (1, .int p0), (2, .int p1), (3, .int p2)]) M dt_X10_liveSort_5.1.2.1.2 (by decide) rfl ?_
    refine z_sub M [5, 6, 7, 8, 3, 2, 1, 0] (lv' := [(0, .ref (a 17)), (1, .int p0), (2, .int p1), (3, .int p2), (5, .int (f_X11_within t15.2 (0 : Int32) (f_X11_within t13.2 (0 : Int32) (999 : Int32)))), (6, .int (((((f_X11_within t15.2 (0 : Int32) (f_X11_within t13.2 (0 : Int32) (999 : Int32))) * t17) / (100 : Int32)) + (f_X11_within t13.2 (0 : Int32) (999 : Int32))) - (f_X11_within t15.2 (0 : Int32) (f_X11_within t13.2 (0 : Int32) (999 : Int32))))), (7, .int (((12 : Int32) * p0) + p1)), (8, .int (0 : Int32))]) rfl ?_
    exact wL_X10_liveSort_162 M (k212 := (fun σ19 => J_X10_liveSort_212 σ19 p0 p1 p2 (((((f_X11_within t15.2 (0 : Int32) (f_X11_within t13.2 (0 : Int32) (999 : Int32))) * t17) / (100 : Int32)) + (f_X11_within t13.2 (0 : Int32) (999 : Int32))) - (f_X11_within t15.2 (0 : Int32) (f_X11_within t13.2 (0 : Int32) (999 : Int32)))))) p0 p1 p2 (f_X11_within t15.2 (0 : Int32) (f_X11_within t13.2 (0 : Int32) (999 : Int32))) (((((f_X11_within t15.2 (0 : Int32) (f_X11_within t13.2 (0 : Int32) (999 : Int32))) * t17) / (100 : Int32)) + (f_X11_within t13.2 (0 : Int32) (999 : Int32))) - (f_X11_within t15.2 (0 : Int32) (f_X11_within t13.2 (0 : Int32) (999 : Int32)))) (((12 : Int32) * p0) + p1) (fun σ19 h => by
        exact wJ_X10_liveSort_212 M  σ19 p0 p1 p2 (((((f_X11_within t15.2 (0 : Int32) (f_X11_within t13.2 (0 : Int32) (999 : Int32))) * t17) / (100 : Int32)) + (f_X11_within t13.2 (0 : Int32) (999 : Int32))) - (f_X11_within t15.2 (0 : Int32) (f_X11_within t13.2 (0 : Int32) (999 : Int32)))) h) zFu t18 (0 : Int32) h
  refine z_if_eq (tgt := 57) M dt_X10_liveSort_1.2.1.2.1 (by decide) (fun hc10 => ?_) (fun hc10 => ?_)
  · refine z_iconst M dt_X10_liveSort_1.2.2.1.2 ki_0 ?_
    exact (zTt hc10 hJ11)
  · refine z_iconst M dt_X10_liveSort_1.2.1.2.2 ki_1 ?_
    refine z_goto (tgt := 58) M dt_X10_liveSort_1.2.2.1.1 (by decide) ?_
    exact (zTf hc10 hJ11)
theorem k_X10_liveSort {n : Nat} (M : zM l D zcl (zty cy) A ad (zR n) (cW a cy) own cc nL rt σo ov G) {p0 : Int32} {p1 : Int32} {p2 : Int32} {o : (Zst × Int32)} (h : f_X10_liveSort σ p0 p1 p2 = some o) {index : Nat} (hl : Cond.methodLink own index yX10_liveSort ∈ uw) (hR : 205 ≤ n) (hW : (st.map fun v => v.category).sum ≤ 8) (d : decode cc pc = .ok (.invokevirtual index, 3)) (kk : G o.1 lv (pc + 3) (.int o.2 :: st)) : G σ lv pc (.int p2 :: .int p1 :: .int p0 :: .ref (a 17) :: st) := z_callV M [.int p0, .int p1, .int p2] (m_X10_liveSort (zM_hD M) h) (hC17 σ) rfl hl u93 u764 u763 u3 hd_X10_liveSort hR (by decide) rfl hW d kk
set_option maxHeartbeats 4000000 in
set_option maxRecDepth 100000 in
theorem wL_X10_liveWeek_57 {o : (Zst × Int32)} (M : zM l D zcl (zty cy) A ad (zR 205) (cW a cy) RX10 cX10_liveWeek 5 (some .int) o.1 (some (.int o.2)) G)  (v1 : Int32) (v2 : Int32)  :
    ∀ (n57 : Nat) (σ : Zst) (v3 : Int32) (v4 : Int32), L_X10_liveWeek_57 v1 v2 n57 σ v3 v4 = some o → G σ [(0, .ref (a 17)), (1, .int v1), (2, .int v2), (3, .int v3), (4, .int v4)] 57 [] := by
  intro n57
  induction n57 with
  | zero => intro σ v3 v4 h; exact nomatch (show (none : Option (Zst × Int32)) = some _ from h)
  | succ n57 ih =>
    intro σ v3 v4 h
    refine z_iload M dt_X10_liveWeek_1.2.2.2.2 4 rfl ?_
    refine z_aload_n M dt_X10_liveWeek_2.1.1.1.1 rfl 0 rfl ?_
    refine gf_X10_sorts (σ := σ) M u235 dt_X10_liveWeek_2.1.1.1.2 (v := (σ.1 10)) rfl ?_
    refine z_icmp_ge (tgt := 83) M dt_X10_liveWeek_2.1.1.2.1 (by decide) (fun hc => ?_) (fun hc => ?_)
    · have h := gIt hc h
      refine z_iload_n M dt_X10_liveWeek_2.2.2.1.2 rfl 3 rfl ?_
      obtain rfl := Option.some.inj h
      exact z_iret M dt_X10_liveWeek_2.2.2.2
    · have h := gIf hc h
      refine z_iload_n M dt_X10_liveWeek_2.1.1.2.2 rfl 3 rfl ?_
      refine z_aload_n M dt_X10_liveWeek_2.1.2.1.1 rfl 0 rfl ?_
      refine z_iload_n M dt_X10_liveWeek_2.1.2.1.2 rfl 1 rfl ?_
      refine z_iload_n M dt_X10_liveWeek_2.1.2.2.1 rfl 2 rfl ?_
      refine z_iload M dt_X10_liveWeek_2.1.2.2.2 4 rfl ?_
      obtain ⟨t1, hc, h⟩ := gBd h
      refine k_X10_liveSort M hc u761 (Nat.le_of_ble_eq_true rfl) (Nat.le_of_ble_eq_true rfl) dt_X10_liveWeek_2.2.1.1.1 ?_
      refine z_iadd M dt_X10_liveWeek_2.2.1.1.2 ?_
      refine z_istore_n (lv' := [(3, .int (v3 + t1.2)), (0, .ref (a 17)), (1, .int v1), (2, .int v2), (4, .int v4)]) M dt_X10_liveWeek_2.2.1.2.1 rfl (by decide) rfl ?_
      refine z_iinc (v := (v4 + (1 : Int32))) (lv' := [(4, .int (v4 + (1 : Int32))), (3, .int (v3 + t1.2)), (0, .ref (a 17)), (1, .int v1), (2, .int v2)]) M dt_X10_liveWeek_2.2.1.2.2 (k := 4) rfl (congrArg (fun q => v4 + q) ki_1) (by decide) rfl ?_
      refine z_goto (tgt := 57) M dt_X10_liveWeek_2.2.2.1.1 (by decide) ?_
      refine z_sub M [2, 3, 4, 1, 0] (lv' := [(0, .ref (a 17)), (1, .int v1), (2, .int v2), (3, .int (v3 + t1.2)), (4, .int (v4 + (1 : Int32)))]) rfl ?_
      exact ih t1.1 (v3 + t1.2) (v4 + (1 : Int32)) h
set_option maxHeartbeats 4000000 in
set_option maxRecDepth 100000 in
theorem m_X10_liveWeek (hD : ∀ σ, va_D A (cW a cy σ)) {σ : Zst} {p0 : Int32} {p1 : Int32} {o : (Zst × Int32)} (h : f_X10_liveWeek σ p0 p1 = some o) : zT l D zcl (zty cy) A ad (cW a cy) yX10_liveWeek cX10_liveWeek 5 (some .int) 205 [.ref (a 17), .int p0, .int p1] σ o.1 (some (.int o.2)) := by
  refine z_met pn_X10 hD (Nat.le_of_ble_eq_true rfl) rfl (fun G M => ?_)
  refine z_aload_n M dt_X10_liveWeek_0.1.1.1.1 rfl 0 rfl ?_
  refine z_iload_n M dt_X10_liveWeek_0.1.1.1.2 rfl 1 rfl ?_
  refine k_X10_hasStreet M u753 (Nat.le_of_ble_eq_true rfl) (Nat.le_of_ble_eq_true rfl) dt_X10_liveWeek_0.1.1.2.1 ?_
  refine z_if_eq (tgt := 15) M dt_X10_liveWeek_0.1.1.2.2 (by decide) (fun hc => ?_) (fun hc => ?_)
  · have h := gIt hc h
    refine z_iconst M dt_X10_liveWeek_0.1.2.2.2 ki_m1 ?_
    obtain rfl := Option.some.inj h
    exact z_iret M dt_X10_liveWeek_0.2.1.1.1
  · have h := gIf hc h
    refine z_iload_n M dt_X10_liveWeek_0.1.2.1.1 rfl 2 rfl ?_
    refine kn_X11_isWeek M u500 (Nat.le_of_ble_eq_true rfl) (Nat.le_of_ble_eq_true rfl) dt_X10_liveWeek_0.1.2.1.2 ?_
    refine z_if_ne (tgt := 17) M dt_X10_liveWeek_0.1.2.2.1 (by decide) (fun hc => ?_) (fun hc => ?_)
    · have h := gIf hc h
      refine z_aload_n M dt_X10_liveWeek_0.2.1.1.2 rfl 0 rfl ?_
      refine gf_X10_laws M u225 dt_X10_liveWeek_0.2.1.2.1 ?_
      refine z_bipush M dt_X10_liveWeek_0.2.1.2.2 kb_104 ?_
      refine z_aload_n M dt_X10_liveWeek_0.2.2.1.1 rfl 0 rfl ?_
      refine gf_X10_houses M u233 dt_X10_liveWeek_0.2.2.1.2 ?_
      refine z_iload_n M dt_X10_liveWeek_0.2.2.2.1 rfl 1 rfl ?_
      have ⟨hg, h⟩ := gIx_s h
      refine al_C25 (σ := σ) M (f := (σ.2.1 17)) rfl hg dt_X10_liveWeek_0.2.2.2.2 ?_
      obtain ⟨t2, hc, h⟩ := gBd h
      refine k_X2_let M hc u757 (Nat.le_of_ble_eq_true rfl) (Nat.le_of_ble_eq_true rfl) dt_X10_liveWeek_1.1.1.1.1 ?_
      refine z_aload_n M dt_X10_liveWeek_1.1.1.1.2 rfl 0 rfl ?_
      refine gf_X10_laws M u225 dt_X10_liveWeek_1.1.1.2.1 ?_
      refine z_bipush M dt_X10_liveWeek_1.1.1.2.2 kb_116 ?_
      refine z_iload_n M dt_X10_liveWeek_1.1.2.1.1 rfl 1 rfl ?_
      obtain ⟨t3, hc, h⟩ := gBd h
      refine k_X2_let M hc u757 (Nat.le_of_ble_eq_true rfl) (Nat.le_of_ble_eq_true rfl) dt_X10_liveWeek_1.1.2.1.2 ?_
      refine z_aload_n M dt_X10_liveWeek_1.1.2.2.1 rfl 0 rfl ?_
      refine gf_X10_laws M u225 dt_X10_liveWeek_1.1.2.2.2 ?_
      refine z_bipush M dt_X10_liveWeek_1.2.1.1.1 kb_119 ?_
      refine z_iload_n M dt_X10_liveWeek_1.2.1.1.2 rfl 2 rfl ?_
      obtain ⟨t4, hc, h⟩ := gBd h
      refine k_X2_let M hc u757 (Nat.le_of_ble_eq_true rfl) (Nat.le_of_ble_eq_true rfl) dt_X10_liveWeek_1.2.1.2.1 ?_
      refine z_iconst M dt_X10_liveWeek_1.2.1.2.2 ki_0 ?_
      refine z_istore_n (lv' := [(3, .int (0 : Int32)), (0, .ref (a 17)), (1, .int p0), (2, .int p1)]) M dt_X10_liveWeek_1.2.2.1.1 rfl (by decide) rfl ?_
      refine z_iconst M dt_X10_liveWeek_1.2.2.1.2 ki_0 ?_
      refine z_istore (lv' := [(4, .int (0 : Int32)), (3, .int (0 : Int32)), (0, .ref (a 17)), (1, .int p0), (2, .int p1)]) M dt_X10_liveWeek_1.2.2.2.1 (by decide) rfl ?_
      refine z_sub M [2, 3, 4, 1, 0] (lv' := [(0, .ref (a 17)), (1, .int p0), (2, .int p1), (3, .int (0 : Int32)), (4, .int (0 : Int32))]) rfl ?_
      exact wL_X10_liveWeek_57 M  p0 p1 zFu t4 (0 : Int32) (0 : Int32) h
    · have h := gIt hc h
      refine z_iconst M dt_X10_liveWeek_0.1.2.2.2 ki_m1 ?_
      obtain rfl := Option.some.inj h
      exact z_iret M dt_X10_liveWeek_0.2.1.1.1
theorem k_X10_liveWeek {n : Nat} (M : zM l D zcl (zty cy) A ad (zR n) (cW a cy) own cc nL rt σo ov G) {p0 : Int32} {p1 : Int32} {o : (Zst × Int32)} (h : f_X10_liveWeek σ p0 p1 = some o) {index : Nat} (hl : Cond.methodLink own index yX10_liveWeek ∈ uw) (hR : 206 ≤ n) (hW : (st.map fun v => v.category).sum ≤ 8) (d : decode cc pc = .ok (.invokevirtual index, 3)) (kk : G o.1 lv (pc + 3) (.int o.2 :: st)) : G σ lv pc (.int p1 :: .int p0 :: .ref (a 17) :: st) := z_callV M [.int p0, .int p1] (m_X10_liveWeek (zM_hD M) h) (hC17 σ) rfl hl u93 u752 u750 u751 hd_X10_liveWeek hR (by decide) rfl hW d kk
set_option maxHeartbeats 4000000 in
set_option maxRecDepth 100000 in
theorem m_X11_live (hD : ∀ σ, va_D A (cW a cy σ)) {σ : Zst} {p0 : Int32} {p1 : Int32} {o : (Zst × Int32)} (h : f_X11_live σ p0 p1 = some o) : zT l D zcl (zty cy) A ad (cW a cy) yX11_live cX11_live 3 (some .int) 206 [.ref (a 0), .int p0, .int p1] σ o.1 (some (.int o.2)) := by
  refine z_met pn_X11 hD (Nat.le_of_ble_eq_true rfl) rfl (fun G M => ?_)
  refine z_aload_n M dt_X11_live_0.1.1.1 rfl 0 rfl ?_
  refine gf_X11_town M u434 dt_X11_live_0.1.1.2 ?_
  refine z_iload_n M dt_X11_live_0.1.2 rfl 1 rfl ?_
  refine z_iload_n M dt_X11_live_0.2.1.1 rfl 2 rfl ?_
  obtain ⟨t1, hc, h⟩ := gBd h
  refine k_X10_liveWeek M hc u749 (Nat.le_of_ble_eq_true rfl) (Nat.le_of_ble_eq_true rfl) dt_X11_live_0.2.1.2 ?_
  obtain rfl := Option.some.inj h
  exact z_iret M dt_X11_live_0.2.2
set_option maxHeartbeats 4000000 in
set_option maxRecDepth 100000 in
theorem m_X4_reseed (hD : ∀ σ, va_D A (cW a cy σ)) {σ : Zst} {p0 : Int32} {o : (Zst × Int32)} (h : f_X4_reseed σ p0 = some o) : zT l D zcl (zty cy) A ad (cW a cy) yX4_reseed cX4_reseed 3 (some .int) 1 [.ref (a 5), .int p0] σ o.1 (some (.int o.2)) := by
  refine z_met pn_X4 hD (Nat.le_of_ble_eq_true rfl) rfl (fun G M => ?_)
  refine z_aload_n M dt_X4_reseed_0.1.1.1 rfl 0 rfl ?_
  refine gf_X4_r (σ := σ) M u162 dt_X4_reseed_0.1.1.2 (v := (σ.1 2)) rfl ?_
  refine z_istore_n (lv' := [(2, .int (σ.1 2)), (0, .ref (a 5)), (1, .int p0)]) M dt_X4_reseed_0.1.2.1 rfl (by decide) rfl ?_
  refine z_aload_n M dt_X4_reseed_0.1.2.2 rfl 1 rfl ?_
  refine z_iload_n M dt_X4_reseed_0.2.1.1 rfl 2 rfl ?_
  refine pf_X4_r M u162 dt_X4_reseed_0.2.1.2 ?_
  refine z_iload_n M dt_X4_reseed_0.2.2.1 rfl 0 rfl ?_
  obtain rfl := Option.some.inj h
  exact z_iret M dt_X4_reseed_0.2.2.2
theorem k_X4_reseed {n : Nat} (M : zM l D zcl (zty cy) A ad (zR n) (cW a cy) own cc nL rt σo ov G) {p0 : Int32} {o : (Zst × Int32)} (h : f_X4_reseed σ p0 = some o) {index : Nat} (hl : Cond.methodLink own index yX4_reseed ∈ uw) (hR : 2 ≤ n) (hW : (st.map fun v => v.category).sum ≤ 8) (d : decode cc pc = .ok (.invokevirtual index, 3)) (kk : G o.1 lv (pc + 3) (.int o.2 :: st)) : G σ lv pc (.int p0 :: .ref (a 5) :: st) := z_callV M [.int p0] (m_X4_reseed (zM_hD M) h) (hC5 σ) rfl hl u90 u850 u848 u849 hd_X4_reseed hR (by decide) rfl hW d kk
set_option maxHeartbeats 4000000 in
set_option maxRecDepth 100000 in
theorem m_X11_seed (hD : ∀ σ, va_D A (cW a cy σ)) {σ : Zst} {p0 : Int32} {o : (Zst × Int32)} (h : f_X11_seed σ p0 = some o) : zT l D zcl (zty cy) A ad (cW a cy) yX11_seed cX11_seed 2 (some .int) 2 [.ref (a 0), .int p0] σ o.1 (some (.int o.2)) := by
  refine z_met pn_X11 hD (Nat.le_of_ble_eq_true rfl) rfl (fun G M => ?_)
  refine z_aload_n M dt_X11_seed_0.1.1.1 rfl 0 rfl ?_
  refine gf_X11_numbers M u432 dt_X11_seed_0.1.1.2 ?_
  refine z_iload_n M dt_X11_seed_0.1.2 rfl 1 rfl ?_
  obtain ⟨t1, hc, h⟩ := gBd h
  refine k_X4_reseed M hc u847 (Nat.le_of_ble_eq_true rfl) (Nat.le_of_ble_eq_true rfl) dt_X11_seed_0.2.1 ?_
  obtain rfl := Option.some.inj h
  exact z_iret M dt_X11_seed_0.2.2
set_option maxHeartbeats 4000000 in
set_option maxRecDepth 100000 in
theorem m_X5_clear (hD : ∀ σ, va_D A (cW a cy σ)) {σ : Zst}  {o : Zst} (h : f_X5_clear σ = some o) : zT l D zcl (zty cy) A ad (cW a cy) yX5_clear cX5_clear 1 (some (.object "BinsThatTell$Row")) 1 [.ref (a 1)] σ o (some (.ref (a 1))) := by
  refine z_met pn_X5 hD (Nat.le_of_ble_eq_true rfl) rfl (fun G M => ?_)
  refine z_aload_n M dt_X5_clear_0.1.1.1 rfl 0 rfl ?_
  refine z_iconst M dt_X5_clear_0.1.1.2 ki_0 ?_
  refine pf_X5_size M u129 dt_X5_clear_0.1.2 ?_
  refine z_aload_n M dt_X5_clear_0.2.1 rfl 0 rfl ?_
  obtain rfl := Option.some.inj h
  exact z_aret M dt_X5_clear_0.2.2
theorem k_X5_clear {n : Nat} (M : zM l D zcl (zty cy) A ad (zR n) (cW a cy) own cc nL rt σo ov G)  {o : Zst} (h : f_X5_clear σ = some o) {index : Nat} (hl : Cond.methodLink own index yX5_clear ∈ uw) (hR : 2 ≤ n) (hW : (st.map fun v => v.category).sum ≤ 8) (d : decode cc pc = .ok (.invokevirtual index, 3)) (kk : G o lv (pc + 3) (.ref (a 1) :: st)) : G σ lv pc (.ref (a 1) :: st) := z_callV M [] (m_X5_clear (zM_hD M) h) (hC1 σ) rfl hl u88 u872 u870 u871 hd_X5_clear hR (by decide) rfl hW d kk
set_option maxHeartbeats 4000000 in
set_option maxRecDepth 100000 in
theorem m_X5_add (hD : ∀ σ, va_D A (cW a cy σ)) {σ : Zst} {p0 : Int64} {o : Zst} (h : f_X5_add σ p0 = some o) : zT l D zcl (zty cy) A ad (cW a cy) yX5_add cX5_add 3 (some (.object "BinsThatTell$Row")) 1 [.ref (a 1), .long p0] σ o (some (.ref (a 1))) := by
  refine z_met pn_X5 hD (Nat.le_of_ble_eq_true rfl) rfl (fun G M => ?_)
  refine z_aload_n M dt_X5_add_0.1.1.1.1 rfl 0 rfl ?_
  refine gf_X5_size (σ := σ) M u129 dt_X5_add_0.1.1.1.2 (v := (σ.1 0)) rfl ?_
  refine z_aload_n M dt_X5_add_0.1.1.2.1 rfl 0 rfl ?_
  refine gf_X5_numbers M u128 dt_X5_add_0.1.1.2.2 ?_
  refine ln_C2 M dt_X5_add_0.1.2.1.1 ?_
  refine z_icmp_ge (tgt := 32) M dt_X5_add_0.1.2.1.2 (by decide) (fun hc => ?_) (fun hc => ?_)
  · have h := gIt hc h
    refine z_aload_n M dt_X5_add_1.2.1 rfl 0 rfl ?_
    obtain rfl := Option.some.inj h
    exact z_aret M dt_X5_add_1.2.2
  · have h := gIf hc h
    refine z_aload_n M dt_X5_add_0.1.2.2.1 rfl 0 rfl ?_
    refine gf_X5_numbers M u128 dt_X5_add_0.1.2.2.2 ?_
    refine z_aload_n M dt_X5_add_0.2.1.1.1 rfl 0 rfl ?_
    refine gf_X5_size (σ := σ) M u129 dt_X5_add_0.2.1.1.2 (v := (σ.1 0)) rfl ?_
    refine z_lload_n M dt_X5_add_0.2.1.2.1 rfl 1 rfl ?_
    have ⟨hg, h⟩ := gIx_s h
    refine as_C2 (σ := σ) M (f := (σ.2.2.1 0)) rfl hg dt_X5_add_0.2.1.2.2 ?_
    refine z_aload_n M dt_X5_add_0.2.2.1.1 rfl 0 rfl ?_
    refine z_dup M dt_X5_add_0.2.2.1.2 rfl ?_
    refine gf_X5_size (σ := (zL σ 0 (vp_updL (σ.2.2.1 0) (Int32.toNatClampNeg (σ.1 0)) p0))) M u129 dt_X5_add_0.2.2.2.1 (v := (σ.1 0)) rfl ?_
    refine z_iconst M dt_X5_add_0.2.2.2.2 ki_1 ?_
    refine z_iadd M dt_X5_add_1.1.1 ?_
    refine pf_X5_size M u129 dt_X5_add_1.1.2 ?_
    refine z_aload_n M dt_X5_add_1.2.1 rfl 0 rfl ?_
    obtain rfl := Option.some.inj h
    exact z_aret M dt_X5_add_1.2.2
theorem k_X5_add {n : Nat} (M : zM l D zcl (zty cy) A ad (zR n) (cW a cy) own cc nL rt σo ov G) {p0 : Int64} {o : Zst} (h : f_X5_add σ p0 = some o) {index : Nat} (hl : Cond.methodLink own index yX5_add ∈ uw) (hR : 2 ≤ n) (hW : (st.map fun v => v.category).sum ≤ 8) (d : decode cc pc = .ok (.invokevirtual index, 3)) (kk : G o lv (pc + 3) (.ref (a 1) :: st)) : G σ lv pc (.long p0 :: .ref (a 1) :: st) := z_callV M [.long p0] (m_X5_add (zM_hD M) h) (hC1 σ) rfl hl u88 u876 u874 u875 hd_X5_add hR (by decide) rfl hW d kk
set_option maxHeartbeats 4000000 in
set_option maxRecDepth 100000 in
theorem m_X4_has (hD : ∀ σ, va_D A (cW a cy σ)) {σ0 : Zst} {p0 : Int32} {p1 : Int32} {p2 : Int32} {o : Int32} (h : f_X4_has σ0 p0 p1 p2 = some o) : zT l D zcl (zty cy) A ad (cW a cy) yX4_has cX4_has 4 (some .boolean) 3 [.ref (a 5), .int p0, .int p1, .int p2] σ0 σ0 (some (.int o)) := by
  refine z_met pn_X4 hD (Nat.le_of_ble_eq_true rfl) rfl (fun G M => ?_)
  refine z_aload_n M dt_X4_has_0.1.1.1.1 rfl 0 rfl ?_
  refine z_iload_n M dt_X4_has_0.1.1.1.2 rfl 1 rfl ?_
  refine z_iload_n M dt_X4_has_0.1.1.2 rfl 2 rfl ?_
  refine z_iload_n M dt_X4_has_0.1.2.1 rfl 3 rfl ?_
  obtain ⟨t1, hc, h⟩ := gBd h
  refine k_X4_of M hc u839 (Nat.le_of_ble_eq_true rfl) (Nat.le_of_ble_eq_true rfl) dt_X4_has_0.1.2.2 ?_
  have hJ3 : G σ0 [(0, .ref (a 5)), (1, .int p0), (2, .int p1), (3, .int p2)] 15 [.int (if t1 < (0 : Int32) then (0 : Int32) else (1 : Int32))] := by
    obtain rfl := Option.some.inj h
    exact z_zret M (nBo (boIte (Or.inl rfl) (Or.inr rfl))) dt_X4_has_0.2.2.2
  refine z_if_lt (tgt := 14) M dt_X4_has_0.2.1.1.1 (by decide) (fun hc2 => ?_) (fun hc2 => ?_)
  · refine z_iconst M dt_X4_has_0.2.2.1 ki_0 ?_
    exact (zTt hc2 hJ3)
  · refine z_iconst M dt_X4_has_0.2.1.1.2 ki_1 ?_
    refine z_goto (tgt := 15) M dt_X4_has_0.2.1.2 (by decide) ?_
    exact (zTf hc2 hJ3)
theorem k_X4_has {n : Nat} (M : zM l D zcl (zty cy) A ad (zR n) (cW a cy) own cc nL rt σo ov G) {p0 : Int32} {p1 : Int32} {p2 : Int32} {o : Int32} (h : f_X4_has σ p0 p1 p2 = some o) {index : Nat} (hl : Cond.methodLink own index yX4_has ∈ uw) (hR : 4 ≤ n) (hW : (st.map fun v => v.category).sum ≤ 8) (d : decode cc pc = .ok (.invokevirtual index, 3)) (kk : G σ lv (pc + 3) (.int o :: st)) : G σ lv pc (.int p2 :: .int p1 :: .int p0 :: .ref (a 5) :: st) := z_callV M [.int p0, .int p1, .int p2] (m_X4_has (zM_hD M) h) (hC5 σ) rfl hl u90 u867 u865 u866 hd_X4_has hR (by decide) rfl hW d kk
set_option maxHeartbeats 4000000 in
set_option maxRecDepth 100000 in
theorem wL_X0_total_64 {o : (Zst × Int32)} (M : zM l D zcl (zty cy) A ad (zR 4) (cW a cy) RX0 cX0_total 10 (some .int) o.1 (some (.int o.2)) G) {k152 : Int32 → Int32 → Option (Zst × Int32)} (σ : Zst) (v1 : Int32) (v2 : Int32) (v3 : Int32) (v4 : Int32) (Hk152 : ∀ (w6 : Int32) (w7 : Int32), k152 w6 w7 = some o → G σ [(0, .ref (a 27)), (6, .int w6), (7, .int w7)] 152 []) :
    ∀ (n64 : Nat) (v6 : Int32) (v7 : Int32) (v8 : Int32), L_X0_total_64 k152 σ v1 v2 v3 v4 n64 v6 v7 v8 = some o → G σ [(0, .ref (a 27)), (1, .int v1), (2, .int v2), (3, .int v3), (4, .int v4), (6, .int v6), (7, .int v7), (8, .int v8)] 64 [] := by
  intro n64
  induction n64 with
  | zero => intro v6 v7 v8 h; exact nomatch (show (none : Option (Zst × Int32)) = some _ from h)
  | succ n64 ih =>
    intro v6 v7 v8 h
    refine z_iload M dt_X0_total_2.1.1.1.1 7 rfl ?_
    refine z_aload_n M dt_X0_total_2.1.1.1.2 rfl 0 rfl ?_
    refine gf_X0_town M u270 dt_X0_total_2.1.1.2.1 ?_
    refine k_X10_cellCount M u862 (Nat.le_of_ble_eq_true rfl) (Nat.le_of_ble_eq_true rfl) dt_X0_total_2.1.1.2.2 ?_
    refine z_icmp_ge (tgt := 152) M dt_X0_total_2.1.2.1.1 (by decide) (fun hc => ?_) (fun hc => ?_)
    · have h := gIt hc h
      refine z_sub M [0, 5, 6] (lv' := [(0, .ref (a 27)), (6, .int v6), (7, .int v7)]) rfl ?_
      exact Hk152 v6 v7 h
    · have h := gIf hc h
      refine z_iload_n M dt_X0_total_2.1.2.1.2 rfl 3 rfl ?_
      refine z_iload M dt_X0_total_2.1.2.2.1 7 rfl ?_
      refine z_bipush M dt_X0_total_2.1.2.2.2 kb_12 ?_
      refine z_idiv M dt_X0_total_2.2.1.1.1 (by decide) ?_
      refine kn_X11_hasBit M u863 (Nat.le_of_ble_eq_true rfl) (Nat.le_of_ble_eq_true rfl) dt_X0_total_2.2.1.1.2 ?_
      have hJ3 : G σ [(0, .ref (a 27)), (1, .int v1), (2, .int v2), (3, .int v3), (4, .int v4), (6, .int v6), (7, .int v7), (8, .int v8)] 106 [.int (if (f_X11_hasBit v3 (v8 / (12 : Int32))) = (0 : Int32) then (0 : Int32) else (if (f_X11_hasBit v4 (jRem v8 (12 : Int32))) = (0 : Int32) then (0 : Int32) else (1 : Int32)))] := by
        refine z_istore (lv' := [(9, .int (if (f_X11_hasBit v3 (v8 / (12 : Int32))) = (0 : Int32) then (0 : Int32) else (if (f_X11_hasBit v4 (jRem v8 (12 : Int32))) = (0 : Int32) then (0 : Int32) else (1 : Int32)))), (0, .ref (a 27)), (1, .int v1), (2, .int v2), (3, .int v3), (4, .int v4), (6, .int v6), (7, .int v7), (8, .int v8)]) M dt_X0_total_3.1.2.1.1 (by decide) rfl ?_
        refine z_iload M dt_X0_total_3.1.2.1.2 0 rfl ?_
        refine z_if_eq (tgt := 146) M dt_X0_total_3.1.2.2.1 (by decide) (fun hc => ?_) (fun hc => ?_)
        · have h := gIt hc h
          refine z_iinc (v := (v8 + (1 : Int32))) (lv' := [(8, .int (v8 + (1 : Int32))), (9, .int (if (f_X11_hasBit v3 (v8 / (12 : Int32))) = (0 : Int32) then (0 : Int32) else (if (f_X11_hasBit v4 (jRem v8 (12 : Int32))) = (0 : Int32) then (0 : Int32) else (1 : Int32)))), (0, .ref (a 27)), (1, .int v1), (2, .int v2), (3, .int v3), (4, .int v4), (6, .int v6), (7, .int v7)]) M dt_X0_total_4.2.1.1.1 (k := 8) rfl (congrArg (fun q => v8 + q) ki_1) (by decide) rfl ?_
          refine z_goto (tgt := 64) M dt_X0_total_4.2.1.1.2 (by decide) ?_
          refine z_sub M [2, 3, 4, 5, 6, 7, 8, 0] (lv' := [(0, .ref (a 27)), (1, .int v1), (2, .int v2), (3, .int v3), (4, .int v4), (6, .int v6), (7, .int v7), (8, .int (v8 + (1 : Int32)))]) rfl ?_
          exact ih v6 v7 (v8 + (1 : Int32)) h
        · have h := gIf hc h
          refine z_aload_n M dt_X0_total_3.1.2.2.2 rfl 1 rfl ?_
          refine gf_X0_numbers M u271 dt_X0_total_3.2.1.1.1 ?_
          refine z_iload_n M dt_X0_total_3.2.1.1.2 rfl 2 rfl ?_
          refine z_iload M dt_X0_total_3.2.1.2.1 8 rfl ?_
          refine z_iload_n M dt_X0_total_3.2.1.2.2 rfl 3 rfl ?_
          obtain ⟨t4, hc, h⟩ := gBd h
          refine k_X4_has M hc u864 (Nat.le_of_ble_eq_true rfl) (Nat.le_of_ble_eq_true rfl) dt_X0_total_3.2.2.1.1 ?_
          refine z_if_eq (tgt := 146) M dt_X0_total_3.2.2.1.2 (by decide) (fun hc => ?_) (fun hc => ?_)
          · have h := gIt hc h
            refine z_iinc (v := (v8 + (1 : Int32))) (lv' := [(8, .int (v8 + (1 : Int32))), (9, .int (if (f_X11_hasBit v3 (v8 / (12 : Int32))) = (0 : Int32) then (0 : Int32) else (if (f_X11_hasBit v4 (jRem v8 (12 : Int32))) = (0 : Int32) then (0 : Int32) else (1 : Int32)))), (0, .ref (a 27)), (1, .int v1), (2, .int v2), (3, .int v3), (4, .int v4), (6, .int v6), (7, .int v7)]) M dt_X0_total_4.2.1.1.1 (k := 8) rfl (congrArg (fun q => v8 + q) ki_1) (by decide) rfl ?_
            refine z_goto (tgt := 64) M dt_X0_total_4.2.1.1.2 (by decide) ?_
            refine z_sub M [2, 3, 4, 5, 6, 7, 8, 0] (lv' := [(0, .ref (a 27)), (1, .int v1), (2, .int v2), (3, .int v3), (4, .int v4), (6, .int v6), (7, .int v7), (8, .int (v8 + (1 : Int32)))]) rfl ?_
            exact ih v6 v7 (v8 + (1 : Int32)) h
          · have h := gIf hc h
            refine z_iload M dt_X0_total_3.2.2.2.1 6 rfl ?_
            refine z_aload_n M dt_X0_total_3.2.2.2.2 rfl 1 rfl ?_
            refine gf_X0_numbers M u271 dt_X0_total_4.1.1.1.1 ?_
            refine z_iload_n M dt_X0_total_4.1.1.1.2 rfl 2 rfl ?_
            refine z_iload M dt_X0_total_4.1.1.2.1 8 rfl ?_
            refine z_iload_n M dt_X0_total_4.1.1.2.2 rfl 3 rfl ?_
            obtain ⟨t5, hc, h⟩ := gBd h
            refine k_X4_of M hc u868 (Nat.le_of_ble_eq_true rfl) (Nat.le_of_ble_eq_true rfl) dt_X0_total_4.1.2.1.1 ?_
            refine z_iadd M dt_X0_total_4.1.2.1.2 ?_
            refine z_istore (lv' := [(6, .int (v6 + t5)), (9, .int (if (f_X11_hasBit v3 (v8 / (12 : Int32))) = (0 : Int32) then (0 : Int32) else (if (f_X11_hasBit v4 (jRem v8 (12 : Int32))) = (0 : Int32) then (0 : Int32) else (1 : Int32)))), (0, .ref (a 27)), (1, .int v1), (2, .int v2), (3, .int v3), (4, .int v4), (7, .int v7), (8, .int v8)]) M dt_X0_total_4.1.2.2.1 (by decide) rfl ?_
            refine z_iinc (v := (v7 + (1 : Int32))) (lv' := [(7, .int (v7 + (1 : Int32))), (6, .int (v6 + t5)), (9, .int (if (f_X11_hasBit v3 (v8 / (12 : Int32))) = (0 : Int32) then (0 : Int32) else (if (f_X11_hasBit v4 (jRem v8 (12 : Int32))) = (0 : Int32) then (0 : Int32) else (1 : Int32)))), (0, .ref (a 27)), (1, .int v1), (2, .int v2), (3, .int v3), (4, .int v4), (8, .int v8)]) M dt_X0_total_4.1.2.2.2 (k := 7) rfl (congrArg (fun q => v7 + q) ki_1) (by decide) rfl ?_
            refine z_iinc (v := (v8 + (1 : Int32))) (lv' := [(8, .int (v8 + (1 : Int32))), (7, .int (v7 + (1 : Int32))), (6, .int (v6 + t5)), (9, .int (if (f_X11_hasBit v3 (v8 / (12 : Int32))) = (0 : Int32) then (0 : Int32) else (if (f_X11_hasBit v4 (jRem v8 (12 : Int32))) = (0 : Int32) then (0 : Int32) else (1 : Int32)))), (0, .ref (a 27)), (1, .int v1), (2, .int v2), (3, .int v3), (4, .int v4)]) M dt_X0_total_4.2.1.1.1 (k := 8) rfl (congrArg (fun q => v8 + q) ki_1) (by decide) rfl ?_
            refine z_goto (tgt := 64) M dt_X0_total_4.2.1.1.2 (by decide) ?_
            refine z_sub M [4, 5, 6, 7, 8, 2, 1, 0] (lv' := [(0, .ref (a 27)), (1, .int v1), (2, .int v2), (3, .int v3), (4, .int v4), (6, .int (v6 + t5)), (7, .int (v7 + (1 : Int32))), (8, .int (v8 + (1 : Int32)))]) rfl ?_
            exact ih (v6 + t5) (v7 + (1 : Int32)) (v8 + (1 : Int32)) h
      refine z_if_eq (tgt := 105) M dt_X0_total_2.2.1.2.1 (by decide) (fun hc1 => ?_) (fun hc1 => ?_)
      · refine z_iconst M dt_X0_total_3.1.1.2.2 ki_0 ?_
        exact (zTt hc1 hJ3)
      · refine z_iload M dt_X0_total_2.2.1.2.2 4 rfl ?_
        refine z_iload M dt_X0_total_2.2.2.1.1 7 rfl ?_
        refine z_bipush M dt_X0_total_2.2.2.1.2 kb_12 ?_
        refine z_irem M dt_X0_total_2.2.2.2.1 (by decide) ?_
        refine kn_X11_hasBit M u863 (Nat.le_of_ble_eq_true rfl) (Nat.le_of_ble_eq_true rfl) dt_X0_total_2.2.2.2.2 ?_
        refine z_if_eq (tgt := 105) M dt_X0_total_3.1.1.1.1 (by decide) (fun hc2 => ?_) (fun hc2 => ?_)
        · refine z_iconst M dt_X0_total_3.1.1.2.2 ki_0 ?_
          exact (zTt hc2 (zTf hc1 hJ3))
        · refine z_iconst M dt_X0_total_3.1.1.1.2 ki_1 ?_
          refine z_goto (tgt := 106) M dt_X0_total_3.1.1.2.1 (by decide) ?_
          exact (zTf hc2 (zTf hc1 hJ3))
set_option maxHeartbeats 4000000 in
set_option maxRecDepth 100000 in
theorem wJ_X0_total_152 {o : (Zst × Int32)} (M : zM l D zcl (zty cy) A ad (zR 4) (cW a cy) RX0 cX0_total 10 (some .int) o.1 (some (.int o.2)) G) (σ : Zst) (v6 : Int32) (v7 : Int32)  (h : J_X0_total_152 σ v6 v7 = some o) : G σ [(0, .ref (a 27)), (6, .int v6), (7, .int v7)] 152 [] := by
  refine z_aload_n M dt_X0_total_4.2.1.2.1 rfl 0 rfl ?_
  refine gf_X0_row M u272 dt_X0_total_4.2.1.2.2 ?_
  obtain ⟨t6, hc, h⟩ := gBd h
  refine k_X5_clear M hc u869 (Nat.le_of_ble_eq_true rfl) (Nat.le_of_ble_eq_true rfl) dt_X0_total_4.2.2.1.1 ?_
  refine z_iload M dt_X0_total_4.2.2.1.2 2 rfl ?_
  refine z_i2l M dt_X0_total_4.2.2.2.1 ?_
  obtain ⟨t7, hc, h⟩ := gBd h
  refine k_X5_add M hc u873 (Nat.le_of_ble_eq_true rfl) (Nat.le_of_ble_eq_true rfl) dt_X0_total_4.2.2.2.2 ?_
  refine z_pop M dt_X0_total_5.1.1 rfl ?_
  refine z_iload M dt_X0_total_5.1.2 1 rfl ?_
  obtain rfl := Option.some.inj h
  exact z_iret M dt_X0_total_5.2
set_option maxHeartbeats 4000000 in
set_option maxRecDepth 100000 in
theorem m_X0_total (hD : ∀ σ, va_D A (cW a cy σ)) {σ : Zst} {p0 : Int32} {p1 : Int32} {p2 : Int32} {p3 : Int32} {o : (Zst × Int32)} (h : f_X0_total σ p0 p1 p2 p3 = some o) : zT l D zcl (zty cy) A ad (cW a cy) yX0_total cX0_total 10 (some .int) 4 [.ref (a 27), .int p0, .int p1, .int p2, .int p3] σ o.1 (some (.int o.2)) := by
  refine z_met pn_X0 hD (Nat.le_of_ble_eq_true rfl) rfl (fun G M => ?_)
  refine z_iload_n M dt_X0_total_0.1.1.1.1 rfl 3 rfl ?_
  refine z_iconst M dt_X0_total_0.1.1.1.2 ki_1 ?_
  refine z_sipush M dt_X0_total_0.1.1.2.1 ks_255 ?_
  refine kn_X11_between M u859 (Nat.le_of_ble_eq_true rfl) (Nat.le_of_ble_eq_true rfl) dt_X0_total_0.1.1.2.2 ?_
  have hJ10 : G σ [(0, .ref (a 27)), (1, .int p0), (2, .int p1), (3, .int p2), (4, .int p3)] 28 [.int (if (f_X11_between p2 (1 : Int32) (255 : Int32)) = (0 : Int32) then (0 : Int32) else (if (f_X11_between p3 (1 : Int32) (4095 : Int32)) = (0 : Int32) then (0 : Int32) else (1 : Int32)))] := by
    refine z_istore (lv' := [(5, .int (if (f_X11_between p2 (1 : Int32) (255 : Int32)) = (0 : Int32) then (0 : Int32) else (if (f_X11_between p3 (1 : Int32) (4095 : Int32)) = (0 : Int32) then (0 : Int32) else (1 : Int32)))), (0, .ref (a 27)), (1, .int p0), (2, .int p1), (3, .int p2), (4, .int p3)]) M dt_X0_total_0.2.2.1.2 (by decide) rfl ?_
    refine z_iload_n M dt_X0_total_0.2.2.2.1 rfl 2 rfl ?_
    refine kn_X11_isKind M u860 (Nat.le_of_ble_eq_true rfl) (Nat.le_of_ble_eq_true rfl) dt_X0_total_0.2.2.2.2 ?_
    refine z_if_eq (tgt := 53) M dt_X0_total_1.1.1.1.1 (by decide) (fun hc => ?_) (fun hc => ?_)
    · have h := gIt hc h
      refine z_iconst M dt_X0_total_1.2.1.1.1 ki_m1 ?_
      obtain rfl := Option.some.inj h
      exact z_iret M dt_X0_total_1.2.1.1.2
    · have h := gIf hc h
      refine z_aload_n M dt_X0_total_1.1.1.1.2 rfl 1 rfl ?_
      refine gf_X0_town M u270 dt_X0_total_1.1.1.2.1 ?_
      refine z_iload_n M dt_X0_total_1.1.1.2.2 rfl 3 rfl ?_
      refine k_X10_hasSort M u861 (Nat.le_of_ble_eq_true rfl) (Nat.le_of_ble_eq_true rfl) dt_X0_total_1.1.2.1.1 ?_
      refine z_if_eq (tgt := 53) M dt_X0_total_1.1.2.1.2 (by decide) (fun hc => ?_) (fun hc => ?_)
      · have h := gIt hc h
        refine z_iconst M dt_X0_total_1.2.1.1.1 ki_m1 ?_
        obtain rfl := Option.some.inj h
        exact z_iret M dt_X0_total_1.2.1.1.2
      · have h := gIf hc h
        refine z_iload M dt_X0_total_1.1.2.2.1 0 rfl ?_
        refine z_if_ne (tgt := 55) M dt_X0_total_1.1.2.2.2 (by decide) (fun hc => ?_) (fun hc => ?_)
        · have h := gIf hc h
          refine z_iconst M dt_X0_total_1.2.1.2.1 ki_0 ?_
          refine z_istore (lv' := [(6, .int (0 : Int32)), (5, .int (if (f_X11_between p2 (1 : Int32) (255 : Int32)) = (0 : Int32) then (0 : Int32) else (if (f_X11_between p3 (1 : Int32) (4095 : Int32)) = (0 : Int32) then (0 : Int32) else (1 : Int32)))), (0, .ref (a 27)), (1, .int p0), (2, .int p1), (3, .int p2), (4, .int p3)]) M dt_X0_total_1.2.1.2.2 (by decide) rfl ?_
          refine z_iconst M dt_X0_total_1.2.2.1.1 ki_0 ?_
          refine z_istore (lv' := [(7, .int (0 : Int32)), (6, .int (0 : Int32)), (5, .int (if (f_X11_between p2 (1 : Int32) (255 : Int32)) = (0 : Int32) then (0 : Int32) else (if (f_X11_between p3 (1 : Int32) (4095 : Int32)) = (0 : Int32) then (0 : Int32) else (1 : Int32)))), (0, .ref (a 27)), (1, .int p0), (2, .int p1), (3, .int p2), (4, .int p3)]) M dt_X0_total_1.2.2.1.2 (by decide) rfl ?_
          refine z_iconst M dt_X0_total_1.2.2.2.1 ki_0 ?_
          refine z_istore (lv' := [(8, .int (0 : Int32)), (7, .int (0 : Int32)), (6, .int (0 : Int32)), (5, .int (if (f_X11_between p2 (1 : Int32) (255 : Int32)) = (0 : Int32) then (0 : Int32) else (if (f_X11_between p3 (1 : Int32) (4095 : Int32)) = (0 : Int32) then (0 : Int32) else (1 : Int32)))), (0, .ref (a 27)), (1, .int p0), (2, .int p1), (3, .int p2), (4, .int p3)]) M dt_X0_total_1.2.2.2.2 (by decide) rfl ?_
          refine z_sub M [4, 5, 6, 7, 8, 2, 1, 0] (lv' := [(0, .ref (a 27)), (1, .int p0), (2, .int p1), (3, .int p2), (4, .int p3), (6, .int (0 : Int32)), (7, .int (0 : Int32)), (8, .int (0 : Int32))]) rfl ?_
          exact wL_X0_total_64 M (k152 := (fun w11 w12 => J_X0_total_152 σ w11 w12)) σ p0 p1 p2 p3 (fun w11 w12 h => by
              exact wJ_X0_total_152 M  σ w11 w12 h) zFu (0 : Int32) (0 : Int32) (0 : Int32) h
        · have h := gIt hc h
          refine z_iconst M dt_X0_total_1.2.1.1.1 ki_m1 ?_
          obtain rfl := Option.some.inj h
          exact z_iret M dt_X0_total_1.2.1.1.2
  refine z_if_eq (tgt := 27) M dt_X0_total_0.1.2.1.1 (by decide) (fun hc8 => ?_) (fun hc8 => ?_)
  · refine z_iconst M dt_X0_total_0.2.2.1.1 ki_0 ?_
    exact (zTt hc8 hJ10)
  · refine z_iload M dt_X0_total_0.1.2.1.2 4 rfl ?_
    refine z_iconst M dt_X0_total_0.1.2.2.1 ki_1 ?_
    refine z_sipush M dt_X0_total_0.1.2.2.2 ks_4095 ?_
    refine kn_X11_between M u859 (Nat.le_of_ble_eq_true rfl) (Nat.le_of_ble_eq_true rfl) dt_X0_total_0.2.1.1.1 ?_
    refine z_if_eq (tgt := 27) M dt_X0_total_0.2.1.1.2 (by decide) (fun hc9 => ?_) (fun hc9 => ?_)
    · refine z_iconst M dt_X0_total_0.2.2.1.1 ki_0 ?_
      exact (zTt hc9 (zTf hc8 hJ10))
    · refine z_iconst M dt_X0_total_0.2.1.2.1 ki_1 ?_
      refine z_goto (tgt := 28) M dt_X0_total_0.2.1.2.2 (by decide) ?_
      exact (zTf hc9 (zTf hc8 hJ10))
theorem k_X0_total {n : Nat} (M : zM l D zcl (zty cy) A ad (zR n) (cW a cy) own cc nL rt σo ov G) {p0 : Int32} {p1 : Int32} {p2 : Int32} {p3 : Int32} {o : (Zst × Int32)} (h : f_X0_total σ p0 p1 p2 p3 = some o) {index : Nat} (hl : Cond.methodLink own index yX0_total ∈ uw) (hR : 5 ≤ n) (hW : (st.map fun v => v.category).sum ≤ 8) (d : decode cc pc = .ok (.invokevirtual index, 3)) (kk : G o.1 lv (pc + 3) (.int o.2 :: st)) : G σ lv pc (.int p3 :: .int p2 :: .int p1 :: .int p0 :: .ref (a 27) :: st) := z_callV M [.int p0, .int p1, .int p2, .int p3] (m_X0_total (zM_hD M) h) (hC27 σ) rfl hl u94 u858 u856 u857 hd_X0_total hR (by decide) rfl hW d kk
set_option maxHeartbeats 4000000 in
set_option maxRecDepth 100000 in
theorem m_X11_sum (hD : ∀ σ, va_D A (cW a cy σ)) {σ : Zst} {p0 : Int32} {p1 : Int32} {p2 : Int32} {p3 : Int32} {o : (Zst × Int32)} (h : f_X11_sum σ p0 p1 p2 p3 = some o) : zT l D zcl (zty cy) A ad (cW a cy) yX11_sum cX11_sum 5 (some .int) 5 [.ref (a 0), .int p0, .int p1, .int p2, .int p3] σ o.1 (some (.int o.2)) := by
  refine z_met pn_X11 hD (Nat.le_of_ble_eq_true rfl) rfl (fun G M => ?_)
  refine z_aload_n M dt_X11_sum_0.1.1.1 rfl 0 rfl ?_
  refine gf_X11_answers M u435 dt_X11_sum_0.1.1.2 ?_
  refine z_iload_n M dt_X11_sum_0.1.2.1 rfl 1 rfl ?_
  refine z_iload_n M dt_X11_sum_0.1.2.2 rfl 2 rfl ?_
  refine z_iload_n M dt_X11_sum_0.2.1.1 rfl 3 rfl ?_
  refine z_iload M dt_X11_sum_0.2.1.2 4 rfl ?_
  obtain ⟨t1, hc, h⟩ := gBd h
  refine k_X0_total M hc u855 (Nat.le_of_ble_eq_true rfl) (Nat.le_of_ble_eq_true rfl) dt_X11_sum_0.2.2.1 ?_
  obtain rfl := Option.some.inj h
  exact z_iret M dt_X11_sum_0.2.2.2
set_option maxHeartbeats 4000000 in
set_option maxRecDepth 100000 in
theorem m_X10_staysOf (hD : ∀ σ, va_D A (cW a cy σ)) {σ0 : Zst} {p0 : Int32} {o : Int32} (h : f_X10_staysOf σ0 p0 = some o) : zT l D zcl (zty cy) A ad (cW a cy) yX10_staysOf cX10_staysOf 2 (some .int) 2 [.ref (a 17), .int p0] σ0 σ0 (some (.int o)) := by
  refine z_met pn_X10 hD (Nat.le_of_ble_eq_true rfl) rfl (fun G M => ?_)
  refine z_aload_n M dt_X10_staysOf_0.1.1.1.1 rfl 0 rfl ?_
  refine z_iload_n M dt_X10_staysOf_0.1.1.1.2 rfl 1 rfl ?_
  refine k_X10_hasSort M u480 (Nat.le_of_ble_eq_true rfl) (Nat.le_of_ble_eq_true rfl) dt_X10_staysOf_0.1.1.2.1 ?_
  refine z_if_eq (tgt := 34) M dt_X10_staysOf_0.1.1.2.2 (by decide) (fun hc => ?_) (fun hc => ?_)
  · have h := gIt hc h
    refine z_bipush M dt_X10_staysOf_1.2.1.2 kb_100 ?_
    obtain rfl := Option.some.inj h
    exact z_iret M dt_X10_staysOf_1.2.2
  · have h := gIf hc h
    refine z_bipush M dt_X10_staysOf_0.1.2.1.1 kb_100 ?_
    refine z_aload_n M dt_X10_staysOf_0.1.2.1.2 rfl 0 rfl ?_
    refine gf_X10_sinks M u229 dt_X10_staysOf_0.1.2.2.1 ?_
    refine z_iload_n M dt_X10_staysOf_0.1.2.2.2 rfl 1 rfl ?_
    have ⟨hg, h⟩ := gIx_s h
    refine al_C21 (σ := σ0) M (f := (σ0.2.1 13)) rfl hg dt_X10_staysOf_0.2.1.1.1 ?_
    refine z_isub M dt_X10_staysOf_0.2.1.1.2 ?_
    refine z_aload_n M dt_X10_staysOf_0.2.1.2.1 rfl 0 rfl ?_
    refine gf_X10_backs M u230 dt_X10_staysOf_0.2.1.2.2 ?_
    refine z_iload_n M dt_X10_staysOf_0.2.2.1.1 rfl 1 rfl ?_
    have ⟨hg, h⟩ := gIx_s h
    refine al_C22 (σ := σ0) M (f := (σ0.2.1 14)) rfl hg dt_X10_staysOf_0.2.2.1.2 ?_
    refine z_isub M dt_X10_staysOf_0.2.2.2.1 ?_
    refine z_aload_n M dt_X10_staysOf_0.2.2.2.2 rfl 0 rfl ?_
    refine gf_X10_corners M u231 dt_X10_staysOf_1.1.1.1 ?_
    refine z_iload_n M dt_X10_staysOf_1.1.1.2 rfl 1 rfl ?_
    have ⟨hg, h⟩ := gIx_s h
    refine al_C23 (σ := σ0) M (f := (σ0.2.1 15)) rfl hg dt_X10_staysOf_1.1.2.1 ?_
    refine z_isub M dt_X10_staysOf_1.1.2.2 ?_
    refine z_goto (tgt := 36) M dt_X10_staysOf_1.2.1.1 (by decide) ?_
    obtain rfl := Option.some.inj h
    exact z_iret M dt_X10_staysOf_1.2.2
theorem k_X10_staysOf {n : Nat} (M : zM l D zcl (zty cy) A ad (zR n) (cW a cy) own cc nL rt σo ov G) {p0 : Int32} {o : Int32} (h : f_X10_staysOf σ p0 = some o) {index : Nat} (hl : Cond.methodLink own index yX10_staysOf ∈ uw) (hR : 3 ≤ n) (hW : (st.map fun v => v.category).sum ≤ 8) (d : decode cc pc = .ok (.invokevirtual index, 3)) (kk : G σ lv (pc + 3) (.int o :: st)) : G σ lv pc (.int p0 :: .ref (a 17) :: st) := z_callV M [.int p0] (m_X10_staysOf (zM_hD M) h) (hC17 σ) rfl hl u93 u890 u888 u889 hd_X10_staysOf hR (by decide) rfl hW d kk
set_option maxHeartbeats 4000000 in
set_option maxRecDepth 100000 in
theorem wL_X11_commonDivisor_15 {o : Int64} (M : zM l D zcl0 tys A ad (zR 2) wf RX11 cX11_commonDivisor 11 (some .long) σ0 (some (.long o)) G)    :
    ∀ (n15 : Nat) (v4 : Int64) (v6 : Int64) (v8 : Int32), L_X11_commonDivisor_15  n15 v4 v6 v8 = some o → G σ0 [(4, .long v4), (6, .long v6), (8, .int v8)] 15 [] := by
  intro n15
  induction n15 with
  | zero => intro v4 v6 v8 h; exact nomatch (show (none : Option Int64) = some _ from h)
  | succ n15 ih =>
    intro v4 v6 v8 h
    refine z_iload M dt_X11_commonDivisor_0.2.1.1.1 2 rfl ?_
    refine z_bipush M dt_X11_commonDivisor_0.2.1.1.2 kb_100 ?_
    refine z_icmp_ge (tgt := 50) M dt_X11_commonDivisor_0.2.1.2.1 (by decide) (fun hc => ?_) (fun hc => ?_)
    · have h := gIt hc h
      refine z_lload M dt_X11_commonDivisor_1.2.2.1 0 rfl ?_
      obtain rfl := Option.some.inj h
      exact z_lret M dt_X11_commonDivisor_1.2.2.2
    · have h := gIf hc h
      refine z_lload M dt_X11_commonDivisor_0.2.1.2.2 1 rfl ?_
      refine z_lconst (v := 0) M dt_X11_commonDivisor_0.2.2.1.1 (by decide) ?_
      refine z_lcmp_eq (tgt := 50) M dt_X11_commonDivisor_0.2.2.1.2 dt_X11_commonDivisor_0.2.2.2.1 (by decide) (fun hc => ?_) (fun hc => ?_)
      · have h := gIt hc h
        refine z_lload M dt_X11_commonDivisor_1.2.2.1 0 rfl ?_
        obtain rfl := Option.some.inj h
        exact z_lret M dt_X11_commonDivisor_1.2.2.2
      · have h := gIf hc h
        refine z_lload M dt_X11_commonDivisor_0.2.2.2.2 0 rfl ?_
        refine z_lload M dt_X11_commonDivisor_1.1.1.1.1 1 rfl ?_
        have ⟨hg, h⟩ := gNzL_s h
        refine z_lrem M dt_X11_commonDivisor_1.1.1.1.2 hg ?_
        refine z_lstore (lv' := [(9, .long (jRemL v4 v6)), (4, .long v4), (6, .long v6), (8, .int v8)]) M dt_X11_commonDivisor_1.1.1.2 (by decide) rfl ?_
        refine z_lload M dt_X11_commonDivisor_1.1.2.1.1 2 rfl ?_
        refine z_lstore (lv' := [(4, .long v6), (9, .long (jRemL v4 v6)), (6, .long v6), (8, .int v8)]) M dt_X11_commonDivisor_1.1.2.1.2 (by decide) rfl ?_
        refine z_lload M dt_X11_commonDivisor_1.1.2.2 1 rfl ?_
        refine z_lstore (lv' := [(6, .long (jRemL v4 v6)), (4, .long v6), (9, .long (jRemL v4 v6)), (8, .int v8)]) M dt_X11_commonDivisor_1.2.1.1.1 (by decide) rfl ?_
        refine z_iinc (v := (v8 + (1 : Int32))) (lv' := [(8, .int (v8 + (1 : Int32))), (6, .long (jRemL v4 v6)), (4, .long v6), (9, .long (jRemL v4 v6))]) M dt_X11_commonDivisor_1.2.1.1.2 (k := 3) rfl (congrArg (fun q => v8 + q) ki_1) (by decide) rfl ?_
        refine z_goto (tgt := 15) M dt_X11_commonDivisor_1.2.1.2 (by decide) ?_
        refine z_sub M [2, 1, 0] (lv' := [(4, .long v6), (6, .long (jRemL v4 v6)), (8, .int (v8 + (1 : Int32)))]) rfl ?_
        exact ih v6 (jRemL v4 v6) (v8 + (1 : Int32)) h
set_option maxHeartbeats 4000000 in
set_option maxRecDepth 100000 in
theorem m_X11_commonDivisor (hD : ∀ σ, va_D A (wf σ)) {σ0 : Zst} {p0 : Int64} {p1 : Int64} {o : Int64} (h : f_X11_commonDivisor p0 p1 = some o) : zT l D zcl0 tys A ad wf yX11_commonDivisor cX11_commonDivisor 11 (some .long) 2 [.long p0, .long p1] σ0 σ0 (some (.long o)) := by
  refine z_met pn_X11 hD (Nat.le_of_ble_eq_true rfl) rfl (fun G M => ?_)
  refine z_lload_n M dt_X11_commonDivisor_0.1.1.1.1 rfl 0 rfl ?_
  refine z_mabsL M u898 u899 u100 u900 (Nat.le_of_ble_eq_true rfl) (Nat.le_of_ble_eq_true rfl) dt_X11_commonDivisor_0.1.1.1.2 ?_
  refine z_lstore (lv' := [(4, .long (jAbsL p0)), (0, .long p0), (2, .long p1)]) M dt_X11_commonDivisor_0.1.1.2.1 (by decide) rfl ?_
  refine z_lload_n M dt_X11_commonDivisor_0.1.1.2.2 rfl 2 rfl ?_
  refine z_mabsL M u898 u899 u100 u900 (Nat.le_of_ble_eq_true rfl) (Nat.le_of_ble_eq_true rfl) dt_X11_commonDivisor_0.1.2.1.1 ?_
  refine z_lstore (lv' := [(6, .long (jAbsL p1)), (4, .long (jAbsL p0)), (0, .long p0), (2, .long p1)]) M dt_X11_commonDivisor_0.1.2.1.2 (by decide) rfl ?_
  refine z_iconst M dt_X11_commonDivisor_0.1.2.2.1 ki_0 ?_
  refine z_istore (lv' := [(8, .int (0 : Int32)), (6, .long (jAbsL p1)), (4, .long (jAbsL p0)), (0, .long p0), (2, .long p1)]) M dt_X11_commonDivisor_0.1.2.2.2 (by decide) rfl ?_
  refine z_sub M [2, 1, 0] (lv' := [(4, .long (jAbsL p0)), (6, .long (jAbsL p1)), (8, .int (0 : Int32))]) rfl ?_
  exact wL_X11_commonDivisor_15 M   zFu (jAbsL p0) (jAbsL p1) (0 : Int32) h
theorem kn_X11_commonDivisor {n : Nat} (M : zM l D zcl0 tys A ad (zR n) wf own cc nL rt σo ov G) {p0 : Int64} {p1 : Int64} {o : Int64} (h : f_X11_commonDivisor p0 p1 = some o) {index : Nat} {host : String} (hl : Cond.methodLinkNest own index yX11_commonDivisor host ∈ zNw) (hR : 3 ≤ n) (hW : (st.map fun v => v.category).sum ≤ 8) (d : decode cc pc = .ok (.invokestatic index, 3)) (kk : G σ lv (pc + 3) (.long o :: st)) : G σ lv pc (.long p1 :: .long p0 :: st) := z_callSN M [.long p0, .long p1] (m_X11_commonDivisor (zM_hD M) h) hl u87 u897 u896 hd_X11_commonDivisor hR (by decide) rfl hW d kk
set_option maxHeartbeats 4000000 in
set_option maxRecDepth 100000 in
theorem m_X5_addFraction (hD : ∀ σ, va_D A (cW a cy σ)) {σ : Zst} {p0 : Int64} {p1 : Int64} {o : Zst} (h : f_X5_addFraction σ p0 p1 = some o) : zT l D zcl (zty cy) A ad (cW a cy) yX5_addFraction cX5_addFraction 9 (some (.object "BinsThatTell$Row")) 3 [.ref (a 1), .long p0, .long p1] σ o (some (.ref (a 1))) := by
  refine z_met pn_X5 hD (Nat.le_of_ble_eq_true rfl) rfl (fun G M => ?_)
  refine z_lload_n M dt_X5_addFraction_0.1.1.1.1 rfl 1 rfl ?_
  refine z_lload_n M dt_X5_addFraction_0.1.1.1.2 rfl 2 rfl ?_
  obtain ⟨t1, hc, h⟩ := gBd h
  refine kn_X11_commonDivisor M hc u895 (Nat.le_of_ble_eq_true rfl) (Nat.le_of_ble_eq_true rfl) dt_X5_addFraction_0.1.1.2.1 ?_
  refine z_lstore (lv' := [(5, .long t1), (0, .ref (a 1)), (1, .long p0), (3, .long p1)]) M dt_X5_addFraction_0.1.1.2.2 (by decide) rfl ?_
  refine z_lload M dt_X5_addFraction_0.1.2.1.1 0 rfl ?_
  refine z_lconst (v := 0) M dt_X5_addFraction_0.1.2.1.2 (by decide) ?_
  refine z_lcmp_ne (tgt := 16) M dt_X5_addFraction_0.1.2.2.1 dt_X5_addFraction_0.1.2.2.2 (by decide) (fun hc => ?_) (fun hc => ?_)
  · have h := gIf hc h
    refine z_lload_n M dt_X5_addFraction_0.2.1.2.1 rfl 3 rfl ?_
    refine z_lconst (v := 0) M dt_X5_addFraction_0.2.1.2.2 (by decide) ?_
    have hJ3 : G σ [(5, .long t1), (0, .ref (a 1)), (1, .long p0), (3, .long p1)] 30 [.long (if (0 : Int64) ≤ p1 then t1 else (-t1))] := by
      refine z_lstore (lv' := [(7, .long (if (0 : Int64) ≤ p1 then t1 else (-t1))), (5, .long t1), (0, .ref (a 1)), (1, .long p0), (3, .long p1)]) M dt_X5_addFraction_1.1.1.2.1 (by decide) rfl ?_
      refine z_aload_n M dt_X5_addFraction_1.1.1.2.2 rfl 2 rfl ?_
      refine z_lload_n M dt_X5_addFraction_1.1.2.1.1 rfl 3 rfl ?_
      refine z_lload M dt_X5_addFraction_1.1.2.1.2 0 rfl ?_
      have ⟨hg, h⟩ := gNzL_s h
      refine z_ldiv M dt_X5_addFraction_1.1.2.2 hg ?_
      obtain ⟨t4, hc, h⟩ := gBd h
      refine k_X5_add M hc u901 (Nat.le_of_ble_eq_true rfl) (Nat.le_of_ble_eq_true rfl) dt_X5_addFraction_1.2.1.1.1 ?_
      refine z_lload_n M dt_X5_addFraction_1.2.1.1.2 rfl 4 rfl ?_
      refine z_lload M dt_X5_addFraction_1.2.1.2 0 rfl ?_
      have ⟨hg, h⟩ := gNzL_s h
      refine z_ldiv M dt_X5_addFraction_1.2.2.1.1 hg ?_
      obtain ⟨t5, hc, h⟩ := gBd h
      refine k_X5_add M hc u901 (Nat.le_of_ble_eq_true rfl) (Nat.le_of_ble_eq_true rfl) dt_X5_addFraction_1.2.2.1.2 ?_
      obtain rfl := Option.some.inj h
      exact z_aret M dt_X5_addFraction_1.2.2.2
    refine z_lcmp_ge (tgt := 28) M dt_X5_addFraction_0.2.2.1.1 dt_X5_addFraction_0.2.2.1.2 (by decide) (fun hc2 => ?_) (fun hc2 => ?_)
    · refine z_lload M dt_X5_addFraction_1.1.1.1.2 0 rfl ?_
      exact (zTtL hc2 hJ3)
    · refine z_lload M dt_X5_addFraction_0.2.2.2.1 0 rfl ?_
      refine z_lneg M dt_X5_addFraction_0.2.2.2.2 ?_
      refine z_goto (tgt := 30) M dt_X5_addFraction_1.1.1.1.1 (by decide) ?_
      exact (zTfL hc2 hJ3)
  · have h := gIt hc h
    refine z_aload_n M dt_X5_addFraction_0.2.1.1.1 rfl 1 rfl ?_
    obtain rfl := Option.some.inj h
    exact z_aret M dt_X5_addFraction_0.2.1.1.2
theorem k_X5_addFraction {n : Nat} (M : zM l D zcl (zty cy) A ad (zR n) (cW a cy) own cc nL rt σo ov G) {p0 : Int64} {p1 : Int64} {o : Zst} (h : f_X5_addFraction σ p0 p1 = some o) {index : Nat} (hl : Cond.methodLink own index yX5_addFraction ∈ uw) (hR : 4 ≤ n) (hW : (st.map fun v => v.category).sum ≤ 8) (d : decode cc pc = .ok (.invokevirtual index, 3)) (kk : G o lv (pc + 3) (.ref (a 1) :: st)) : G σ lv pc (.long p1 :: .long p0 :: .ref (a 1) :: st) := z_callV M [.long p0, .long p1] (m_X5_addFraction (zM_hD M) h) (hC1 σ) rfl hl u88 u894 u892 u893 hd_X5_addFraction hR (by decide) rfl hW d kk
set_option maxHeartbeats 4000000 in
set_option maxRecDepth 100000 in
theorem m_X0_eatenInCell (hD : ∀ σ, va_D A (cW a cy σ)) {σ : Zst} {p0 : Int32} {p1 : Int32} {p2 : Int32} {o : (Zst × Int32)} (h : f_X0_eatenInCell σ p0 p1 p2 = some o) : zT l D zcl (zty cy) A ad (cW a cy) yX0_eatenInCell cX0_eatenInCell 8 (some .int) 4 [.ref (a 27), .int p0, .int p1, .int p2] σ o.1 (some (.int o.2)) := by
  refine z_met pn_X0 hD (Nat.le_of_ble_eq_true rfl) rfl (fun G M => ?_)
  refine z_aload_n M dt_X0_eatenInCell_0.1.1.1.1 rfl 0 rfl ?_
  refine gf_X0_town M u270 dt_X0_eatenInCell_0.1.1.1.2 ?_
  refine z_iload_n M dt_X0_eatenInCell_0.1.1.2.1 rfl 1 rfl ?_
  refine k_X10_hasSort M u861 (Nat.le_of_ble_eq_true rfl) (Nat.le_of_ble_eq_true rfl) dt_X0_eatenInCell_0.1.1.2.2 ?_
  refine z_if_eq (tgt := 32) M dt_X0_eatenInCell_0.1.2.1.1 (by decide) (fun hc => ?_) (fun hc => ?_)
  · have h := gIt hc h
    refine z_iconst M dt_X0_eatenInCell_0.2.2.2.2 ki_m1 ?_
    obtain rfl := Option.some.inj h
    exact z_iret M dt_X0_eatenInCell_1.1.1.1.1
  · have h := gIf hc h
    refine z_aload_n M dt_X0_eatenInCell_0.1.2.1.2 rfl 0 rfl ?_
    refine gf_X0_town M u270 dt_X0_eatenInCell_0.1.2.2.1 ?_
    refine z_iload_n M dt_X0_eatenInCell_0.1.2.2.2 rfl 2 rfl ?_
    refine k_X10_hasCell M u885 (Nat.le_of_ble_eq_true rfl) (Nat.le_of_ble_eq_true rfl) dt_X0_eatenInCell_0.2.1.1.1 ?_
    refine z_if_eq (tgt := 32) M dt_X0_eatenInCell_0.2.1.1.2 (by decide) (fun hc => ?_) (fun hc => ?_)
    · have h := gIt hc h
      refine z_iconst M dt_X0_eatenInCell_0.2.2.2.2 ki_m1 ?_
      obtain rfl := Option.some.inj h
      exact z_iret M dt_X0_eatenInCell_1.1.1.1.1
    · have h := gIf hc h
      refine z_iload_n M dt_X0_eatenInCell_0.2.1.2.1 rfl 3 rfl ?_
      refine z_iconst M dt_X0_eatenInCell_0.2.1.2.2 ki_0 ?_
      refine z_bipush M dt_X0_eatenInCell_0.2.2.1.1 kb_100 ?_
      refine kn_X11_between M u859 (Nat.le_of_ble_eq_true rfl) (Nat.le_of_ble_eq_true rfl) dt_X0_eatenInCell_0.2.2.1.2 ?_
      refine z_if_ne (tgt := 34) M dt_X0_eatenInCell_0.2.2.2.1 (by decide) (fun hc => ?_) (fun hc => ?_)
      · have h := gIf hc h
        refine z_aload_n M dt_X0_eatenInCell_1.1.1.1.2 rfl 0 rfl ?_
        refine gf_X0_numbers M u271 dt_X0_eatenInCell_1.1.1.2.1 ?_
        refine z_iconst M dt_X0_eatenInCell_1.1.1.2.2 ki_0 ?_
        refine z_iload_n M dt_X0_eatenInCell_1.1.2.1.1 rfl 2 rfl ?_
        refine z_iload_n M dt_X0_eatenInCell_1.1.2.1.2 rfl 1 rfl ?_
        obtain ⟨t1, hc, h⟩ := gBd h
        refine k_X4_has M hc u864 (Nat.le_of_ble_eq_true rfl) (Nat.le_of_ble_eq_true rfl) dt_X0_eatenInCell_1.1.2.2.1 ?_
        refine z_if_ne (tgt := 50) M dt_X0_eatenInCell_1.1.2.2.2 (by decide) (fun hc => ?_) (fun hc => ?_)
        · have h := gIf hc h
          refine z_aload_n M dt_X0_eatenInCell_1.2.1.2.1 rfl 0 rfl ?_
          refine gf_X0_numbers M u271 dt_X0_eatenInCell_1.2.1.2.2 ?_
          refine z_iconst M dt_X0_eatenInCell_1.2.2.1.1 ki_0 ?_
          refine z_iload_n M dt_X0_eatenInCell_1.2.2.1.2 rfl 2 rfl ?_
          refine z_iload_n M dt_X0_eatenInCell_1.2.2.2.1 rfl 1 rfl ?_
          obtain ⟨t2, hc, h⟩ := gBd h
          refine k_X4_of M hc u868 (Nat.le_of_ble_eq_true rfl) (Nat.le_of_ble_eq_true rfl) dt_X0_eatenInCell_1.2.2.2.2 ?_
          refine z_i2l M dt_X0_eatenInCell_2.1.1.1.1 ?_
          refine z_lstore (lv' := [(4, .long (Int32.toInt64 t2)), (0, .ref (a 27)), (1, .int p0), (2, .int p1), (3, .int p2)]) M dt_X0_eatenInCell_2.1.1.1.2 (by decide) rfl ?_
          refine z_aload_n M dt_X0_eatenInCell_2.1.1.2.1 rfl 1 rfl ?_
          refine gf_X0_town M u270 dt_X0_eatenInCell_2.1.1.2.2 ?_
          refine z_iload_n M dt_X0_eatenInCell_2.1.2.1.1 rfl 2 rfl ?_
          obtain ⟨t3, hc, h⟩ := gBd h
          refine k_X10_leavesOf M hc u886 (Nat.le_of_ble_eq_true rfl) (Nat.le_of_ble_eq_true rfl) dt_X0_eatenInCell_2.1.2.1.2 ?_
          refine z_istore (lv' := [(6, .int t3), (4, .long (Int32.toInt64 t2)), (0, .ref (a 27)), (1, .int p0), (2, .int p1), (3, .int p2)]) M dt_X0_eatenInCell_2.1.2.2.1 (by decide) rfl ?_
          refine z_aload_n M dt_X0_eatenInCell_2.1.2.2.2 rfl 2 rfl ?_
          refine gf_X0_town M u270 dt_X0_eatenInCell_2.2.1.1.1 ?_
          refine z_iload_n M dt_X0_eatenInCell_2.2.1.1.2 rfl 3 rfl ?_
          obtain ⟨t4, hc, h⟩ := gBd h
          refine k_X10_staysOf M hc u887 (Nat.le_of_ble_eq_true rfl) (Nat.le_of_ble_eq_true rfl) dt_X0_eatenInCell_2.2.1.2.1 ?_
          refine z_istore (lv' := [(7, .int t4), (6, .int t3), (4, .long (Int32.toInt64 t2)), (0, .ref (a 27)), (1, .int p0), (2, .int p1), (3, .int p2)]) M dt_X0_eatenInCell_2.2.1.2.2 (by decide) rfl ?_
          refine z_aload_n M dt_X0_eatenInCell_2.2.2.1.1 rfl 3 rfl ?_
          refine gf_X0_row M u272 dt_X0_eatenInCell_2.2.2.1.2 ?_
          obtain ⟨t5, hc, h⟩ := gBd h
          refine k_X5_clear M hc u869 (Nat.le_of_ble_eq_true rfl) (Nat.le_of_ble_eq_true rfl) dt_X0_eatenInCell_2.2.2.2.1 ?_
          refine z_lload M dt_X0_eatenInCell_2.2.2.2.2 2 rfl ?_
          refine z_bipush M dt_X0_eatenInCell_3.1.1.1.1 kb_100 ?_
          refine z_iload_n M dt_X0_eatenInCell_3.1.1.1.2 rfl 6 rfl ?_
          refine z_isub M dt_X0_eatenInCell_3.1.1.2.1 ?_
          refine z_i2l M dt_X0_eatenInCell_3.1.1.2.2 ?_
          refine z_lmul M dt_X0_eatenInCell_3.1.2.1.1 ?_
          refine z_iload M dt_X0_eatenInCell_3.1.2.1.2 1 rfl ?_
          refine z_i2l M dt_X0_eatenInCell_3.1.2.2.1 ?_
          obtain ⟨t6, hc, h⟩ := gBd h
          refine k_X5_addFraction M hc u891 (Nat.le_of_ble_eq_true rfl) (Nat.le_of_ble_eq_true rfl) dt_X0_eatenInCell_3.1.2.2.2 ?_
          refine z_pop M dt_X0_eatenInCell_3.2.1.1.1 rfl ?_
          refine z_iload M dt_X0_eatenInCell_3.2.1.1.2 0 rfl ?_
          refine z_if_ne (tgt := 113) M dt_X0_eatenInCell_3.2.1.2.1 (by decide) (fun hc => ?_) (fun hc => ?_)
          · have h := gIf hc h
            refine z_aload_n M dt_X0_eatenInCell_3.2.2.1.2 rfl 3 rfl ?_
            refine gf_X0_row M u272 dt_X0_eatenInCell_3.2.2.2.1 ?_
            refine z_lload M dt_X0_eatenInCell_3.2.2.2.2 2 rfl ?_
            refine z_ldc2 M dt_X0_eatenInCell_4.1.1.1.1 u902 ?_
            refine z_lmul M dt_X0_eatenInCell_4.1.1.1.2 ?_
            refine z_ldc2 M dt_X0_eatenInCell_4.1.1.2.1 u902 ?_
            refine z_lmul M dt_X0_eatenInCell_4.1.1.2.2 ?_
            refine z_iload M dt_X0_eatenInCell_4.1.2.1.1 1 rfl ?_
            refine z_i2l M dt_X0_eatenInCell_4.1.2.1.2 ?_
            refine z_iload M dt_X0_eatenInCell_4.1.2.2 0 rfl ?_
            refine z_i2l M dt_X0_eatenInCell_4.2.1.1.1 ?_
            refine z_lmul M dt_X0_eatenInCell_4.2.1.1.2 ?_
            obtain ⟨t7, hc, h⟩ := gBd h
            refine k_X5_addFraction M hc u891 (Nat.le_of_ble_eq_true rfl) (Nat.le_of_ble_eq_true rfl) dt_X0_eatenInCell_4.2.1.2 ?_
            refine z_pop M dt_X0_eatenInCell_4.2.2.1.1 rfl ?_
            refine z_iconst M dt_X0_eatenInCell_4.2.2.1.2 ki_0 ?_
            obtain rfl := Option.some.inj h
            exact z_iret M dt_X0_eatenInCell_4.2.2.2
          · have h := gIt hc h
            refine z_bipush M dt_X0_eatenInCell_3.2.1.2.2 kb_m3 ?_
            obtain rfl := Option.some.inj h
            exact z_iret M dt_X0_eatenInCell_3.2.2.1.1
        · have h := gIt hc h
          refine z_bipush M dt_X0_eatenInCell_1.2.1.1.1 kb_m2 ?_
          obtain rfl := Option.some.inj h
          exact z_iret M dt_X0_eatenInCell_1.2.1.1.2
      · have h := gIt hc h
        refine z_iconst M dt_X0_eatenInCell_0.2.2.2.2 ki_m1 ?_
        obtain rfl := Option.some.inj h
        exact z_iret M dt_X0_eatenInCell_1.1.1.1.1
theorem k_X0_eatenInCell {n : Nat} (M : zM l D zcl (zty cy) A ad (zR n) (cW a cy) own cc nL rt σo ov G) {p0 : Int32} {p1 : Int32} {p2 : Int32} {o : (Zst × Int32)} (h : f_X0_eatenInCell σ p0 p1 p2 = some o) {index : Nat} (hl : Cond.methodLink own index yX0_eatenInCell ∈ uw) (hR : 5 ≤ n) (hW : (st.map fun v => v.category).sum ≤ 8) (d : decode cc pc = .ok (.invokevirtual index, 3)) (kk : G o.1 lv (pc + 3) (.int o.2 :: st)) : G σ lv pc (.int p2 :: .int p1 :: .int p0 :: .ref (a 27) :: st) := z_callV M [.int p0, .int p1, .int p2] (m_X0_eatenInCell (zM_hD M) h) (hC27 σ) rfl hl u94 u884 u882 u883 hd_X0_eatenInCell hR (by decide) rfl hW d kk
set_option maxHeartbeats 4000000 in
set_option maxRecDepth 100000 in
theorem m_X11_bounds (hD : ∀ σ, va_D A (cW a cy σ)) {σ : Zst} {p0 : Int32} {p1 : Int32} {p2 : Int32} {o : (Zst × Int32)} (h : f_X11_bounds σ p0 p1 p2 = some o) : zT l D zcl (zty cy) A ad (cW a cy) yX11_bounds cX11_bounds 4 (some .int) 5 [.ref (a 0), .int p0, .int p1, .int p2] σ o.1 (some (.int o.2)) := by
  refine z_met pn_X11 hD (Nat.le_of_ble_eq_true rfl) rfl (fun G M => ?_)
  refine z_aload_n M dt_X11_bounds_0.1.1.1 rfl 0 rfl ?_
  refine gf_X11_answers M u435 dt_X11_bounds_0.1.1.2 ?_
  refine z_iload_n M dt_X11_bounds_0.1.2.1 rfl 1 rfl ?_
  refine z_iload_n M dt_X11_bounds_0.1.2.2 rfl 2 rfl ?_
  refine z_iload_n M dt_X11_bounds_0.2.1.1 rfl 3 rfl ?_
  obtain ⟨t1, hc, h⟩ := gBd h
  refine k_X0_eatenInCell M hc u881 (Nat.le_of_ble_eq_true rfl) (Nat.le_of_ble_eq_true rfl) dt_X11_bounds_0.2.1.2 ?_
  obtain rfl := Option.some.inj h
  exact z_iret M dt_X11_bounds_0.2.2
set_option maxHeartbeats 4000000 in
set_option maxRecDepth 100000 in
theorem m_X11_isWay (hD : ∀ σ, va_D A (wf σ)) (σ0 : Zst) (p0 : Int32) : zT l D zcl0 tys A ad wf yX11_isWay cX11_isWay 1 (some .boolean) 2 [.int p0] σ0 σ0 (some (.int (f_X11_isWay p0))) := by
  obtain ⟨o, h⟩ : ∃ o, f_X11_isWay p0 = o := ⟨_, rfl⟩
  rw [h]
  refine z_met pn_X11 hD (Nat.le_of_ble_eq_true rfl) rfl (fun G M => ?_)
  refine z_iload_n M dt_X11_isWay_0.1.1.1 rfl 0 rfl ?_
  refine z_iconst M dt_X11_isWay_0.1.1.2 ki_0 ?_
  refine z_iconst M dt_X11_isWay_0.1.2 ki_3 ?_
  refine k_X11_between M u503 (Nat.le_of_ble_eq_true rfl) (Nat.le_of_ble_eq_true rfl) dt_X11_isWay_0.2.1 ?_
  subst h
  exact z_zret M (nBo (bo_X11_between p0 (0 : Int32) (3 : Int32))) dt_X11_isWay_0.2.2
theorem kn_X11_isWay {n : Nat} (M : zM l D zcl0 tys A ad (zR n) wf own cc nL rt σo ov G) {p0 : Int32} {index : Nat} {host : String} (hl : Cond.methodLinkNest own index yX11_isWay host ∈ zNw) (hR : 3 ≤ n) (hW : (st.map fun v => v.category).sum ≤ 8) (d : decode cc pc = .ok (.invokestatic index, 3)) (kk : G σ lv (pc + 3) (.int (f_X11_isWay p0) :: st)) : G σ lv pc (.int p0 :: st) := z_callSN M [.int p0] (m_X11_isWay (zM_hD M) σ p0) hl u87 u913 u912 hd_X11_isWay hR (by decide) rfl hW d kk
set_option maxHeartbeats 4000000 in
set_option maxRecDepth 100000 in
theorem wL_X0_surely_42 {o : (Zst × Int32)} (M : zM l D zcl (zty cy) A ad (zR 4) (cW a cy) RX0 cX0_surely 13 (some .int) o.1 (some (.int o.2)) G) {k129 : Int64 → Int64 → Int32 → Option (Zst × Int32)} (σ : Zst) (v1 : Int32) (v2 : Int32) (v3 : Int32) (Hk129 : ∀ (w4 : Int64) (w6 : Int64) (w8 : Int32), k129 w4 w6 w8 = some o → G σ [(0, .ref (a 27)), (1, .int v1), (3, .int v3), (4, .long w4), (6, .long w6), (8, .int w8)] 129 []) :
    ∀ (n42 : Nat) (v4 : Int64) (v6 : Int64) (v8 : Int32) (v9 : Int32), L_X0_surely_42 k129 σ v1 v2 v3 n42 v4 v6 v8 v9 = some o → G σ [(0, .ref (a 27)), (1, .int v1), (2, .int v2), (3, .int v3), (4, .long v4), (6, .long v6), (8, .int v8), (9, .int v9)] 42 [] := by
  intro n42
  induction n42 with
  | zero => intro v4 v6 v8 v9 h; exact nomatch (show (none : Option (Zst × Int32)) = some _ from h)
  | succ n42 ih =>
    intro v4 v6 v8 v9 h
    refine z_iload M dt_X0_surely_1.1.2.2.2 7 rfl ?_
    refine z_aload_n M dt_X0_surely_1.2.1.1.1 rfl 0 rfl ?_
    refine gf_X0_town M u270 dt_X0_surely_1.2.1.1.2 ?_
    refine k_X10_cellCount M u862 (Nat.le_of_ble_eq_true rfl) (Nat.le_of_ble_eq_true rfl) dt_X0_surely_1.2.1.2.1 ?_
    refine z_icmp_ge (tgt := 129) M dt_X0_surely_1.2.1.2.2 (by decide) (fun hc => ?_) (fun hc => ?_)
    · have h := gIt hc h
      refine z_sub M [0, 1, 3, 4, 5, 6] (lv' := [(0, .ref (a 27)), (1, .int v1), (3, .int v3), (4, .long v4), (6, .long v6), (8, .int v8)]) rfl ?_
      exact Hk129 v4 v6 v8 h
    · have h := gIf hc h
      refine z_aload_n M dt_X0_surely_1.2.2.1.1 rfl 0 rfl ?_
      refine gf_X0_numbers M u271 dt_X0_surely_1.2.2.1.2 ?_
      refine z_iconst M dt_X0_surely_1.2.2.2.1 ki_0 ?_
      refine z_iload M dt_X0_surely_1.2.2.2.2 7 rfl ?_
      refine z_iload_n M dt_X0_surely_2.1.1.1.1 rfl 1 rfl ?_
      obtain ⟨t1, hc, h⟩ := gBd h
      refine k_X4_has M hc u864 (Nat.le_of_ble_eq_true rfl) (Nat.le_of_ble_eq_true rfl) dt_X0_surely_2.1.1.1.2 ?_
      refine z_if_eq (tgt := 123) M dt_X0_surely_2.1.1.2.1 (by decide) (fun hc => ?_) (fun hc => ?_)
      · have h := gIt hc h
        refine z_iinc (v := (v9 + (1 : Int32))) (lv' := [(9, .int (v9 + (1 : Int32))), (0, .ref (a 27)), (1, .int v1), (2, .int v2), (3, .int v3), (4, .long v4), (6, .long v6), (8, .int v8)]) M dt_X0_surely_4.1.2.1.1 (k := 7) rfl (congrArg (fun q => v9 + q) ki_1) (by decide) rfl ?_
        refine z_goto (tgt := 42) M dt_X0_surely_4.1.2.1.2 (by decide) ?_
        refine z_sub M [1, 2, 3, 4, 5, 6, 7, 0] (lv' := [(0, .ref (a 27)), (1, .int v1), (2, .int v2), (3, .int v3), (4, .long v4), (6, .long v6), (8, .int v8), (9, .int (v9 + (1 : Int32)))]) rfl ?_
        exact ih v4 v6 v8 (v9 + (1 : Int32)) h
      · have h := gIf hc h
        refine z_aload_n M dt_X0_surely_2.1.1.2.2 rfl 0 rfl ?_
        refine gf_X0_numbers M u271 dt_X0_surely_2.1.2.1.1 ?_
        refine z_iconst M dt_X0_surely_2.1.2.1.2 ki_2 ?_
        refine z_iload_n M dt_X0_surely_2.1.2.2.1 rfl 2 rfl ?_
        refine z_iadd M dt_X0_surely_2.1.2.2.2 ?_
        refine z_iload M dt_X0_surely_2.2.1.1.1 7 rfl ?_
        refine z_iload_n M dt_X0_surely_2.2.1.1.2 rfl 1 rfl ?_
        obtain ⟨t2, hc, h⟩ := gBd h
        refine k_X4_has M hc u864 (Nat.le_of_ble_eq_true rfl) (Nat.le_of_ble_eq_true rfl) dt_X0_surely_2.2.1.2.1 ?_
        refine z_if_eq (tgt := 123) M dt_X0_surely_2.2.1.2.2 (by decide) (fun hc => ?_) (fun hc => ?_)
        · have h := gIt hc h
          refine z_iinc (v := (v9 + (1 : Int32))) (lv' := [(9, .int (v9 + (1 : Int32))), (0, .ref (a 27)), (1, .int v1), (2, .int v2), (3, .int v3), (4, .long v4), (6, .long v6), (8, .int v8)]) M dt_X0_surely_4.1.2.1.1 (k := 7) rfl (congrArg (fun q => v9 + q) ki_1) (by decide) rfl ?_
          refine z_goto (tgt := 42) M dt_X0_surely_4.1.2.1.2 (by decide) ?_
          refine z_sub M [1, 2, 3, 4, 5, 6, 7, 0] (lv' := [(0, .ref (a 27)), (1, .int v1), (2, .int v2), (3, .int v3), (4, .long v4), (6, .long v6), (8, .int v8), (9, .int (v9 + (1 : Int32)))]) rfl ?_
          exact ih v4 v6 v8 (v9 + (1 : Int32)) h
        · have h := gIf hc h
          refine z_lload M dt_X0_surely_2.2.2.1.1 4 rfl ?_
          refine z_aload_n M dt_X0_surely_2.2.2.1.2 rfl 0 rfl ?_
          refine gf_X0_numbers M u271 dt_X0_surely_2.2.2.2.1 ?_
          refine z_iconst M dt_X0_surely_2.2.2.2.2 ki_0 ?_
          refine z_iload M dt_X0_surely_3.1.1.1.1 7 rfl ?_
          refine z_iload_n M dt_X0_surely_3.1.1.1.2 rfl 1 rfl ?_
          obtain ⟨t3, hc, h⟩ := gBd h
          refine k_X4_of M hc u868 (Nat.le_of_ble_eq_true rfl) (Nat.le_of_ble_eq_true rfl) dt_X0_surely_3.1.1.2.1 ?_
          refine z_i2l M dt_X0_surely_3.1.1.2.2 ?_
          refine z_ladd M dt_X0_surely_3.1.2.1.1 ?_
          refine z_lstore (lv' := [(4, .long (v4 + (Int32.toInt64 t3))), (0, .ref (a 27)), (1, .int v1), (2, .int v2), (3, .int v3), (6, .long v6), (8, .int v8), (9, .int v9)]) M dt_X0_surely_3.1.2.1.2 (by decide) rfl ?_
          refine z_lload M dt_X0_surely_3.1.2.2.1 5 rfl ?_
          refine z_aload_n M dt_X0_surely_3.1.2.2.2 rfl 1 rfl ?_
          refine gf_X0_numbers M u271 dt_X0_surely_3.2.1.1.1 ?_
          refine z_iconst M dt_X0_surely_3.2.1.1.2 ki_2 ?_
          refine z_iload_n M dt_X0_surely_3.2.1.2.1 rfl 3 rfl ?_
          refine z_iadd M dt_X0_surely_3.2.1.2.2 ?_
          refine z_iload M dt_X0_surely_3.2.2.1.1 7 rfl ?_
          refine z_iload_n M dt_X0_surely_3.2.2.1.2 rfl 2 rfl ?_
          obtain ⟨t4, hc, h⟩ := gBd h
          refine k_X4_of M hc u868 (Nat.le_of_ble_eq_true rfl) (Nat.le_of_ble_eq_true rfl) dt_X0_surely_3.2.2.2.1 ?_
          refine z_i2l M dt_X0_surely_3.2.2.2.2 ?_
          refine z_ladd M dt_X0_surely_4.1.1.1.1 ?_
          refine z_lstore (lv' := [(6, .long (v6 + (Int32.toInt64 t4))), (4, .long (v4 + (Int32.toInt64 t3))), (0, .ref (a 27)), (1, .int v1), (2, .int v2), (3, .int v3), (8, .int v8), (9, .int v9)]) M dt_X0_surely_4.1.1.1.2 (by decide) rfl ?_
          refine z_iconst M dt_X0_surely_4.1.1.2.1 ki_1 ?_
          refine z_istore (lv' := [(8, .int (1 : Int32)), (6, .long (v6 + (Int32.toInt64 t4))), (4, .long (v4 + (Int32.toInt64 t3))), (0, .ref (a 27)), (1, .int v1), (2, .int v2), (3, .int v3), (9, .int v9)]) M dt_X0_surely_4.1.1.2.2 (by decide) rfl ?_
          refine z_iinc (v := (v9 + (1 : Int32))) (lv' := [(9, .int (v9 + (1 : Int32))), (8, .int (1 : Int32)), (6, .long (v6 + (Int32.toInt64 t4))), (4, .long (v4 + (Int32.toInt64 t3))), (0, .ref (a 27)), (1, .int v1), (2, .int v2), (3, .int v3)]) M dt_X0_surely_4.1.2.1.1 (k := 7) rfl (congrArg (fun q => v9 + q) ki_1) (by decide) rfl ?_
          refine z_goto (tgt := 42) M dt_X0_surely_4.1.2.1.2 (by decide) ?_
          refine z_sub M [4, 5, 6, 7, 3, 2, 1, 0] (lv' := [(0, .ref (a 27)), (1, .int v1), (2, .int v2), (3, .int v3), (4, .long (v4 + (Int32.toInt64 t3))), (6, .long (v6 + (Int32.toInt64 t4))), (8, .int (1 : Int32)), (9, .int (v9 + (1 : Int32)))]) rfl ?_
          exact ih (v4 + (Int32.toInt64 t3)) (v6 + (Int32.toInt64 t4)) (1 : Int32) (v9 + (1 : Int32)) h
set_option maxHeartbeats 4000000 in
set_option maxRecDepth 100000 in
theorem wJ_X0_surely_129 {o : (Zst × Int32)} (M : zM l D zcl (zty cy) A ad (zR 4) (cW a cy) RX0 cX0_surely 13 (some .int) o.1 (some (.int o.2)) G) (σ : Zst) (v1 : Int32) (v3 : Int32) (v4 : Int64) (v6 : Int64) (v8 : Int32)  (h : J_X0_surely_129 σ v1 v3 v4 v6 v8 = some o) : G σ [(0, .ref (a 27)), (1, .int v1), (3, .int v3), (4, .long v4), (6, .long v6), (8, .int v8)] 129 [] := by
  refine z_iload M dt_X0_surely_4.1.2.2.1 5 rfl ?_
  refine z_if_ne (tgt := 137) M dt_X0_surely_4.1.2.2.2 (by decide) (fun hc => ?_) (fun hc => ?_)
  · have h := gIf hc h
    refine z_aload_n M dt_X0_surely_4.2.1.2.1 rfl 0 rfl ?_
    refine gf_X0_town M u270 dt_X0_surely_4.2.1.2.2 ?_
    refine z_iload_n M dt_X0_surely_4.2.2.1.1 rfl 1 rfl ?_
    obtain ⟨t5, hc, h⟩ := gBd h
    refine k_X10_leavesOf M hc u886 (Nat.le_of_ble_eq_true rfl) (Nat.le_of_ble_eq_true rfl) dt_X0_surely_4.2.2.1.2 ?_
    refine z_i2l M dt_X0_surely_4.2.2.2.1 ?_
    refine z_lstore (lv' := [(9, .long (Int32.toInt64 t5)), (0, .ref (a 27)), (1, .int v1), (3, .int v3), (4, .long v4), (6, .long v6), (8, .int v8)]) M dt_X0_surely_4.2.2.2.2 (by decide) rfl ?_
    refine z_aload_n M dt_X0_surely_5.1.1.1.1 rfl 1 rfl ?_
    refine gf_X0_town M u270 dt_X0_surely_5.1.1.1.2 ?_
    refine z_iload_n M dt_X0_surely_5.1.1.2.1 rfl 2 rfl ?_
    obtain ⟨t6, hc, h⟩ := gBd h
    refine k_X10_staysOf M hc u887 (Nat.le_of_ble_eq_true rfl) (Nat.le_of_ble_eq_true rfl) dt_X0_surely_5.1.1.2.2 ?_
    refine z_i2l M dt_X0_surely_5.1.2.1.1 ?_
    refine z_lstore (lv' := [(11, .long (Int32.toInt64 t6)), (9, .long (Int32.toInt64 t5)), (0, .ref (a 27)), (1, .int v1), (3, .int v3), (4, .long v4), (6, .long v6), (8, .int v8)]) M dt_X0_surely_5.1.2.1.2 (by decide) rfl ?_
    refine z_aload_n M dt_X0_surely_5.1.2.2.1 rfl 2 rfl ?_
    refine gf_X0_row M u272 dt_X0_surely_5.1.2.2.2 ?_
    obtain ⟨t7, hc, h⟩ := gBd h
    refine k_X5_clear M hc u869 (Nat.le_of_ble_eq_true rfl) (Nat.le_of_ble_eq_true rfl) dt_X0_surely_5.2.1.1.1 ?_
    refine z_lload M dt_X0_surely_5.2.1.1.2 5 rfl ?_
    refine z_bipush M dt_X0_surely_5.2.1.2.1 kb_100 ?_
    refine z_iload_n M dt_X0_surely_5.2.1.2.2 rfl 4 rfl ?_
    refine z_isub M dt_X0_surely_5.2.2.1.1 ?_
    refine z_i2l M dt_X0_surely_5.2.2.1.2 ?_
    refine z_lmul M dt_X0_surely_5.2.2.2.1 ?_
    refine z_lload M dt_X0_surely_5.2.2.2.2 1 rfl ?_
    obtain ⟨t8, hc, h⟩ := gBd h
    refine k_X5_addFraction M hc u891 (Nat.le_of_ble_eq_true rfl) (Nat.le_of_ble_eq_true rfl) dt_X0_surely_6.1.1.1.1 ?_
    refine z_lload M dt_X0_surely_6.1.1.1.2 6 rfl ?_
    obtain ⟨t9, hc, h⟩ := gBd h
    refine k_X5_add M hc u873 (Nat.le_of_ble_eq_true rfl) (Nat.le_of_ble_eq_true rfl) dt_X0_surely_6.1.1.2.1 ?_
    refine z_pop M dt_X0_surely_6.1.1.2.2 rfl ?_
    refine z_lload M dt_X0_surely_6.1.2.1.1 5 rfl ?_
    refine z_bipush M dt_X0_surely_6.1.2.1.2 kb_100 ?_
    refine z_iload_n M dt_X0_surely_6.1.2.2.1 rfl 4 rfl ?_
    refine z_isub M dt_X0_surely_6.1.2.2.2 ?_
    refine z_i2l M dt_X0_surely_6.2.1.1.1 ?_
    refine z_lmul M dt_X0_surely_6.2.1.1.2 ?_
    refine z_lload M dt_X0_surely_6.2.1.2.1 6 rfl ?_
    refine z_lload M dt_X0_surely_6.2.1.2.2 1 rfl ?_
    refine z_lmul M dt_X0_surely_6.2.2.1.1 ?_
    refine z_lcmp_le (tgt := 204) M dt_X0_surely_6.2.2.1.2 dt_X0_surely_6.2.2.2.1 (by decide) (fun hc => ?_) (fun hc => ?_)
    · have h := gIt hc h
      refine z_lload M dt_X0_surely_7.1.1.1.2 0 rfl ?_
      refine z_lconst (v := 0) M dt_X0_surely_7.1.1.2.1 (by decide) ?_
      have hJ12 : G t9 [(11, .long (Int32.toInt64 t6)), (9, .long (Int32.toInt64 t5)), (0, .ref (a 27)), (1, .int v1), (3, .int v3), (4, .long v4), (6, .long v6), (8, .int v8)] 238 [.int (if (Int32.toInt64 t6) ≤ (0 : Int64) then (0 : Int32) else (if ((v6 * (Int32.toInt64 t5)) * (Int32.toInt64 t6)) ≤ ((v4 * (100 : Int64)) * (100 : Int64)) then (0 : Int32) else (2 : Int32)))] := by
        obtain rfl := Option.some.inj h
        exact z_iret M dt_X0_surely_8.2.2
      refine z_lcmp_le (tgt := 237) M dt_X0_surely_7.1.1.2.2 dt_X0_surely_7.1.2.1.1 (by decide) (fun hc10 => ?_) (fun hc10 => ?_)
      · refine z_iconst M dt_X0_surely_8.2.1 ki_0 ?_
        exact (zTt hc10 hJ12)
      · refine z_lload M dt_X0_surely_7.1.2.1.2 5 rfl ?_
        refine z_ldc2 M dt_X0_surely_7.1.2.2.1 u902 ?_
        refine z_lmul M dt_X0_surely_7.1.2.2.2 ?_
        refine z_ldc2 M dt_X0_surely_7.2.1.1.1 u902 ?_
        refine z_lmul M dt_X0_surely_7.2.1.1.2 ?_
        refine z_lload M dt_X0_surely_7.2.1.2.1 6 rfl ?_
        refine z_lload M dt_X0_surely_7.2.1.2.2 1 rfl ?_
        refine z_lmul M dt_X0_surely_7.2.2.1.1 ?_
        refine z_lload M dt_X0_surely_7.2.2.1.2 0 rfl ?_
        refine z_lmul M dt_X0_surely_7.2.2.2.1 ?_
        refine z_lcmp_ge (tgt := 237) M dt_X0_surely_7.2.2.2.2 dt_X0_surely_8.1.1.1 (by decide) (fun hc11 => ?_) (fun hc11 => ?_)
        · refine z_iconst M dt_X0_surely_8.2.1 ki_0 ?_
          exact (zTt hc11 (zTf hc10 hJ12))
        · refine z_iconst M dt_X0_surely_8.1.1.2 ki_2 ?_
          refine z_goto (tgt := 238) M dt_X0_surely_8.1.2 (by decide) ?_
          exact (zTf hc11 (zTf hc10 hJ12))
    · have h := gIf hc h
      refine z_iconst M dt_X0_surely_6.2.2.2.2 ki_1 ?_
      obtain rfl := Option.some.inj h
      exact z_iret M dt_X0_surely_7.1.1.1.1
  · have h := gIt hc h
    refine z_bipush M dt_X0_surely_4.2.1.1.1 kb_m2 ?_
    obtain rfl := Option.some.inj h
    exact z_iret M dt_X0_surely_4.2.1.1.2
set_option maxHeartbeats 4000000 in
set_option maxRecDepth 100000 in
theorem m_X0_surely (hD : ∀ σ, va_D A (cW a cy σ)) {σ : Zst} {p0 : Int32} {p1 : Int32} {p2 : Int32} {o : (Zst × Int32)} (h : f_X0_surely σ p0 p1 p2 = some o) : zT l D zcl (zty cy) A ad (cW a cy) yX0_surely cX0_surely 13 (some .int) 4 [.ref (a 27), .int p0, .int p1, .int p2] σ o.1 (some (.int o.2)) := by
  refine z_met pn_X0 hD (Nat.le_of_ble_eq_true rfl) rfl (fun G M => ?_)
  refine z_aload_n M dt_X0_surely_0.1.1.1.1 rfl 0 rfl ?_
  refine gf_X0_town M u270 dt_X0_surely_0.1.1.1.2 ?_
  refine z_iload_n M dt_X0_surely_0.1.1.2.1 rfl 1 rfl ?_
  refine k_X10_hasSort M u861 (Nat.le_of_ble_eq_true rfl) (Nat.le_of_ble_eq_true rfl) dt_X0_surely_0.1.1.2.2 ?_
  refine z_if_eq (tgt := 28) M dt_X0_surely_0.1.2.1.1 (by decide) (fun hc => ?_) (fun hc => ?_)
  · have h := gIt hc h
    refine z_iconst M dt_X0_surely_0.2.2.1.2 ki_m1 ?_
    obtain rfl := Option.some.inj h
    exact z_iret M dt_X0_surely_0.2.2.2.1
  · have h := gIf hc h
    refine z_iload_n M dt_X0_surely_0.1.2.1.2 rfl 2 rfl ?_
    refine kn_X11_isWay M u911 (Nat.le_of_ble_eq_true rfl) (Nat.le_of_ble_eq_true rfl) dt_X0_surely_0.1.2.2.1 ?_
    refine z_if_eq (tgt := 28) M dt_X0_surely_0.1.2.2.2 (by decide) (fun hc => ?_) (fun hc => ?_)
    · have h := gIt hc h
      refine z_iconst M dt_X0_surely_0.2.2.1.2 ki_m1 ?_
      obtain rfl := Option.some.inj h
      exact z_iret M dt_X0_surely_0.2.2.2.1
    · have h := gIf hc h
      refine z_iload_n M dt_X0_surely_0.2.1.1.1 rfl 3 rfl ?_
      refine z_iconst M dt_X0_surely_0.2.1.1.2 ki_0 ?_
      refine z_bipush M dt_X0_surely_0.2.1.2.1 kb_100 ?_
      refine kn_X11_between M u859 (Nat.le_of_ble_eq_true rfl) (Nat.le_of_ble_eq_true rfl) dt_X0_surely_0.2.1.2.2 ?_
      refine z_if_ne (tgt := 30) M dt_X0_surely_0.2.2.1.1 (by decide) (fun hc => ?_) (fun hc => ?_)
      · have h := gIf hc h
        refine z_lconst (v := 0) M dt_X0_surely_0.2.2.2.2 (by decide) ?_
        refine z_lstore (lv' := [(4, .long (0 : Int64)), (0, .ref (a 27)), (1, .int p0), (2, .int p1), (3, .int p2)]) M dt_X0_surely_1.1.1.1.1 (by decide) rfl ?_
        refine z_lconst (v := 0) M dt_X0_surely_1.1.1.1.2 (by decide) ?_
        refine z_lstore (lv' := [(6, .long (0 : Int64)), (4, .long (0 : Int64)), (0, .ref (a 27)), (1, .int p0), (2, .int p1), (3, .int p2)]) M dt_X0_surely_1.1.1.2.1 (by decide) rfl ?_
        refine z_iconst M dt_X0_surely_1.1.1.2.2 ki_0 ?_
        refine z_istore (lv' := [(8, .int (0 : Int32)), (6, .long (0 : Int64)), (4, .long (0 : Int64)), (0, .ref (a 27)), (1, .int p0), (2, .int p1), (3, .int p2)]) M dt_X0_surely_1.1.2.1.1 (by decide) rfl ?_
        refine z_iconst M dt_X0_surely_1.1.2.1.2 ki_0 ?_
        refine z_istore (lv' := [(9, .int (0 : Int32)), (8, .int (0 : Int32)), (6, .long (0 : Int64)), (4, .long (0 : Int64)), (0, .ref (a 27)), (1, .int p0), (2, .int p1), (3, .int p2)]) M dt_X0_surely_1.1.2.2.1 (by decide) rfl ?_
        refine z_sub M [4, 5, 6, 7, 3, 2, 1, 0] (lv' := [(0, .ref (a 27)), (1, .int p0), (2, .int p1), (3, .int p2), (4, .long (0 : Int64)), (6, .long (0 : Int64)), (8, .int (0 : Int32)), (9, .int (0 : Int32))]) rfl ?_
        exact wL_X0_surely_42 M (k129 := (fun w13 w14 w15 => J_X0_surely_129 σ p0 p2 w13 w14 w15)) σ p0 p1 p2 (fun w13 w14 w15 h => by
            exact wJ_X0_surely_129 M  σ p0 p2 w13 w14 w15 h) zFu (0 : Int64) (0 : Int64) (0 : Int32) (0 : Int32) h
      · have h := gIt hc h
        refine z_iconst M dt_X0_surely_0.2.2.1.2 ki_m1 ?_
        obtain rfl := Option.some.inj h
        exact z_iret M dt_X0_surely_0.2.2.2.1
theorem k_X0_surely {n : Nat} (M : zM l D zcl (zty cy) A ad (zR n) (cW a cy) own cc nL rt σo ov G) {p0 : Int32} {p1 : Int32} {p2 : Int32} {o : (Zst × Int32)} (h : f_X0_surely σ p0 p1 p2 = some o) {index : Nat} (hl : Cond.methodLink own index yX0_surely ∈ uw) (hR : 5 ≤ n) (hW : (st.map fun v => v.category).sum ≤ 8) (d : decode cc pc = .ok (.invokevirtual index, 3)) (kk : G o.1 lv (pc + 3) (.int o.2 :: st)) : G σ lv pc (.int p2 :: .int p1 :: .int p0 :: .ref (a 27) :: st) := z_callV M [.int p0, .int p1, .int p2] (m_X0_surely (zM_hD M) h) (hC27 σ) rfl hl u94 u910 u908 u909 hd_X0_surely hR (by decide) rfl hW d kk
end ZWK
