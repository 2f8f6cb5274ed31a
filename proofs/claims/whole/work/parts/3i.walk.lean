section ZWK
variable {l : Launch} {D : va_G} {A : Nat → Prop} {ad : (Nat → Nat) × (Nat → Nat)} {a : Nat → Nat} {cy : ClassId × (ClassId × (ClassId × ClassId))} {own : String} {cc : ByteArray} {nL : Nat} {rt : Option FieldType} {σo : Zst} {ov : Option Value} {G : Zst → List (Nat × Value) → Nat → List Value → Prop}
variable {σ σ0 : Zst} {lv : List (Nat × Value)} {pc : Nat} {st : List Value} {zcl0 : List vw_C} {tys : List (ClassId × FieldType)} {wf : Zst → va_W}
set_option maxHeartbeats 4000000 in
set_option maxRecDepth 100000 in
theorem wL_X12_three_48 {o : (Zst × Int32)} (M : zM l D zcl (zty cy) A ad (zR 5) (mW a cy ad) RX12 cX12_three 7 (some .int) o.1 (some (.int o.2)) G) {k99 : Option (Zst × Int32)} (σ : Zst) (v1 : Int32) (v3 : Int32) (Hk99 : k99  = some o → G σ [(0, .ref (a 0)), (1, .int v1), (3, .int v3)] 99 []) :
    ∀ (n48 : Nat) (v4 : Int32), L_X12_three_48 k99 σ v1 v3 n48 v4 = some o → G σ [(0, .ref (a 0)), (1, .int v1), (3, .int v3), (4, .int v4)] 48 [] := by
  intro n48
  induction n48 with
  | zero => intro v4 h; exact nomatch (show (none : Option (Zst × Int32)) = some _ from h)
  | succ n48 ih =>
    intro v4 h
    refine z_iload M dt_X12_three_1.2.2.2.1 3 rfl ?_
    refine z_iconst M dt_X12_three_1.2.2.2.2 ki_3 ?_
    refine z_icmp_ge (tgt := 99) M dt_X12_three_2.1.1.1.1 (by decide) (fun hc => ?_) (fun hc => ?_)
    · have h := gIt hc h
      refine z_sub M [0, 1, 2] (lv' := [(0, .ref (a 0)), (1, .int v1), (3, .int v3)]) rfl ?_
      exact Hk99  h
    · have h := gIf hc h
      refine z_aload_n M dt_X12_three_2.1.1.1.2 rfl 0 rfl ?_
      refine z_iload_n M dt_X12_three_2.1.1.2.1 rfl 1 rfl ?_
      refine z_iload M dt_X12_three_2.1.1.2.2 3 rfl ?_
      refine z_iconst M dt_X12_three_2.1.2.1.1 ki_1 ?_
      refine z_iadd M dt_X12_three_2.1.2.1.2 ?_
      refine z_iconst M dt_X12_three_2.1.2.2.1 ki_3 ?_
      refine z_irem M dt_X12_three_2.1.2.2.2 (by decide) ?_
      refine z_iload M dt_X12_three_2.2.1.1.1 3 rfl ?_
      refine z_iconst M dt_X12_three_2.2.1.1.2 ki_2 ?_
      refine z_iadd M dt_X12_three_2.2.1.2.1 ?_
      refine z_iconst M dt_X12_three_2.2.1.2.2 ki_3 ?_
      refine z_irem M dt_X12_three_2.2.2.1.1 (by decide) ?_
      obtain ⟨t1, hc, h⟩ := gBd h
      refine k_X12_together M hc u1774 (Nat.le_of_ble_eq_true rfl) (Nat.le_of_ble_eq_true rfl) dt_X12_three_2.2.2.1.2 ?_
      refine z_lconst (v := 0) M dt_X12_three_2.2.2.2.1 (by decide) ?_
      refine z_lcmp_eq (tgt := 90) M dt_X12_three_2.2.2.2.2 dt_X12_three_3.1.1.1.1 (by decide) (fun hc => ?_) (fun hc => ?_)
      · have h := gIt hc h
        refine z_bipush M dt_X12_three_3.2.1.1.2 kb_m2 ?_
        obtain rfl := Option.some.inj h
        exact z_iret M dt_X12_three_3.2.1.2.1
      · have h := gIf hc h
        refine z_aload_n M dt_X12_three_3.1.1.1.2 rfl 0 rfl ?_
        refine z_iload_n M dt_X12_three_3.1.1.2.1 rfl 1 rfl ?_
        refine z_iload M dt_X12_three_3.1.1.2.2 3 rfl ?_
        refine z_iload M dt_X12_three_3.1.2.1.1 3 rfl ?_
        obtain ⟨t2, hc, h⟩ := gBd h
        refine k_X12_together M hc u1774 (Nat.le_of_ble_eq_true rfl) (Nat.le_of_ble_eq_true rfl) dt_X12_three_3.1.2.1.2 ?_
        refine z_lconst (v := 0) M dt_X12_three_3.1.2.2.1 (by decide) ?_
        refine z_lcmp_ne (tgt := 93) M dt_X12_three_3.1.2.2.2 dt_X12_three_3.2.1.1.1 (by decide) (fun hc => ?_) (fun hc => ?_)
        · have h := gIf hc h
          refine z_iinc (v := (v4 + (1 : Int32))) (lv' := [(4, .int (v4 + (1 : Int32))), (0, .ref (a 0)), (1, .int v1), (3, .int v3)]) M dt_X12_three_3.2.1.2.2 (k := 3) rfl (congrArg (fun q => v4 + q) ki_1) (by decide) rfl ?_
          refine z_goto (tgt := 48) M dt_X12_three_3.2.2.1.1 (by decide) ?_
          refine z_sub M [1, 2, 3, 0] (lv' := [(0, .ref (a 0)), (1, .int v1), (3, .int v3), (4, .int (v4 + (1 : Int32)))]) rfl ?_
          exact ih (v4 + (1 : Int32)) h
        · have h := gIt hc h
          refine z_bipush M dt_X12_three_3.2.1.1.2 kb_m2 ?_
          obtain rfl := Option.some.inj h
          exact z_iret M dt_X12_three_3.2.1.2.1
set_option maxHeartbeats 4000000 in
set_option maxRecDepth 100000 in
theorem wL_X12_three_107 {o : (Zst × Int32)} (M : zM l D zcl (zty cy) A ad (zR 5) (mW a cy ad) RX12 cX12_three 7 (some .int) o.1 (some (.int o.2)) G)  (v1 : Int32) (v3 : Int32)  :
    ∀ (n107 : Nat) (σ : Zst) (v4 : Int32), L_X12_three_107 v1 v3 n107 σ v4 = some o → G σ [(0, .ref (a 0)), (1, .int v1), (3, .int v3), (4, .int v4)] 107 [] := by
  intro n107
  induction n107 with
  | zero => intro σ v4 h; exact nomatch (show (none : Option (Zst × Int32)) = some _ from h)
  | succ n107 ih =>
    intro σ v4 h
    refine z_iload M dt_X12_three_4.1.1.2.1 3 rfl ?_
    refine z_iconst M dt_X12_three_4.1.1.2.2 ki_3 ?_
    refine z_icmp_ge (tgt := 180) M dt_X12_three_4.1.2.1.1 (by decide) (fun hc => ?_) (fun hc => ?_)
    · have h := gIt hc h
      refine z_iload_n M dt_X12_three_6.2.2.1.2 rfl 2 rfl ?_
      obtain rfl := Option.some.inj h
      exact z_iret M dt_X12_three_6.2.2.2
    · have h := gIf hc h
      refine z_iload M dt_X12_three_4.1.2.1.2 3 rfl ?_
      refine z_iconst M dt_X12_three_4.1.2.2.1 ki_1 ?_
      refine z_iadd M dt_X12_three_4.1.2.2.2 ?_
      refine z_iconst M dt_X12_three_4.2.1.1.1 ki_3 ?_
      refine z_irem M dt_X12_three_4.2.1.1.2 (by decide) ?_
      refine z_istore (lv' := [(5, .int (jRem (v4 + (1 : Int32)) (3 : Int32))), (0, .ref (a 0)), (1, .int v1), (3, .int v3), (4, .int v4)]) M dt_X12_three_4.2.1.2.1 (by decide) rfl ?_
      refine z_iload M dt_X12_three_4.2.1.2.2 4 rfl ?_
      refine z_iconst M dt_X12_three_4.2.2.1.1 ki_2 ?_
      refine z_iadd M dt_X12_three_4.2.2.1.2 ?_
      refine z_iconst M dt_X12_three_4.2.2.2.1 ki_3 ?_
      refine z_irem M dt_X12_three_4.2.2.2.2 (by decide) ?_
      refine z_istore (lv' := [(6, .int (jRem (v4 + (2 : Int32)) (3 : Int32))), (5, .int (jRem (v4 + (1 : Int32)) (3 : Int32))), (0, .ref (a 0)), (1, .int v1), (3, .int v3), (4, .int v4)]) M dt_X12_three_5.1.1.1.1 (by decide) rfl ?_
      refine z_aload_n M dt_X12_three_5.1.1.1.2 rfl 2 rfl ?_
      refine z_aload_n M dt_X12_three_5.1.1.2.1 rfl 2 rfl ?_
      refine z_iload_n M dt_X12_three_5.1.1.2.2 rfl 3 rfl ?_
      refine z_iload M dt_X12_three_5.1.2.1.1 5 rfl ?_
      refine z_iload M dt_X12_three_5.1.2.1.2 1 rfl ?_
      obtain ⟨t3, hc, h⟩ := gBd h
      refine k_X12_together M hc u1774 (Nat.le_of_ble_eq_true rfl) (Nat.le_of_ble_eq_true rfl) dt_X12_three_5.1.2.2.1 ?_
      refine z_aload_n M dt_X12_three_5.1.2.2.2 rfl 2 rfl ?_
      refine z_iload_n M dt_X12_three_5.2.1.1.1 rfl 3 rfl ?_
      refine z_iload M dt_X12_three_5.2.1.1.2 5 rfl ?_
      refine z_iload M dt_X12_three_5.2.1.2.1 0 rfl ?_
      obtain ⟨t4, hc, h⟩ := gBd h
      refine k_X12_together M hc u1774 (Nat.le_of_ble_eq_true rfl) (Nat.le_of_ble_eq_true rfl) dt_X12_three_5.2.1.2.2 ?_
      refine z_lmul M dt_X12_three_5.2.2.1.1 ?_
      refine z_aload_n M dt_X12_three_5.2.2.1.2 rfl 2 rfl ?_
      refine z_iload_n M dt_X12_three_5.2.2.2.1 rfl 3 rfl ?_
      refine z_iload M dt_X12_three_5.2.2.2.2 1 rfl ?_
      refine z_iload M dt_X12_three_6.1.1.1.1 0 rfl ?_
      obtain ⟨t5, hc, h⟩ := gBd h
      refine k_X12_together M hc u1774 (Nat.le_of_ble_eq_true rfl) (Nat.le_of_ble_eq_true rfl) dt_X12_three_6.1.1.1.2 ?_
      refine z_aload_n M dt_X12_three_6.1.1.2.1 rfl 2 rfl ?_
      refine z_iload_n M dt_X12_three_6.1.1.2.2 rfl 3 rfl ?_
      refine z_iload M dt_X12_three_6.1.2.1.1 5 rfl ?_
      refine z_iload M dt_X12_three_6.1.2.1.2 5 rfl ?_
      obtain ⟨t6, hc, h⟩ := gBd h
      refine k_X12_together M hc u1774 (Nat.le_of_ble_eq_true rfl) (Nat.le_of_ble_eq_true rfl) dt_X12_three_6.1.2.2 ?_
      refine z_lmul M dt_X12_three_6.2.1.1.1 ?_
      obtain ⟨t7, hc, h⟩ := gBd h
      refine k_X12_thousandths M hc u1778 (Nat.le_of_ble_eq_true rfl) (Nat.le_of_ble_eq_true rfl) dt_X12_three_6.2.1.1.2 ?_
      obtain ⟨t8, hc, h⟩ := gBd h
      refine k_X12_enters M hc u1708 (Nat.le_of_ble_eq_true rfl) (Nat.le_of_ble_eq_true rfl) dt_X12_three_6.2.1.2.1 ?_
      refine z_iinc (v := (v4 + (1 : Int32))) (lv' := [(4, .int (v4 + (1 : Int32))), (6, .int (jRem (v4 + (2 : Int32)) (3 : Int32))), (5, .int (jRem (v4 + (1 : Int32)) (3 : Int32))), (0, .ref (a 0)), (1, .int v1), (3, .int v3)]) M dt_X12_three_6.2.1.2.2 (k := 5) rfl (congrArg (fun q => v4 + q) ki_1) (by decide) rfl ?_
      refine z_goto (tgt := 107) M dt_X12_three_6.2.2.1.1 (by decide) ?_
      refine z_sub M [3, 4, 5, 0] (lv' := [(0, .ref (a 0)), (1, .int v1), (3, .int v3), (4, .int (v4 + (1 : Int32)))]) rfl ?_
      exact ih t8 (v4 + (1 : Int32)) h
set_option maxHeartbeats 4000000 in
set_option maxRecDepth 100000 in
theorem wJ_X12_three_99 {o : (Zst × Int32)} (M : zM l D zcl (zty cy) A ad (zR 5) (mW a cy ad) RX12 cX12_three 7 (some .int) o.1 (some (.int o.2)) G) (σ : Zst) (v1 : Int32) (v3 : Int32)  (h : J_X12_three_99 σ v1 v3 = some o) : G σ [(0, .ref (a 0)), (1, .int v1), (3, .int v3)] 99 [] := by
  refine z_aload_n M dt_X12_three_3.2.2.1.2 rfl 0 rfl ?_
  refine z_iconst M dt_X12_three_3.2.2.2.1 ki_0 ?_
  refine pf_X12_rows M u1961 dt_X12_three_3.2.2.2.2 ?_
  refine z_iconst M dt_X12_three_4.1.1.1.1 ki_0 ?_
  refine z_istore (lv' := [(4, .int (0 : Int32)), (0, .ref (a 0)), (1, .int v1), (3, .int v3)]) M dt_X12_three_4.1.1.1.2 (by decide) rfl ?_
  refine z_sub M [1, 2, 3, 0] (lv' := [(0, .ref (a 0)), (1, .int v1), (3, .int v3), (4, .int (0 : Int32))]) rfl ?_
  exact wL_X12_three_107 M  v1 v3 zFu (zI σ 1 (0 : Int32)) (0 : Int32) h
set_option maxHeartbeats 4000000 in
set_option maxRecDepth 100000 in
theorem m_X12_three (hD : ∀ σ, va_D A (mW a cy ad σ)) {σ : Zst} {p0 : Int32} {p1 : Int32} {o : (Zst × Int32)} (h : f_X12_three σ p0 p1 = some o) : zT l D zcl (zty cy) A ad (mW a cy ad) yX12_three cX12_three 7 (some .int) 5 [.ref (a 0), .int p0, .int p1] σ o.1 (some (.int o.2)) := by
  refine z_met pn_X12 hD (Nat.le_of_ble_eq_true rfl) rfl (fun G M => ?_)
  refine z_aload_n M dt_X12_three_0.1.1.1.1 rfl 0 rfl ?_
  refine z_iconst M dt_X12_three_0.1.1.1.2 ki_0 ?_
  refine pf_X12_thrown M u1960 dt_X12_three_0.1.1.2.1 ?_
  refine z_aload_n M dt_X12_three_0.1.1.2.2 rfl 0 rfl ?_
  refine z_iload_n M dt_X12_three_0.1.2.1.1 rfl 1 rfl ?_
  refine k_X12_isSort M u1526 (Nat.le_of_ble_eq_true rfl) (Nat.le_of_ble_eq_true rfl) dt_X12_three_0.1.2.1.2 ?_
  refine z_if_eq (tgt := 20) M dt_X12_three_0.1.2.2.1 (by decide) (fun hc => ?_) (fun hc => ?_)
  · have h := gIt hc h
    refine z_iconst M dt_X12_three_0.2.1.2.1 ki_m1 ?_
    obtain rfl := Option.some.inj h
    exact z_iret M dt_X12_three_0.2.1.2.2
  · have h := gIf hc h
    refine z_iload_n M dt_X12_three_0.1.2.2.2 rfl 2 rfl ?_
    refine k_X12_isWay M u1732 (Nat.le_of_ble_eq_true rfl) (Nat.le_of_ble_eq_true rfl) dt_X12_three_0.2.1.1.1 ?_
    refine z_if_ne (tgt := 22) M dt_X12_three_0.2.1.1.2 (by decide) (fun hc => ?_) (fun hc => ?_)
    · have h := gIf hc h
      refine z_aload_n M dt_X12_three_0.2.2.1.1 rfl 0 rfl ?_
      refine gf_X12_threeKind M u1995 dt_X12_three_0.2.2.1.2 ?_
      refine z_iconst M dt_X12_three_0.2.2.2.1 ki_2 ?_
      refine z_iconst M dt_X12_three_0.2.2.2.2 ki_2 ?_
      refine z_iload_n M dt_X12_three_1.1.1.1.1 rfl 2 rfl ?_
      refine z_iadd M dt_X12_three_1.1.1.1.2 ?_
      refine as_M15 (σ := (zI σ 0 (0 : Int32))) M (f := (σ.2.1 13)) rfl (show ¬ (_ ∨ _) by decide) dt_X12_three_1.1.1.2.1 ?_
      refine z_aload_n M dt_X12_three_1.1.1.2.2 rfl 0 rfl ?_
      refine z_iload_n M dt_X12_three_1.1.2.1.1 rfl 1 rfl ?_
      obtain ⟨t9, hc, h⟩ := gBd h
      refine k_X12_threeMany M hc u1766 (Nat.le_of_ble_eq_true rfl) (Nat.le_of_ble_eq_true rfl) dt_X12_three_1.1.2.1.2 ?_
      refine z_istore_n (lv' := [(3, .int t9), (0, .ref (a 0)), (1, .int p0), (2, .int p1)]) M dt_X12_three_1.1.2.2.1 rfl (by decide) rfl ?_
      refine z_iload_n M dt_X12_three_1.1.2.2.2 rfl 0 rfl ?_
      refine z_iconst M dt_X12_three_1.2.1.1.1 ki_2 ?_
      refine z_icmp_ge (tgt := 45) M dt_X12_three_1.2.1.1.2 (by decide) (fun hc => ?_) (fun hc => ?_)
      · have h := gIt hc h
        refine z_iconst M dt_X12_three_1.2.2.1.1 ki_0 ?_
        refine z_istore (lv' := [(4, .int (0 : Int32)), (3, .int t9), (0, .ref (a 0)), (1, .int p0), (2, .int p1)]) M dt_X12_three_1.2.2.1.2 (by decide) rfl ?_
        refine z_sub M [2, 3, 1, 0] (lv' := [(0, .ref (a 0)), (1, .int p0), (3, .int t9), (4, .int (0 : Int32))]) rfl ?_
        exact wL_X12_three_48 M (k99 := (J_X12_three_99 (zA (zI σ 0 (0 : Int32)) 13 (upd (σ.2.1 13) (Int32.toNatClampNeg (2 : Int32)) ((2 : Int32) + p1))) p0 t9)) (zA (zI σ 0 (0 : Int32)) 13 (upd (σ.2.1 13) (Int32.toNatClampNeg (2 : Int32)) ((2 : Int32) + p1))) p0 t9 (fun  h => by
            exact wJ_X12_three_99 M  (zA (zI σ 0 (0 : Int32)) 13 (upd (σ.2.1 13) (Int32.toNatClampNeg (2 : Int32)) ((2 : Int32) + p1))) p0 t9 h) zFu (0 : Int32) h
      · have h := gIf hc h
        refine z_bipush M dt_X12_three_1.2.1.2.1 kb_m2 ?_
        obtain rfl := Option.some.inj h
        exact z_iret M dt_X12_three_1.2.1.2.2
    · have h := gIt hc h
      refine z_iconst M dt_X12_three_0.2.1.2.1 ki_m1 ?_
      obtain rfl := Option.some.inj h
      exact z_iret M dt_X12_three_0.2.1.2.2
set_option maxHeartbeats 4000000 in
set_option maxRecDepth 100000 in
theorem m_X12_slope (hD : ∀ σ, va_D A (mW a cy ad σ)) {σ : Zst} {p0 : Int32} {p1 : Int32} {o : (Zst × Int32)} (h : f_X12_slope σ p0 p1 = some o) : zT l D zcl (zty cy) A ad (mW a cy ad) yX12_slope cX12_slope 3 (some .int) 5 [.ref (a 0), .int p0, .int p1] σ o.1 (some (.int o.2)) := by
  refine z_met pn_X12 hD (Nat.le_of_ble_eq_true rfl) rfl (fun G M => ?_)
  refine z_aload_n M dt_X12_slope_0.1.1.1.1 rfl 0 rfl ?_
  refine z_iconst M dt_X12_slope_0.1.1.1.2 ki_0 ?_
  refine pf_X12_thrown M u1960 dt_X12_slope_0.1.1.2.1 ?_
  refine z_aload_n M dt_X12_slope_0.1.1.2.2 rfl 0 rfl ?_
  refine z_iload_n M dt_X12_slope_0.1.2.1.1 rfl 1 rfl ?_
  refine k_X12_isSort M u1526 (Nat.le_of_ble_eq_true rfl) (Nat.le_of_ble_eq_true rfl) dt_X12_slope_0.1.2.1.2 ?_
  refine z_if_eq (tgt := 20) M dt_X12_slope_0.1.2.2.1 (by decide) (fun hc => ?_) (fun hc => ?_)
  · have h := gIt hc h
    refine z_iconst M dt_X12_slope_0.2.1.2.1 ki_m1 ?_
    obtain rfl := Option.some.inj h
    exact z_iret M dt_X12_slope_0.2.1.2.2
  · have h := gIf hc h
    refine z_iload_n M dt_X12_slope_0.1.2.2.2 rfl 2 rfl ?_
    refine k_X12_isWay M u1732 (Nat.le_of_ble_eq_true rfl) (Nat.le_of_ble_eq_true rfl) dt_X12_slope_0.2.1.1.1 ?_
    refine z_if_ne (tgt := 22) M dt_X12_slope_0.2.1.1.2 (by decide) (fun hc => ?_) (fun hc => ?_)
    · have h := gIf hc h
      refine z_aload_n M dt_X12_slope_0.2.2.1.1 rfl 0 rfl ?_
      refine gf_X12_threeKind M u1995 dt_X12_slope_0.2.2.1.2 ?_
      refine z_iconst M dt_X12_slope_0.2.2.2.1 ki_2 ?_
      refine z_iconst M dt_X12_slope_0.2.2.2.2 ki_2 ?_
      refine z_iload_n M dt_X12_slope_1.1.1.1.1 rfl 2 rfl ?_
      refine z_iadd M dt_X12_slope_1.1.1.1.2 ?_
      refine as_M15 (σ := (zI σ 0 (0 : Int32))) M (f := (σ.2.1 13)) rfl (show ¬ (_ ∨ _) by decide) dt_X12_slope_1.1.1.2.1 ?_
      refine z_aload_n M dt_X12_slope_1.1.1.2.2 rfl 0 rfl ?_
      refine z_iload_n M dt_X12_slope_1.1.2.1.1 rfl 1 rfl ?_
      obtain ⟨t1, hc, h⟩ := gBd h
      refine k_X12_threeMany M hc u1766 (Nat.le_of_ble_eq_true rfl) (Nat.le_of_ble_eq_true rfl) dt_X12_slope_1.1.2.1.2 ?_
      refine z_iconst M dt_X12_slope_1.1.2.2.1 ki_2 ?_
      refine z_icmp_lt (tgt := 52) M dt_X12_slope_1.1.2.2.2 (by decide) (fun hc => ?_) (fun hc => ?_)
      · have h := gIt hc h
        refine z_bipush M dt_X12_slope_2.1.1.1.1 kb_m2 ?_
        obtain rfl := Option.some.inj h
        exact z_iret M dt_X12_slope_2.1.1.1.2
      · have h := gIf hc h
        refine z_aload_n M dt_X12_slope_1.2.1.1.1 rfl 0 rfl ?_
        refine z_iload_n M dt_X12_slope_1.2.1.1.2 rfl 1 rfl ?_
        refine z_iconst M dt_X12_slope_1.2.1.2.1 ki_0 ?_
        refine z_iconst M dt_X12_slope_1.2.1.2.2 ki_1 ?_
        obtain ⟨t2, hc, h⟩ := gBd h
        refine k_X12_together M hc u1774 (Nat.le_of_ble_eq_true rfl) (Nat.le_of_ble_eq_true rfl) dt_X12_slope_1.2.2.1.1 ?_
        refine z_lconst (v := 0) M dt_X12_slope_1.2.2.1.2 (by decide) ?_
        refine z_lcmp_ne (tgt := 55) M dt_X12_slope_1.2.2.2.1 dt_X12_slope_1.2.2.2.2 (by decide) (fun hc => ?_) (fun hc => ?_)
        · have h := gIf hc h
          refine z_aload_n M dt_X12_slope_2.1.1.2.1 rfl 0 rfl ?_
          refine z_iconst M dt_X12_slope_2.1.1.2.2 ki_0 ?_
          refine pf_X12_rows M u1961 dt_X12_slope_2.1.2.1.1 ?_
          refine z_aload_n M dt_X12_slope_2.1.2.1.2 rfl 0 rfl ?_
          refine z_aload_n M dt_X12_slope_2.1.2.2.1 rfl 0 rfl ?_
          refine z_iload_n M dt_X12_slope_2.1.2.2.2 rfl 1 rfl ?_
          refine z_iconst M dt_X12_slope_2.2.1.1.1 ki_0 ?_
          refine z_iconst M dt_X12_slope_2.2.1.1.2 ki_2 ?_
          obtain ⟨t3, hc, h⟩ := gBd h
          refine k_X12_together M hc u1774 (Nat.le_of_ble_eq_true rfl) (Nat.le_of_ble_eq_true rfl) dt_X12_slope_2.2.1.2.1 ?_
          refine z_aload_n M dt_X12_slope_2.2.1.2.2 rfl 0 rfl ?_
          refine z_iload_n M dt_X12_slope_2.2.2.1.1 rfl 1 rfl ?_
          refine z_iconst M dt_X12_slope_2.2.2.1.2 ki_0 ?_
          refine z_iconst M dt_X12_slope_2.2.2.2.1 ki_1 ?_
          obtain ⟨t4, hc, h⟩ := gBd h
          refine k_X12_together M hc u1774 (Nat.le_of_ble_eq_true rfl) (Nat.le_of_ble_eq_true rfl) dt_X12_slope_2.2.2.2.2 ?_
          obtain ⟨t5, hc, h⟩ := gBd h
          refine k_X12_entersFraction M hc u1716 (Nat.le_of_ble_eq_true rfl) (Nat.le_of_ble_eq_true rfl) dt_X12_slope_3.1.1 ?_
          refine z_iconst M dt_X12_slope_3.1.2 ki_0 ?_
          obtain rfl := Option.some.inj h
          exact z_iret M dt_X12_slope_3.2
        · have h := gIt hc h
          refine z_bipush M dt_X12_slope_2.1.1.1.1 kb_m2 ?_
          obtain rfl := Option.some.inj h
          exact z_iret M dt_X12_slope_2.1.1.1.2
    · have h := gIt hc h
      refine z_iconst M dt_X12_slope_0.2.1.2.1 ki_m1 ?_
      obtain rfl := Option.some.inj h
      exact z_iret M dt_X12_slope_0.2.1.2.2
set_option maxHeartbeats 4000000 in
set_option maxRecDepth 100000 in
theorem m_X12_areNeighbours (hD : ∀ σ, va_D A (mW a cy ad σ)) {σ0 : Zst} {p0 : Int32} {p1 : Int32} {p2 : Int32} {o : Int32} (h : f_X12_areNeighbours σ0 p0 p1 p2 = some o) : zT l D zcl (zty cy) A ad (mW a cy ad) yX12_areNeighbours cX12_areNeighbours 4 (some .boolean) 3 [.ref (a 0), .int p0, .int p1, .int p2] σ0 σ0 (some (.int o)) := by
  refine z_met pn_X12 hD (Nat.le_of_ble_eq_true rfl) rfl (fun G M => ?_)
  refine z_aload_n M dt_X12_areNeighbours_0.1.1.1.1 rfl 0 rfl ?_
  refine z_iconst M dt_X12_areNeighbours_0.1.1.1.2 ki_1 ?_
  refine z_iload_n M dt_X12_areNeighbours_0.1.1.2.1 rfl 1 rfl ?_
  refine z_iload_n M dt_X12_areNeighbours_0.1.1.2.2 rfl 2 rfl ?_
  obtain ⟨t1, hc, h⟩ := gBd h
  refine k_X12_isTold M hc u1704 (Nat.le_of_ble_eq_true rfl) (Nat.le_of_ble_eq_true rfl) dt_X12_areNeighbours_0.1.2.1.1 ?_
  refine z_if_eq (tgt := 36) M dt_X12_areNeighbours_0.1.2.1.2 (by decide) (fun hc => ?_) (fun hc => ?_)
  · have h := gIt hc h
    refine z_iconst M dt_X12_areNeighbours_1.2.2.1 ki_0 ?_
    obtain rfl := Option.some.inj h
    exact z_zret M (nBo (Or.inl rfl)) dt_X12_areNeighbours_1.2.2.2
  · have h := gIf hc h
    refine z_aload_n M dt_X12_areNeighbours_0.1.2.2.1 rfl 0 rfl ?_
    refine z_iconst M dt_X12_areNeighbours_0.1.2.2.2 ki_2 ?_
    refine z_iload_n M dt_X12_areNeighbours_0.2.1.1.1 rfl 3 rfl ?_
    refine z_iadd M dt_X12_areNeighbours_0.2.1.1.2 ?_
    refine z_iload_n M dt_X12_areNeighbours_0.2.1.2.1 rfl 1 rfl ?_
    refine z_iload_n M dt_X12_areNeighbours_0.2.1.2.2 rfl 2 rfl ?_
    obtain ⟨t2, hc, h⟩ := gBd h
    refine k_X12_isTold M hc u1704 (Nat.le_of_ble_eq_true rfl) (Nat.le_of_ble_eq_true rfl) dt_X12_areNeighbours_0.2.2.1.1 ?_
    refine z_if_eq (tgt := 36) M dt_X12_areNeighbours_0.2.2.1.2 (by decide) (fun hc => ?_) (fun hc => ?_)
    · have h := gIt hc h
      refine z_iconst M dt_X12_areNeighbours_1.2.2.1 ki_0 ?_
      obtain rfl := Option.some.inj h
      exact z_zret M (nBo (Or.inl rfl)) dt_X12_areNeighbours_1.2.2.2
    · have h := gIf hc h
      refine z_aload_n M dt_X12_areNeighbours_0.2.2.2.1 rfl 0 rfl ?_
      refine z_iconst M dt_X12_areNeighbours_0.2.2.2.2 ki_5 ?_
      refine z_iload_n M dt_X12_areNeighbours_1.1.1.1 rfl 1 rfl ?_
      refine z_iload_n M dt_X12_areNeighbours_1.1.1.2 rfl 2 rfl ?_
      obtain ⟨t3, hc, h⟩ := gBd h
      refine k_X12_isTold M hc u1704 (Nat.le_of_ble_eq_true rfl) (Nat.le_of_ble_eq_true rfl) dt_X12_areNeighbours_1.1.2.1 ?_
      have hJ5 : G σ0 [(0, .ref (a 0)), (1, .int p0), (2, .int p1), (3, .int p2)] 37 [.int (if t3 = (0 : Int32) then (0 : Int32) else (1 : Int32))] := by
        obtain rfl := Option.some.inj h
        exact z_zret M (nBo (boIte (Or.inl rfl) (Or.inr rfl))) dt_X12_areNeighbours_1.2.2.2
      refine z_if_eq (tgt := 36) M dt_X12_areNeighbours_1.1.2.2 (by decide) (fun hc4 => ?_) (fun hc4 => ?_)
      · refine z_iconst M dt_X12_areNeighbours_1.2.2.1 ki_0 ?_
        exact (zTt hc4 hJ5)
      · refine z_iconst M dt_X12_areNeighbours_1.2.1.1 ki_1 ?_
        refine z_goto (tgt := 37) M dt_X12_areNeighbours_1.2.1.2 (by decide) ?_
        exact (zTf hc4 hJ5)
theorem k_X12_areNeighbours {n : Nat} (M : zM l D zcl (zty cy) A ad (zR n) (mW a cy ad) own cc nL rt σo ov G) {p0 : Int32} {p1 : Int32} {p2 : Int32} {o : Int32} (h : f_X12_areNeighbours σ p0 p1 p2 = some o) {index : Nat} (hl : Cond.methodLink own index yX12_areNeighbours ∈ uw) (hR : 4 ≤ n) (hW : (st.map fun v => v.category).sum ≤ 8) (d : decode cc pc = .ok (.invokevirtual index, 3)) (kk : G σ lv (pc + 3) (.int o :: st)) : G σ lv pc (.int p2 :: .int p1 :: .int p0 :: .ref (a 0) :: st) := z_callV M [.int p0, .int p1, .int p2] (m_X12_areNeighbours (zM_hD M) h) (hM0 σ) rfl hl u99 u1794 u1793 u72 hd_X12_areNeighbours hR (by decide) rfl hW d kk
set_option maxHeartbeats 4000000 in
set_option maxRecDepth 100000 in
theorem wL_X12_others_38 {o : (Zst × Int32)} (M : zM l D zcl (zty cy) A ad (zR 4) (mW a cy ad) RX12 cX12_others 13 (some .int) o.1 (some (.int o.2)) G) {k199 : Int32 → Int32 → Int32 → Option (Zst × Int32)} (σ : Zst) (v1 : Int32) (v2 : Int32) (Hk199 : ∀ (w3 : Int32) (w4 : Int32) (w5 : Int32), k199 w3 w4 w5 = some o → G σ [(0, .ref (a 0)), (3, .int w3), (4, .int w4), (5, .int w5)] 199 []) :
    ∀ (n38 : Nat) (v3 : Int32) (v4 : Int32) (v5 : Int32) (v6 : Int32), L_X12_others_38 k199 σ v1 v2 n38 v3 v4 v5 v6 = some o → G σ [(0, .ref (a 0)), (1, .int v1), (2, .int v2), (3, .int v3), (4, .int v4), (5, .int v5), (6, .int v6)] 38 [] := by
  intro n38
  induction n38 with
  | zero => intro v3 v4 v5 v6 h; exact nomatch (show (none : Option (Zst × Int32)) = some _ from h)
  | succ n38 ih =>
    intro v3 v4 v5 v6 h
    refine z_iload M dt_X12_others_1.1.2.2.2 6 rfl ?_
    refine z_bipush M dt_X12_others_1.2.1.1.1 kb_12 ?_
    refine z_aload_n M dt_X12_others_1.2.1.1.2 rfl 0 rfl ?_
    refine gf_X12_streets (σ := σ) M u1970 dt_X12_others_1.2.1.2.1 (v := (σ.1 3)) rfl ?_
    refine z_imul M dt_X12_others_1.2.1.2.2 ?_
    refine z_icmp_ge (tgt := 199) M dt_X12_others_1.2.2.1.1 (by decide) (fun hc => ?_) (fun hc => ?_)
    · have h := gIt hc h
      refine z_sub M [0, 3, 4, 5] (lv' := [(0, .ref (a 0)), (3, .int v3), (4, .int v4), (5, .int v5)]) rfl ?_
      exact Hk199 v3 v4 v5 h
    · have h := gIf hc h
      refine z_aload_n M dt_X12_others_1.2.2.1.2 rfl 0 rfl ?_
      refine z_iload M dt_X12_others_1.2.2.2.1 6 rfl ?_
      refine z_iload_n M dt_X12_others_1.2.2.2.2 rfl 1 rfl ?_
      refine z_iload_n M dt_X12_others_2.1.1.1.1 rfl 2 rfl ?_
      obtain ⟨t1, hc, h⟩ := gBd h
      refine k_X12_areNeighbours M hc u1791 (Nat.le_of_ble_eq_true rfl) (Nat.le_of_ble_eq_true rfl) dt_X12_others_2.1.1.1.2 ?_
      refine z_if_eq (tgt := 193) M dt_X12_others_2.1.1.2.1 (by decide) (fun hc => ?_) (fun hc => ?_)
      · have h := gIt hc h
        refine z_iinc (v := (v6 + (1 : Int32))) (lv' := [(6, .int (v6 + (1 : Int32))), (0, .ref (a 0)), (1, .int v1), (2, .int v2), (3, .int v3), (4, .int v4), (5, .int v5)]) M dt_X12_others_6.2.1.2.2 (k := 6) rfl (congrArg (fun q => v6 + q) ki_1) (by decide) rfl ?_
        refine z_goto (tgt := 38) M dt_X12_others_6.2.2.1.1 (by decide) ?_
        refine z_sub M [1, 2, 3, 4, 5, 6, 0] (lv' := [(0, .ref (a 0)), (1, .int v1), (2, .int v2), (3, .int v3), (4, .int v4), (5, .int v5), (6, .int (v6 + (1 : Int32)))]) rfl ?_
        exact ih v3 v4 v5 (v6 + (1 : Int32)) h
      · have h := gIf hc h
        refine z_aload_n M dt_X12_others_2.1.1.2.2 rfl 0 rfl ?_
        refine z_iconst M dt_X12_others_2.1.2.1.1 ki_2 ?_
        refine z_iload_n M dt_X12_others_2.1.2.1.2 rfl 2 rfl ?_
        refine z_iadd M dt_X12_others_2.1.2.2.1 ?_
        refine z_iload M dt_X12_others_2.1.2.2.2 6 rfl ?_
        refine z_iload_n M dt_X12_others_2.2.1.1.1 rfl 1 rfl ?_
        obtain ⟨t2, hc, h⟩ := gBd h
        refine k_X12_at M hc u1556 (Nat.le_of_ble_eq_true rfl) (Nat.le_of_ble_eq_true rfl) dt_X12_others_2.2.1.1.2 ?_
        refine z_istore (lv' := [(7, .int t2), (0, .ref (a 0)), (1, .int v1), (2, .int v2), (3, .int v3), (4, .int v4), (5, .int v5), (6, .int v6)]) M dt_X12_others_2.2.1.2.1 (by decide) rfl ?_
        refine z_aload_n M dt_X12_others_2.2.1.2.2 rfl 1 rfl ?_
        refine z_iconst M dt_X12_others_2.2.2.1.1 ki_5 ?_
        refine z_iload M dt_X12_others_2.2.2.1.2 7 rfl ?_
        refine z_iload_n M dt_X12_others_2.2.2.2.1 rfl 2 rfl ?_
        obtain ⟨t3, hc, h⟩ := gBd h
        refine k_X12_at M hc u1556 (Nat.le_of_ble_eq_true rfl) (Nat.le_of_ble_eq_true rfl) dt_X12_others_2.2.2.2.2 ?_
        refine z_istore (lv' := [(8, .int t3), (7, .int t2), (0, .ref (a 0)), (1, .int v1), (2, .int v2), (3, .int v3), (4, .int v4), (5, .int v5), (6, .int v6)]) M dt_X12_others_3.1.1.1.1 (by decide) rfl ?_
        refine z_aload_n M dt_X12_others_3.1.1.1.2 rfl 2 rfl ?_
        refine z_iconst M dt_X12_others_3.1.1.2.1 ki_1 ?_
        refine z_iload M dt_X12_others_3.1.1.2.2 8 rfl ?_
        refine z_iload_n M dt_X12_others_3.1.2.1.1 rfl 3 rfl ?_
        obtain ⟨t4, hc, h⟩ := gBd h
        refine k_X12_at M hc u1556 (Nat.le_of_ble_eq_true rfl) (Nat.le_of_ble_eq_true rfl) dt_X12_others_3.1.2.1.2 ?_
        refine z_istore (lv' := [(9, .int t4), (8, .int t3), (7, .int t2), (0, .ref (a 0)), (1, .int v1), (2, .int v2), (3, .int v3), (4, .int v4), (5, .int v5), (6, .int v6)]) M dt_X12_others_3.1.2.2.1 (by decide) rfl ?_
        refine z_iload M dt_X12_others_3.1.2.2.2 2 rfl ?_
        refine z_iload M dt_X12_others_3.2.1.1.1 0 rfl ?_
        refine z_isub M dt_X12_others_3.2.1.1.2 ?_
        refine z_mabs M u1747 u939 u100 u940 (Nat.le_of_ble_eq_true rfl) (Nat.le_of_ble_eq_true rfl) dt_X12_others_3.2.1.2.1 ?_
        refine z_istore (lv' := [(10, .int (jAbs (t2 - t4))), (9, .int t4), (8, .int t3), (7, .int t2), (0, .ref (a 0)), (1, .int v1), (2, .int v2), (3, .int v3), (4, .int v4), (5, .int v5), (6, .int v6)]) M dt_X12_others_3.2.1.2.2 (by decide) rfl ?_
        refine z_iload M dt_X12_others_3.2.2.1.1 2 rfl ?_
        refine z_iload M dt_X12_others_3.2.2.1.2 1 rfl ?_
        refine z_isub M dt_X12_others_3.2.2.2.1 ?_
        refine z_mabs M u1747 u939 u100 u940 (Nat.le_of_ble_eq_true rfl) (Nat.le_of_ble_eq_true rfl) dt_X12_others_3.2.2.2.2 ?_
        refine z_istore (lv' := [(11, .int (jAbs (t3 - t4))), (10, .int (jAbs (t2 - t4))), (9, .int t4), (8, .int t3), (7, .int t2), (0, .ref (a 0)), (1, .int v1), (2, .int v2), (3, .int v3), (4, .int v4), (5, .int v5), (6, .int v6)]) M dt_X12_others_4.1.1.1.1 (by decide) rfl ?_
        refine z_iload M dt_X12_others_4.1.1.1.2 4 rfl ?_
        refine z_iload M dt_X12_others_4.1.1.2.1 3 rfl ?_
        refine z_iadd M dt_X12_others_4.1.1.2.2 ?_
        refine z_iconst M dt_X12_others_4.1.2.1.1 ki_2 ?_
        refine z_idiv M dt_X12_others_4.1.2.1.2 (by decide) ?_
        refine z_iload M dt_X12_others_4.1.2.2.1 2 rfl ?_
        refine z_isub M dt_X12_others_4.1.2.2.2 ?_
        refine z_mabs M u1747 u939 u100 u940 (Nat.le_of_ble_eq_true rfl) (Nat.le_of_ble_eq_true rfl) dt_X12_others_4.2.1.1.1 ?_
        refine z_istore (lv' := [(12, .int (jAbs (((t2 + t3) / (2 : Int32)) - t4))), (11, .int (jAbs (t3 - t4))), (10, .int (jAbs (t2 - t4))), (9, .int t4), (8, .int t3), (7, .int t2), (0, .ref (a 0)), (1, .int v1), (2, .int v2), (3, .int v3), (4, .int v4), (5, .int v5), (6, .int v6)]) M dt_X12_others_4.2.1.1.2 (by decide) rfl ?_
        refine z_iload_n M dt_X12_others_4.2.1.2.1 rfl 9 rfl ?_
        refine z_iload M dt_X12_others_4.2.1.2.2 1 rfl ?_
        refine z_iload M dt_X12_others_4.2.2.1.1 2 rfl ?_
        have hJ6 : G σ [(12, .int (jAbs (((t2 + t3) / (2 : Int32)) - t4))), (11, .int (jAbs (t3 - t4))), (10, .int (jAbs (t2 - t4))), (9, .int t4), (8, .int t3), (7, .int t2), (0, .ref (a 0)), (1, .int v1), (2, .int v2), (3, .int v3), (4, .int v4), (5, .int v5), (6, .int v6)] 141 [.int (if (jAbs (t2 - t4)) ≤ (jAbs (t3 - t4)) then (0 : Int32) else (1 : Int32)), .int v3] := by
          refine k_X12_flag M u1675 (Nat.le_of_ble_eq_true rfl) (Nat.le_of_ble_eq_true rfl) dt_X12_others_5.1.1.1.2 ?_
          refine z_iadd M dt_X12_others_5.1.1.2.1 ?_
          refine z_istore_n (lv' := [(3, .int (v3 + (f_X12_flag (if (jAbs (t2 - t4)) ≤ (jAbs (t3 - t4)) then (0 : Int32) else (1 : Int32))))), (12, .int (jAbs (((t2 + t3) / (2 : Int32)) - t4))), (11, .int (jAbs (t3 - t4))), (10, .int (jAbs (t2 - t4))), (9, .int t4), (8, .int t3), (7, .int t2), (0, .ref (a 0)), (1, .int v1), (2, .int v2), (4, .int v4), (5, .int v5), (6, .int v6)]) M dt_X12_others_5.1.1.2.2 rfl (by decide) rfl ?_
          refine z_iload M dt_X12_others_5.1.2.1.1 10 rfl ?_
          refine z_iload M dt_X12_others_5.1.2.1.2 3 rfl ?_
          refine z_iload M dt_X12_others_5.1.2.2.1 2 rfl ?_
          have hJ8 : G σ [(3, .int (v3 + (f_X12_flag (if (jAbs (t2 - t4)) ≤ (jAbs (t3 - t4)) then (0 : Int32) else (1 : Int32))))), (12, .int (jAbs (((t2 + t3) / (2 : Int32)) - t4))), (11, .int (jAbs (t3 - t4))), (10, .int (jAbs (t2 - t4))), (9, .int t4), (8, .int t3), (7, .int t2), (0, .ref (a 0)), (1, .int v1), (2, .int v2), (4, .int v4), (5, .int v5), (6, .int v6)] 160 [.int (if (jAbs (t3 - t4)) ≤ (jAbs (t2 - t4)) then (0 : Int32) else (1 : Int32)), .int v4] := by
            refine k_X12_flag M u1675 (Nat.le_of_ble_eq_true rfl) (Nat.le_of_ble_eq_true rfl) dt_X12_others_5.2.1.2.2 ?_
            refine z_iadd M dt_X12_others_5.2.2.1.1 ?_
            refine z_istore (lv' := [(4, .int (v4 + (f_X12_flag (if (jAbs (t3 - t4)) ≤ (jAbs (t2 - t4)) then (0 : Int32) else (1 : Int32))))), (3, .int (v3 + (f_X12_flag (if (jAbs (t2 - t4)) ≤ (jAbs (t3 - t4)) then (0 : Int32) else (1 : Int32))))), (12, .int (jAbs (((t2 + t3) / (2 : Int32)) - t4))), (11, .int (jAbs (t3 - t4))), (10, .int (jAbs (t2 - t4))), (9, .int t4), (8, .int t3), (7, .int t2), (0, .ref (a 0)), (1, .int v1), (2, .int v2), (5, .int v5), (6, .int v6)]) M dt_X12_others_5.2.2.1.2 (by decide) rfl ?_
            refine z_iload M dt_X12_others_5.2.2.2.1 11 rfl ?_
            refine z_iload M dt_X12_others_5.2.2.2.2 2 rfl ?_
            refine z_iload M dt_X12_others_6.1.1.1.1 4 rfl ?_
            have hJ11 : G σ [(4, .int (v4 + (f_X12_flag (if (jAbs (t3 - t4)) ≤ (jAbs (t2 - t4)) then (0 : Int32) else (1 : Int32))))), (3, .int (v3 + (f_X12_flag (if (jAbs (t2 - t4)) ≤ (jAbs (t3 - t4)) then (0 : Int32) else (1 : Int32))))), (12, .int (jAbs (((t2 + t3) / (2 : Int32)) - t4))), (11, .int (jAbs (t3 - t4))), (10, .int (jAbs (t2 - t4))), (9, .int t4), (8, .int t3), (7, .int t2), (0, .ref (a 0)), (1, .int v1), (2, .int v2), (5, .int v5), (6, .int v6)] 187 [.int (if (jAbs (t2 - t4)) ≤ (jAbs (((t2 + t3) / (2 : Int32)) - t4)) then (0 : Int32) else (if (jAbs (t3 - t4)) ≤ (jAbs (((t2 + t3) / (2 : Int32)) - t4)) then (0 : Int32) else (1 : Int32))), .int v5] := by
              refine k_X12_flag M u1675 (Nat.le_of_ble_eq_true rfl) (Nat.le_of_ble_eq_true rfl) dt_X12_others_6.2.1.1.1 ?_
              refine z_iadd M dt_X12_others_6.2.1.1.2 ?_
              refine z_istore (lv' := [(5, .int (v5 + (f_X12_flag (if (jAbs (t2 - t4)) ≤ (jAbs (((t2 + t3) / (2 : Int32)) - t4)) then (0 : Int32) else (if (jAbs (t3 - t4)) ≤ (jAbs (((t2 + t3) / (2 : Int32)) - t4)) then (0 : Int32) else (1 : Int32)))))), (4, .int (v4 + (f_X12_flag (if (jAbs (t3 - t4)) ≤ (jAbs (t2 - t4)) then (0 : Int32) else (1 : Int32))))), (3, .int (v3 + (f_X12_flag (if (jAbs (t2 - t4)) ≤ (jAbs (t3 - t4)) then (0 : Int32) else (1 : Int32))))), (12, .int (jAbs (((t2 + t3) / (2 : Int32)) - t4))), (11, .int (jAbs (t3 - t4))), (10, .int (jAbs (t2 - t4))), (9, .int t4), (8, .int t3), (7, .int t2), (0, .ref (a 0)), (1, .int v1), (2, .int v2), (6, .int v6)]) M dt_X12_others_6.2.1.2.1 (by decide) rfl ?_
              refine z_iinc (v := (v6 + (1 : Int32))) (lv' := [(6, .int (v6 + (1 : Int32))), (5, .int (v5 + (f_X12_flag (if (jAbs (t2 - t4)) ≤ (jAbs (((t2 + t3) / (2 : Int32)) - t4)) then (0 : Int32) else (if (jAbs (t3 - t4)) ≤ (jAbs (((t2 + t3) / (2 : Int32)) - t4)) then (0 : Int32) else (1 : Int32)))))), (4, .int (v4 + (f_X12_flag (if (jAbs (t3 - t4)) ≤ (jAbs (t2 - t4)) then (0 : Int32) else (1 : Int32))))), (3, .int (v3 + (f_X12_flag (if (jAbs (t2 - t4)) ≤ (jAbs (t3 - t4)) then (0 : Int32) else (1 : Int32))))), (12, .int (jAbs (((t2 + t3) / (2 : Int32)) - t4))), (11, .int (jAbs (t3 - t4))), (10, .int (jAbs (t2 - t4))), (9, .int t4), (8, .int t3), (7, .int t2), (0, .ref (a 0)), (1, .int v1), (2, .int v2)]) M dt_X12_others_6.2.1.2.2 (k := 12) rfl (congrArg (fun q => v6 + q) ki_1) (by decide) rfl ?_
              refine z_goto (tgt := 38) M dt_X12_others_6.2.2.1.1 (by decide) ?_
              refine z_sub M [10, 11, 12, 3, 2, 1, 0] (lv' := [(0, .ref (a 0)), (1, .int v1), (2, .int v2), (3, .int (v3 + (f_X12_flag (if (jAbs (t2 - t4)) ≤ (jAbs (t3 - t4)) then (0 : Int32) else (1 : Int32))))), (4, .int (v4 + (f_X12_flag (if (jAbs (t3 - t4)) ≤ (jAbs (t2 - t4)) then (0 : Int32) else (1 : Int32))))), (5, .int (v5 + (f_X12_flag (if (jAbs (t2 - t4)) ≤ (jAbs (((t2 + t3) / (2 : Int32)) - t4)) then (0 : Int32) else (if (jAbs (t3 - t4)) ≤ (jAbs (((t2 + t3) / (2 : Int32)) - t4)) then (0 : Int32) else (1 : Int32)))))), (6, .int (v6 + (1 : Int32)))]) rfl ?_
              exact ih (v3 + (f_X12_flag (if (jAbs (t2 - t4)) ≤ (jAbs (t3 - t4)) then (0 : Int32) else (1 : Int32)))) (v4 + (f_X12_flag (if (jAbs (t3 - t4)) ≤ (jAbs (t2 - t4)) then (0 : Int32) else (1 : Int32)))) (v5 + (f_X12_flag (if (jAbs (t2 - t4)) ≤ (jAbs (((t2 + t3) / (2 : Int32)) - t4)) then (0 : Int32) else (if (jAbs (t3 - t4)) ≤ (jAbs (((t2 + t3) / (2 : Int32)) - t4)) then (0 : Int32) else (1 : Int32))))) (v6 + (1 : Int32)) h
            refine z_icmp_ge (tgt := 186) M dt_X12_others_6.1.1.1.2 (by decide) (fun hc9 => ?_) (fun hc9 => ?_)
            · refine z_iconst M dt_X12_others_6.1.2.2.2 ki_0 ?_
              exact (zTt hc9 hJ11)
            · refine z_iload M dt_X12_others_6.1.1.2.1 2 rfl ?_
              refine z_iload M dt_X12_others_6.1.1.2.2 3 rfl ?_
              refine z_icmp_ge (tgt := 186) M dt_X12_others_6.1.2.1.1 (by decide) (fun hc10 => ?_) (fun hc10 => ?_)
              · refine z_iconst M dt_X12_others_6.1.2.2.2 ki_0 ?_
                exact (zTt hc10 (zTf hc9 hJ11))
              · refine z_iconst M dt_X12_others_6.1.2.1.2 ki_1 ?_
                refine z_goto (tgt := 187) M dt_X12_others_6.1.2.2.1 (by decide) ?_
                exact (zTf hc10 (zTf hc9 hJ11))
          refine z_icmp_ge (tgt := 159) M dt_X12_others_5.1.2.2.2 (by decide) (fun hc7 => ?_) (fun hc7 => ?_)
          · refine z_iconst M dt_X12_others_5.2.1.2.1 ki_0 ?_
            exact (zTt hc7 hJ8)
          · refine z_iconst M dt_X12_others_5.2.1.1.1 ki_1 ?_
            refine z_goto (tgt := 160) M dt_X12_others_5.2.1.1.2 (by decide) ?_
            exact (zTf hc7 hJ8)
        refine z_icmp_ge (tgt := 140) M dt_X12_others_4.2.2.1.2 (by decide) (fun hc5 => ?_) (fun hc5 => ?_)
        · refine z_iconst M dt_X12_others_5.1.1.1.1 ki_0 ?_
          exact (zTt hc5 hJ6)
        · refine z_iconst M dt_X12_others_4.2.2.2.1 ki_1 ?_
          refine z_goto (tgt := 141) M dt_X12_others_4.2.2.2.2 (by decide) ?_
          exact (zTf hc5 hJ6)
set_option maxHeartbeats 4000000 in
set_option maxRecDepth 100000 in
theorem wJ_X12_others_199 {o : (Zst × Int32)} (M : zM l D zcl (zty cy) A ad (zR 4) (mW a cy ad) RX12 cX12_others 13 (some .int) o.1 (some (.int o.2)) G) (σ : Zst) (v3 : Int32) (v4 : Int32) (v5 : Int32)  (h : J_X12_others_199 σ v3 v4 v5 = some o) : G σ [(0, .ref (a 0)), (3, .int v3), (4, .int v4), (5, .int v5)] 199 [] := by
  refine z_aload_n M dt_X12_others_6.2.2.1.2 rfl 0 rfl ?_
  refine z_iconst M dt_X12_others_6.2.2.2.1 ki_0 ?_
  refine pf_X12_rows M u1961 dt_X12_others_6.2.2.2.2 ?_
  refine z_aload_n M dt_X12_others_7.1.1.1.1 rfl 0 rfl ?_
  refine z_iload M dt_X12_others_7.1.1.1.2 2 rfl ?_
  refine z_i2l M dt_X12_others_7.1.1.2 ?_
  obtain ⟨t12, hc, h⟩ := gBd h
  refine k_X12_enters M hc u1708 (Nat.le_of_ble_eq_true rfl) (Nat.le_of_ble_eq_true rfl) dt_X12_others_7.1.2.1 ?_
  refine z_aload_n M dt_X12_others_7.1.2.2 rfl 0 rfl ?_
  refine z_iload M dt_X12_others_7.2.1.1.1 3 rfl ?_
  refine z_i2l M dt_X12_others_7.2.1.1.2 ?_
  obtain ⟨t13, hc, h⟩ := gBd h
  refine k_X12_enters M hc u1708 (Nat.le_of_ble_eq_true rfl) (Nat.le_of_ble_eq_true rfl) dt_X12_others_7.2.1.2 ?_
  refine z_iload_n M dt_X12_others_7.2.2.1 rfl 1 rfl ?_
  obtain rfl := Option.some.inj h
  exact z_iret M dt_X12_others_7.2.2.2
set_option maxHeartbeats 4000000 in
set_option maxRecDepth 100000 in
theorem m_X12_others (hD : ∀ σ, va_D A (mW a cy ad σ)) {σ : Zst} {p0 : Int32} {p1 : Int32} {o : (Zst × Int32)} (h : f_X12_others σ p0 p1 = some o) : zT l D zcl (zty cy) A ad (mW a cy ad) yX12_others cX12_others 13 (some .int) 4 [.ref (a 0), .int p0, .int p1] σ o.1 (some (.int o.2)) := by
  refine z_met pn_X12 hD (Nat.le_of_ble_eq_true rfl) rfl (fun G M => ?_)
  refine z_aload_n M dt_X12_others_0.1.1.1.1 rfl 0 rfl ?_
  refine z_iconst M dt_X12_others_0.1.1.1.2 ki_0 ?_
  refine pf_X12_thrown M u1960 dt_X12_others_0.1.1.2.1 ?_
  refine z_aload_n M dt_X12_others_0.1.1.2.2 rfl 0 rfl ?_
  refine z_iload_n M dt_X12_others_0.1.2.1.1 rfl 1 rfl ?_
  refine k_X12_isSort M u1526 (Nat.le_of_ble_eq_true rfl) (Nat.le_of_ble_eq_true rfl) dt_X12_others_0.1.2.1.2 ?_
  refine z_if_eq (tgt := 25) M dt_X12_others_0.1.2.2.1 (by decide) (fun hc => ?_) (fun hc => ?_)
  · have h := gIt hc h
    refine z_iconst M dt_X12_others_0.2.2.1.2 ki_m1 ?_
    obtain rfl := Option.some.inj h
    exact z_iret M dt_X12_others_0.2.2.2.1
  · have h := gIf hc h
    refine z_iload_n M dt_X12_others_0.1.2.2.2 rfl 2 rfl ?_
    refine z_i2l M dt_X12_others_0.2.1.1.1 ?_
    refine z_lconst (v := 0) M dt_X12_others_0.2.1.1.2 (by decide) ?_
    refine z_ldc2 M dt_X12_others_0.2.1.2.1 u1790 ?_
    refine k_X12_in M u1517 (Nat.le_of_ble_eq_true rfl) (Nat.le_of_ble_eq_true rfl) dt_X12_others_0.2.1.2.2 ?_
    refine z_if_ne (tgt := 27) M dt_X12_others_0.2.2.1.1 (by decide) (fun hc => ?_) (fun hc => ?_)
    · have h := gIf hc h
      refine z_iconst M dt_X12_others_0.2.2.2.2 ki_0 ?_
      refine z_istore_n (lv' := [(3, .int (0 : Int32)), (0, .ref (a 0)), (1, .int p0), (2, .int p1)]) M dt_X12_others_1.1.1.1.1 rfl (by decide) rfl ?_
      refine z_iconst M dt_X12_others_1.1.1.1.2 ki_0 ?_
      refine z_istore (lv' := [(4, .int (0 : Int32)), (3, .int (0 : Int32)), (0, .ref (a 0)), (1, .int p0), (2, .int p1)]) M dt_X12_others_1.1.1.2.1 (by decide) rfl ?_
      refine z_iconst M dt_X12_others_1.1.1.2.2 ki_0 ?_
      refine z_istore (lv' := [(5, .int (0 : Int32)), (4, .int (0 : Int32)), (3, .int (0 : Int32)), (0, .ref (a 0)), (1, .int p0), (2, .int p1)]) M dt_X12_others_1.1.2.1.1 (by decide) rfl ?_
      refine z_iconst M dt_X12_others_1.1.2.1.2 ki_0 ?_
      refine z_istore (lv' := [(6, .int (0 : Int32)), (5, .int (0 : Int32)), (4, .int (0 : Int32)), (3, .int (0 : Int32)), (0, .ref (a 0)), (1, .int p0), (2, .int p1)]) M dt_X12_others_1.1.2.2.1 (by decide) rfl ?_
      refine z_sub M [4, 5, 6, 3, 2, 1, 0] (lv' := [(0, .ref (a 0)), (1, .int p0), (2, .int p1), (3, .int (0 : Int32)), (4, .int (0 : Int32)), (5, .int (0 : Int32)), (6, .int (0 : Int32))]) rfl ?_
      exact wL_X12_others_38 M (k199 := (fun w14 w15 w16 => J_X12_others_199 (zI σ 0 (0 : Int32)) w14 w15 w16)) (zI σ 0 (0 : Int32)) p0 p1 (fun w14 w15 w16 h => by
          exact wJ_X12_others_199 M  (zI σ 0 (0 : Int32)) w14 w15 w16 h) zFu (0 : Int32) (0 : Int32) (0 : Int32) (0 : Int32) h
    · have h := gIt hc h
      refine z_iconst M dt_X12_others_0.2.2.1.2 ki_m1 ?_
      obtain rfl := Option.some.inj h
      exact z_iret M dt_X12_others_0.2.2.2.1
set_option maxHeartbeats 4000000 in
set_option maxRecDepth 100000 in
theorem wL_X12_worth_52 {o : (Zst × Int32)} (M : zM l D zcl (zty cy) A ad (zR 4) (mW a cy ad) RX12 cX12_worth 13 (some .int) o.1 (some (.int o.2)) G) {k137 : Int64 → Int32 → Option (Zst × Int32)} (σ : Zst) (v1 : Int32) (v2 : Int32) (v3 : Int32) (v4 : Int64) (v6 : Int32) (Hk137 : ∀ (w7 : Int64) (w9 : Int32), k137 w7 w9 = some o → G σ [(0, .ref (a 0)), (1, .int v1), (2, .int v2), (3, .int v3), (4, .long v4), (6, .int v6), (7, .long w7), (9, .int w9)] 137 []) :
    ∀ (n52 : Nat) (v7 : Int64) (v9 : Int32) (v10 : Int32), L_X12_worth_52 k137 σ v1 v2 v3 v4 v6 n52 v7 v9 v10 = some o → G σ [(0, .ref (a 0)), (1, .int v1), (2, .int v2), (3, .int v3), (4, .long v4), (6, .int v6), (7, .long v7), (9, .int v9), (10, .int v10)] 52 [] := by
  intro n52
  induction n52 with
  | zero => intro v7 v9 v10 h; exact nomatch (show (none : Option (Zst × Int32)) = some _ from h)
  | succ n52 ih =>
    intro v7 v9 v10 h
    refine z_iload M dt_X12_worth_1.2.2.2.1 8 rfl ?_
    refine z_bipush M dt_X12_worth_1.2.2.2.2 kb_12 ?_
    refine z_aload_n M dt_X12_worth_2.1.1.1.1 rfl 0 rfl ?_
    refine gf_X12_streets (σ := σ) M u1970 dt_X12_worth_2.1.1.1.2 (v := (σ.1 3)) rfl ?_
    refine z_imul M dt_X12_worth_2.1.1.2.1 ?_
    refine z_icmp_ge (tgt := 137) M dt_X12_worth_2.1.1.2.2 (by decide) (fun hc => ?_) (fun hc => ?_)
    · have h := gIt hc h
      refine z_sub M [0, 1, 2, 3, 4, 5, 6, 7] (lv' := [(0, .ref (a 0)), (1, .int v1), (2, .int v2), (3, .int v3), (4, .long v4), (6, .int v6), (7, .long v7), (9, .int v9)]) rfl ?_
      exact Hk137 v7 v9 h
    · have h := gIf hc h
      refine z_aload_n M dt_X12_worth_2.1.2.1.1 rfl 0 rfl ?_
      refine z_iload M dt_X12_worth_2.1.2.1.2 8 rfl ?_
      refine z_iload_n M dt_X12_worth_2.1.2.2.1 rfl 1 rfl ?_
      refine z_iload_n M dt_X12_worth_2.1.2.2.2 rfl 2 rfl ?_
      obtain ⟨t1, hc, h⟩ := gBd h
      refine k_X12_areNeighbours M hc u1791 (Nat.le_of_ble_eq_true rfl) (Nat.le_of_ble_eq_true rfl) dt_X12_worth_2.2.1.1.1 ?_
      refine z_if_eq (tgt := 131) M dt_X12_worth_2.2.1.1.2 (by decide) (fun hc => ?_) (fun hc => ?_)
      · have h := gIt hc h
        refine z_iinc (v := (v10 + (1 : Int32))) (lv' := [(10, .int (v10 + (1 : Int32))), (0, .ref (a 0)), (1, .int v1), (2, .int v2), (3, .int v3), (4, .long v4), (6, .int v6), (7, .long v7), (9, .int v9)]) M dt_X12_worth_4.2.2.2.1 (k := 8) rfl (congrArg (fun q => v10 + q) ki_1) (by decide) rfl ?_
        refine z_goto (tgt := 52) M dt_X12_worth_4.2.2.2.2 (by decide) ?_
        refine z_sub M [1, 2, 3, 4, 5, 6, 7, 8, 0] (lv' := [(0, .ref (a 0)), (1, .int v1), (2, .int v2), (3, .int v3), (4, .long v4), (6, .int v6), (7, .long v7), (9, .int v9), (10, .int (v10 + (1 : Int32)))]) rfl ?_
        exact ih v7 v9 (v10 + (1 : Int32)) h
      · have h := gIf hc h
        refine z_iload M dt_X12_worth_2.2.1.2.1 5 rfl ?_
        refine z_aload_n M dt_X12_worth_2.2.1.2.2 rfl 0 rfl ?_
        refine z_iconst M dt_X12_worth_2.2.2.1.1 ki_5 ?_
        refine z_iload M dt_X12_worth_2.2.2.1.2 8 rfl ?_
        refine z_iload_n M dt_X12_worth_2.2.2.2.1 rfl 1 rfl ?_
        obtain ⟨t2, hc, h⟩ := gBd h
        refine k_X12_at M hc u1556 (Nat.le_of_ble_eq_true rfl) (Nat.le_of_ble_eq_true rfl) dt_X12_worth_2.2.2.2.2 ?_
        refine z_imul M dt_X12_worth_3.1.1.1.1 ?_
        refine z_bipush M dt_X12_worth_3.1.1.1.2 kb_100 ?_
        refine z_iload M dt_X12_worth_3.1.1.2.1 5 rfl ?_
        refine z_isub M dt_X12_worth_3.1.1.2.2 ?_
        refine z_aload_n M dt_X12_worth_3.1.2.1.1 rfl 0 rfl ?_
        refine z_iconst M dt_X12_worth_3.1.2.1.2 ki_2 ?_
        refine z_iload_n M dt_X12_worth_3.1.2.2.1 rfl 2 rfl ?_
        refine z_iadd M dt_X12_worth_3.1.2.2.2 ?_
        refine z_iload M dt_X12_worth_3.2.1.1.1 8 rfl ?_
        refine z_iload_n M dt_X12_worth_3.2.1.1.2 rfl 1 rfl ?_
        obtain ⟨t3, hc, h⟩ := gBd h
        refine k_X12_at M hc u1556 (Nat.le_of_ble_eq_true rfl) (Nat.le_of_ble_eq_true rfl) dt_X12_worth_3.2.1.2.1 ?_
        refine z_imul M dt_X12_worth_3.2.1.2.2 ?_
        refine z_iadd M dt_X12_worth_3.2.2.1.1 ?_
        refine z_bipush M dt_X12_worth_3.2.2.1.2 kb_100 ?_
        refine z_aload_n M dt_X12_worth_3.2.2.2.1 rfl 0 rfl ?_
        refine z_iconst M dt_X12_worth_3.2.2.2.2 ki_1 ?_
        refine z_iload M dt_X12_worth_4.1.1.1.1 8 rfl ?_
        refine z_iload_n M dt_X12_worth_4.1.1.1.2 rfl 1 rfl ?_
        obtain ⟨t4, hc, h⟩ := gBd h
        refine k_X12_at M hc u1556 (Nat.le_of_ble_eq_true rfl) (Nat.le_of_ble_eq_true rfl) dt_X12_worth_4.1.1.2.1 ?_
        refine z_imul M dt_X12_worth_4.1.1.2.2 ?_
        refine z_isub M dt_X12_worth_4.1.2.1.1 ?_
        refine z_i2l M dt_X12_worth_4.1.2.1.2 ?_
        refine z_lstore (lv' := [(11, .long (Int32.toInt64 (((v6 * t2) + (((100 : Int32) - v6) * t3)) - ((100 : Int32) * t4)))), (0, .ref (a 0)), (1, .int v1), (2, .int v2), (3, .int v3), (4, .long v4), (6, .int v6), (7, .long v7), (9, .int v9), (10, .int v10)]) M dt_X12_worth_4.1.2.2.1 (by decide) rfl ?_
        refine z_lload M dt_X12_worth_4.1.2.2.2 7 rfl ?_
        refine z_lload M dt_X12_worth_4.2.1.1.1 0 rfl ?_
        refine z_lload M dt_X12_worth_4.2.1.1.2 0 rfl ?_
        refine z_lmul M dt_X12_worth_4.2.1.2.1 ?_
        refine z_ladd M dt_X12_worth_4.2.1.2.2 ?_
        refine z_lstore (lv' := [(7, .long (v7 + ((Int32.toInt64 (((v6 * t2) + (((100 : Int32) - v6) * t3)) - ((100 : Int32) * t4))) * (Int32.toInt64 (((v6 * t2) + (((100 : Int32) - v6) * t3)) - ((100 : Int32) * t4)))))), (11, .long (Int32.toInt64 (((v6 * t2) + (((100 : Int32) - v6) * t3)) - ((100 : Int32) * t4)))), (0, .ref (a 0)), (1, .int v1), (2, .int v2), (3, .int v3), (4, .long v4), (6, .int v6), (9, .int v9), (10, .int v10)]) M dt_X12_worth_4.2.2.1.1 (by decide) rfl ?_
        refine z_iinc (v := (v9 + (1 : Int32))) (lv' := [(9, .int (v9 + (1 : Int32))), (7, .long (v7 + ((Int32.toInt64 (((v6 * t2) + (((100 : Int32) - v6) * t3)) - ((100 : Int32) * t4))) * (Int32.toInt64 (((v6 * t2) + (((100 : Int32) - v6) * t3)) - ((100 : Int32) * t4)))))), (11, .long (Int32.toInt64 (((v6 * t2) + (((100 : Int32) - v6) * t3)) - ((100 : Int32) * t4)))), (0, .ref (a 0)), (1, .int v1), (2, .int v2), (3, .int v3), (4, .long v4), (6, .int v6), (10, .int v10)]) M dt_X12_worth_4.2.2.1.2 (k := 8) rfl (congrArg (fun q => v9 + q) ki_1) (by decide) rfl ?_
        refine z_iinc (v := (v10 + (1 : Int32))) (lv' := [(10, .int (v10 + (1 : Int32))), (9, .int (v9 + (1 : Int32))), (7, .long (v7 + ((Int32.toInt64 (((v6 * t2) + (((100 : Int32) - v6) * t3)) - ((100 : Int32) * t4))) * (Int32.toInt64 (((v6 * t2) + (((100 : Int32) - v6) * t3)) - ((100 : Int32) * t4)))))), (11, .long (Int32.toInt64 (((v6 * t2) + (((100 : Int32) - v6) * t3)) - ((100 : Int32) * t4)))), (0, .ref (a 0)), (1, .int v1), (2, .int v2), (3, .int v3), (4, .long v4), (6, .int v6)]) M dt_X12_worth_4.2.2.2.1 (k := 9) rfl (congrArg (fun q => v10 + q) ki_1) (by decide) rfl ?_
        refine z_goto (tgt := 52) M dt_X12_worth_4.2.2.2.2 (by decide) ?_
        refine z_sub M [4, 5, 6, 7, 8, 9, 2, 1, 0] (lv' := [(0, .ref (a 0)), (1, .int v1), (2, .int v2), (3, .int v3), (4, .long v4), (6, .int v6), (7, .long (v7 + ((Int32.toInt64 (((v6 * t2) + (((100 : Int32) - v6) * t3)) - ((100 : Int32) * t4))) * (Int32.toInt64 (((v6 * t2) + (((100 : Int32) - v6) * t3)) - ((100 : Int32) * t4)))))), (9, .int (v9 + (1 : Int32))), (10, .int (v10 + (1 : Int32)))]) rfl ?_
        exact ih (v7 + ((Int32.toInt64 (((v6 * t2) + (((100 : Int32) - v6) * t3)) - ((100 : Int32) * t4))) * (Int32.toInt64 (((v6 * t2) + (((100 : Int32) - v6) * t3)) - ((100 : Int32) * t4))))) (v9 + (1 : Int32)) (v10 + (1 : Int32)) h
set_option maxHeartbeats 4000000 in
set_option maxRecDepth 100000 in
theorem wJ_X12_worth_137 {o : (Zst × Int32)} (M : zM l D zcl (zty cy) A ad (zR 4) (mW a cy ad) RX12 cX12_worth 13 (some .int) o.1 (some (.int o.2)) G) {k36 : Int32 → Int64 → Int32 → Option (Zst × Int32)} (σ : Zst) (v1 : Int32) (v2 : Int32) (v3 : Int32) (v4 : Int64) (v6 : Int32) (v7 : Int64) (v9 : Int32) (Hk36 : ∀ (w3 : Int32) (w4 : Int64) (w6 : Int32), k36 w3 w4 w6 = some o → G σ [(0, .ref (a 0)), (1, .int v1), (2, .int v2), (3, .int w3), (4, .long w4), (6, .int w6)] 36 []) (h : J_X12_worth_137 k36 σ v1 v2 v3 v4 v6 v7 v9 = some o) : G σ [(0, .ref (a 0)), (1, .int v1), (2, .int v2), (3, .int v3), (4, .long v4), (6, .int v6), (7, .long v7), (9, .int v9)] 137 [] := by
  refine z_iload M dt_X12_worth_5.1.1.1.1 7 rfl ?_
  refine z_if_le (tgt := 161) M dt_X12_worth_5.1.1.1.2 (by decide) (fun hc => ?_) (fun hc => ?_)
  · have h := gIt hc h
    refine z_iinc (v := (v6 + (1 : Int32))) (lv' := [(6, .int (v6 + (1 : Int32))), (0, .ref (a 0)), (1, .int v1), (2, .int v2), (3, .int v3), (4, .long v4), (7, .long v7), (9, .int v9)]) M dt_X12_worth_5.2.2.1.1 (k := 5) rfl (congrArg (fun q => v6 + q) ki_1) (by decide) rfl ?_
    refine z_goto (tgt := 36) M dt_X12_worth_5.2.2.1.2 (by decide) ?_
    refine z_sub M [1, 2, 3, 4, 5, 0] (lv' := [(0, .ref (a 0)), (1, .int v1), (2, .int v2), (3, .int v3), (4, .long v4), (6, .int (v6 + (1 : Int32)))]) rfl ?_
    exact Hk36 v3 v4 (v6 + (1 : Int32)) h
  · have h := gIf hc h
    refine z_iload_n M dt_X12_worth_5.1.1.2.1 rfl 3 rfl ?_
    refine z_if_lt (tgt := 154) M dt_X12_worth_5.1.1.2.2 (by decide) (fun hc => ?_) (fun hc => ?_)
    · have h := gIt hc h
      refine z_iload M dt_X12_worth_5.2.1.1.1 5 rfl ?_
      refine z_istore_n (lv' := [(3, .int v6), (0, .ref (a 0)), (1, .int v1), (2, .int v2), (4, .long v4), (6, .int v6), (7, .long v7), (9, .int v9)]) M dt_X12_worth_5.2.1.1.2 rfl (by decide) rfl ?_
      refine z_lload M dt_X12_worth_5.2.1.2.1 6 rfl ?_
      refine z_lstore (lv' := [(4, .long v7), (3, .int v6), (0, .ref (a 0)), (1, .int v1), (2, .int v2), (6, .int v6), (7, .long v7), (9, .int v9)]) M dt_X12_worth_5.2.1.2.2 (by decide) rfl ?_
      refine z_iinc (v := (v6 + (1 : Int32))) (lv' := [(6, .int (v6 + (1 : Int32))), (4, .long v7), (3, .int v6), (0, .ref (a 0)), (1, .int v1), (2, .int v2), (7, .long v7), (9, .int v9)]) M dt_X12_worth_5.2.2.1.1 (k := 5) rfl (congrArg (fun q => v6 + q) ki_1) (by decide) rfl ?_
      refine z_goto (tgt := 36) M dt_X12_worth_5.2.2.1.2 (by decide) ?_
      refine z_sub M [3, 4, 5, 2, 1, 0] (lv' := [(0, .ref (a 0)), (1, .int v1), (2, .int v2), (3, .int v6), (4, .long v7), (6, .int (v6 + (1 : Int32)))]) rfl ?_
      exact Hk36 v6 v7 (v6 + (1 : Int32)) h
    · have h := gIf hc h
      refine z_lload M dt_X12_worth_5.1.2.1.1 6 rfl ?_
      refine z_lload M dt_X12_worth_5.1.2.1.2 4 rfl ?_
      refine z_lcmp_ge (tgt := 161) M dt_X12_worth_5.1.2.2.1 dt_X12_worth_5.1.2.2.2 (by decide) (fun hc => ?_) (fun hc => ?_)
      · have h := gIt hc h
        refine z_iinc (v := (v6 + (1 : Int32))) (lv' := [(6, .int (v6 + (1 : Int32))), (0, .ref (a 0)), (1, .int v1), (2, .int v2), (3, .int v3), (4, .long v4), (7, .long v7), (9, .int v9)]) M dt_X12_worth_5.2.2.1.1 (k := 5) rfl (congrArg (fun q => v6 + q) ki_1) (by decide) rfl ?_
        refine z_goto (tgt := 36) M dt_X12_worth_5.2.2.1.2 (by decide) ?_
        refine z_sub M [1, 2, 3, 4, 5, 0] (lv' := [(0, .ref (a 0)), (1, .int v1), (2, .int v2), (3, .int v3), (4, .long v4), (6, .int (v6 + (1 : Int32)))]) rfl ?_
        exact Hk36 v3 v4 (v6 + (1 : Int32)) h
      · have h := gIf hc h
        refine z_iload M dt_X12_worth_5.2.1.1.1 5 rfl ?_
        refine z_istore_n (lv' := [(3, .int v6), (0, .ref (a 0)), (1, .int v1), (2, .int v2), (4, .long v4), (6, .int v6), (7, .long v7), (9, .int v9)]) M dt_X12_worth_5.2.1.1.2 rfl (by decide) rfl ?_
        refine z_lload M dt_X12_worth_5.2.1.2.1 6 rfl ?_
        refine z_lstore (lv' := [(4, .long v7), (3, .int v6), (0, .ref (a 0)), (1, .int v1), (2, .int v2), (6, .int v6), (7, .long v7), (9, .int v9)]) M dt_X12_worth_5.2.1.2.2 (by decide) rfl ?_
        refine z_iinc (v := (v6 + (1 : Int32))) (lv' := [(6, .int (v6 + (1 : Int32))), (4, .long v7), (3, .int v6), (0, .ref (a 0)), (1, .int v1), (2, .int v2), (7, .long v7), (9, .int v9)]) M dt_X12_worth_5.2.2.1.1 (k := 5) rfl (congrArg (fun q => v6 + q) ki_1) (by decide) rfl ?_
        refine z_goto (tgt := 36) M dt_X12_worth_5.2.2.1.2 (by decide) ?_
        refine z_sub M [3, 4, 5, 2, 1, 0] (lv' := [(0, .ref (a 0)), (1, .int v1), (2, .int v2), (3, .int v6), (4, .long v7), (6, .int (v6 + (1 : Int32)))]) rfl ?_
        exact Hk36 v6 v7 (v6 + (1 : Int32)) h
set_option maxHeartbeats 4000000 in
set_option maxRecDepth 100000 in
theorem wL_X12_worth_36 {o : (Zst × Int32)} (M : zM l D zcl (zty cy) A ad (zR 4) (mW a cy ad) RX12 cX12_worth 13 (some .int) o.1 (some (.int o.2)) G) {k167 : Int32 → Int64 → Option (Zst × Int32)} (σ : Zst) (v1 : Int32) (v2 : Int32) (Hk167 : ∀ (w3 : Int32) (w4 : Int64), k167 w3 w4 = some o → G σ [(0, .ref (a 0)), (3, .int w3), (4, .long w4)] 167 []) :
    ∀ (n36 : Nat) (v3 : Int32) (v4 : Int64) (v6 : Int32), L_X12_worth_36 k167 σ v1 v2 n36 v3 v4 v6 = some o → G σ [(0, .ref (a 0)), (1, .int v1), (2, .int v2), (3, .int v3), (4, .long v4), (6, .int v6)] 36 [] := by
  intro n36
  induction n36 with
  | zero => intro v3 v4 v6 h; exact nomatch (show (none : Option (Zst × Int32)) = some _ from h)
  | succ n36 ih =>
    intro v3 v4 v6 h
    refine z_iload M dt_X12_worth_1.1.2.1.2 5 rfl ?_
    refine z_bipush M dt_X12_worth_1.1.2.2.1 kb_100 ?_
    refine z_icmp_gt (tgt := 167) M dt_X12_worth_1.1.2.2.2 (by decide) (fun hc => ?_) (fun hc => ?_)
    · have h := gIt hc h
      refine z_sub M [0, 3, 4] (lv' := [(0, .ref (a 0)), (3, .int v3), (4, .long v4)]) rfl ?_
      exact Hk167 v3 v4 h
    · have h := gIf hc h
      refine z_lconst (v := 0) M dt_X12_worth_1.2.1.1.1 (by decide) ?_
      refine z_lstore (lv' := [(7, .long (0 : Int64)), (0, .ref (a 0)), (1, .int v1), (2, .int v2), (3, .int v3), (4, .long v4), (6, .int v6)]) M dt_X12_worth_1.2.1.1.2 (by decide) rfl ?_
      refine z_iconst M dt_X12_worth_1.2.1.2.1 ki_0 ?_
      refine z_istore (lv' := [(9, .int (0 : Int32)), (7, .long (0 : Int64)), (0, .ref (a 0)), (1, .int v1), (2, .int v2), (3, .int v3), (4, .long v4), (6, .int v6)]) M dt_X12_worth_1.2.1.2.2 (by decide) rfl ?_
      refine z_iconst M dt_X12_worth_1.2.2.1.1 ki_0 ?_
      refine z_istore (lv' := [(10, .int (0 : Int32)), (9, .int (0 : Int32)), (7, .long (0 : Int64)), (0, .ref (a 0)), (1, .int v1), (2, .int v2), (3, .int v3), (4, .long v4), (6, .int v6)]) M dt_X12_worth_1.2.2.1.2 (by decide) rfl ?_
      refine z_sub M [3, 4, 5, 6, 7, 8, 2, 1, 0] (lv' := [(0, .ref (a 0)), (1, .int v1), (2, .int v2), (3, .int v3), (4, .long v4), (6, .int v6), (7, .long (0 : Int64)), (9, .int (0 : Int32)), (10, .int (0 : Int32))]) rfl ?_
      exact wL_X12_worth_52 M (k137 := (fun w5 w6 => J_X12_worth_137 (fun w3 w4 w6 => L_X12_worth_36 k167 σ v1 v2 n36 w3 w4 w6) σ v1 v2 v3 v4 v6 w5 w6)) σ v1 v2 v3 v4 v6 (fun w5 w6 h => by
          exact wJ_X12_worth_137 M (k36 := (fun w3 w4 w6 => L_X12_worth_36 k167 σ v1 v2 n36 w3 w4 w6)) σ v1 v2 v3 v4 v6 w5 w6 ih h) zFu (0 : Int64) (0 : Int32) (0 : Int32) h
set_option maxHeartbeats 4000000 in
set_option maxRecDepth 100000 in
theorem wJ_X12_worth_167 {o : (Zst × Int32)} (M : zM l D zcl (zty cy) A ad (zR 4) (mW a cy ad) RX12 cX12_worth 13 (some .int) o.1 (some (.int o.2)) G) (σ : Zst) (v3 : Int32) (v4 : Int64)  (h : J_X12_worth_167 σ v3 v4 = some o) : G σ [(0, .ref (a 0)), (3, .int v3), (4, .long v4)] 167 [] := by
  refine z_iload_n M dt_X12_worth_5.2.2.2.1 rfl 1 rfl ?_
  refine z_if_lt (tgt := 182) M dt_X12_worth_5.2.2.2.2 (by decide) (fun hc => ?_) (fun hc => ?_)
  · have h := gIt hc h
    refine z_iload_n M dt_X12_worth_6.2.2.1 rfl 1 rfl ?_
    obtain rfl := Option.some.inj h
    exact z_iret M dt_X12_worth_6.2.2.2
  · have h := gIf hc h
    refine z_aload_n M dt_X12_worth_6.1.1.1 rfl 0 rfl ?_
    refine z_iconst M dt_X12_worth_6.1.1.2 ki_0 ?_
    refine pf_X12_rows M u1961 dt_X12_worth_6.1.2.1 ?_
    refine z_aload_n M dt_X12_worth_6.1.2.2 rfl 0 rfl ?_
    refine z_lload M dt_X12_worth_6.2.1.1 2 rfl ?_
    obtain ⟨t7, hc, h⟩ := gBd h
    refine k_X12_enters M hc u1708 (Nat.le_of_ble_eq_true rfl) (Nat.le_of_ble_eq_true rfl) dt_X12_worth_6.2.1.2 ?_
    refine z_iload_n M dt_X12_worth_6.2.2.1 rfl 1 rfl ?_
    obtain rfl := Option.some.inj h
    exact z_iret M dt_X12_worth_6.2.2.2
set_option maxHeartbeats 4000000 in
set_option maxRecDepth 100000 in
theorem m_X12_worth (hD : ∀ σ, va_D A (mW a cy ad σ)) {σ : Zst} {p0 : Int32} {p1 : Int32} {o : (Zst × Int32)} (h : f_X12_worth σ p0 p1 = some o) : zT l D zcl (zty cy) A ad (mW a cy ad) yX12_worth cX12_worth 13 (some .int) 4 [.ref (a 0), .int p0, .int p1] σ o.1 (some (.int o.2)) := by
  refine z_met pn_X12 hD (Nat.le_of_ble_eq_true rfl) rfl (fun G M => ?_)
  refine z_aload_n M dt_X12_worth_0.1.1.1.1 rfl 0 rfl ?_
  refine z_iconst M dt_X12_worth_0.1.1.1.2 ki_0 ?_
  refine pf_X12_thrown M u1960 dt_X12_worth_0.1.1.2.1 ?_
  refine z_aload_n M dt_X12_worth_0.1.1.2.2 rfl 0 rfl ?_
  refine z_iload_n M dt_X12_worth_0.1.2.1.1 rfl 1 rfl ?_
  refine k_X12_isSort M u1526 (Nat.le_of_ble_eq_true rfl) (Nat.le_of_ble_eq_true rfl) dt_X12_worth_0.1.2.1.2 ?_
  refine z_if_eq (tgt := 25) M dt_X12_worth_0.1.2.2.1 (by decide) (fun hc => ?_) (fun hc => ?_)
  · have h := gIt hc h
    refine z_iconst M dt_X12_worth_0.2.2.1.2 ki_m1 ?_
    obtain rfl := Option.some.inj h
    exact z_iret M dt_X12_worth_0.2.2.2.1
  · have h := gIf hc h
    refine z_iload_n M dt_X12_worth_0.1.2.2.2 rfl 2 rfl ?_
    refine z_i2l M dt_X12_worth_0.2.1.1.1 ?_
    refine z_lconst (v := 0) M dt_X12_worth_0.2.1.1.2 (by decide) ?_
    refine z_ldc2 M dt_X12_worth_0.2.1.2.1 u1790 ?_
    refine k_X12_in M u1517 (Nat.le_of_ble_eq_true rfl) (Nat.le_of_ble_eq_true rfl) dt_X12_worth_0.2.1.2.2 ?_
    refine z_if_ne (tgt := 27) M dt_X12_worth_0.2.2.1.1 (by decide) (fun hc => ?_) (fun hc => ?_)
    · have h := gIf hc h
      refine z_bipush M dt_X12_worth_0.2.2.2.2 kb_m2 ?_
      refine z_istore_n (lv' := [(3, .int (-2 : Int32)), (0, .ref (a 0)), (1, .int p0), (2, .int p1)]) M dt_X12_worth_1.1.1.1.1 rfl (by decide) rfl ?_
      refine z_lconst (v := 0) M dt_X12_worth_1.1.1.1.2 (by decide) ?_
      refine z_lstore (lv' := [(4, .long (0 : Int64)), (3, .int (-2 : Int32)), (0, .ref (a 0)), (1, .int p0), (2, .int p1)]) M dt_X12_worth_1.1.1.2.1 (by decide) rfl ?_
      refine z_iconst M dt_X12_worth_1.1.1.2.2 ki_0 ?_
      refine z_istore (lv' := [(6, .int (0 : Int32)), (4, .long (0 : Int64)), (3, .int (-2 : Int32)), (0, .ref (a 0)), (1, .int p0), (2, .int p1)]) M dt_X12_worth_1.1.2.1.1 (by decide) rfl ?_
      refine z_sub M [3, 4, 5, 2, 1, 0] (lv' := [(0, .ref (a 0)), (1, .int p0), (2, .int p1), (3, .int (-2 : Int32)), (4, .long (0 : Int64)), (6, .int (0 : Int32))]) rfl ?_
      exact wL_X12_worth_36 M (k167 := (fun w8 w9 => J_X12_worth_167 (zI σ 0 (0 : Int32)) w8 w9)) (zI σ 0 (0 : Int32)) p0 p1 (fun w8 w9 h => by
          exact wJ_X12_worth_167 M  (zI σ 0 (0 : Int32)) w8 w9 h) zFu (-2 : Int32) (0 : Int64) (0 : Int32) h
    · have h := gIt hc h
      refine z_iconst M dt_X12_worth_0.2.2.1.2 ki_m1 ?_
      obtain rfl := Option.some.inj h
      exact z_iret M dt_X12_worth_0.2.2.2.1
set_option maxHeartbeats 4000000 in
set_option maxRecDepth 100000 in
theorem wL_X12_wastes_2 {o : Zst} (M : zM l D zcl (zty cy) A ad (zR 3) (mW a cy ad) RX12 cX12_wastes 4 none o none G) {k27 : Zst → Option Zst}  (v1 : Int32) (Hk27 : ∀ (σ : Zst), k27 σ = some o → G σ [(0, .ref (a 0)), (1, .int v1)] 27 []) :
    ∀ (n2 : Nat) (σ : Zst) (v2 : Int32), L_X12_wastes_2 k27 v1 n2 σ v2 = some o → G σ [(0, .ref (a 0)), (1, .int v1), (2, .int v2)] 2 [] := by
  intro n2
  induction n2 with
  | zero => intro σ v2 h; exact nomatch (show (none : Option Zst) = some _ from h)
  | succ n2 ih =>
    intro σ v2 h
    refine z_iload_n M dt_X12_wastes_0.1.1.2.1 rfl 2 rfl ?_
    refine z_iconst M dt_X12_wastes_0.1.1.2.2 ki_2 ?_
    refine z_icmp_ge (tgt := 27) M dt_X12_wastes_0.1.2.1.1 (by decide) (fun hc => ?_) (fun hc => ?_)
    · have h := gIt hc h
      refine z_sub M [0, 1] (lv' := [(0, .ref (a 0)), (1, .int v1)]) rfl ?_
      exact Hk27 σ h
    · have h := gIf hc h
      refine z_aload_n M dt_X12_wastes_0.1.2.1.2 rfl 0 rfl ?_
      refine gf_X12_wasted M u1996 dt_X12_wastes_0.1.2.2.1 ?_
      refine z_iload_n M dt_X12_wastes_0.1.2.2.2 rfl 2 rfl ?_
      refine z_lconst (v := 0) M dt_X12_wastes_0.2.1.1.1 (by decide) ?_
      have ⟨hg, h⟩ := gIx_s h
      refine as_M16 (σ := σ) M (f := (σ.2.2.1 1)) rfl hg dt_X12_wastes_0.2.1.1.2 ?_
      refine z_aload_n M dt_X12_wastes_0.2.1.2.1 rfl 0 rfl ?_
      refine gf_X12_sold M u1997 dt_X12_wastes_0.2.1.2.2 ?_
      refine z_iload_n M dt_X12_wastes_0.2.2.1.1 rfl 2 rfl ?_
      refine z_lconst (v := 0) M dt_X12_wastes_0.2.2.1.2 (by decide) ?_
      have ⟨hg, h⟩ := gIx_s h
      refine as_M17 (σ := (zL σ 1 (vp_updL (σ.2.2.1 1) (Int32.toNatClampNeg v2) (0 : Int64)))) M (f := (σ.2.2.1 2)) rfl hg dt_X12_wastes_0.2.2.2.1 ?_
      refine z_iinc (v := (v2 + (1 : Int32))) (lv' := [(2, .int (v2 + (1 : Int32))), (0, .ref (a 0)), (1, .int v1)]) M dt_X12_wastes_0.2.2.2.2 (k := 2) rfl (congrArg (fun q => v2 + q) ki_1) (by decide) rfl ?_
      refine z_goto (tgt := 2) M dt_X12_wastes_1.1.1.1.1 (by decide) ?_
      refine z_sub M [1, 2, 0] (lv' := [(0, .ref (a 0)), (1, .int v1), (2, .int (v2 + (1 : Int32)))]) rfl ?_
      exact ih (zL (zL σ 1 (vp_updL (σ.2.2.1 1) (Int32.toNatClampNeg v2) (0 : Int64))) 2 (vp_updL (σ.2.2.1 2) (Int32.toNatClampNeg v2) (0 : Int64))) (v2 + (1 : Int32)) h
set_option maxHeartbeats 4000000 in
set_option maxRecDepth 100000 in
theorem wL_X12_wastes_29 {o : Zst} (M : zM l D zcl (zty cy) A ad (zR 3) (mW a cy ad) RX12 cX12_wastes 4 none o none G)  (v1 : Int32)  :
    ∀ (n29 : Nat) (σ : Zst) (v2 : Int32), L_X12_wastes_29 v1 n29 σ v2 = some o → G σ [(0, .ref (a 0)), (1, .int v1), (2, .int v2)] 29 [] := by
  intro n29
  induction n29 with
  | zero => intro σ v2 h; exact nomatch (show (none : Option Zst) = some _ from h)
  | succ n29 ih =>
    intro σ v2 h
    refine z_iload_n M dt_X12_wastes_1.1.1.2.2 rfl 2 rfl ?_
    refine z_bipush M dt_X12_wastes_1.1.2.1.1 kb_12 ?_
    refine z_aload_n M dt_X12_wastes_1.1.2.1.2 rfl 0 rfl ?_
    refine gf_X12_streets (σ := σ) M u1970 dt_X12_wastes_1.1.2.2.1 (v := (σ.1 3)) rfl ?_
    refine z_imul M dt_X12_wastes_1.1.2.2.2 ?_
    refine z_icmp_ge (tgt := 136) M dt_X12_wastes_1.2.1.1.1 (by decide) (fun hc => ?_) (fun hc => ?_)
    · have h := gIt hc h
      obtain rfl := Option.some.inj h
      exact z_vret M dt_X12_wastes_5.2.2.2
    · have h := gIf hc h
      refine z_aload_n M dt_X12_wastes_1.2.1.1.2 rfl 0 rfl ?_
      refine z_iconst M dt_X12_wastes_1.2.1.2.1 ki_0 ?_
      refine z_iload_n M dt_X12_wastes_1.2.1.2.2 rfl 2 rfl ?_
      refine z_iload_n M dt_X12_wastes_1.2.2.1.1 rfl 1 rfl ?_
      obtain ⟨t1, hc, h⟩ := gBd h
      refine k_X12_isTold M hc u1704 (Nat.le_of_ble_eq_true rfl) (Nat.le_of_ble_eq_true rfl) dt_X12_wastes_1.2.2.1.2 ?_
      refine z_if_eq (tgt := 130) M dt_X12_wastes_1.2.2.2.1 (by decide) (fun hc => ?_) (fun hc => ?_)
      · have h := gIt hc h
        refine z_iinc (v := (v2 + (1 : Int32))) (lv' := [(2, .int (v2 + (1 : Int32))), (0, .ref (a 0)), (1, .int v1)]) M dt_X12_wastes_5.2.1.2 (k := 2) rfl (congrArg (fun q => v2 + q) ki_1) (by decide) rfl ?_
        refine z_goto (tgt := 29) M dt_X12_wastes_5.2.2.1 (by decide) ?_
        refine z_sub M [1, 2, 0] (lv' := [(0, .ref (a 0)), (1, .int v1), (2, .int (v2 + (1 : Int32)))]) rfl ?_
        exact ih σ (v2 + (1 : Int32)) h
      · have h := gIf hc h
        refine z_aload_n M dt_X12_wastes_1.2.2.2.2 rfl 0 rfl ?_
        refine z_iconst M dt_X12_wastes_2.1.1.1.1 ki_1 ?_
        refine z_iload_n M dt_X12_wastes_2.1.1.1.2 rfl 2 rfl ?_
        refine z_iload_n M dt_X12_wastes_2.1.1.2.1 rfl 1 rfl ?_
        obtain ⟨t2, hc, h⟩ := gBd h
        refine k_X12_isTold M hc u1704 (Nat.le_of_ble_eq_true rfl) (Nat.le_of_ble_eq_true rfl) dt_X12_wastes_2.1.1.2.2 ?_
        refine z_if_eq (tgt := 130) M dt_X12_wastes_2.1.2.1.1 (by decide) (fun hc => ?_) (fun hc => ?_)
        · have h := gIt hc h
          refine z_iinc (v := (v2 + (1 : Int32))) (lv' := [(2, .int (v2 + (1 : Int32))), (0, .ref (a 0)), (1, .int v1)]) M dt_X12_wastes_5.2.1.2 (k := 2) rfl (congrArg (fun q => v2 + q) ki_1) (by decide) rfl ?_
          refine z_goto (tgt := 29) M dt_X12_wastes_5.2.2.1 (by decide) ?_
          refine z_sub M [1, 2, 0] (lv' := [(0, .ref (a 0)), (1, .int v1), (2, .int (v2 + (1 : Int32)))]) rfl ?_
          exact ih σ (v2 + (1 : Int32)) h
        · have h := gIf hc h
          refine z_aload_n M dt_X12_wastes_2.1.2.1.2 rfl 0 rfl ?_
          refine gf_X12_isLack M u1972 dt_X12_wastes_2.1.2.2.1 ?_
          refine z_bipush M dt_X12_wastes_2.1.2.2.2 kb_12 ?_
          refine z_iload_n M dt_X12_wastes_2.2.1.1.1 rfl 1 rfl ?_
          refine z_imul M dt_X12_wastes_2.2.1.1.2 ?_
          refine z_iload_n M dt_X12_wastes_2.2.1.2.1 rfl 2 rfl ?_
          refine z_bipush M dt_X12_wastes_2.2.1.2.2 kb_12 ?_
          refine z_irem M dt_X12_wastes_2.2.2.1.1 (by decide) ?_
          refine z_iadd M dt_X12_wastes_2.2.2.1.2 ?_
          have ⟨hg, h⟩ := gIx_s h
          refine al_M9 (σ := σ) M (f := (σ.2.1 7)) rfl hg dt_X12_wastes_2.2.2.2.1 ?_
          refine k_X12_flag M u1675 (Nat.le_of_ble_eq_true rfl) (Nat.le_of_ble_eq_true rfl) dt_X12_wastes_2.2.2.2.2 ?_
          refine z_istore_n (lv' := [(3, .int (f_X12_flag ((σ.2.1 7) (Int32.toNatClampNeg (((12 : Int32) * v1) + (jRem v2 (12 : Int32))))))), (0, .ref (a 0)), (1, .int v1), (2, .int v2)]) M dt_X12_wastes_3.1.1.1.1 rfl (by decide) rfl ?_
          refine z_aload_n M dt_X12_wastes_3.1.1.1.2 rfl 1 rfl ?_
          refine gf_X12_wasted M u1996 dt_X12_wastes_3.1.1.2.1 ?_
          refine z_iload_n M dt_X12_wastes_3.1.1.2.2 rfl 0 rfl ?_
          refine z_dup2_11 M dt_X12_wastes_3.1.2.1.1 rfl rfl ?_
          have ⟨hg, h⟩ := gIx_s h
          refine al_M16 (σ := σ) M (f := (σ.2.2.1 1)) rfl hg dt_X12_wastes_3.1.2.1.2 ?_
          refine z_aload_n M dt_X12_wastes_3.1.2.2.1 rfl 1 rfl ?_
          refine z_iconst M dt_X12_wastes_3.1.2.2.2 ki_0 ?_
          refine z_iload_n M dt_X12_wastes_3.2.1.1.1 rfl 3 rfl ?_
          refine z_iload_n M dt_X12_wastes_3.2.1.1.2 rfl 2 rfl ?_
          obtain ⟨t3, hc, h⟩ := gBd h
          refine k_X12_at M hc u1556 (Nat.le_of_ble_eq_true rfl) (Nat.le_of_ble_eq_true rfl) dt_X12_wastes_3.2.1.2.1 ?_
          refine z_aload_n M dt_X12_wastes_3.2.1.2.2 rfl 1 rfl ?_
          refine z_iconst M dt_X12_wastes_3.2.2.1.1 ki_1 ?_
          refine z_iload_n M dt_X12_wastes_3.2.2.1.2 rfl 3 rfl ?_
          refine z_iload_n M dt_X12_wastes_3.2.2.2.1 rfl 2 rfl ?_
          obtain ⟨t4, hc, h⟩ := gBd h
          refine k_X12_at M hc u1556 (Nat.le_of_ble_eq_true rfl) (Nat.le_of_ble_eq_true rfl) dt_X12_wastes_3.2.2.2.2 ?_
          refine z_aload_n M dt_X12_wastes_4.1.1.1.1 rfl 1 rfl ?_
          refine gf_X12_leaves M u1964 dt_X12_wastes_4.1.1.1.2 ?_
          refine z_iload_n M dt_X12_wastes_4.1.1.2.1 rfl 2 rfl ?_
          have ⟨hg, h⟩ := gIx_s h
          refine al_M2 (σ := σ) M (f := (σ.2.1 0)) rfl hg dt_X12_wastes_4.1.1.2.2 ?_
          refine z_imul M dt_X12_wastes_4.1.2.1.1 ?_
          refine z_bipush M dt_X12_wastes_4.1.2.1.2 kb_100 ?_
          refine z_idiv M dt_X12_wastes_4.1.2.2.1 (by decide) ?_
          refine z_isub M dt_X12_wastes_4.1.2.2.2 ?_
          refine z_i2l M dt_X12_wastes_4.2.1.1.1 ?_
          refine z_ladd M dt_X12_wastes_4.2.1.1.2 ?_
          have ⟨hg, h⟩ := gIx_s h
          refine as_M16 (σ := σ) M (f := (σ.2.2.1 1)) rfl hg dt_X12_wastes_4.2.1.2.1 ?_
          refine z_aload_n M dt_X12_wastes_4.2.1.2.2 rfl 1 rfl ?_
          refine gf_X12_sold M u1997 dt_X12_wastes_4.2.2.1.1 ?_
          refine z_iload_n M dt_X12_wastes_4.2.2.1.2 rfl 0 rfl ?_
          refine z_dup2_11 M dt_X12_wastes_4.2.2.2.1 rfl rfl ?_
          have ⟨hg, h⟩ := gIx_s h
          refine al_M17 (σ := (zL σ 1 (vp_updL (σ.2.2.1 1) (Int32.toNatClampNeg (f_X12_flag ((σ.2.1 7) (Int32.toNatClampNeg (((12 : Int32) * v1) + (jRem v2 (12 : Int32))))))) (((σ.2.2.1 1) (Int32.toNatClampNeg (f_X12_flag ((σ.2.1 7) (Int32.toNatClampNeg (((12 : Int32) * v1) + (jRem v2 (12 : Int32)))))))) + (Int32.toInt64 (t3 - ((t4 * ((σ.2.1 0) (Int32.toNatClampNeg v1))) / (100 : Int32)))))))) M (f := (σ.2.2.1 2)) rfl hg dt_X12_wastes_4.2.2.2.2 ?_
          refine z_aload_n M dt_X12_wastes_5.1.1.1.1 rfl 1 rfl ?_
          refine z_iconst M dt_X12_wastes_5.1.1.1.2 ki_1 ?_
          refine z_iload_n M dt_X12_wastes_5.1.1.2 rfl 3 rfl ?_
          refine z_iload_n M dt_X12_wastes_5.1.2.1.1 rfl 2 rfl ?_
          obtain ⟨t5, hc, h⟩ := gBd h
          refine k_X12_at M hc u1556 (Nat.le_of_ble_eq_true rfl) (Nat.le_of_ble_eq_true rfl) dt_X12_wastes_5.1.2.1.2 ?_
          refine z_i2l M dt_X12_wastes_5.1.2.2 ?_
          refine z_ladd M dt_X12_wastes_5.2.1.1.1 ?_
          have ⟨hg, h⟩ := gIx_s h
          refine as_M17 (σ := (zL σ 1 (vp_updL (σ.2.2.1 1) (Int32.toNatClampNeg (f_X12_flag ((σ.2.1 7) (Int32.toNatClampNeg (((12 : Int32) * v1) + (jRem v2 (12 : Int32))))))) (((σ.2.2.1 1) (Int32.toNatClampNeg (f_X12_flag ((σ.2.1 7) (Int32.toNatClampNeg (((12 : Int32) * v1) + (jRem v2 (12 : Int32)))))))) + (Int32.toInt64 (t3 - ((t4 * ((σ.2.1 0) (Int32.toNatClampNeg v1))) / (100 : Int32)))))))) M (f := (σ.2.2.1 2)) rfl hg dt_X12_wastes_5.2.1.1.2 ?_
          refine z_iinc (v := (v2 + (1 : Int32))) (lv' := [(2, .int (v2 + (1 : Int32))), (3, .int (f_X12_flag ((σ.2.1 7) (Int32.toNatClampNeg (((12 : Int32) * v1) + (jRem v2 (12 : Int32))))))), (0, .ref (a 0)), (1, .int v1)]) M dt_X12_wastes_5.2.1.2 (k := 3) rfl (congrArg (fun q => v2 + q) ki_1) (by decide) rfl ?_
          refine z_goto (tgt := 29) M dt_X12_wastes_5.2.2.1 (by decide) ?_
          refine z_sub M [2, 3, 0] (lv' := [(0, .ref (a 0)), (1, .int v1), (2, .int (v2 + (1 : Int32)))]) rfl ?_
          exact ih (zL (zL σ 1 (vp_updL (σ.2.2.1 1) (Int32.toNatClampNeg (f_X12_flag ((σ.2.1 7) (Int32.toNatClampNeg (((12 : Int32) * v1) + (jRem v2 (12 : Int32))))))) (((σ.2.2.1 1) (Int32.toNatClampNeg (f_X12_flag ((σ.2.1 7) (Int32.toNatClampNeg (((12 : Int32) * v1) + (jRem v2 (12 : Int32)))))))) + (Int32.toInt64 (t3 - ((t4 * ((σ.2.1 0) (Int32.toNatClampNeg v1))) / (100 : Int32))))))) 2 (vp_updL (σ.2.2.1 2) (Int32.toNatClampNeg (f_X12_flag ((σ.2.1 7) (Int32.toNatClampNeg (((12 : Int32) * v1) + (jRem v2 (12 : Int32))))))) (((σ.2.2.1 2) (Int32.toNatClampNeg (f_X12_flag ((σ.2.1 7) (Int32.toNatClampNeg (((12 : Int32) * v1) + (jRem v2 (12 : Int32)))))))) + (Int32.toInt64 t5)))) (v2 + (1 : Int32)) h
set_option maxHeartbeats 4000000 in
set_option maxRecDepth 100000 in
theorem wJ_X12_wastes_27 {o : Zst} (M : zM l D zcl (zty cy) A ad (zR 3) (mW a cy ad) RX12 cX12_wastes 4 none o none G) (σ : Zst) (v1 : Int32)  (h : J_X12_wastes_27 σ v1 = some o) : G σ [(0, .ref (a 0)), (1, .int v1)] 27 [] := by
  refine z_iconst M dt_X12_wastes_1.1.1.1.2 ki_0 ?_
  refine z_istore_n (lv' := [(2, .int (0 : Int32)), (0, .ref (a 0)), (1, .int v1)]) M dt_X12_wastes_1.1.1.2.1 rfl (by decide) rfl ?_
  refine z_sub M [1, 2, 0] (lv' := [(0, .ref (a 0)), (1, .int v1), (2, .int (0 : Int32))]) rfl ?_
  exact wL_X12_wastes_29 M  v1 zFu σ (0 : Int32) h
set_option maxHeartbeats 4000000 in
set_option maxRecDepth 100000 in
theorem m_X12_wastes (hD : ∀ σ, va_D A (mW a cy ad σ)) {σ : Zst} {p0 : Int32} {o : Zst} (h : f_X12_wastes σ p0 = some o) : zT l D zcl (zty cy) A ad (mW a cy ad) yX12_wastes cX12_wastes 4 none 3 [.ref (a 0), .int p0] σ o none := by
  refine z_met pn_X12 hD (Nat.le_of_ble_eq_true rfl) rfl (fun G M => ?_)
  refine z_iconst M dt_X12_wastes_0.1.1.1.1 ki_0 ?_
  refine z_istore_n (lv' := [(2, .int (0 : Int32)), (0, .ref (a 0)), (1, .int p0)]) M dt_X12_wastes_0.1.1.1.2 rfl (by decide) rfl ?_
  refine z_sub M [1, 2, 0] (lv' := [(0, .ref (a 0)), (1, .int p0), (2, .int (0 : Int32))]) rfl ?_
  exact wL_X12_wastes_2 M (k27 := (fun σ6 => J_X12_wastes_27 σ6 p0)) p0 (fun σ6 h => by
      exact wJ_X12_wastes_27 M  σ6 p0 h) zFu σ (0 : Int32) h
theorem k_X12_wastes {n : Nat} (M : zM l D zcl (zty cy) A ad (zR n) (mW a cy ad) own cc nL rt σo ov G) {p0 : Int32} {o : Zst} (h : f_X12_wastes σ p0 = some o) {index : Nat} (hl : Cond.methodLink own index yX12_wastes ∈ uw) (hR : 4 ≤ n) (hW : (st.map fun v => v.category).sum ≤ 8) (d : decode cc pc = .ok (.invokevirtual index, 3)) (kk : G o lv (pc + 3) (st)) : G σ lv pc (.int p0 :: .ref (a 0) :: st) := z_callV M [.int p0] (m_X12_wastes (zM_hD M) h) (hM0 σ) rfl hl u99 u1806 u1805 u73 hd_X12_wastes hR (by decide) rfl hW d kk
set_option maxHeartbeats 4000000 in
set_option maxRecDepth 100000 in
theorem m_X12_waste (hD : ∀ σ, va_D A (mW a cy ad σ)) {σ : Zst} {p0 : Int32} {o : (Zst × Int32)} (h : f_X12_waste σ p0 = some o) : zT l D zcl (zty cy) A ad (mW a cy ad) yX12_waste cX12_waste 4 (some .int) 4 [.ref (a 0), .int p0] σ o.1 (some (.int o.2)) := by
  refine z_met pn_X12 hD (Nat.le_of_ble_eq_true rfl) rfl (fun G M => ?_)
  refine z_aload_n M dt_X12_waste_0.1.1.1.1 rfl 0 rfl ?_
  refine z_iconst M dt_X12_waste_0.1.1.1.2 ki_0 ?_
  refine pf_X12_thrown M u1960 dt_X12_waste_0.1.1.2.1 ?_
  refine z_aload_n M dt_X12_waste_0.1.1.2.2 rfl 0 rfl ?_
  refine z_iload_n M dt_X12_waste_0.1.2.1.1 rfl 1 rfl ?_
  refine k_X12_isSort M u1526 (Nat.le_of_ble_eq_true rfl) (Nat.le_of_ble_eq_true rfl) dt_X12_waste_0.1.2.1.2 ?_
  refine z_if_ne (tgt := 15) M dt_X12_waste_0.1.2.2.1 (by decide) (fun hc => ?_) (fun hc => ?_)
  · have h := gIf hc h
    refine z_aload_n M dt_X12_waste_0.2.1.1.2 rfl 0 rfl ?_
    refine z_iload_n M dt_X12_waste_0.2.1.2.1 rfl 1 rfl ?_
    obtain ⟨t1, hc, h⟩ := gBd h
    refine k_X12_wastes M hc u1803 (Nat.le_of_ble_eq_true rfl) (Nat.le_of_ble_eq_true rfl) dt_X12_waste_0.2.1.2.2 ?_
    refine z_aload_n M dt_X12_waste_0.2.2.1.1 rfl 0 rfl ?_
    refine gf_X12_sold M u1997 dt_X12_waste_0.2.2.1.2 ?_
    refine z_iconst M dt_X12_waste_0.2.2.2.1 ki_0 ?_
    refine al_M17 (σ := t1) M (f := (t1.2.2.1 2)) rfl (show ¬ (_ ∨ _) by decide) dt_X12_waste_0.2.2.2.2 ?_
    refine z_lconst (v := 0) M dt_X12_waste_1.1.1.1.1 (by decide) ?_
    refine z_lcmp_eq (tgt := 42) M dt_X12_waste_1.1.1.1.2 dt_X12_waste_1.1.1.2.1 (by decide) (fun hc => ?_) (fun hc => ?_)
    · have h := gIt hc h
      refine z_bipush M dt_X12_waste_1.2.1.2.1 kb_m2 ?_
      obtain rfl := Option.some.inj h
      exact z_iret M dt_X12_waste_1.2.1.2.2
    · have h := gIf hc h
      refine z_aload_n M dt_X12_waste_1.1.1.2.2 rfl 0 rfl ?_
      refine gf_X12_sold M u1997 dt_X12_waste_1.1.2.1.1 ?_
      refine z_iconst M dt_X12_waste_1.1.2.1.2 ki_1 ?_
      refine al_M17 (σ := t1) M (f := (t1.2.2.1 2)) rfl (show ¬ (_ ∨ _) by decide) dt_X12_waste_1.1.2.2.1 ?_
      refine z_lconst (v := 0) M dt_X12_waste_1.1.2.2.2 (by decide) ?_
      refine z_lcmp_ne (tgt := 45) M dt_X12_waste_1.2.1.1.1 dt_X12_waste_1.2.1.1.2 (by decide) (fun hc => ?_) (fun hc => ?_)
      · have h := gIf hc h
        refine z_aload_n M dt_X12_waste_1.2.2.1.1 rfl 0 rfl ?_
        refine z_iconst M dt_X12_waste_1.2.2.1.2 ki_0 ?_
        refine pf_X12_rows M u1961 dt_X12_waste_1.2.2.2.1 ?_
        refine z_aload_n M dt_X12_waste_1.2.2.2.2 rfl 0 rfl ?_
        refine z_aload_n M dt_X12_waste_2.1.1.1.1 rfl 0 rfl ?_
        refine gf_X12_wasted M u1996 dt_X12_waste_2.1.1.1.2 ?_
        refine z_iconst M dt_X12_waste_2.1.1.2.1 ki_1 ?_
        refine al_M16 (σ := (zI t1 1 (0 : Int32))) M (f := (t1.2.2.1 1)) rfl (show ¬ (_ ∨ _) by decide) dt_X12_waste_2.1.1.2.2 ?_
        refine z_aload_n M dt_X12_waste_2.1.2.1.1 rfl 0 rfl ?_
        refine gf_X12_sold M u1997 dt_X12_waste_2.1.2.1.2 ?_
        refine z_iconst M dt_X12_waste_2.1.2.2.1 ki_1 ?_
        refine al_M17 (σ := (zI t1 1 (0 : Int32))) M (f := (t1.2.2.1 2)) rfl (show ¬ (_ ∨ _) by decide) dt_X12_waste_2.1.2.2.2 ?_
        obtain ⟨t2, hc, h⟩ := gBd h
        refine k_X12_entersFraction M hc u1716 (Nat.le_of_ble_eq_true rfl) (Nat.le_of_ble_eq_true rfl) dt_X12_waste_2.2.1.1.1 ?_
        refine z_aload_n M dt_X12_waste_2.2.1.1.2 rfl 0 rfl ?_
        refine z_aload_n M dt_X12_waste_2.2.1.2.1 rfl 0 rfl ?_
        refine gf_X12_wasted M u1996 dt_X12_waste_2.2.1.2.2 ?_
        refine z_iconst M dt_X12_waste_2.2.2.1.1 ki_0 ?_
        refine al_M16 (σ := t2) M (f := (t2.2.2.1 1)) rfl (show ¬ (_ ∨ _) by decide) dt_X12_waste_2.2.2.1.2 ?_
        refine z_aload_n M dt_X12_waste_2.2.2.2.1 rfl 0 rfl ?_
        refine gf_X12_sold M u1997 dt_X12_waste_2.2.2.2.2 ?_
        refine z_iconst M dt_X12_waste_3.1.1.1.1 ki_0 ?_
        refine al_M17 (σ := t2) M (f := (t2.2.2.1 2)) rfl (show ¬ (_ ∨ _) by decide) dt_X12_waste_3.1.1.1.2 ?_
        obtain ⟨t3, hc, h⟩ := gBd h
        refine k_X12_entersFraction M hc u1716 (Nat.le_of_ble_eq_true rfl) (Nat.le_of_ble_eq_true rfl) dt_X12_waste_3.1.1.2.1 ?_
        refine z_aload_n M dt_X12_waste_3.1.1.2.2 rfl 0 rfl ?_
        refine gf_X12_wasted M u1996 dt_X12_waste_3.1.2.1.1 ?_
        refine z_iconst M dt_X12_waste_3.1.2.1.2 ki_1 ?_
        refine al_M16 (σ := t3) M (f := (t3.2.2.1 1)) rfl (show ¬ (_ ∨ _) by decide) dt_X12_waste_3.1.2.2.1 ?_
        refine z_aload_n M dt_X12_waste_3.1.2.2.2 rfl 0 rfl ?_
        refine gf_X12_sold M u1997 dt_X12_waste_3.2.1.1.1 ?_
        refine z_iconst M dt_X12_waste_3.2.1.1.2 ki_0 ?_
        refine al_M17 (σ := t3) M (f := (t3.2.2.1 2)) rfl (show ¬ (_ ∨ _) by decide) dt_X12_waste_3.2.1.2.1 ?_
        refine z_lmul M dt_X12_waste_3.2.1.2.2 ?_
        refine z_aload_n M dt_X12_waste_3.2.2.1.1 rfl 0 rfl ?_
        refine gf_X12_wasted M u1996 dt_X12_waste_3.2.2.1.2 ?_
        refine z_iconst M dt_X12_waste_3.2.2.2.1 ki_0 ?_
        refine al_M16 (σ := t3) M (f := (t3.2.2.1 1)) rfl (show ¬ (_ ∨ _) by decide) dt_X12_waste_3.2.2.2.2 ?_
        refine z_aload_n M dt_X12_waste_4.1.1.1.1 rfl 0 rfl ?_
        refine gf_X12_sold M u1997 dt_X12_waste_4.1.1.1.2 ?_
        refine z_iconst M dt_X12_waste_4.1.1.2.1 ki_1 ?_
        refine al_M17 (σ := t3) M (f := (t3.2.2.1 2)) rfl (show ¬ (_ ∨ _) by decide) dt_X12_waste_4.1.1.2.2 ?_
        refine z_lmul M dt_X12_waste_4.1.2.1.1 ?_
        refine z_lsub M dt_X12_waste_4.1.2.1.2 ?_
        refine z_lstore_n (lv' := [(2, .long ((((t3.2.2.1 1) (Int32.toNatClampNeg (1 : Int32))) * ((t3.2.2.1 2) (Int32.toNatClampNeg (0 : Int32)))) - (((t3.2.2.1 1) (Int32.toNatClampNeg (0 : Int32))) * ((t3.2.2.1 2) (Int32.toNatClampNeg (1 : Int32)))))), (0, .ref (a 0)), (1, .int p0)]) M dt_X12_waste_4.1.2.2.1 rfl (by decide) rfl ?_
        refine z_lload_n M dt_X12_waste_4.1.2.2.2 rfl 0 rfl ?_
        refine z_lconst (v := 0) M dt_X12_waste_4.2.1.1.1 (by decide) ?_
        have hJ6 : G t3 [(2, .long ((((t3.2.2.1 1) (Int32.toNatClampNeg (1 : Int32))) * ((t3.2.2.1 2) (Int32.toNatClampNeg (0 : Int32)))) - (((t3.2.2.1 1) (Int32.toNatClampNeg (0 : Int32))) * ((t3.2.2.1 2) (Int32.toNatClampNeg (1 : Int32)))))), (0, .ref (a 0)), (1, .int p0)] 131 [.int (if ((((t3.2.2.1 1) (Int32.toNatClampNeg (1 : Int32))) * ((t3.2.2.1 2) (Int32.toNatClampNeg (0 : Int32)))) - (((t3.2.2.1 1) (Int32.toNatClampNeg (0 : Int32))) * ((t3.2.2.1 2) (Int32.toNatClampNeg (1 : Int32))))) ≤ (0 : Int64) then (if (0 : Int64) ≤ ((((t3.2.2.1 1) (Int32.toNatClampNeg (1 : Int32))) * ((t3.2.2.1 2) (Int32.toNatClampNeg (0 : Int32)))) - (((t3.2.2.1 1) (Int32.toNatClampNeg (0 : Int32))) * ((t3.2.2.1 2) (Int32.toNatClampNeg (1 : Int32))))) then (0 : Int32) else (2 : Int32)) else (1 : Int32))] := by
          obtain rfl := Option.some.inj h
          exact z_iret M dt_X12_waste_5.2.2
        refine z_lcmp_le (tgt := 120) M dt_X12_waste_4.2.1.1.2 dt_X12_waste_4.2.1.2.1 (by decide) (fun hc4 => ?_) (fun hc4 => ?_)
        · refine z_lload_n M dt_X12_waste_4.2.2.1.2 rfl 0 rfl ?_
          refine z_lconst (v := 0) M dt_X12_waste_4.2.2.2.1 (by decide) ?_
          refine z_lcmp_ge (tgt := 130) M dt_X12_waste_4.2.2.2.2 dt_X12_waste_5.1.1.1 (by decide) (fun hc5 => ?_) (fun hc5 => ?_)
          · refine z_iconst M dt_X12_waste_5.2.1 ki_0 ?_
            exact (zTt hc5 (zTt hc4 hJ6))
          · refine z_iconst M dt_X12_waste_5.1.1.2 ki_2 ?_
            refine z_goto (tgt := 131) M dt_X12_waste_5.1.2 (by decide) ?_
            exact (zTf hc5 (zTt hc4 hJ6))
        · refine z_iconst M dt_X12_waste_4.2.1.2.2 ki_1 ?_
          refine z_goto (tgt := 131) M dt_X12_waste_4.2.2.1.1 (by decide) ?_
          exact (zTf hc4 hJ6)
      · have h := gIt hc h
        refine z_bipush M dt_X12_waste_1.2.1.2.1 kb_m2 ?_
        obtain rfl := Option.some.inj h
        exact z_iret M dt_X12_waste_1.2.1.2.2
  · have h := gIt hc h
    refine z_iconst M dt_X12_waste_0.1.2.2.2 ki_m1 ?_
    obtain rfl := Option.some.inj h
    exact z_iret M dt_X12_waste_0.2.1.1.1
set_option maxHeartbeats 4000000 in
set_option maxRecDepth 100000 in
theorem wJ_X12_readsClaim_115 {o : (Zst × Int32)} (M : zM l D zcl (zty cy) A ad (zR 7) (mW a cy ad) RX12 cX12_readsClaim 2 (some .boolean) o.1 (some (.int o.2)) G) (σ : Zst) (v1 : Int32) (s0 : Int32) (s1 : Int32)  (h : J_X12_readsClaim_115 σ v1 s0 s1 = some o) : G σ [(0, .ref (a 0)), (1, .int v1)] 115 [.int s0, .int s1, .ref (a 24)] := by
  have ⟨hg, h⟩ := gIx_s h
  refine as_M24 (σ := σ) M (f := (σ.2.1 20)) rfl hg dt_X12_readsClaim_3.2.2.2.1 ?_
  refine z_aload_n M dt_X12_readsClaim_3.2.2.2.2 rfl 0 rfl ?_
  refine z_dup M dt_X12_readsClaim_4.1.1.1.1 rfl ?_
  refine gf_X12_place (σ := (zA σ 20 (upd (σ.2.1 20) (Int32.toNatClampNeg s1) s0))) M u1980 dt_X12_readsClaim_4.1.1.1.2 (v := (σ.1 6)) rfl ?_
  refine z_aload_n M dt_X12_readsClaim_4.1.1.2.1 rfl 0 rfl ?_
  refine gf_X12_readOther M u2005 dt_X12_readsClaim_4.1.1.2.2 ?_
  refine z_iload_n M dt_X12_readsClaim_4.1.2.1.1 rfl 1 rfl ?_
  have ⟨hg, h⟩ := gIx_s h
  refine al_M24 (σ := (zA σ 20 (upd (σ.2.1 20) (Int32.toNatClampNeg s1) s0))) M (f := (upd (σ.2.1 20) (Int32.toNatClampNeg s1) s0)) rfl hg dt_X12_readsClaim_4.1.2.1.2 ?_
  have hJ2 : G (zA σ 20 (upd (σ.2.1 20) (Int32.toNatClampNeg s1) s0)) [(0, .ref (a 0)), (1, .int v1)] 135 [.int (if ((upd (σ.2.1 20) (Int32.toNatClampNeg s1) s0) (Int32.toNatClampNeg v1)) < (0 : Int32) then (0 : Int32) else (1 : Int32)), .int (σ.1 6), .ref (a 0)] := by
    refine k_X12_flag M u1675 (Nat.le_of_ble_eq_true rfl) (Nat.le_of_ble_eq_true rfl) dt_X12_readsClaim_4.2.1.2.1 ?_
    refine z_iadd M dt_X12_readsClaim_4.2.1.2.2 ?_
    refine pf_X12_place M u1980 dt_X12_readsClaim_4.2.2.1.1 ?_
    refine z_aload_n M dt_X12_readsClaim_4.2.2.1.2 rfl 0 rfl ?_
    refine gf_X12_readOther M u2005 dt_X12_readsClaim_4.2.2.2.1 ?_
    refine z_iload_n M dt_X12_readsClaim_4.2.2.2.2 rfl 1 rfl ?_
    have ⟨hg, h⟩ := gIx_s h
    refine al_M24 (σ := (zI (zA σ 20 (upd (σ.2.1 20) (Int32.toNatClampNeg s1) s0)) 6 ((σ.1 6) + (f_X12_flag (if ((upd (σ.2.1 20) (Int32.toNatClampNeg s1) s0) (Int32.toNatClampNeg v1)) < (0 : Int32) then (0 : Int32) else (1 : Int32)))))) M (f := (upd (σ.2.1 20) (Int32.toNatClampNeg s1) s0)) rfl hg dt_X12_readsClaim_5.1.1.1 ?_
    have hJ4 : G (zI (zA σ 20 (upd (σ.2.1 20) (Int32.toNatClampNeg s1) s0)) 6 ((σ.1 6) + (f_X12_flag (if ((upd (σ.2.1 20) (Int32.toNatClampNeg s1) s0) (Int32.toNatClampNeg v1)) < (0 : Int32) then (0 : Int32) else (1 : Int32))))) [(0, .ref (a 0)), (1, .int v1)] 156 [.int (if ((upd (σ.2.1 20) (Int32.toNatClampNeg s1) s0) (Int32.toNatClampNeg v1)) < (0 : Int32) then (0 : Int32) else (1 : Int32))] := by
      obtain rfl := Option.some.inj h
      exact z_zret M (nBo (boIte (Or.inl rfl) (Or.inr rfl))) dt_X12_readsClaim_5.2.2
    refine z_if_lt (tgt := 155) M dt_X12_readsClaim_5.1.1.2 (by decide) (fun hc3 => ?_) (fun hc3 => ?_)
    · refine z_iconst M dt_X12_readsClaim_5.2.1.2 ki_0 ?_
      exact (zTt hc3 hJ4)
    · refine z_iconst M dt_X12_readsClaim_5.1.2 ki_1 ?_
      refine z_goto (tgt := 156) M dt_X12_readsClaim_5.2.1.1 (by decide) ?_
      exact (zTf hc3 hJ4)
  refine z_if_lt (tgt := 134) M dt_X12_readsClaim_4.1.2.2.1 (by decide) (fun hc1 => ?_) (fun hc1 => ?_)
  · refine z_iconst M dt_X12_readsClaim_4.2.1.1.2 ki_0 ?_
    exact (zTt hc1 hJ2)
  · refine z_iconst M dt_X12_readsClaim_4.1.2.2.2 ki_1 ?_
    refine z_goto (tgt := 135) M dt_X12_readsClaim_4.2.1.1.1 (by decide) ?_
    exact (zTf hc1 hJ2)
set_option maxHeartbeats 4000000 in
set_option maxRecDepth 100000 in
theorem wJ_X12_readsClaim_63 {o : (Zst × Int32)} (M : zM l D zcl (zty cy) A ad (zR 7) (mW a cy ad) RX12 cX12_readsClaim 2 (some .boolean) o.1 (some (.int o.2)) G) (σ : Zst) (v1 : Int32) (s0 : Int32) (s1 : Int32)  (h : J_X12_readsClaim_63 σ v1 s0 s1 = some o) : G σ [(0, .ref (a 0)), (1, .int v1)] 63 [.int s0, .int s1, .ref (a 23)] := by
  have ⟨hg, h⟩ := gIx_s h
  refine as_M23 (σ := σ) M (f := (σ.2.1 19)) rfl hg dt_X12_readsClaim_2.1.1.2.1 ?_
  refine z_aload_n M dt_X12_readsClaim_2.1.1.2.2 rfl 0 rfl ?_
  refine z_dup M dt_X12_readsClaim_2.1.2.1.1 rfl ?_
  refine gf_X12_place (σ := (zA σ 19 (upd (σ.2.1 19) (Int32.toNatClampNeg s1) s0))) M u1980 dt_X12_readsClaim_2.1.2.1.2 (v := (σ.1 6)) rfl ?_
  refine z_aload_n M dt_X12_readsClaim_2.1.2.2.1 rfl 0 rfl ?_
  refine gf_X12_readAct M u2004 dt_X12_readsClaim_2.1.2.2.2 ?_
  refine z_iload_n M dt_X12_readsClaim_2.2.1.1.1 rfl 1 rfl ?_
  have ⟨hg, h⟩ := gIx_s h
  refine al_M23 (σ := (zA σ 19 (upd (σ.2.1 19) (Int32.toNatClampNeg s1) s0))) M (f := (upd (σ.2.1 19) (Int32.toNatClampNeg s1) s0)) rfl hg dt_X12_readsClaim_2.2.1.1.2 ?_
  have hJ6 : G (zA σ 19 (upd (σ.2.1 19) (Int32.toNatClampNeg s1) s0)) [(0, .ref (a 0)), (1, .int v1)] 83 [.int (if ((upd (σ.2.1 19) (Int32.toNatClampNeg s1) s0) (Int32.toNatClampNeg v1)) < (0 : Int32) then (0 : Int32) else (1 : Int32)), .int (σ.1 6), .ref (a 0)] := by
    refine k_X12_flag M u1675 (Nat.le_of_ble_eq_true rfl) (Nat.le_of_ble_eq_true rfl) dt_X12_readsClaim_2.2.2.2.1 ?_
    refine z_iadd M dt_X12_readsClaim_2.2.2.2.2 ?_
    refine pf_X12_place M u1980 dt_X12_readsClaim_3.1.1.1.1 ?_
    refine z_aload_n M dt_X12_readsClaim_3.1.1.1.2 rfl 0 rfl ?_
    refine gf_X12_readOther M u2005 dt_X12_readsClaim_3.1.1.2.1 ?_
    refine z_iload_n M dt_X12_readsClaim_3.1.1.2.2 rfl 1 rfl ?_
    refine z_aload_n M dt_X12_readsClaim_3.1.2.1.1 rfl 0 rfl ?_
    refine gf_X12_readAct M u2004 dt_X12_readsClaim_3.1.2.1.2 ?_
    refine z_iload_n M dt_X12_readsClaim_3.1.2.2.1 rfl 1 rfl ?_
    have ⟨hg, h⟩ := gIx_s h
    refine al_M23 (σ := (zI (zA σ 19 (upd (σ.2.1 19) (Int32.toNatClampNeg s1) s0)) 6 ((σ.1 6) + (f_X12_flag (if ((upd (σ.2.1 19) (Int32.toNatClampNeg s1) s0) (Int32.toNatClampNeg v1)) < (0 : Int32) then (0 : Int32) else (1 : Int32)))))) M (f := (upd (σ.2.1 19) (Int32.toNatClampNeg s1) s0)) rfl hg dt_X12_readsClaim_3.1.2.2.2 ?_
    refine z_if_ge (tgt := 108) M dt_X12_readsClaim_3.2.1.1.1 (by decide) (fun hc => ?_) (fun hc => ?_)
    · have h := gIt hc h
      refine z_aload_n M dt_X12_readsClaim_3.2.1.2.2 rfl 0 rfl ?_
      refine z_ldcwS (tx := "WBENSwbens") (i := 12) M (by decide +kernel) dt_X12_readsClaim_3.2.2.1.1 ?_
      obtain ⟨t7, hc, h⟩ := gBd h
      refine k_X12_among M hc u1605 (Nat.le_of_ble_eq_true rfl) (Nat.le_of_ble_eq_true rfl) dt_X12_readsClaim_3.2.2.1.2 ?_
      exact wJ_X12_readsClaim_115 M  (zI (zA σ 19 (upd (σ.2.1 19) (Int32.toNatClampNeg s1) s0)) 6 ((σ.1 6) + (f_X12_flag (if ((upd (σ.2.1 19) (Int32.toNatClampNeg s1) s0) (Int32.toNatClampNeg v1)) < (0 : Int32) then (0 : Int32) else (1 : Int32))))) v1 t7 v1 h
    · have h := gIf hc h
      refine z_iconst M dt_X12_readsClaim_3.2.1.1.2 ki_m1 ?_
      refine z_goto (tgt := 115) M dt_X12_readsClaim_3.2.1.2.1 (by decide) ?_
      exact wJ_X12_readsClaim_115 M  (zI (zA σ 19 (upd (σ.2.1 19) (Int32.toNatClampNeg s1) s0)) 6 ((σ.1 6) + (f_X12_flag (if ((upd (σ.2.1 19) (Int32.toNatClampNeg s1) s0) (Int32.toNatClampNeg v1)) < (0 : Int32) then (0 : Int32) else (1 : Int32))))) v1 (-1 : Int32) v1 h
  refine z_if_lt (tgt := 82) M dt_X12_readsClaim_2.2.1.2.1 (by decide) (fun hc5 => ?_) (fun hc5 => ?_)
  · refine z_iconst M dt_X12_readsClaim_2.2.2.1.2 ki_0 ?_
    exact (zTt hc5 hJ6)
  · refine z_iconst M dt_X12_readsClaim_2.2.1.2.2 ki_1 ?_
    refine z_goto (tgt := 83) M dt_X12_readsClaim_2.2.2.1.1 (by decide) ?_
    exact (zTf hc5 hJ6)
set_option maxHeartbeats 4000000 in
set_option maxRecDepth 100000 in
theorem m_X12_readsClaim (hD : ∀ σ, va_D A (mW a cy ad σ)) {σ : Zst} {p0 : Int32} {o : (Zst × Int32)} (h : f_X12_readsClaim σ p0 = some o) : zT l D zcl (zty cy) A ad (mW a cy ad) yX12_readsClaim cX12_readsClaim 2 (some .boolean) 7 [.ref (a 0), .int p0] σ o.1 (some (.int o.2)) := by
  refine z_met pn_X12 hD (Nat.le_of_ble_eq_true rfl) rfl (fun G M => ?_)
  refine z_aload_n M dt_X12_readsClaim_0.1.1.1.1 rfl 0 rfl ?_
  refine gf_X12_readOne M u2003 dt_X12_readsClaim_0.1.1.1.2 ?_
  refine z_iload_n M dt_X12_readsClaim_0.1.1.2.1 rfl 1 rfl ?_
  refine z_aload_n M dt_X12_readsClaim_0.1.1.2.2 rfl 0 rfl ?_
  refine z_ldcwS (tx := "WBENSwbens") (i := 12) M (by decide +kernel) dt_X12_readsClaim_0.1.2.1.1 ?_
  obtain ⟨t8, hc, h⟩ := gBd h
  refine k_X12_among M hc u1605 (Nat.le_of_ble_eq_true rfl) (Nat.le_of_ble_eq_true rfl) dt_X12_readsClaim_0.1.2.1.2 ?_
  have ⟨hg, h⟩ := gIx_s h
  refine as_M22 (σ := σ) M (f := (σ.2.1 18)) rfl hg dt_X12_readsClaim_0.1.2.2.1 ?_
  refine z_aload_n M dt_X12_readsClaim_0.1.2.2.2 rfl 0 rfl ?_
  refine z_dup M dt_X12_readsClaim_0.2.1.1.1 rfl ?_
  refine gf_X12_place (σ := (zA σ 18 (upd (σ.2.1 18) (Int32.toNatClampNeg p0) t8))) M u1980 dt_X12_readsClaim_0.2.1.1.2 (v := (σ.1 6)) rfl ?_
  refine z_aload_n M dt_X12_readsClaim_0.2.1.2.1 rfl 0 rfl ?_
  refine gf_X12_readOne M u2003 dt_X12_readsClaim_0.2.1.2.2 ?_
  refine z_iload_n M dt_X12_readsClaim_0.2.2.1.1 rfl 1 rfl ?_
  have ⟨hg, h⟩ := gIx_s h
  refine al_M22 (σ := (zA σ 18 (upd (σ.2.1 18) (Int32.toNatClampNeg p0) t8))) M (f := (upd (σ.2.1 18) (Int32.toNatClampNeg p0) t8)) rfl hg dt_X12_readsClaim_0.2.2.1.2 ?_
  have hJ10 : G (zA σ 18 (upd (σ.2.1 18) (Int32.toNatClampNeg p0) t8)) [(0, .ref (a 0)), (1, .int p0)] 32 [.int (if ((upd (σ.2.1 18) (Int32.toNatClampNeg p0) t8) (Int32.toNatClampNeg p0)) < (0 : Int32) then (0 : Int32) else (1 : Int32)), .int (σ.1 6), .ref (a 0)] := by
    refine k_X12_flag M u1675 (Nat.le_of_ble_eq_true rfl) (Nat.le_of_ble_eq_true rfl) dt_X12_readsClaim_1.1.1.2.1 ?_
    refine z_iadd M dt_X12_readsClaim_1.1.1.2.2 ?_
    refine pf_X12_place M u1980 dt_X12_readsClaim_1.1.2.1.1 ?_
    refine z_aload_n M dt_X12_readsClaim_1.1.2.1.2 rfl 0 rfl ?_
    refine gf_X12_readAct M u2004 dt_X12_readsClaim_1.1.2.2.1 ?_
    refine z_iload_n M dt_X12_readsClaim_1.1.2.2.2 rfl 1 rfl ?_
    refine z_aload_n M dt_X12_readsClaim_1.2.1.1.1 rfl 0 rfl ?_
    refine gf_X12_readOne M u2003 dt_X12_readsClaim_1.2.1.1.2 ?_
    refine z_iload_n M dt_X12_readsClaim_1.2.1.2.1 rfl 1 rfl ?_
    have ⟨hg, h⟩ := gIx_s h
    refine al_M22 (σ := (zI (zA σ 18 (upd (σ.2.1 18) (Int32.toNatClampNeg p0) t8)) 6 ((σ.1 6) + (f_X12_flag (if ((upd (σ.2.1 18) (Int32.toNatClampNeg p0) t8) (Int32.toNatClampNeg p0)) < (0 : Int32) then (0 : Int32) else (1 : Int32)))))) M (f := (upd (σ.2.1 18) (Int32.toNatClampNeg p0) t8)) rfl hg dt_X12_readsClaim_1.2.1.2.2 ?_
    refine z_if_ge (tgt := 57) M dt_X12_readsClaim_1.2.2.1.1 (by decide) (fun hc => ?_) (fun hc => ?_)
    · have h := gIt hc h
      refine z_aload_n M dt_X12_readsClaim_1.2.2.2.2 rfl 0 rfl ?_
      refine z_ldcS (tx := "<>=") (i := 9) M (by decide +kernel) dt_X12_readsClaim_2.1.1.1.1 ?_
      obtain ⟨t11, hc, h⟩ := gBd h
      refine k_X12_among M hc u1605 (Nat.le_of_ble_eq_true rfl) (Nat.le_of_ble_eq_true rfl) dt_X12_readsClaim_2.1.1.1.2 ?_
      exact wJ_X12_readsClaim_63 M  (zI (zA σ 18 (upd (σ.2.1 18) (Int32.toNatClampNeg p0) t8)) 6 ((σ.1 6) + (f_X12_flag (if ((upd (σ.2.1 18) (Int32.toNatClampNeg p0) t8) (Int32.toNatClampNeg p0)) < (0 : Int32) then (0 : Int32) else (1 : Int32))))) p0 t11 p0 h
    · have h := gIf hc h
      refine z_iconst M dt_X12_readsClaim_1.2.2.1.2 ki_m1 ?_
      refine z_goto (tgt := 63) M dt_X12_readsClaim_1.2.2.2.1 (by decide) ?_
      exact wJ_X12_readsClaim_63 M  (zI (zA σ 18 (upd (σ.2.1 18) (Int32.toNatClampNeg p0) t8)) 6 ((σ.1 6) + (f_X12_flag (if ((upd (σ.2.1 18) (Int32.toNatClampNeg p0) t8) (Int32.toNatClampNeg p0)) < (0 : Int32) then (0 : Int32) else (1 : Int32))))) p0 (-1 : Int32) p0 h
  refine z_if_lt (tgt := 31) M dt_X12_readsClaim_0.2.2.2.1 (by decide) (fun hc9 => ?_) (fun hc9 => ?_)
  · refine z_iconst M dt_X12_readsClaim_1.1.1.1.2 ki_0 ?_
    exact (zTt hc9 hJ10)
  · refine z_iconst M dt_X12_readsClaim_0.2.2.2.2 ki_1 ?_
    refine z_goto (tgt := 32) M dt_X12_readsClaim_1.1.1.1.1 (by decide) ?_
    exact (zTf hc9 hJ10)
theorem k_X12_readsClaim {n : Nat} (M : zM l D zcl (zty cy) A ad (zR n) (mW a cy ad) own cc nL rt σo ov G) {p0 : Int32} {o : (Zst × Int32)} (h : f_X12_readsClaim σ p0 = some o) {index : Nat} (hl : Cond.methodLink own index yX12_readsClaim ∈ uw) (hR : 8 ≤ n) (hW : (st.map fun v => v.category).sum ≤ 8) (d : decode cc pc = .ok (.invokevirtual index, 3)) (kk : G o.1 lv (pc + 3) (.int o.2 :: st)) : G σ lv pc (.int p0 :: .ref (a 0) :: st) := z_callV M [.int p0] (m_X12_readsClaim (zM_hD M) h) (hM0 σ) rfl hl u99 u1814 u1813 u74 hd_X12_readsClaim hR (by decide) rfl hW d kk
set_option maxHeartbeats 4000000 in
set_option maxRecDepth 100000 in
theorem wL_X12_story_37 {o : (Zst × Int32)} (M : zM l D zcl (zty cy) A ad (zR 8) (mW a cy ad) RX12 cX12_story 7 (some .int) o.1 (some (.int o.2)) G) {k93 : Zst → Int32 → Int32 → Option (Zst × Int32)}  (v1 : Int32) (Hk93 : ∀ (σ : Zst) (w2 : Int32) (w3 : Int32), k93 σ w2 w3 = some o → G σ [(0, .ref (a 0)), (1, .int v1), (2, .int w2), (3, .int w3)] 93 []) :
    ∀ (n37 : Nat) (σ : Zst) (v2 : Int32) (v3 : Int32) (v4 : Int32), L_X12_story_37 k93 v1 n37 σ v2 v3 v4 = some o → G σ [(0, .ref (a 0)), (1, .int v1), (2, .int v2), (3, .int v3), (4, .int v4)] 37 [] := by
  intro n37
  induction n37 with
  | zero => intro σ v2 v3 v4 h; exact nomatch (show (none : Option (Zst × Int32)) = some _ from h)
  | succ n37 ih =>
    intro σ v2 v3 v4 h
    refine z_iload M dt_X12_story_1.1.2.2.1 4 rfl ?_
    refine z_if_eq (tgt := 93) M dt_X12_story_1.1.2.2.2 (by decide) (fun hc => ?_) (fun hc => ?_)
    · have h := gIt hc h
      refine z_sub M [0, 1, 2, 3] (lv' := [(0, .ref (a 0)), (1, .int v1), (2, .int v2), (3, .int v3)]) rfl ?_
      exact Hk93 σ v2 v3 h
    · have h := gIf hc h
      refine z_aload_n M dt_X12_story_1.2.1.1.1 rfl 0 rfl ?_
      refine z_iload_n M dt_X12_story_1.2.1.1.2 rfl 2 rfl ?_
      obtain ⟨t1, hc, h⟩ := gBd h
      refine k_X12_readsClaim M hc u1811 (Nat.le_of_ble_eq_true rfl) (Nat.le_of_ble_eq_true rfl) dt_X12_story_1.2.1.2.1 ?_
      refine z_istore_n (lv' := [(3, .int t1.2), (0, .ref (a 0)), (1, .int v1), (2, .int v2), (4, .int v4)]) M dt_X12_story_1.2.1.2.2 rfl (by decide) rfl ?_
      refine z_iload_n M dt_X12_story_1.2.2.1.1 rfl 3 rfl ?_
      refine z_iload_n M dt_X12_story_1.2.2.1.2 rfl 0 rfl ?_
      refine k_X12_flag M u1675 (Nat.le_of_ble_eq_true rfl) (Nat.le_of_ble_eq_true rfl) dt_X12_story_1.2.2.2.1 ?_
      refine z_iadd M dt_X12_story_1.2.2.2.2 ?_
      refine z_istore_n (lv' := [(2, .int (v2 + (f_X12_flag t1.2))), (3, .int t1.2), (0, .ref (a 0)), (1, .int v1), (4, .int v4)]) M dt_X12_story_2.1.1.1.1 rfl (by decide) rfl ?_
      refine z_iload_n M dt_X12_story_2.1.1.1.2 rfl 1 rfl ?_
      refine z_if_eq (tgt := 73) M dt_X12_story_2.1.1.2.1 (by decide) (fun hc => ?_) (fun hc => ?_)
      · have h := gIt hc h
        refine z_iconst M dt_X12_story_2.2.1.1.2 ki_0 ?_
        refine z_istore (lv' := [(4, .int (0 : Int32)), (2, .int (v2 + (f_X12_flag t1.2))), (3, .int t1.2), (0, .ref (a 0)), (1, .int v1)]) M dt_X12_story_2.2.1.2.1 (by decide) rfl ?_
        refine z_aload_n M dt_X12_story_2.2.1.2.2 rfl 3 rfl ?_
        refine z_dup M dt_X12_story_2.2.2.1.1 rfl ?_
        refine gf_X12_place (σ := t1.1) M u1980 dt_X12_story_2.2.2.1.2 (v := (t1.1.1 6)) rfl ?_
        refine z_iload M dt_X12_story_2.2.2.2.1 0 rfl ?_
        refine k_X12_flag M u1675 (Nat.le_of_ble_eq_true rfl) (Nat.le_of_ble_eq_true rfl) dt_X12_story_2.2.2.2.2 ?_
        refine z_iadd M dt_X12_story_3.1.1.1.1 ?_
        refine pf_X12_place M u1980 dt_X12_story_3.1.1.1.2 ?_
        refine z_goto (tgt := 37) M dt_X12_story_3.1.1.2.1 (by decide) ?_
        refine z_sub M [3, 4, 1, 2, 0] (lv' := [(0, .ref (a 0)), (1, .int v1), (2, .int (v2 + (f_X12_flag t1.2))), (3, .int t1.2), (4, .int (0 : Int32))]) rfl ?_
        exact ih (zI t1.1 6 ((t1.1.1 6) + (f_X12_flag (0 : Int32)))) (v2 + (f_X12_flag t1.2)) t1.2 (0 : Int32) h
      · have h := gIf hc h
        refine z_aload_n M dt_X12_story_2.1.1.2.2 rfl 2 rfl ?_
        refine z_ldcwS (tx := ";") (i := 13) M (by decide +kernel) dt_X12_story_2.1.2.1.1 ?_
        obtain ⟨t2, hc, h⟩ := gBd h
        refine k_X12_among M hc u1605 (Nat.le_of_ble_eq_true rfl) (Nat.le_of_ble_eq_true rfl) dt_X12_story_2.1.2.1.2 ?_
        have hJ4 : G t1.1 [(2, .int (v2 + (f_X12_flag t1.2))), (3, .int t1.2), (0, .ref (a 0)), (1, .int v1), (4, .int v4)] 74 [.int (if t2 < (0 : Int32) then (0 : Int32) else (1 : Int32))] := by
          refine z_istore (lv' := [(4, .int (if t2 < (0 : Int32) then (0 : Int32) else (1 : Int32))), (2, .int (v2 + (f_X12_flag t1.2))), (3, .int t1.2), (0, .ref (a 0)), (1, .int v1)]) M dt_X12_story_2.2.1.2.1 (by decide) rfl ?_
          refine z_aload_n M dt_X12_story_2.2.1.2.2 rfl 3 rfl ?_
          refine z_dup M dt_X12_story_2.2.2.1.1 rfl ?_
          refine gf_X12_place (σ := t1.1) M u1980 dt_X12_story_2.2.2.1.2 (v := (t1.1.1 6)) rfl ?_
          refine z_iload M dt_X12_story_2.2.2.2.1 0 rfl ?_
          refine k_X12_flag M u1675 (Nat.le_of_ble_eq_true rfl) (Nat.le_of_ble_eq_true rfl) dt_X12_story_2.2.2.2.2 ?_
          refine z_iadd M dt_X12_story_3.1.1.1.1 ?_
          refine pf_X12_place M u1980 dt_X12_story_3.1.1.1.2 ?_
          refine z_goto (tgt := 37) M dt_X12_story_3.1.1.2.1 (by decide) ?_
          refine z_sub M [3, 4, 1, 2, 0] (lv' := [(0, .ref (a 0)), (1, .int v1), (2, .int (v2 + (f_X12_flag t1.2))), (3, .int t1.2), (4, .int (if t2 < (0 : Int32) then (0 : Int32) else (1 : Int32)))]) rfl ?_
          exact ih (zI t1.1 6 ((t1.1.1 6) + (f_X12_flag (if t2 < (0 : Int32) then (0 : Int32) else (1 : Int32))))) (v2 + (f_X12_flag t1.2)) t1.2 (if t2 < (0 : Int32) then (0 : Int32) else (1 : Int32)) h
        refine z_if_lt (tgt := 73) M dt_X12_story_2.1.2.2.1 (by decide) (fun hc3 => ?_) (fun hc3 => ?_)
        · refine z_iconst M dt_X12_story_2.2.1.1.2 ki_0 ?_
          exact (zTt hc3 hJ4)
        · refine z_iconst M dt_X12_story_2.1.2.2.2 ki_1 ?_
          refine z_goto (tgt := 74) M dt_X12_story_2.2.1.1.1 (by decide) ?_
          exact (zTf hc3 hJ4)
set_option maxHeartbeats 4000000 in
set_option maxRecDepth 100000 in
theorem wL_X12_story_122 {o : (Zst × Int32)} (M : zM l D zcl (zty cy) A ad (zR 8) (mW a cy ad) RX12 cX12_story 7 (some .int) o.1 (some (.int o.2)) G) {k200 : Zst → Option (Zst × Int32)}  (v2 : Int32) (Hk200 : ∀ (σ : Zst), k200 σ = some o → G σ [(0, .ref (a 0))] 200 []) :
    ∀ (n122 : Nat) (σ : Zst) (v6 : Int32), L_X12_story_122 k200 v2 n122 σ v6 = some o → G σ [(0, .ref (a 0)), (2, .int v2), (6, .int v6)] 122 [] := by
  intro n122
  induction n122 with
  | zero => intro σ v6 h; exact nomatch (show (none : Option (Zst × Int32)) = some _ from h)
  | succ n122 ih =>
    intro σ v6 h
    refine z_iload M dt_X12_story_4.1.2.1.1 2 rfl ?_
    refine z_iload_n M dt_X12_story_4.1.2.1.2 rfl 1 rfl ?_
    refine z_icmp_ge (tgt := 200) M dt_X12_story_4.1.2.2.1 (by decide) (fun hc => ?_) (fun hc => ?_)
    · have h := gIt hc h
      refine z_sub M [0] (lv' := [(0, .ref (a 0))]) rfl ?_
      exact Hk200 σ h
    · have h := gIf hc h
      refine z_aload_n M dt_X12_story_4.1.2.2.2 rfl 0 rfl ?_
      refine gf_X12_claimOne M u2000 dt_X12_story_4.2.1.1.1 ?_
      refine z_bipush M dt_X12_story_4.2.1.1.2 kb_12 ?_
      refine z_aload_n M dt_X12_story_4.2.1.2.1 rfl 0 rfl ?_
      refine gf_X12_stories (σ := σ) M u1998 dt_X12_story_4.2.1.2.2 (v := (σ.1 20)) rfl ?_
      refine z_imul M dt_X12_story_4.2.2.1.1 ?_
      refine z_iload M dt_X12_story_4.2.2.1.2 2 rfl ?_
      refine z_iadd M dt_X12_story_4.2.2.2.1 ?_
      refine z_aload_n M dt_X12_story_4.2.2.2.2 rfl 0 rfl ?_
      refine gf_X12_readOne M u2003 dt_X12_story_5.1.1.1.1 ?_
      refine z_iload M dt_X12_story_5.1.1.1.2 2 rfl ?_
      have ⟨hg, h⟩ := gIx_s h
      refine al_M22 (σ := σ) M (f := (σ.2.1 18)) rfl hg dt_X12_story_5.1.1.2.1 ?_
      have ⟨hg, h⟩ := gIx_s h
      refine as_M19 (σ := σ) M (f := (σ.2.1 15)) rfl hg dt_X12_story_5.1.1.2.2 ?_
      refine z_aload_n M dt_X12_story_5.1.2.1.1 rfl 0 rfl ?_
      refine gf_X12_claimAct M u2001 dt_X12_story_5.1.2.1.2 ?_
      refine z_bipush M dt_X12_story_5.1.2.2.1 kb_12 ?_
      refine z_aload_n M dt_X12_story_5.1.2.2.2 rfl 0 rfl ?_
      refine gf_X12_stories (σ := (zA σ 15 (upd (σ.2.1 15) (Int32.toNatClampNeg (((12 : Int32) * (σ.1 20)) + v6)) ((σ.2.1 18) (Int32.toNatClampNeg v6))))) M u1998 dt_X12_story_5.2.1.1.1 (v := (σ.1 20)) rfl ?_
      refine z_imul M dt_X12_story_5.2.1.1.2 ?_
      refine z_iload M dt_X12_story_5.2.1.2.1 2 rfl ?_
      refine z_iadd M dt_X12_story_5.2.1.2.2 ?_
      refine z_aload_n M dt_X12_story_5.2.2.1.1 rfl 0 rfl ?_
      refine gf_X12_readAct M u2004 dt_X12_story_5.2.2.1.2 ?_
      refine z_iload M dt_X12_story_5.2.2.2.1 2 rfl ?_
      have ⟨hg, h⟩ := gIx_s h
      refine al_M23 (σ := (zA σ 15 (upd (σ.2.1 15) (Int32.toNatClampNeg (((12 : Int32) * (σ.1 20)) + v6)) ((σ.2.1 18) (Int32.toNatClampNeg v6))))) M (f := (σ.2.1 19)) rfl hg dt_X12_story_5.2.2.2.2 ?_
      have ⟨hg, h⟩ := gIx_s h
      refine as_M20 (σ := (zA σ 15 (upd (σ.2.1 15) (Int32.toNatClampNeg (((12 : Int32) * (σ.1 20)) + v6)) ((σ.2.1 18) (Int32.toNatClampNeg v6))))) M (f := (σ.2.1 16)) rfl hg dt_X12_story_6.1.1.1.1 ?_
      refine z_aload_n M dt_X12_story_6.1.1.1.2 rfl 0 rfl ?_
      refine gf_X12_claimOther M u2002 dt_X12_story_6.1.1.2.1 ?_
      refine z_bipush M dt_X12_story_6.1.1.2.2 kb_12 ?_
      refine z_aload_n M dt_X12_story_6.1.2.1.1 rfl 0 rfl ?_
      refine gf_X12_stories (σ := (zA (zA σ 15 (upd (σ.2.1 15) (Int32.toNatClampNeg (((12 : Int32) * (σ.1 20)) + v6)) ((σ.2.1 18) (Int32.toNatClampNeg v6)))) 16 (upd (σ.2.1 16) (Int32.toNatClampNeg (((12 : Int32) * (σ.1 20)) + v6)) ((σ.2.1 19) (Int32.toNatClampNeg v6))))) M u1998 dt_X12_story_6.1.2.1.2 (v := (σ.1 20)) rfl ?_
      refine z_imul M dt_X12_story_6.1.2.2.1 ?_
      refine z_iload M dt_X12_story_6.1.2.2.2 2 rfl ?_
      refine z_iadd M dt_X12_story_6.2.1.1.1 ?_
      refine z_aload_n M dt_X12_story_6.2.1.1.2 rfl 0 rfl ?_
      refine gf_X12_readOther M u2005 dt_X12_story_6.2.1.2.1 ?_
      refine z_iload M dt_X12_story_6.2.1.2.2 2 rfl ?_
      have ⟨hg, h⟩ := gIx_s h
      refine al_M24 (σ := (zA (zA σ 15 (upd (σ.2.1 15) (Int32.toNatClampNeg (((12 : Int32) * (σ.1 20)) + v6)) ((σ.2.1 18) (Int32.toNatClampNeg v6)))) 16 (upd (σ.2.1 16) (Int32.toNatClampNeg (((12 : Int32) * (σ.1 20)) + v6)) ((σ.2.1 19) (Int32.toNatClampNeg v6))))) M (f := (σ.2.1 20)) rfl hg dt_X12_story_6.2.2.1.1 ?_
      have ⟨hg, h⟩ := gIx_s h
      refine as_M21 (σ := (zA (zA σ 15 (upd (σ.2.1 15) (Int32.toNatClampNeg (((12 : Int32) * (σ.1 20)) + v6)) ((σ.2.1 18) (Int32.toNatClampNeg v6)))) 16 (upd (σ.2.1 16) (Int32.toNatClampNeg (((12 : Int32) * (σ.1 20)) + v6)) ((σ.2.1 19) (Int32.toNatClampNeg v6))))) M (f := (σ.2.1 17)) rfl hg dt_X12_story_6.2.2.1.2 ?_
      refine z_iinc (v := (v6 + (1 : Int32))) (lv' := [(6, .int (v6 + (1 : Int32))), (0, .ref (a 0)), (2, .int v2)]) M dt_X12_story_6.2.2.2.1 (k := 2) rfl (congrArg (fun q => v6 + q) ki_1) (by decide) rfl ?_
      refine z_goto (tgt := 122) M dt_X12_story_6.2.2.2.2 (by decide) ?_
      refine z_sub M [1, 2, 0] (lv' := [(0, .ref (a 0)), (2, .int v2), (6, .int (v6 + (1 : Int32)))]) rfl ?_
      exact ih (zA (zA (zA σ 15 (upd (σ.2.1 15) (Int32.toNatClampNeg (((12 : Int32) * (σ.1 20)) + v6)) ((σ.2.1 18) (Int32.toNatClampNeg v6)))) 16 (upd (σ.2.1 16) (Int32.toNatClampNeg (((12 : Int32) * (σ.1 20)) + v6)) ((σ.2.1 19) (Int32.toNatClampNeg v6)))) 17 (upd (σ.2.1 17) (Int32.toNatClampNeg (((12 : Int32) * (σ.1 20)) + v6)) ((σ.2.1 20) (Int32.toNatClampNeg v6)))) (v6 + (1 : Int32)) h
set_option maxHeartbeats 4000000 in
set_option maxRecDepth 100000 in
theorem wJ_X12_story_200 {o : (Zst × Int32)} (M : zM l D zcl (zty cy) A ad (zR 8) (mW a cy ad) RX12 cX12_story 7 (some .int) o.1 (some (.int o.2)) G) (σ : Zst)   (h : J_X12_story_200 σ = some o) : G σ [(0, .ref (a 0))] 200 [] := by
  refine z_aload_n M dt_X12_story_7.1.1.1.1 rfl 0 rfl ?_
  refine z_dup M dt_X12_story_7.1.1.1.2 rfl ?_
  refine gf_X12_stories (σ := σ) M u1998 dt_X12_story_7.1.1.2 (v := (σ.1 20)) rfl ?_
  refine z_iconst M dt_X12_story_7.1.2.1.1 ki_1 ?_
  refine z_iadd M dt_X12_story_7.1.2.1.2 ?_
  refine pf_X12_stories M u1998 dt_X12_story_7.1.2.2 ?_
  refine z_aload_n M dt_X12_story_7.2.1.1.1 rfl 0 rfl ?_
  refine gf_X12_stories (σ := (zI σ 20 ((σ.1 20) + (1 : Int32)))) M u1998 dt_X12_story_7.2.1.1.2 (v := ((σ.1 20) + (1 : Int32))) rfl ?_
  refine z_iconst M dt_X12_story_7.2.1.2 ki_1 ?_
  refine z_isub M dt_X12_story_7.2.2.1 ?_
  obtain rfl := Option.some.inj h
  exact z_iret M dt_X12_story_7.2.2.2
set_option maxHeartbeats 4000000 in
set_option maxRecDepth 100000 in
theorem wJ_X12_story_93 {o : (Zst × Int32)} (M : zM l D zcl (zty cy) A ad (zR 8) (mW a cy ad) RX12 cX12_story 7 (some .int) o.1 (some (.int o.2)) G) (σ : Zst) (v1 : Int32) (v2 : Int32) (v3 : Int32)  (h : J_X12_story_93 σ v1 v2 v3 = some o) : G σ [(0, .ref (a 0)), (1, .int v1), (2, .int v2), (3, .int v3)] 93 [] := by
  refine z_aload_n M dt_X12_story_3.1.1.2.2 rfl 0 rfl ?_
  refine z_iload_n M dt_X12_story_3.1.2.1.1 rfl 1 rfl ?_
  refine z_iload_n M dt_X12_story_3.1.2.1.2 rfl 3 rfl ?_
  refine k_X12_fault M u1651 (Nat.le_of_ble_eq_true rfl) (Nat.le_of_ble_eq_true rfl) dt_X12_story_3.1.2.2.1 ?_
  refine z_istore (lv' := [(5, .int (f_X12_fault σ v1 v3)), (0, .ref (a 0)), (1, .int v1), (2, .int v2), (3, .int v3)]) M dt_X12_story_3.1.2.2.2 (by decide) rfl ?_
  refine z_iload M dt_X12_story_3.2.1.1.1 0 rfl ?_
  refine z_if_ge (tgt := 109) M dt_X12_story_3.2.1.1.2 (by decide) (fun hc => ?_) (fun hc => ?_)
  · have h := gIt hc h
    refine z_aload_n M dt_X12_story_3.2.2.1.1 rfl 1 rfl ?_
    refine gf_X12_claims M u1999 dt_X12_story_3.2.2.1.2 ?_
    refine z_aload_n M dt_X12_story_3.2.2.2.1 rfl 1 rfl ?_
    refine gf_X12_stories (σ := σ) M u1998 dt_X12_story_3.2.2.2.2 (v := (σ.1 20)) rfl ?_
    refine z_iload_n M dt_X12_story_4.1.1.1.1 rfl 3 rfl ?_
    have ⟨hg, h⟩ := gIx_s h
    refine as_M18 (σ := σ) M (f := (σ.2.1 14)) rfl hg dt_X12_story_4.1.1.1.2 ?_
    refine z_iconst M dt_X12_story_4.1.1.2.1 ki_0 ?_
    refine z_istore (lv' := [(6, .int (0 : Int32)), (5, .int (f_X12_fault σ v1 v3)), (0, .ref (a 0)), (1, .int v1), (2, .int v2), (3, .int v3)]) M dt_X12_story_4.1.1.2.2 (by decide) rfl ?_
    refine z_sub M [2, 4, 0] (lv' := [(0, .ref (a 0)), (2, .int v2), (6, .int (0 : Int32))]) rfl ?_
    exact wL_X12_story_122 M (k200 := (fun σ5 => J_X12_story_200 σ5)) v2 (fun σ5 h => by
        exact wJ_X12_story_200 M  σ5 h) zFu (zA σ 14 (upd (σ.2.1 14) (Int32.toNatClampNeg (σ.1 20)) v2)) (0 : Int32) h
  · have h := gIf hc h
    refine z_iload M dt_X12_story_3.2.1.2.1 0 rfl ?_
    obtain rfl := Option.some.inj h
    exact z_iret M dt_X12_story_3.2.1.2.2
set_option maxHeartbeats 4000000 in
set_option maxRecDepth 100000 in
theorem m_X12_story (hD : ∀ σ, va_D A (mW a cy ad σ)) {σ : Zst}  {o : (Zst × Int32)} (h : f_X12_story σ = some o) : zT l D zcl (zty cy) A ad (mW a cy ad) yX12_story cX12_story 7 (some .int) 8 [.ref (a 0)] σ o.1 (some (.int o.2)) := by
  refine z_met pn_X12 hD (Nat.le_of_ble_eq_true rfl) rfl (fun G M => ?_)
  refine z_aload_n M dt_X12_story_0.1.1.1.1 rfl 0 rfl ?_
  refine z_iconst M dt_X12_story_0.1.1.1.2 ki_0 ?_
  refine pf_X12_thrown M u1960 dt_X12_story_0.1.1.2.1 ?_
  refine z_aload_n M dt_X12_story_0.1.1.2.2 rfl 0 rfl ?_
  obtain ⟨t6, hc, h⟩ := gBd h
  refine k_X12_begins M hc u1589 (Nat.le_of_ble_eq_true rfl) (Nat.le_of_ble_eq_true rfl) dt_X12_story_0.1.2.1.1 ?_
  refine z_istore_n (lv' := [(1, .int t6.2), (0, .ref (a 0))]) M dt_X12_story_0.1.2.1.2 rfl (by decide) rfl ?_
  refine z_aload_n M dt_X12_story_0.1.2.2.1 rfl 1 rfl ?_
  refine gf_X12_stories (σ := t6.1) M u1998 dt_X12_story_0.1.2.2.2 (v := (t6.1.1 20)) rfl ?_
  refine z_bipush M dt_X12_story_0.2.1.1.1 kb_6 ?_
  refine z_icmp_ne (tgt := 22) M dt_X12_story_0.2.1.1.2 (by decide) (fun hc => ?_) (fun hc => ?_)
  · have h := gIf hc h
    refine z_iconst M dt_X12_story_0.2.2.1.1 ki_0 ?_
    refine z_istore_n (lv' := [(2, .int (0 : Int32)), (1, .int t6.2), (0, .ref (a 0))]) M dt_X12_story_0.2.2.1.2 rfl (by decide) rfl ?_
    refine z_iconst M dt_X12_story_0.2.2.2.1 ki_1 ?_
    refine z_istore_n (lv' := [(3, .int (1 : Int32)), (2, .int (0 : Int32)), (1, .int t6.2), (0, .ref (a 0))]) M dt_X12_story_0.2.2.2.2 rfl (by decide) rfl ?_
    refine z_iload_n M dt_X12_story_1.1.1.1.1 rfl 2 rfl ?_
    have hJ8 : G t6.1 [(3, .int (1 : Int32)), (2, .int (0 : Int32)), (1, .int t6.2), (0, .ref (a 0))] 35 [.int (if t6.2 ≤ (0 : Int32) then (0 : Int32) else (1 : Int32))] := by
      refine z_istore (lv' := [(4, .int (if t6.2 ≤ (0 : Int32) then (0 : Int32) else (1 : Int32))), (3, .int (1 : Int32)), (2, .int (0 : Int32)), (1, .int t6.2), (0, .ref (a 0))]) M dt_X12_story_1.1.2.1.2 (by decide) rfl ?_
      refine z_sub M [4, 3, 2, 1, 0] (lv' := [(0, .ref (a 0)), (1, .int t6.2), (2, .int (0 : Int32)), (3, .int (1 : Int32)), (4, .int (if t6.2 ≤ (0 : Int32) then (0 : Int32) else (1 : Int32)))]) rfl ?_
      exact wL_X12_story_37 M (k93 := (fun σ11 w9 w10 => J_X12_story_93 σ11 t6.2 w9 w10)) t6.2 (fun σ11 w9 w10 h => by
          exact wJ_X12_story_93 M  σ11 t6.2 w9 w10 h) zFu t6.1 (0 : Int32) (1 : Int32) (if t6.2 ≤ (0 : Int32) then (0 : Int32) else (1 : Int32)) h
    refine z_if_le (tgt := 34) M dt_X12_story_1.1.1.1.2 (by decide) (fun hc7 => ?_) (fun hc7 => ?_)
    · refine z_iconst M dt_X12_story_1.1.2.1.1 ki_0 ?_
      exact (zTt hc7 hJ8)
    · refine z_iconst M dt_X12_story_1.1.1.2.1 ki_1 ?_
      refine z_goto (tgt := 35) M dt_X12_story_1.1.1.2.2 (by decide) ?_
      exact (zTf hc7 hJ8)
  · have h := gIt hc h
    refine z_bipush M dt_X12_story_0.2.1.2.1 kb_m100 ?_
    obtain rfl := Option.some.inj h
    exact z_iret M dt_X12_story_0.2.1.2.2
set_option maxHeartbeats 4000000 in
set_option maxRecDepth 100000 in
theorem wL_X12_means_35 {o : Zst} (M : zM l D zcl (zty cy) A ad (zR 4) (mW a cy ad) RX12 cX12_means 7 none o none G) {k86 : Zst → Option Zst}  (v1 : Int32) (v2 : Int32) (Hk86 : ∀ (σ : Zst), k86 σ = some o → G σ [(0, .ref (a 0)), (1, .int v1)] 86 []) :
    ∀ (n35 : Nat) (σ : Zst) (v3 : Int32), L_X12_means_35 k86 v1 v2 n35 σ v3 = some o → G σ [(0, .ref (a 0)), (1, .int v1), (2, .int v2), (3, .int v3)] 35 [] := by
  intro n35
  induction n35 with
  | zero => intro σ v3 h; exact nomatch (show (none : Option Zst) = some _ from h)
  | succ n35 ih =>
    intro σ v3 h
    refine z_iload_n M dt_X12_means_1.1.2.2.2 rfl 3 rfl ?_
    refine z_iconst M dt_X12_means_1.2.1.1.1 ki_2 ?_
    refine z_icmp_ge (tgt := 86) M dt_X12_means_1.2.1.1.2 (by decide) (fun hc => ?_) (fun hc => ?_)
    · have h := gIt hc h
      refine z_sub M [0, 1] (lv' := [(0, .ref (a 0)), (1, .int v1)]) rfl ?_
      exact Hk86 σ h
    · have h := gIf hc h
      refine z_aload_n M dt_X12_means_1.2.1.2.1 rfl 0 rfl ?_
      refine gf_X12_signUp M u2006 dt_X12_means_1.2.1.2.2 ?_
      refine z_iconst M dt_X12_means_1.2.2.1.1 ki_5 ?_
      refine z_iload_n M dt_X12_means_1.2.2.1.2 rfl 3 rfl ?_
      refine z_imul M dt_X12_means_1.2.2.2.1 ?_
      refine z_aload_n M dt_X12_means_1.2.2.2.2 rfl 0 rfl ?_
      refine gf_X12_wasted M u1996 dt_X12_means_2.1.1.1.1 ?_
      refine z_iconst M dt_X12_means_2.1.1.1.2 ki_1 ?_
      refine z_iload_n M dt_X12_means_2.1.1.2.1 rfl 3 rfl ?_
      refine z_isub M dt_X12_means_2.1.1.2.2 ?_
      have ⟨hg, h⟩ := gIx_s h
      refine al_M16 (σ := σ) M (f := (σ.2.2.1 1)) rfl hg dt_X12_means_2.1.2.1.1 ?_
      have ⟨hg, h⟩ := gIx_s h
      refine as_M25 (σ := σ) M (f := (σ.2.2.1 3)) rfl hg dt_X12_means_2.1.2.1.2 ?_
      refine z_aload_n M dt_X12_means_2.1.2.2.1 rfl 0 rfl ?_
      refine gf_X12_signLow M u2007 dt_X12_means_2.1.2.2.2 ?_
      refine z_iconst M dt_X12_means_2.2.1.1.1 ki_5 ?_
      refine z_iload_n M dt_X12_means_2.2.1.1.2 rfl 3 rfl ?_
      refine z_imul M dt_X12_means_2.2.1.2.1 ?_
      refine z_iload_n M dt_X12_means_2.2.1.2.2 rfl 2 rfl ?_
      refine z_if_eq (tgt := 78) M dt_X12_means_2.2.2.1.1 (by decide) (fun hc => ?_) (fun hc => ?_)
      · have h := gIt hc h
        refine z_lconst (v := 0) M dt_X12_means_3.1.2.1.1 (by decide) ?_
        have ⟨hg, h⟩ := gIx_s h
        refine as_M26 (σ := (zL σ 3 (vp_updL (σ.2.2.1 3) (Int32.toNatClampNeg ((5 : Int32) * v3)) ((σ.2.2.1 1) (Int32.toNatClampNeg ((1 : Int32) - v3)))))) M (f := (σ.2.2.1 4)) rfl hg dt_X12_means_3.1.2.1.2 ?_
        refine z_iinc (v := (v3 + (1 : Int32))) (lv' := [(3, .int (v3 + (1 : Int32))), (0, .ref (a 0)), (1, .int v1), (2, .int v2)]) M dt_X12_means_3.1.2.2.1 (k := 3) rfl (congrArg (fun q => v3 + q) ki_1) (by decide) rfl ?_
        refine z_goto (tgt := 35) M dt_X12_means_3.1.2.2.2 (by decide) ?_
        refine z_sub M [1, 2, 3, 0] (lv' := [(0, .ref (a 0)), (1, .int v1), (2, .int v2), (3, .int (v3 + (1 : Int32)))]) rfl ?_
        exact ih (zL (zL σ 3 (vp_updL (σ.2.2.1 3) (Int32.toNatClampNeg ((5 : Int32) * v3)) ((σ.2.2.1 1) (Int32.toNatClampNeg ((1 : Int32) - v3))))) 4 (vp_updL (σ.2.2.1 4) (Int32.toNatClampNeg ((5 : Int32) * v3)) (0 : Int64))) (v3 + (1 : Int32)) h
      · have h := gIf hc h
        refine z_aload_n M dt_X12_means_2.2.2.1.2 rfl 0 rfl ?_
        refine gf_X12_sold M u1997 dt_X12_means_2.2.2.2.1 ?_
        refine z_iconst M dt_X12_means_2.2.2.2.2 ki_1 ?_
        refine z_iload_n M dt_X12_means_3.1.1.1.1 rfl 3 rfl ?_
        refine z_isub M dt_X12_means_3.1.1.1.2 ?_
        have ⟨hg, h⟩ := gIx_s h
        refine al_M17 (σ := (zL σ 3 (vp_updL (σ.2.2.1 3) (Int32.toNatClampNeg ((5 : Int32) * v3)) ((σ.2.2.1 1) (Int32.toNatClampNeg ((1 : Int32) - v3)))))) M (f := (σ.2.2.1 2)) rfl hg dt_X12_means_3.1.1.2.1 ?_
        refine z_goto (tgt := 79) M dt_X12_means_3.1.1.2.2 (by decide) ?_
        have ⟨hg, h⟩ := gIx_s h
        refine as_M26 (σ := (zL σ 3 (vp_updL (σ.2.2.1 3) (Int32.toNatClampNeg ((5 : Int32) * v3)) ((σ.2.2.1 1) (Int32.toNatClampNeg ((1 : Int32) - v3)))))) M (f := (σ.2.2.1 4)) rfl hg dt_X12_means_3.1.2.1.2 ?_
        refine z_iinc (v := (v3 + (1 : Int32))) (lv' := [(3, .int (v3 + (1 : Int32))), (0, .ref (a 0)), (1, .int v1), (2, .int v2)]) M dt_X12_means_3.1.2.2.1 (k := 3) rfl (congrArg (fun q => v3 + q) ki_1) (by decide) rfl ?_
        refine z_goto (tgt := 35) M dt_X12_means_3.1.2.2.2 (by decide) ?_
        refine z_sub M [1, 2, 3, 0] (lv' := [(0, .ref (a 0)), (1, .int v1), (2, .int v2), (3, .int (v3 + (1 : Int32)))]) rfl ?_
        exact ih (zL (zL σ 3 (vp_updL (σ.2.2.1 3) (Int32.toNatClampNeg ((5 : Int32) * v3)) ((σ.2.2.1 1) (Int32.toNatClampNeg ((1 : Int32) - v3))))) 4 (vp_updL (σ.2.2.1 4) (Int32.toNatClampNeg ((5 : Int32) * v3)) ((σ.2.2.1 2) (Int32.toNatClampNeg ((1 : Int32) - v3))))) (v3 + (1 : Int32)) h
set_option maxHeartbeats 4000000 in
set_option maxRecDepth 100000 in
theorem wL_X12_means_126 {o : Zst} (M : zM l D zcl (zty cy) A ad (zR 4) (mW a cy ad) RX12 cX12_means 7 none o none G) {k162 : Zst → Option Zst}  (v1 : Int32) (v3 : Int32) (v4 : Int32) (Hk162 : ∀ (σ : Zst), k162 σ = some o → G σ [(0, .ref (a 0)), (1, .int v1), (3, .int v3), (4, .int v4)] 162 []) :
    ∀ (n126 : Nat) (σ : Zst) (v5 : Int32), L_X12_means_126 k162 v1 v3 v4 n126 σ v5 = some o → G σ [(0, .ref (a 0)), (1, .int v1), (3, .int v3), (4, .int v4), (5, .int v5)] 126 [] := by
  intro n126
  induction n126 with
  | zero => intro σ v5 h; exact nomatch (show (none : Option Zst) = some _ from h)
  | succ n126 ih =>
    intro σ v5 h
    refine z_iload M dt_X12_means_5.1.1.1.1 4 rfl ?_
    refine z_iconst M dt_X12_means_5.1.1.1.2 ki_2 ?_
    refine z_icmp_ge (tgt := 162) M dt_X12_means_5.1.1.2.1 (by decide) (fun hc => ?_) (fun hc => ?_)
    · have h := gIt hc h
      refine z_sub M [0, 1, 2, 3] (lv' := [(0, .ref (a 0)), (1, .int v1), (3, .int v3), (4, .int v4)]) rfl ?_
      exact Hk162 σ h
    · have h := gIf hc h
      refine z_aload_n M dt_X12_means_5.1.1.2.2 rfl 0 rfl ?_
      refine gf_X12_signUp M u2006 dt_X12_means_5.1.2.1.1 ?_
      refine z_iconst M dt_X12_means_5.1.2.1.2 ki_5 ?_
      refine z_iload M dt_X12_means_5.1.2.2.1 4 rfl ?_
      refine z_imul M dt_X12_means_5.1.2.2.2 ?_
      refine z_iload_n M dt_X12_means_5.2.1.1.1 rfl 2 rfl ?_
      refine z_iadd M dt_X12_means_5.2.1.1.2 ?_
      refine z_lconst (v := 0) M dt_X12_means_5.2.1.2.1 (by decide) ?_
      have ⟨hg, h⟩ := gIx_s h
      refine as_M25 (σ := σ) M (f := (σ.2.2.1 3)) rfl hg dt_X12_means_5.2.1.2.2 ?_
      refine z_aload_n M dt_X12_means_5.2.2.1.1 rfl 0 rfl ?_
      refine gf_X12_signLow M u2007 dt_X12_means_5.2.2.1.2 ?_
      refine z_iconst M dt_X12_means_5.2.2.2.1 ki_5 ?_
      refine z_iload M dt_X12_means_5.2.2.2.2 4 rfl ?_
      refine z_imul M dt_X12_means_6.1.1.1.1 ?_
      refine z_iload_n M dt_X12_means_6.1.1.1.2 rfl 2 rfl ?_
      refine z_iadd M dt_X12_means_6.1.1.2.1 ?_
      refine z_lconst (v := 0) M dt_X12_means_6.1.1.2.2 (by decide) ?_
      have ⟨hg, h⟩ := gIx_s h
      refine as_M26 (σ := (zL σ 3 (vp_updL (σ.2.2.1 3) (Int32.toNatClampNeg (((5 : Int32) * v5) + v3)) (0 : Int64)))) M (f := (σ.2.2.1 4)) rfl hg dt_X12_means_6.1.2.1.1 ?_
      refine z_iinc (v := (v5 + (1 : Int32))) (lv' := [(5, .int (v5 + (1 : Int32))), (0, .ref (a 0)), (1, .int v1), (3, .int v3), (4, .int v4)]) M dt_X12_means_6.1.2.1.2 (k := 4) rfl (congrArg (fun q => v5 + q) ki_1) (by decide) rfl ?_
      refine z_goto (tgt := 126) M dt_X12_means_6.1.2.2.1 (by decide) ?_
      refine z_sub M [1, 2, 3, 4, 0] (lv' := [(0, .ref (a 0)), (1, .int v1), (3, .int v3), (4, .int v4), (5, .int (v5 + (1 : Int32)))]) rfl ?_
      exact ih (zL (zL σ 3 (vp_updL (σ.2.2.1 3) (Int32.toNatClampNeg (((5 : Int32) * v5) + v3)) (0 : Int64))) 4 (vp_updL (σ.2.2.1 4) (Int32.toNatClampNeg (((5 : Int32) * v5) + v3)) (0 : Int64))) (v5 + (1 : Int32)) h
set_option maxHeartbeats 4000000 in
set_option maxRecDepth 100000 in
theorem wL_X12_means_165 {o : Zst} (M : zM l D zcl (zty cy) A ad (zR 4) (mW a cy ad) RX12 cX12_means 7 none o none G) {k262 : Zst → Option Zst}  (v1 : Int32) (v3 : Int32) (v4 : Int32) (Hk262 : ∀ (σ : Zst), k262 σ = some o → G σ [(0, .ref (a 0)), (1, .int v1), (3, .int v3)] 262 []) :
    ∀ (n165 : Nat) (σ : Zst) (v5 : Int32), L_X12_means_165 k262 v1 v3 v4 n165 σ v5 = some o → G σ [(0, .ref (a 0)), (1, .int v1), (3, .int v3), (4, .int v4), (5, .int v5)] 165 [] := by
  intro n165
  induction n165 with
  | zero => intro σ v5 h; exact nomatch (show (none : Option Zst) = some _ from h)
  | succ n165 ih =>
    intro σ v5 h
    refine z_iload M dt_X12_means_6.2.1.1.2 4 rfl ?_
    refine z_bipush M dt_X12_means_6.2.1.2.1 kb_12 ?_
    refine z_aload_n M dt_X12_means_6.2.1.2.2 rfl 0 rfl ?_
    refine gf_X12_streets (σ := σ) M u1970 dt_X12_means_6.2.2.1.1 (v := (σ.1 3)) rfl ?_
    refine z_imul M dt_X12_means_6.2.2.1.2 ?_
    refine z_icmp_ge (tgt := 262) M dt_X12_means_6.2.2.2.1 (by decide) (fun hc => ?_) (fun hc => ?_)
    · have h := gIt hc h
      refine z_sub M [0, 1, 2] (lv' := [(0, .ref (a 0)), (1, .int v1), (3, .int v3)]) rfl ?_
      exact Hk262 σ h
    · have h := gIf hc h
      refine z_aload_n M dt_X12_means_6.2.2.2.2 rfl 0 rfl ?_
      refine z_iload M dt_X12_means_7.1.1.1.1 3 rfl ?_
      refine z_iload M dt_X12_means_7.1.1.1.2 4 rfl ?_
      refine z_iload_n M dt_X12_means_7.1.1.2.1 rfl 1 rfl ?_
      obtain ⟨t1, hc, h⟩ := gBd h
      refine k_X12_isTold M hc u1704 (Nat.le_of_ble_eq_true rfl) (Nat.le_of_ble_eq_true rfl) dt_X12_means_7.1.1.2.2 ?_
      refine z_if_eq (tgt := 256) M dt_X12_means_7.1.2.1.1 (by decide) (fun hc => ?_) (fun hc => ?_)
      · have h := gIt hc h
        refine z_iinc (v := (v5 + (1 : Int32))) (lv' := [(5, .int (v5 + (1 : Int32))), (0, .ref (a 0)), (1, .int v1), (3, .int v3), (4, .int v4)]) M dt_X12_means_10.1.2.1 (k := 4) rfl (congrArg (fun q => v5 + q) ki_1) (by decide) rfl ?_
        refine z_goto (tgt := 165) M dt_X12_means_10.1.2.2 (by decide) ?_
        refine z_sub M [1, 2, 3, 4, 0] (lv' := [(0, .ref (a 0)), (1, .int v1), (3, .int v3), (4, .int v4), (5, .int (v5 + (1 : Int32)))]) rfl ?_
        exact ih σ (v5 + (1 : Int32)) h
      · have h := gIf hc h
        refine z_aload_n M dt_X12_means_7.1.2.1.2 rfl 0 rfl ?_
        refine gf_X12_isLack M u1972 dt_X12_means_7.1.2.2.1 ?_
        refine z_bipush M dt_X12_means_7.1.2.2.2 kb_12 ?_
        refine z_iload_n M dt_X12_means_7.2.1.1.1 rfl 1 rfl ?_
        refine z_imul M dt_X12_means_7.2.1.1.2 ?_
        refine z_iload M dt_X12_means_7.2.1.2.1 4 rfl ?_
        refine z_bipush M dt_X12_means_7.2.1.2.2 kb_12 ?_
        refine z_irem M dt_X12_means_7.2.2.1.1 (by decide) ?_
        refine z_iadd M dt_X12_means_7.2.2.1.2 ?_
        have ⟨hg, h⟩ := gIx_s h
        refine al_M9 (σ := σ) M (f := (σ.2.1 7)) rfl hg dt_X12_means_7.2.2.2.1 ?_
        have hJ3 : G σ [(0, .ref (a 0)), (1, .int v1), (3, .int v3), (4, .int v4), (5, .int v5)] 212 [.int (if ((σ.2.1 7) (Int32.toNatClampNeg (((12 : Int32) * v1) + (jRem v5 (12 : Int32))))) = (0 : Int32) then (1 : Int32) else (0 : Int32))] := by
          refine k_X12_flag M u1675 (Nat.le_of_ble_eq_true rfl) (Nat.le_of_ble_eq_true rfl) dt_X12_means_8.1.1.2.2 ?_
          refine z_istore (lv' := [(6, .int (f_X12_flag (if ((σ.2.1 7) (Int32.toNatClampNeg (((12 : Int32) * v1) + (jRem v5 (12 : Int32))))) = (0 : Int32) then (1 : Int32) else (0 : Int32)))), (0, .ref (a 0)), (1, .int v1), (3, .int v3), (4, .int v4), (5, .int v5)]) M dt_X12_means_8.1.2.1.1 (by decide) rfl ?_
          refine z_aload_n M dt_X12_means_8.1.2.1.2 rfl 1 rfl ?_
          refine gf_X12_signUp M u2006 dt_X12_means_8.1.2.2.1 ?_
          refine z_iconst M dt_X12_means_8.1.2.2.2 ki_5 ?_
          refine z_iload M dt_X12_means_8.2.1.1.1 0 rfl ?_
          refine z_imul M dt_X12_means_8.2.1.1.2 ?_
          refine z_iload_n M dt_X12_means_8.2.1.2.1 rfl 3 rfl ?_
          refine z_iadd M dt_X12_means_8.2.1.2.2 ?_
          refine z_dup2_11 M dt_X12_means_8.2.2.1.1 rfl rfl ?_
          have ⟨hg, h⟩ := gIx_s h
          refine al_M25 (σ := σ) M (f := (σ.2.2.1 3)) rfl hg dt_X12_means_8.2.2.1.2 ?_
          refine z_aload_n M dt_X12_means_8.2.2.2.1 rfl 1 rfl ?_
          refine z_iload M dt_X12_means_8.2.2.2.2 4 rfl ?_
          refine z_iload M dt_X12_means_9.1.1.1.1 5 rfl ?_
          refine z_iload_n M dt_X12_means_9.1.1.1.2 rfl 2 rfl ?_
          obtain ⟨t4, hc, h⟩ := gBd h
          refine k_X12_at M hc u1556 (Nat.le_of_ble_eq_true rfl) (Nat.le_of_ble_eq_true rfl) dt_X12_means_9.1.1.2.1 ?_
          refine z_i2l M dt_X12_means_9.1.1.2.2 ?_
          refine z_ladd M dt_X12_means_9.1.2.1.1 ?_
          have ⟨hg, h⟩ := gIx_s h
          refine as_M25 (σ := σ) M (f := (σ.2.2.1 3)) rfl hg dt_X12_means_9.1.2.1.2 ?_
          refine z_aload_n M dt_X12_means_9.1.2.2.1 rfl 1 rfl ?_
          refine gf_X12_signLow M u2007 dt_X12_means_9.1.2.2.2 ?_
          refine z_iconst M dt_X12_means_9.2.1.1.1 ki_5 ?_
          refine z_iload M dt_X12_means_9.2.1.1.2 0 rfl ?_
          refine z_imul M dt_X12_means_9.2.1.2.1 ?_
          refine z_iload_n M dt_X12_means_9.2.1.2.2 rfl 3 rfl ?_
          refine z_iadd M dt_X12_means_9.2.2.1.1 ?_
          refine z_dup2_11 M dt_X12_means_9.2.2.1.2 rfl rfl ?_
          have ⟨hg, h⟩ := gIx_s h
          refine al_M26 (σ := (zL σ 3 (vp_updL (σ.2.2.1 3) (Int32.toNatClampNeg (((5 : Int32) * (f_X12_flag (if ((σ.2.1 7) (Int32.toNatClampNeg (((12 : Int32) * v1) + (jRem v5 (12 : Int32))))) = (0 : Int32) then (1 : Int32) else (0 : Int32)))) + v3)) (((σ.2.2.1 3) (Int32.toNatClampNeg (((5 : Int32) * (f_X12_flag (if ((σ.2.1 7) (Int32.toNatClampNeg (((12 : Int32) * v1) + (jRem v5 (12 : Int32))))) = (0 : Int32) then (1 : Int32) else (0 : Int32)))) + v3))) + (Int32.toInt64 t4))))) M (f := (σ.2.2.1 4)) rfl hg dt_X12_means_9.2.2.2.1 ?_
          refine z_lconst (v := 1) M dt_X12_means_9.2.2.2.2 (by decide) ?_
          refine z_ladd M dt_X12_means_10.1.1.1 ?_
          have ⟨hg, h⟩ := gIx_s h
          refine as_M26 (σ := (zL σ 3 (vp_updL (σ.2.2.1 3) (Int32.toNatClampNeg (((5 : Int32) * (f_X12_flag (if ((σ.2.1 7) (Int32.toNatClampNeg (((12 : Int32) * v1) + (jRem v5 (12 : Int32))))) = (0 : Int32) then (1 : Int32) else (0 : Int32)))) + v3)) (((σ.2.2.1 3) (Int32.toNatClampNeg (((5 : Int32) * (f_X12_flag (if ((σ.2.1 7) (Int32.toNatClampNeg (((12 : Int32) * v1) + (jRem v5 (12 : Int32))))) = (0 : Int32) then (1 : Int32) else (0 : Int32)))) + v3))) + (Int32.toInt64 t4))))) M (f := (σ.2.2.1 4)) rfl hg dt_X12_means_10.1.1.2 ?_
          refine z_iinc (v := (v5 + (1 : Int32))) (lv' := [(5, .int (v5 + (1 : Int32))), (6, .int (f_X12_flag (if ((σ.2.1 7) (Int32.toNatClampNeg (((12 : Int32) * v1) + (jRem v5 (12 : Int32))))) = (0 : Int32) then (1 : Int32) else (0 : Int32)))), (0, .ref (a 0)), (1, .int v1), (3, .int v3), (4, .int v4)]) M dt_X12_means_10.1.2.1 (k := 5) rfl (congrArg (fun q => v5 + q) ki_1) (by decide) rfl ?_
          refine z_goto (tgt := 165) M dt_X12_means_10.1.2.2 (by decide) ?_
          refine z_sub M [2, 3, 4, 5, 0] (lv' := [(0, .ref (a 0)), (1, .int v1), (3, .int v3), (4, .int v4), (5, .int (v5 + (1 : Int32)))]) rfl ?_
          exact ih (zL (zL σ 3 (vp_updL (σ.2.2.1 3) (Int32.toNatClampNeg (((5 : Int32) * (f_X12_flag (if ((σ.2.1 7) (Int32.toNatClampNeg (((12 : Int32) * v1) + (jRem v5 (12 : Int32))))) = (0 : Int32) then (1 : Int32) else (0 : Int32)))) + v3)) (((σ.2.2.1 3) (Int32.toNatClampNeg (((5 : Int32) * (f_X12_flag (if ((σ.2.1 7) (Int32.toNatClampNeg (((12 : Int32) * v1) + (jRem v5 (12 : Int32))))) = (0 : Int32) then (1 : Int32) else (0 : Int32)))) + v3))) + (Int32.toInt64 t4)))) 4 (vp_updL (σ.2.2.1 4) (Int32.toNatClampNeg (((5 : Int32) * (f_X12_flag (if ((σ.2.1 7) (Int32.toNatClampNeg (((12 : Int32) * v1) + (jRem v5 (12 : Int32))))) = (0 : Int32) then (1 : Int32) else (0 : Int32)))) + v3)) (((σ.2.2.1 4) (Int32.toNatClampNeg (((5 : Int32) * (f_X12_flag (if ((σ.2.1 7) (Int32.toNatClampNeg (((12 : Int32) * v1) + (jRem v5 (12 : Int32))))) = (0 : Int32) then (1 : Int32) else (0 : Int32)))) + v3))) + (1 : Int64)))) (v5 + (1 : Int32)) h
        refine z_if_ne (tgt := 211) M dt_X12_means_7.2.2.2.2 (by decide) (fun hc2 => ?_) (fun hc2 => ?_)
        · refine z_iconst M dt_X12_means_8.1.1.2.1 ki_0 ?_
          exact (zTf hc2 hJ3)
        · refine z_iconst M dt_X12_means_8.1.1.1.1 ki_1 ?_
          refine z_goto (tgt := 212) M dt_X12_means_8.1.1.1.2 (by decide) ?_
          exact (zTt hc2 hJ3)
set_option maxHeartbeats 4000000 in
set_option maxRecDepth 100000 in
theorem wJ_X12_means_262 {o : Zst} (M : zM l D zcl (zty cy) A ad (zR 4) (mW a cy ad) RX12 cX12_means 7 none o none G) {k88 : Zst → Int32 → Option Zst} (σ : Zst) (v1 : Int32) (v3 : Int32) (Hk88 : ∀ (σ : Zst) (w3 : Int32), k88 σ w3 = some o → G σ [(0, .ref (a 0)), (1, .int v1), (3, .int w3)] 88 []) (h : J_X12_means_262 k88 σ v1 v3 = some o) : G σ [(0, .ref (a 0)), (1, .int v1), (3, .int v3)] 262 [] := by
  refine z_iinc (v := (v3 + (1 : Int32))) (lv' := [(3, .int (v3 + (1 : Int32))), (0, .ref (a 0)), (1, .int v1)]) M dt_X12_means_10.2.1.1 (k := 2) rfl (congrArg (fun q => v3 + q) ki_1) (by decide) rfl ?_
  refine z_goto (tgt := 88) M dt_X12_means_10.2.1.2 (by decide) ?_
  refine z_sub M [1, 2, 0] (lv' := [(0, .ref (a 0)), (1, .int v1), (3, .int (v3 + (1 : Int32)))]) rfl ?_
  exact Hk88 σ (v3 + (1 : Int32)) h
set_option maxHeartbeats 4000000 in
set_option maxRecDepth 100000 in
theorem wJ_X12_means_162 {o : Zst} (M : zM l D zcl (zty cy) A ad (zR 4) (mW a cy ad) RX12 cX12_means 7 none o none G) {k88 : Zst → Int32 → Option Zst} (σ : Zst) (v1 : Int32) (v3 : Int32) (v4 : Int32) (Hk88 : ∀ (σ : Zst) (w3 : Int32), k88 σ w3 = some o → G σ [(0, .ref (a 0)), (1, .int v1), (3, .int w3)] 88 []) (h : J_X12_means_162 k88 σ v1 v3 v4 = some o) : G σ [(0, .ref (a 0)), (1, .int v1), (3, .int v3), (4, .int v4)] 162 [] := by
  refine z_iconst M dt_X12_means_6.1.2.2.2 ki_0 ?_
  refine z_istore (lv' := [(5, .int (0 : Int32)), (0, .ref (a 0)), (1, .int v1), (3, .int v3), (4, .int v4)]) M dt_X12_means_6.2.1.1.1 (by decide) rfl ?_
  refine z_sub M [1, 2, 3, 4, 0] (lv' := [(0, .ref (a 0)), (1, .int v1), (3, .int v3), (4, .int v4), (5, .int (0 : Int32))]) rfl ?_
  exact wL_X12_means_165 M (k262 := (fun σ5 => J_X12_means_262 k88 σ5 v1 v3)) v1 v3 v4 (fun σ5 h => by
      exact wJ_X12_means_262 M (k88 := k88) σ5 v1 v3 Hk88 h) zFu σ (0 : Int32) h
set_option maxHeartbeats 4000000 in
set_option maxRecDepth 100000 in
theorem wL_X12_means_88 {o : Zst} (M : zM l D zcl (zty cy) A ad (zR 4) (mW a cy ad) RX12 cX12_means 7 none o none G)  (v1 : Int32)  :
    ∀ (n88 : Nat) (σ : Zst) (v3 : Int32), L_X12_means_88 v1 n88 σ v3 = some o → G σ [(0, .ref (a 0)), (1, .int v1), (3, .int v3)] 88 [] := by
  intro n88
  induction n88 with
  | zero => intro σ v3 h; exact nomatch (show (none : Option Zst) = some _ from h)
  | succ n88 ih =>
    intro σ v3 h
    refine z_iload_n M dt_X12_means_3.2.1.2.1 rfl 2 rfl ?_
    refine z_iconst M dt_X12_means_3.2.1.2.2 ki_5 ?_
    refine z_icmp_ge (tgt := 268) M dt_X12_means_3.2.2.1.1 (by decide) (fun hc => ?_) (fun hc => ?_)
    · have h := gIt hc h
      obtain rfl := Option.some.inj h
      exact z_vret M dt_X12_means_10.2.2
    · have h := gIf hc h
      refine z_iload_n M dt_X12_means_3.2.2.1.2 rfl 2 rfl ?_
      refine z_iconst M dt_X12_means_3.2.2.2.1 ki_1 ?_
      have hJ9 : G σ [(0, .ref (a 0)), (1, .int v1), (3, .int v3)] 121 [.int (if v3 = (1 : Int32) then (1 : Int32) else (if v3 = (2 : Int32) then (0 : Int32) else (if v3 = (3 : Int32) then (5 : Int32) else (2 : Int32))))] := by
        refine z_istore (lv' := [(4, .int (if v3 = (1 : Int32) then (1 : Int32) else (if v3 = (2 : Int32) then (0 : Int32) else (if v3 = (3 : Int32) then (5 : Int32) else (2 : Int32))))), (0, .ref (a 0)), (1, .int v1), (3, .int v3)]) M dt_X12_means_4.2.2.1.2 (by decide) rfl ?_
        refine z_iconst M dt_X12_means_4.2.2.2.1 ki_0 ?_
        refine z_istore (lv' := [(5, .int (0 : Int32)), (4, .int (if v3 = (1 : Int32) then (1 : Int32) else (if v3 = (2 : Int32) then (0 : Int32) else (if v3 = (3 : Int32) then (5 : Int32) else (2 : Int32))))), (0, .ref (a 0)), (1, .int v1), (3, .int v3)]) M dt_X12_means_4.2.2.2.2 (by decide) rfl ?_
        refine z_sub M [2, 3, 4, 1, 0] (lv' := [(0, .ref (a 0)), (1, .int v1), (3, .int v3), (4, .int (if v3 = (1 : Int32) then (1 : Int32) else (if v3 = (2 : Int32) then (0 : Int32) else (if v3 = (3 : Int32) then (5 : Int32) else (2 : Int32))))), (5, .int (0 : Int32))]) rfl ?_
        exact wL_X12_means_126 M (k162 := (fun σ10 => J_X12_means_162 (fun σ w3 => L_X12_means_88 v1 n88 σ w3) σ10 v1 v3 (if v3 = (1 : Int32) then (1 : Int32) else (if v3 = (2 : Int32) then (0 : Int32) else (if v3 = (3 : Int32) then (5 : Int32) else (2 : Int32)))))) v1 v3 (if v3 = (1 : Int32) then (1 : Int32) else (if v3 = (2 : Int32) then (0 : Int32) else (if v3 = (3 : Int32) then (5 : Int32) else (2 : Int32)))) (fun σ10 h => by
            exact wJ_X12_means_162 M (k88 := (fun σ w3 => L_X12_means_88 v1 n88 σ w3)) σ10 v1 v3 (if v3 = (1 : Int32) then (1 : Int32) else (if v3 = (2 : Int32) then (0 : Int32) else (if v3 = (3 : Int32) then (5 : Int32) else (2 : Int32)))) ih h) zFu σ (0 : Int32) h
      refine z_icmp_ne (tgt := 102) M dt_X12_means_3.2.2.2.2 (by decide) (fun hc6 => ?_) (fun hc6 => ?_)
      · refine z_iload_n M dt_X12_means_4.1.1.2.1 rfl 2 rfl ?_
        refine z_iconst M dt_X12_means_4.1.1.2.2 ki_2 ?_
        refine z_icmp_ne (tgt := 111) M dt_X12_means_4.1.2.1.1 (by decide) (fun hc7 => ?_) (fun hc7 => ?_)
        · refine z_iload_n M dt_X12_means_4.1.2.2.2 rfl 2 rfl ?_
          refine z_iconst M dt_X12_means_4.2.1.1.1 ki_3 ?_
          refine z_icmp_ne (tgt := 120) M dt_X12_means_4.2.1.1.2 (by decide) (fun hc8 => ?_) (fun hc8 => ?_)
          · refine z_iconst M dt_X12_means_4.2.2.1.1 ki_2 ?_
            exact (zTf hc8 (zTf hc7 (zTf hc6 hJ9)))
          · refine z_iconst M dt_X12_means_4.2.1.2.1 ki_5 ?_
            refine z_goto (tgt := 121) M dt_X12_means_4.2.1.2.2 (by decide) ?_
            exact (zTt hc8 (zTf hc7 (zTf hc6 hJ9)))
        · refine z_iconst M dt_X12_means_4.1.2.1.2 ki_0 ?_
          refine z_goto (tgt := 121) M dt_X12_means_4.1.2.2.1 (by decide) ?_
          exact (zTt hc7 (zTf hc6 hJ9))
      · refine z_iconst M dt_X12_means_4.1.1.1.1 ki_1 ?_
        refine z_goto (tgt := 121) M dt_X12_means_4.1.1.1.2 (by decide) ?_
        exact (zTt hc6 hJ9)
set_option maxHeartbeats 4000000 in
set_option maxRecDepth 100000 in
theorem wJ_X12_means_86 {o : Zst} (M : zM l D zcl (zty cy) A ad (zR 4) (mW a cy ad) RX12 cX12_means 7 none o none G) (σ : Zst) (v1 : Int32)  (h : J_X12_means_86 σ v1 = some o) : G σ [(0, .ref (a 0)), (1, .int v1)] 86 [] := by
  refine z_iconst M dt_X12_means_3.2.1.1.1 ki_1 ?_
  refine z_istore_n (lv' := [(3, .int (1 : Int32)), (0, .ref (a 0)), (1, .int v1)]) M dt_X12_means_3.2.1.1.2 rfl (by decide) rfl ?_
  refine z_sub M [1, 2, 0] (lv' := [(0, .ref (a 0)), (1, .int v1), (3, .int (1 : Int32))]) rfl ?_
  exact wL_X12_means_88 M  v1 zFu σ (1 : Int32) h
set_option maxHeartbeats 4000000 in
set_option maxRecDepth 100000 in
theorem m_X12_means (hD : ∀ σ, va_D A (mW a cy ad σ)) {σ : Zst} {p0 : Int32} {o : Zst} (h : f_X12_means σ p0 = some o) : zT l D zcl (zty cy) A ad (mW a cy ad) yX12_means cX12_means 7 none 4 [.ref (a 0), .int p0] σ o none := by
  refine z_met pn_X12 hD (Nat.le_of_ble_eq_true rfl) rfl (fun G M => ?_)
  refine z_aload_n M dt_X12_means_0.1.1.1.1 rfl 0 rfl ?_
  refine z_iload_n M dt_X12_means_0.1.1.1.2 rfl 1 rfl ?_
  obtain ⟨t11, hc, h⟩ := gBd h
  refine k_X12_wastes M hc u1803 (Nat.le_of_ble_eq_true rfl) (Nat.le_of_ble_eq_true rfl) dt_X12_means_0.1.1.2.1 ?_
  refine z_aload_n M dt_X12_means_0.1.1.2.2 rfl 0 rfl ?_
  refine gf_X12_sold M u1997 dt_X12_means_0.1.2.1.1 ?_
  refine z_iconst M dt_X12_means_0.1.2.1.2 ki_0 ?_
  refine al_M17 (σ := t11) M (f := (t11.2.2.1 2)) rfl (show ¬ (_ ∨ _) by decide) dt_X12_means_0.1.2.2.1 ?_
  refine z_lconst (v := 0) M dt_X12_means_0.1.2.2.2 (by decide) ?_
  have hJ14 : G t11 [(0, .ref (a 0)), (1, .int p0)] 32 [.int (if ((t11.2.2.1 2) (Int32.toNatClampNeg (0 : Int32))) = (0 : Int64) then (0 : Int32) else (if ((t11.2.2.1 2) (Int32.toNatClampNeg (1 : Int32))) = (0 : Int64) then (0 : Int32) else (1 : Int32)))] := by
    refine z_istore_n (lv' := [(2, .int (if ((t11.2.2.1 2) (Int32.toNatClampNeg (0 : Int32))) = (0 : Int64) then (0 : Int32) else (if ((t11.2.2.1 2) (Int32.toNatClampNeg (1 : Int32))) = (0 : Int64) then (0 : Int32) else (1 : Int32)))), (0, .ref (a 0)), (1, .int p0)]) M dt_X12_means_1.1.2.1.1 rfl (by decide) rfl ?_
    refine z_iconst M dt_X12_means_1.1.2.1.2 ki_0 ?_
    refine z_istore_n (lv' := [(3, .int (0 : Int32)), (2, .int (if ((t11.2.2.1 2) (Int32.toNatClampNeg (0 : Int32))) = (0 : Int64) then (0 : Int32) else (if ((t11.2.2.1 2) (Int32.toNatClampNeg (1 : Int32))) = (0 : Int64) then (0 : Int32) else (1 : Int32)))), (0, .ref (a 0)), (1, .int p0)]) M dt_X12_means_1.1.2.2.1 rfl (by decide) rfl ?_
    refine z_sub M [2, 3, 1, 0] (lv' := [(0, .ref (a 0)), (1, .int p0), (2, .int (if ((t11.2.2.1 2) (Int32.toNatClampNeg (0 : Int32))) = (0 : Int64) then (0 : Int32) else (if ((t11.2.2.1 2) (Int32.toNatClampNeg (1 : Int32))) = (0 : Int64) then (0 : Int32) else (1 : Int32)))), (3, .int (0 : Int32))]) rfl ?_
    exact wL_X12_means_35 M (k86 := (fun σ15 => J_X12_means_86 σ15 p0)) p0 (if ((t11.2.2.1 2) (Int32.toNatClampNeg (0 : Int32))) = (0 : Int64) then (0 : Int32) else (if ((t11.2.2.1 2) (Int32.toNatClampNeg (1 : Int32))) = (0 : Int64) then (0 : Int32) else (1 : Int32))) (fun σ15 h => by
        exact wJ_X12_means_86 M  σ15 p0 h) zFu t11 (0 : Int32) h
  refine z_lcmp_eq (tgt := 31) M dt_X12_means_0.2.1.1.1 dt_X12_means_0.2.1.1.2 (by decide) (fun hc12 => ?_) (fun hc12 => ?_)
  · refine z_iconst M dt_X12_means_1.1.1.2.2 ki_0 ?_
    exact (zTt hc12 hJ14)
  · refine z_aload_n M dt_X12_means_0.2.1.2.1 rfl 0 rfl ?_
    refine gf_X12_sold M u1997 dt_X12_means_0.2.1.2.2 ?_
    refine z_iconst M dt_X12_means_0.2.2.1.1 ki_1 ?_
    refine al_M17 (σ := t11) M (f := (t11.2.2.1 2)) rfl (show ¬ (_ ∨ _) by decide) dt_X12_means_0.2.2.1.2 ?_
    refine z_lconst (v := 0) M dt_X12_means_0.2.2.2.1 (by decide) ?_
    refine z_lcmp_eq (tgt := 31) M dt_X12_means_0.2.2.2.2 dt_X12_means_1.1.1.1.1 (by decide) (fun hc13 => ?_) (fun hc13 => ?_)
    · refine z_iconst M dt_X12_means_1.1.1.2.2 ki_0 ?_
      exact (zTt hc13 (zTf hc12 hJ14))
    · refine z_iconst M dt_X12_means_1.1.1.1.2 ki_1 ?_
      refine z_goto (tgt := 32) M dt_X12_means_1.1.1.2.1 (by decide) ?_
      exact (zTf hc13 (zTf hc12 hJ14))
theorem k_X12_means {n : Nat} (M : zM l D zcl (zty cy) A ad (zR n) (mW a cy ad) own cc nL rt σo ov G) {p0 : Int32} {o : Zst} (h : f_X12_means σ p0 = some o) {index : Nat} (hl : Cond.methodLink own index yX12_means ∈ uw) (hR : 5 ≤ n) (hW : (st.map fun v => v.category).sum ≤ 8) (d : decode cc pc = .ok (.invokevirtual index, 3)) (kk : G o lv (pc + 3) (st)) : G σ lv pc (.int p0 :: .ref (a 0) :: st) := z_callV M [.int p0] (m_X12_means (zM_hD M) h) (hM0 σ) rfl hl u99 u1828 u1827 u76 hd_X12_means hR (by decide) rfl hW d kk
set_option maxHeartbeats 4000000 in
set_option maxRecDepth 100000 in
theorem wJ_X12_fails_129 {o : Int32} (M : zM l D zcl (zty cy) A ad (zR 2) (mW a cy ad) RX12 cX12_fails 8 (some .int) σ0 (some (.int o)) G) {k7 : Int32 → Int32 → Option Int32}  (v1 : Int32) (v2 : Int32) (v3 : Int32) (v4 : Int32) (v5 : Int32) (s0 : Int32) (Hk7 : ∀ (w2 : Int32) (w3 : Int32), k7 w2 w3 = some o → G σ0 [(0, .ref (a 0)), (1, .int v1), (2, .int w2), (3, .int w3)] 7 []) (h : J_X12_fails_129 k7 σ0 v1 v2 v3 v4 v5 s0 = some o) : G σ0 [(0, .ref (a 0)), (1, .int v1), (2, .int v2), (3, .int v3), (4, .int v4), (5, .int v5)] 129 [.int s0] := by
  refine z_istore (lv' := [(7, .int s0), (0, .ref (a 0)), (1, .int v1), (2, .int v2), (3, .int v3), (4, .int v4), (5, .int v5)]) M dt_X12_fails_4.2.1.2.2 (by decide) rfl ?_
  refine z_iload_n M dt_X12_fails_4.2.2.1.1 rfl 3 rfl ?_
  refine z_iload M dt_X12_fails_4.2.2.1.2 0 rfl ?_
  refine z_if_eq (tgt := 161) M dt_X12_fails_4.2.2.2.1 (by decide) (fun hc => ?_) (fun hc => ?_)
  · have h := gIt hc h
    refine z_iconst M dt_X12_fails_5.2.2.1.2 ki_1 ?_
    refine z_goto (tgt := 166) M dt_X12_fails_5.2.2.2.1 (by decide) ?_
    refine k_X12_flag M u1675 (Nat.le_of_ble_eq_true rfl) (Nat.le_of_ble_eq_true rfl) dt_X12_fails_6.1.1.1 ?_
    refine z_iadd M dt_X12_fails_6.1.1.2 ?_
    refine z_istore_n (lv' := [(2, .int (v2 + (f_X12_flag (1 : Int32)))), (7, .int s0), (0, .ref (a 0)), (1, .int v1), (3, .int v3), (4, .int v4), (5, .int v5)]) M dt_X12_fails_6.1.2.1 rfl (by decide) rfl ?_
    refine z_iinc (v := (v3 + (1 : Int32))) (lv' := [(3, .int (v3 + (1 : Int32))), (2, .int (v2 + (f_X12_flag (1 : Int32)))), (7, .int s0), (0, .ref (a 0)), (1, .int v1), (4, .int v4), (5, .int v5)]) M dt_X12_fails_6.1.2.2 (k := 4) rfl (congrArg (fun q => v3 + q) ki_1) (by decide) rfl ?_
    refine z_goto (tgt := 7) M dt_X12_fails_6.2.1.1 (by decide) ?_
    refine z_sub M [3, 4, 1, 0] (lv' := [(0, .ref (a 0)), (1, .int v1), (2, .int (v2 + (f_X12_flag (1 : Int32)))), (3, .int (v3 + (1 : Int32)))]) rfl ?_
    exact Hk7 (v2 + (f_X12_flag (1 : Int32))) (v3 + (1 : Int32)) h
  · have h := gIf hc h
    refine z_aload_n M dt_X12_fails_4.2.2.2.2 rfl 1 rfl ?_
    refine gf_X12_signLow M u2007 dt_X12_fails_5.1.1.1.1 ?_
    refine z_iload M dt_X12_fails_5.1.1.1.2 5 rfl ?_
    have ⟨hg, h⟩ := gIx_s h
    refine al_M26 (σ := σ0) M (f := (σ0.2.2.1 4)) rfl hg dt_X12_fails_5.1.1.2.1 ?_
    refine z_lconst (v := 0) M dt_X12_fails_5.1.1.2.2 (by decide) ?_
    refine z_lcmp_eq (tgt := 161) M dt_X12_fails_5.1.2.1.1 dt_X12_fails_5.1.2.1.2 (by decide) (fun hc => ?_) (fun hc => ?_)
    · have h := gIt hc h
      refine z_iconst M dt_X12_fails_5.2.2.1.2 ki_1 ?_
      refine z_goto (tgt := 166) M dt_X12_fails_5.2.2.2.1 (by decide) ?_
      refine k_X12_flag M u1675 (Nat.le_of_ble_eq_true rfl) (Nat.le_of_ble_eq_true rfl) dt_X12_fails_6.1.1.1 ?_
      refine z_iadd M dt_X12_fails_6.1.1.2 ?_
      refine z_istore_n (lv' := [(2, .int (v2 + (f_X12_flag (1 : Int32)))), (7, .int s0), (0, .ref (a 0)), (1, .int v1), (3, .int v3), (4, .int v4), (5, .int v5)]) M dt_X12_fails_6.1.2.1 rfl (by decide) rfl ?_
      refine z_iinc (v := (v3 + (1 : Int32))) (lv' := [(3, .int (v3 + (1 : Int32))), (2, .int (v2 + (f_X12_flag (1 : Int32)))), (7, .int s0), (0, .ref (a 0)), (1, .int v1), (4, .int v4), (5, .int v5)]) M dt_X12_fails_6.1.2.2 (k := 4) rfl (congrArg (fun q => v3 + q) ki_1) (by decide) rfl ?_
      refine z_goto (tgt := 7) M dt_X12_fails_6.2.1.1 (by decide) ?_
      refine z_sub M [3, 4, 1, 0] (lv' := [(0, .ref (a 0)), (1, .int v1), (2, .int (v2 + (f_X12_flag (1 : Int32)))), (3, .int (v3 + (1 : Int32)))]) rfl ?_
      exact Hk7 (v2 + (f_X12_flag (1 : Int32))) (v3 + (1 : Int32)) h
    · have h := gIf hc h
      refine z_aload_n M dt_X12_fails_5.1.2.2.1 rfl 1 rfl ?_
      refine gf_X12_signLow M u2007 dt_X12_fails_5.1.2.2.2 ?_
      refine z_iload M dt_X12_fails_5.2.1.1.1 6 rfl ?_
      have ⟨hg, h⟩ := gIx_s h
      refine al_M26 (σ := σ0) M (f := (σ0.2.2.1 4)) rfl hg dt_X12_fails_5.2.1.1.2 ?_
      refine z_lconst (v := 0) M dt_X12_fails_5.2.1.2.1 (by decide) ?_
      have hJ2 : G σ0 [(7, .int s0), (0, .ref (a 0)), (1, .int v1), (2, .int v2), (3, .int v3), (4, .int v4), (5, .int v5)] 166 [.int (if ((σ0.2.2.1 4) (Int32.toNatClampNeg v5)) = (0 : Int64) then (1 : Int32) else (0 : Int32)), .int v2] := by
        refine k_X12_flag M u1675 (Nat.le_of_ble_eq_true rfl) (Nat.le_of_ble_eq_true rfl) dt_X12_fails_6.1.1.1 ?_
        refine z_iadd M dt_X12_fails_6.1.1.2 ?_
        refine z_istore_n (lv' := [(2, .int (v2 + (f_X12_flag (if ((σ0.2.2.1 4) (Int32.toNatClampNeg v5)) = (0 : Int64) then (1 : Int32) else (0 : Int32))))), (7, .int s0), (0, .ref (a 0)), (1, .int v1), (3, .int v3), (4, .int v4), (5, .int v5)]) M dt_X12_fails_6.1.2.1 rfl (by decide) rfl ?_
        refine z_iinc (v := (v3 + (1 : Int32))) (lv' := [(3, .int (v3 + (1 : Int32))), (2, .int (v2 + (f_X12_flag (if ((σ0.2.2.1 4) (Int32.toNatClampNeg v5)) = (0 : Int64) then (1 : Int32) else (0 : Int32))))), (7, .int s0), (0, .ref (a 0)), (1, .int v1), (4, .int v4), (5, .int v5)]) M dt_X12_fails_6.1.2.2 (k := 4) rfl (congrArg (fun q => v3 + q) ki_1) (by decide) rfl ?_
        refine z_goto (tgt := 7) M dt_X12_fails_6.2.1.1 (by decide) ?_
        refine z_sub M [3, 4, 1, 0] (lv' := [(0, .ref (a 0)), (1, .int v1), (2, .int (v2 + (f_X12_flag (if ((σ0.2.2.1 4) (Int32.toNatClampNeg v5)) = (0 : Int64) then (1 : Int32) else (0 : Int32))))), (3, .int (v3 + (1 : Int32)))]) rfl ?_
        exact Hk7 (v2 + (f_X12_flag (if ((σ0.2.2.1 4) (Int32.toNatClampNeg v5)) = (0 : Int64) then (1 : Int32) else (0 : Int32)))) (v3 + (1 : Int32)) h
      refine z_lcmp_ne (tgt := 165) M dt_X12_fails_5.2.1.2.2 dt_X12_fails_5.2.2.1.1 (by decide) (fun hc1 => ?_) (fun hc1 => ?_)
      · refine z_iconst M dt_X12_fails_5.2.2.2.2 ki_0 ?_
        exact (zTf hc1 hJ2)
      · refine z_iconst M dt_X12_fails_5.2.2.1.2 ki_1 ?_
        refine z_goto (tgt := 166) M dt_X12_fails_5.2.2.2.1 (by decide) ?_
        exact (zTt hc1 hJ2)
set_option maxHeartbeats 4000000 in
set_option maxRecDepth 100000 in
theorem wL_X12_fails_7 {o : Int32} (M : zM l D zcl (zty cy) A ad (zR 2) (mW a cy ad) RX12 cX12_fails 8 (some .int) σ0 (some (.int o)) G)  (v1 : Int32)  :
    ∀ (n7 : Nat) (v2 : Int32) (v3 : Int32), L_X12_fails_7 σ0 v1 n7 v2 v3 = some o → G σ0 [(0, .ref (a 0)), (1, .int v1), (2, .int v2), (3, .int v3)] 7 [] := by
  intro n7
  induction n7 with
  | zero => intro v2 v3 h; exact nomatch (show (none : Option Int32) = some _ from h)
  | succ n7 ih =>
    intro v2 v3 h
    refine z_iload_n M dt_X12_fails_0.1.2.2.1 rfl 3 rfl ?_
    refine z_bipush M dt_X12_fails_0.1.2.2.2 kb_12 ?_
    refine z_iload_n M dt_X12_fails_0.2.1.1.1 rfl 1 rfl ?_
    refine z_imul M dt_X12_fails_0.2.1.1.2 ?_
    refine z_aload_n M dt_X12_fails_0.2.1.2.1 rfl 0 rfl ?_
    refine gf_X12_claims M u1999 dt_X12_fails_0.2.1.2.2 ?_
    refine z_iload_n M dt_X12_fails_0.2.2.1.1 rfl 1 rfl ?_
    have ⟨hg, h⟩ := gIx_s h
    refine al_M18 (σ := σ0) M (f := (σ0.2.1 14)) rfl hg dt_X12_fails_0.2.2.1.2 ?_
    refine z_iadd M dt_X12_fails_0.2.2.2.1 ?_
    refine z_icmp_ge (tgt := 177) M dt_X12_fails_0.2.2.2.2 (by decide) (fun hc => ?_) (fun hc => ?_)
    · have h := gIt hc h
      refine z_iload_n M dt_X12_fails_6.2.1.2 rfl 2 rfl ?_
      obtain rfl := Option.some.inj h
      exact z_iret M dt_X12_fails_6.2.2
    · have h := gIf hc h
      refine z_aload_n M dt_X12_fails_1.1.1.1.1 rfl 0 rfl ?_
      refine gf_X12_claimOne M u2000 dt_X12_fails_1.1.1.1.2 ?_
      refine z_iload_n M dt_X12_fails_1.1.1.2.1 rfl 3 rfl ?_
      have ⟨hg, h⟩ := gIx_s h
      refine al_M19 (σ := σ0) M (f := (σ0.2.1 15)) rfl hg dt_X12_fails_1.1.1.2.2 ?_
      refine z_istore (lv' := [(4, .int ((σ0.2.1 15) (Int32.toNatClampNeg v3))), (0, .ref (a 0)), (1, .int v1), (2, .int v2), (3, .int v3)]) M dt_X12_fails_1.1.2.1.1 (by decide) rfl ?_
      refine z_aload_n M dt_X12_fails_1.1.2.1.2 rfl 1 rfl ?_
      refine gf_X12_claimOther M u2002 dt_X12_fails_1.1.2.2.1 ?_
      refine z_iload_n M dt_X12_fails_1.1.2.2.2 rfl 4 rfl ?_
      have ⟨hg, h⟩ := gIx_s h
      refine al_M21 (σ := σ0) M (f := (σ0.2.1 17)) rfl hg dt_X12_fails_1.2.1.1.1 ?_
      refine z_istore (lv' := [(5, .int ((σ0.2.1 17) (Int32.toNatClampNeg v3))), (4, .int ((σ0.2.1 15) (Int32.toNatClampNeg v3))), (0, .ref (a 0)), (1, .int v1), (2, .int v2), (3, .int v3)]) M dt_X12_fails_1.2.1.1.2 (by decide) rfl ?_
      refine z_aload_n M dt_X12_fails_1.2.1.2.1 rfl 2 rfl ?_
      refine gf_X12_signUp M u2006 dt_X12_fails_1.2.1.2.2 ?_
      refine z_iload M dt_X12_fails_1.2.2.1.1 1 rfl ?_
      have ⟨hg, h⟩ := gIx_s h
      refine al_M25 (σ := σ0) M (f := (σ0.2.2.1 3)) rfl hg dt_X12_fails_1.2.2.1.2 ?_
      refine z_aload_n M dt_X12_fails_1.2.2.2.1 rfl 2 rfl ?_
      refine gf_X12_signLow M u2007 dt_X12_fails_1.2.2.2.2 ?_
      refine z_iload M dt_X12_fails_2.1.1.1.1 0 rfl ?_
      have ⟨hg, h⟩ := gIx_s h
      refine al_M26 (σ := σ0) M (f := (σ0.2.2.1 4)) rfl hg dt_X12_fails_2.1.1.1.2 ?_
      refine z_lmul M dt_X12_fails_2.1.1.2.1 ?_
      refine z_aload_n M dt_X12_fails_2.1.1.2.2 rfl 2 rfl ?_
      refine gf_X12_signUp M u2006 dt_X12_fails_2.1.2.1.1 ?_
      refine z_iload M dt_X12_fails_2.1.2.1.2 0 rfl ?_
      have ⟨hg, h⟩ := gIx_s h
      refine al_M25 (σ := σ0) M (f := (σ0.2.2.1 3)) rfl hg dt_X12_fails_2.1.2.2.1 ?_
      refine z_aload_n M dt_X12_fails_2.1.2.2.2 rfl 2 rfl ?_
      refine gf_X12_signLow M u2007 dt_X12_fails_2.2.1.1.1 ?_
      refine z_iload M dt_X12_fails_2.2.1.1.2 1 rfl ?_
      have ⟨hg, h⟩ := gIx_s h
      refine al_M26 (σ := σ0) M (f := (σ0.2.2.1 4)) rfl hg dt_X12_fails_2.2.1.2.1 ?_
      refine z_lmul M dt_X12_fails_2.2.1.2.2 ?_
      refine z_lsub M dt_X12_fails_2.2.2.1.1 ?_
      refine k_J13_signum_95d88 M u1756 (Nat.le_of_ble_eq_true rfl) (Nat.le_of_ble_eq_true rfl) dt_X12_fails_2.2.2.1.2 ?_
      refine z_istore (lv' := [(6, .int (f_J13_signum_95d88 ((((σ0.2.2.1 3) (Int32.toNatClampNeg ((σ0.2.1 15) (Int32.toNatClampNeg v3)))) * ((σ0.2.2.1 4) (Int32.toNatClampNeg ((σ0.2.1 17) (Int32.toNatClampNeg v3))))) - (((σ0.2.2.1 3) (Int32.toNatClampNeg ((σ0.2.1 17) (Int32.toNatClampNeg v3)))) * ((σ0.2.2.1 4) (Int32.toNatClampNeg ((σ0.2.1 15) (Int32.toNatClampNeg v3)))))))), (5, .int ((σ0.2.1 17) (Int32.toNatClampNeg v3))), (4, .int ((σ0.2.1 15) (Int32.toNatClampNeg v3))), (0, .ref (a 0)), (1, .int v1), (2, .int v2), (3, .int v3)]) M dt_X12_fails_2.2.2.2.1 (by decide) rfl ?_
      refine z_aload_n M dt_X12_fails_2.2.2.2.2 rfl 3 rfl ?_
      refine gf_X12_claimAct M u2001 dt_X12_fails_3.1.1.1.1 ?_
      refine z_iload_n M dt_X12_fails_3.1.1.1.2 rfl 6 rfl ?_
      have ⟨hg, h⟩ := gIx_s h
      refine al_M20 (σ := σ0) M (f := (σ0.2.1 16)) rfl hg dt_X12_fails_3.1.1.2.1 ?_
      refine z_if_ne (tgt := 96) M dt_X12_fails_3.1.1.2.2 (by decide) (fun hc => ?_) (fun hc => ?_)
      · have h := gIf hc h
        refine z_aload_n M dt_X12_fails_3.2.1.2.1 rfl 3 rfl ?_
        refine gf_X12_claimAct M u2001 dt_X12_fails_3.2.1.2.2 ?_
        refine z_iload_n M dt_X12_fails_3.2.2.1.1 rfl 6 rfl ?_
        have ⟨hg, h⟩ := gIx_s h
        refine al_M20 (σ := σ0) M (f := (σ0.2.1 16)) rfl hg dt_X12_fails_3.2.2.1.2 ?_
        refine z_iconst M dt_X12_fails_3.2.2.2.1 ki_1 ?_
        refine z_icmp_ne (tgt := 119) M dt_X12_fails_3.2.2.2.2 (by decide) (fun hc => ?_) (fun hc => ?_)
        · have h := gIf hc h
          refine z_iload M dt_X12_fails_4.1.2.2.1 0 rfl ?_
          refine z_if_ne (tgt := 128) M dt_X12_fails_4.1.2.2.2 (by decide) (fun hc => ?_) (fun hc => ?_)
          · have h := gIf hc h
            refine z_iconst M dt_X12_fails_4.2.1.2.1 ki_0 ?_
            refine z_sub M [3, 4, 5, 6, 2, 1] (lv' := [(0, .ref (a 0)), (1, .int v1), (2, .int v2), (3, .int v3), (4, .int ((σ0.2.1 15) (Int32.toNatClampNeg v3))), (5, .int ((σ0.2.1 17) (Int32.toNatClampNeg v3)))]) rfl ?_
            exact wJ_X12_fails_129 M (k7 := (fun w2 w3 => L_X12_fails_7 σ0 v1 n7 w2 w3)) v1 v2 v3 ((σ0.2.1 15) (Int32.toNatClampNeg v3)) ((σ0.2.1 17) (Int32.toNatClampNeg v3)) (0 : Int32) ih h
          · have h := gIt hc h
            refine z_iconst M dt_X12_fails_4.2.1.1.1 ki_1 ?_
            refine z_goto (tgt := 129) M dt_X12_fails_4.2.1.1.2 (by decide) ?_
            refine z_sub M [3, 4, 5, 6, 2, 1] (lv' := [(0, .ref (a 0)), (1, .int v1), (2, .int v2), (3, .int v3), (4, .int ((σ0.2.1 15) (Int32.toNatClampNeg v3))), (5, .int ((σ0.2.1 17) (Int32.toNatClampNeg v3)))]) rfl ?_
            exact wJ_X12_fails_129 M (k7 := (fun w2 w3 => L_X12_fails_7 σ0 v1 n7 w2 w3)) v1 v2 v3 ((σ0.2.1 15) (Int32.toNatClampNeg v3)) ((σ0.2.1 17) (Int32.toNatClampNeg v3)) (1 : Int32) ih h
        · have h := gIt hc h
          refine z_iload M dt_X12_fails_4.1.1.1.1 0 rfl ?_
          refine z_if_le (tgt := 115) M dt_X12_fails_4.1.1.1.2 (by decide) (fun hc => ?_) (fun hc => ?_)
          · have h := gIt hc h
            refine z_iconst M dt_X12_fails_4.1.2.1.1 ki_0 ?_
            refine z_goto (tgt := 129) M dt_X12_fails_4.1.2.1.2 (by decide) ?_
            refine z_sub M [3, 4, 5, 6, 2, 1] (lv' := [(0, .ref (a 0)), (1, .int v1), (2, .int v2), (3, .int v3), (4, .int ((σ0.2.1 15) (Int32.toNatClampNeg v3))), (5, .int ((σ0.2.1 17) (Int32.toNatClampNeg v3)))]) rfl ?_
            exact wJ_X12_fails_129 M (k7 := (fun w2 w3 => L_X12_fails_7 σ0 v1 n7 w2 w3)) v1 v2 v3 ((σ0.2.1 15) (Int32.toNatClampNeg v3)) ((σ0.2.1 17) (Int32.toNatClampNeg v3)) (0 : Int32) ih h
          · have h := gIf hc h
            refine z_iconst M dt_X12_fails_4.1.1.2.1 ki_1 ?_
            refine z_goto (tgt := 129) M dt_X12_fails_4.1.1.2.2 (by decide) ?_
            refine z_sub M [3, 4, 5, 6, 2, 1] (lv' := [(0, .ref (a 0)), (1, .int v1), (2, .int v2), (3, .int v3), (4, .int ((σ0.2.1 15) (Int32.toNatClampNeg v3))), (5, .int ((σ0.2.1 17) (Int32.toNatClampNeg v3)))]) rfl ?_
            exact wJ_X12_fails_129 M (k7 := (fun w2 w3 => L_X12_fails_7 σ0 v1 n7 w2 w3)) v1 v2 v3 ((σ0.2.1 15) (Int32.toNatClampNeg v3)) ((σ0.2.1 17) (Int32.toNatClampNeg v3)) (1 : Int32) ih h
      · have h := gIt hc h
        refine z_iload M dt_X12_fails_3.1.2.1.1 0 rfl ?_
        refine z_if_ge (tgt := 92) M dt_X12_fails_3.1.2.1.2 (by decide) (fun hc => ?_) (fun hc => ?_)
        · have h := gIt hc h
          refine z_iconst M dt_X12_fails_3.2.1.1.1 ki_0 ?_
          refine z_goto (tgt := 129) M dt_X12_fails_3.2.1.1.2 (by decide) ?_
          refine z_sub M [3, 4, 5, 6, 2, 1] (lv' := [(0, .ref (a 0)), (1, .int v1), (2, .int v2), (3, .int v3), (4, .int ((σ0.2.1 15) (Int32.toNatClampNeg v3))), (5, .int ((σ0.2.1 17) (Int32.toNatClampNeg v3)))]) rfl ?_
          exact wJ_X12_fails_129 M (k7 := (fun w2 w3 => L_X12_fails_7 σ0 v1 n7 w2 w3)) v1 v2 v3 ((σ0.2.1 15) (Int32.toNatClampNeg v3)) ((σ0.2.1 17) (Int32.toNatClampNeg v3)) (0 : Int32) ih h
        · have h := gIf hc h
          refine z_iconst M dt_X12_fails_3.1.2.2.1 ki_1 ?_
          refine z_goto (tgt := 129) M dt_X12_fails_3.1.2.2.2 (by decide) ?_
          refine z_sub M [3, 4, 5, 6, 2, 1] (lv' := [(0, .ref (a 0)), (1, .int v1), (2, .int v2), (3, .int v3), (4, .int ((σ0.2.1 15) (Int32.toNatClampNeg v3))), (5, .int ((σ0.2.1 17) (Int32.toNatClampNeg v3)))]) rfl ?_
          exact wJ_X12_fails_129 M (k7 := (fun w2 w3 => L_X12_fails_7 σ0 v1 n7 w2 w3)) v1 v2 v3 ((σ0.2.1 15) (Int32.toNatClampNeg v3)) ((σ0.2.1 17) (Int32.toNatClampNeg v3)) (1 : Int32) ih h
set_option maxHeartbeats 4000000 in
set_option maxRecDepth 100000 in
theorem m_X12_fails (hD : ∀ σ, va_D A (mW a cy ad σ)) {σ0 : Zst} {p0 : Int32} {o : Int32} (h : f_X12_fails σ0 p0 = some o) : zT l D zcl (zty cy) A ad (mW a cy ad) yX12_fails cX12_fails 8 (some .int) 2 [.ref (a 0), .int p0] σ0 σ0 (some (.int o)) := by
  refine z_met pn_X12 hD (Nat.le_of_ble_eq_true rfl) rfl (fun G M => ?_)
  refine z_iconst M dt_X12_fails_0.1.1.1.1 ki_0 ?_
  refine z_istore_n (lv' := [(2, .int (0 : Int32)), (0, .ref (a 0)), (1, .int p0)]) M dt_X12_fails_0.1.1.1.2 rfl (by decide) rfl ?_
  refine z_bipush M dt_X12_fails_0.1.1.2.1 kb_12 ?_
  refine z_iload_n M dt_X12_fails_0.1.1.2.2 rfl 2 rfl ?_
  refine z_imul M dt_X12_fails_0.1.2.1.1 ?_
  refine z_istore_n (lv' := [(3, .int ((12 : Int32) * p0)), (2, .int (0 : Int32)), (0, .ref (a 0)), (1, .int p0)]) M dt_X12_fails_0.1.2.1.2 rfl (by decide) rfl ?_
  refine z_sub M [2, 3, 1, 0] (lv' := [(0, .ref (a 0)), (1, .int p0), (2, .int (0 : Int32)), (3, .int ((12 : Int32) * p0))]) rfl ?_
  exact wL_X12_fails_7 M  p0 zFu (0 : Int32) ((12 : Int32) * p0) h
theorem k_X12_fails {n : Nat} (M : zM l D zcl (zty cy) A ad (zR n) (mW a cy ad) own cc nL rt σo ov G) {p0 : Int32} {o : Int32} (h : f_X12_fails σ p0 = some o) {index : Nat} (hl : Cond.methodLink own index yX12_fails ∈ uw) (hR : 3 ≤ n) (hW : (st.map fun v => v.category).sum ≤ 8) (d : decode cc pc = .ok (.invokevirtual index, 3)) (kk : G σ lv (pc + 3) (.int o :: st)) : G σ lv pc (.int p0 :: .ref (a 0) :: st) := z_callV M [.int p0] (m_X12_fails (zM_hD M) h) (hM0 σ) rfl hl u99 u1832 u1831 u77 hd_X12_fails hR (by decide) rfl hW d kk
set_option maxHeartbeats 4000000 in
set_option maxRecDepth 100000 in
theorem wL_X12_holding_9 {o : (Zst × Int32)} (M : zM l D zcl (zty cy) A ad (zR 5) (mW a cy ad) RX12 cX12_holding 4 (some .int) o.1 (some (.int o.2)) G) (σ : Zst)   :
    ∀ (n9 : Nat) (v2 : Int32) (v3 : Int32), L_X12_holding_9 σ n9 v2 v3 = some o → G σ [(0, .ref (a 0)), (2, .int v2), (3, .int v3)] 9 [] := by
  intro n9
  induction n9 with
  | zero => intro v2 v3 h; exact nomatch (show (none : Option (Zst × Int32)) = some _ from h)
  | succ n9 ih =>
    intro v2 v3 h
    refine z_iload_n M dt_X12_holding_0.1.2.2.2 rfl 2 rfl ?_
    refine z_aload_n M dt_X12_holding_0.2.1.1.1 rfl 0 rfl ?_
    refine gf_X12_stories (σ := σ) M u1998 dt_X12_holding_0.2.1.1.2 (v := (σ.1 20)) rfl ?_
    refine z_icmp_ge (tgt := 41) M dt_X12_holding_0.2.1.2.1 (by decide) (fun hc => ?_) (fun hc => ?_)
    · have h := gIt hc h
      refine z_iload_n M dt_X12_holding_1.2.2.1 rfl 1 rfl ?_
      obtain rfl := Option.some.inj h
      exact z_iret M dt_X12_holding_1.2.2.2
    · have h := gIf hc h
      refine z_iload_n M dt_X12_holding_0.2.1.2.2 rfl 1 rfl ?_
      refine z_aload_n M dt_X12_holding_0.2.2.1.1 rfl 0 rfl ?_
      refine z_iload_n M dt_X12_holding_0.2.2.1.2 rfl 2 rfl ?_
      obtain ⟨t1, hc, h⟩ := gBd h
      refine k_X12_fails M hc u1829 (Nat.le_of_ble_eq_true rfl) (Nat.le_of_ble_eq_true rfl) dt_X12_holding_0.2.2.2.1 ?_
      have hJ3 : G σ [(0, .ref (a 0)), (2, .int v2), (3, .int v3)] 33 [.int (if t1 = (0 : Int32) then (jShl (1 : Int32) v3) else (0 : Int32)), .int v2] := by
        refine z_ior M dt_X12_holding_1.1.2.2 ?_
        refine z_istore_n (lv' := [(2, .int (v2 ||| (if t1 = (0 : Int32) then (jShl (1 : Int32) v3) else (0 : Int32)))), (0, .ref (a 0)), (3, .int v3)]) M dt_X12_holding_1.2.1.1.1 rfl (by decide) rfl ?_
        refine z_iinc (v := (v3 + (1 : Int32))) (lv' := [(3, .int (v3 + (1 : Int32))), (2, .int (v2 ||| (if t1 = (0 : Int32) then (jShl (1 : Int32) v3) else (0 : Int32)))), (0, .ref (a 0))]) M dt_X12_holding_1.2.1.1.2 (k := 2) rfl (congrArg (fun q => v3 + q) ki_1) (by decide) rfl ?_
        refine z_goto (tgt := 9) M dt_X12_holding_1.2.1.2 (by decide) ?_
        refine z_sub M [2, 1, 0] (lv' := [(0, .ref (a 0)), (2, .int (v2 ||| (if t1 = (0 : Int32) then (jShl (1 : Int32) v3) else (0 : Int32)))), (3, .int (v3 + (1 : Int32)))]) rfl ?_
        exact ih (v2 ||| (if t1 = (0 : Int32) then (jShl (1 : Int32) v3) else (0 : Int32))) (v3 + (1 : Int32)) h
      refine z_if_ne (tgt := 32) M dt_X12_holding_0.2.2.2.2 (by decide) (fun hc2 => ?_) (fun hc2 => ?_)
      · refine z_iconst M dt_X12_holding_1.1.2.1.2 ki_0 ?_
        exact (zTf hc2 hJ3)
      · refine z_iconst M dt_X12_holding_1.1.1.1.1 ki_1 ?_
        refine z_iload_n M dt_X12_holding_1.1.1.1.2 rfl 2 rfl ?_
        refine z_ishl M dt_X12_holding_1.1.1.2 ?_
        refine z_goto (tgt := 33) M dt_X12_holding_1.1.2.1.1 (by decide) ?_
        exact (zTt hc2 hJ3)
set_option maxHeartbeats 4000000 in
set_option maxRecDepth 100000 in
theorem m_X12_holding (hD : ∀ σ, va_D A (mW a cy ad σ)) {σ : Zst} {p0 : Int32} {o : (Zst × Int32)} (h : f_X12_holding σ p0 = some o) : zT l D zcl (zty cy) A ad (mW a cy ad) yX12_holding cX12_holding 4 (some .int) 5 [.ref (a 0), .int p0] σ o.1 (some (.int o.2)) := by
  refine z_met pn_X12 hD (Nat.le_of_ble_eq_true rfl) rfl (fun G M => ?_)
  refine z_aload_n M dt_X12_holding_0.1.1.1.1 rfl 0 rfl ?_
  refine z_iload_n M dt_X12_holding_0.1.1.1.2 rfl 1 rfl ?_
  obtain ⟨t4, hc, h⟩ := gBd h
  refine k_X12_means M hc u1825 (Nat.le_of_ble_eq_true rfl) (Nat.le_of_ble_eq_true rfl) dt_X12_holding_0.1.1.2.1 ?_
  refine z_iconst M dt_X12_holding_0.1.1.2.2 ki_0 ?_
  refine z_istore_n (lv' := [(2, .int (0 : Int32)), (0, .ref (a 0)), (1, .int p0)]) M dt_X12_holding_0.1.2.1.1 rfl (by decide) rfl ?_
  refine z_iconst M dt_X12_holding_0.1.2.1.2 ki_0 ?_
  refine z_istore_n (lv' := [(3, .int (0 : Int32)), (2, .int (0 : Int32)), (0, .ref (a 0)), (1, .int p0)]) M dt_X12_holding_0.1.2.2.1 rfl (by decide) rfl ?_
  refine z_sub M [2, 1, 0] (lv' := [(0, .ref (a 0)), (2, .int (0 : Int32)), (3, .int (0 : Int32))]) rfl ?_
  exact wL_X12_holding_9 M  t4 zFu (0 : Int32) (0 : Int32) h
theorem k_X12_holding {n : Nat} (M : zM l D zcl (zty cy) A ad (zR n) (mW a cy ad) own cc nL rt σo ov G) {p0 : Int32} {o : (Zst × Int32)} (h : f_X12_holding σ p0 = some o) {index : Nat} (hl : Cond.methodLink own index yX12_holding ∈ uw) (hR : 6 ≤ n) (hW : (st.map fun v => v.category).sum ≤ 8) (d : decode cc pc = .ok (.invokevirtual index, 3)) (kk : G o.1 lv (pc + 3) (.int o.2 :: st)) : G σ lv pc (.int p0 :: .ref (a 0) :: st) := z_callV M [.int p0] (m_X12_holding (zM_hD M) h) (hM0 σ) rfl hl u99 u1824 u1823 u75 hd_X12_holding hR (by decide) rfl hW d kk
set_option maxHeartbeats 4000000 in
set_option maxRecDepth 100000 in
theorem wL_X12_holds_28 {o : (Zst × Int32)} (M : zM l D zcl (zty cy) A ad (zR 6) (mW a cy ad) RX12 cX12_holds 4 (some .int) o.1 (some (.int o.2)) G)  (v2 : Int32)  :
    ∀ (n28 : Nat) (σ : Zst) (v3 : Int32), L_X12_holds_28 v2 n28 σ v3 = some o → G σ [(0, .ref (a 0)), (2, .int v2), (3, .int v3)] 28 [] := by
  intro n28
  induction n28 with
  | zero => intro σ v3 h; exact nomatch (show (none : Option (Zst × Int32)) = some _ from h)
  | succ n28 ih =>
    intro σ v3 h
    refine z_iload_n M dt_X12_holds_1.1.1.2.1 rfl 2 rfl ?_
    refine z_aload_n M dt_X12_holds_1.1.1.2.2 rfl 0 rfl ?_
    refine gf_X12_stories (σ := σ) M u1998 dt_X12_holds_1.1.2.1.1 (v := (σ.1 20)) rfl ?_
    refine z_icmp_ge (tgt := 52) M dt_X12_holds_1.1.2.1.2 (by decide) (fun hc => ?_) (fun hc => ?_)
    · have h := gIt hc h
      refine z_iload_n M dt_X12_holds_1.2.2.2.1 rfl 1 rfl ?_
      obtain rfl := Option.some.inj h
      exact z_iret M dt_X12_holds_1.2.2.2.2
    · have h := gIf hc h
      refine z_aload_n M dt_X12_holds_1.1.2.2.1 rfl 0 rfl ?_
      refine z_aload_n M dt_X12_holds_1.1.2.2.2 rfl 0 rfl ?_
      refine z_iload_n M dt_X12_holds_1.2.1.1.1 rfl 2 rfl ?_
      obtain ⟨t1, hc, h⟩ := gBd h
      refine k_X12_fails M hc u1829 (Nat.le_of_ble_eq_true rfl) (Nat.le_of_ble_eq_true rfl) dt_X12_holds_1.2.1.1.2 ?_
      refine z_i2l M dt_X12_holds_1.2.1.2.1 ?_
      obtain ⟨t2, hc, h⟩ := gBd h
      refine k_X12_enters M hc u1708 (Nat.le_of_ble_eq_true rfl) (Nat.le_of_ble_eq_true rfl) dt_X12_holds_1.2.1.2.2 ?_
      refine z_iinc (v := (v3 + (1 : Int32))) (lv' := [(3, .int (v3 + (1 : Int32))), (0, .ref (a 0)), (2, .int v2)]) M dt_X12_holds_1.2.2.1.1 (k := 2) rfl (congrArg (fun q => v3 + q) ki_1) (by decide) rfl ?_
      refine z_goto (tgt := 28) M dt_X12_holds_1.2.2.1.2 (by decide) ?_
      refine z_sub M [1, 2, 0] (lv' := [(0, .ref (a 0)), (2, .int v2), (3, .int (v3 + (1 : Int32)))]) rfl ?_
      exact ih t2 (v3 + (1 : Int32)) h
set_option maxHeartbeats 4000000 in
set_option maxRecDepth 100000 in
theorem m_X12_holds (hD : ∀ σ, va_D A (mW a cy ad σ)) {σ : Zst} {p0 : Int32} {o : (Zst × Int32)} (h : f_X12_holds σ p0 = some o) : zT l D zcl (zty cy) A ad (mW a cy ad) yX12_holds cX12_holds 4 (some .int) 6 [.ref (a 0), .int p0] σ o.1 (some (.int o.2)) := by
  refine z_met pn_X12 hD (Nat.le_of_ble_eq_true rfl) rfl (fun G M => ?_)
  refine z_aload_n M dt_X12_holds_0.1.1.1.1 rfl 0 rfl ?_
  refine z_iconst M dt_X12_holds_0.1.1.1.2 ki_0 ?_
  refine pf_X12_thrown M u1960 dt_X12_holds_0.1.1.2.1 ?_
  refine z_aload_n M dt_X12_holds_0.1.1.2.2 rfl 0 rfl ?_
  refine z_iload_n M dt_X12_holds_0.1.2.1.1 rfl 1 rfl ?_
  refine k_X12_isSort M u1526 (Nat.le_of_ble_eq_true rfl) (Nat.le_of_ble_eq_true rfl) dt_X12_holds_0.1.2.1.2 ?_
  refine z_if_ne (tgt := 15) M dt_X12_holds_0.1.2.2.1 (by decide) (fun hc => ?_) (fun hc => ?_)
  · have h := gIf hc h
    refine z_aload_n M dt_X12_holds_0.2.1.1.2 rfl 0 rfl ?_
    refine z_iload_n M dt_X12_holds_0.2.1.2.1 rfl 1 rfl ?_
    obtain ⟨t3, hc, h⟩ := gBd h
    refine k_X12_holding M hc u1821 (Nat.le_of_ble_eq_true rfl) (Nat.le_of_ble_eq_true rfl) dt_X12_holds_0.2.1.2.2 ?_
    refine z_istore_n (lv' := [(2, .int t3.2), (0, .ref (a 0)), (1, .int p0)]) M dt_X12_holds_0.2.2.1.1 rfl (by decide) rfl ?_
    refine z_aload_n M dt_X12_holds_0.2.2.1.2 rfl 1 rfl ?_
    refine z_iconst M dt_X12_holds_0.2.2.2.1 ki_0 ?_
    refine pf_X12_rows M u1961 dt_X12_holds_0.2.2.2.2 ?_
    refine z_iconst M dt_X12_holds_1.1.1.1.1 ki_0 ?_
    refine z_istore_n (lv' := [(3, .int (0 : Int32)), (2, .int t3.2), (0, .ref (a 0)), (1, .int p0)]) M dt_X12_holds_1.1.1.1.2 rfl (by decide) rfl ?_
    refine z_sub M [2, 1, 0] (lv' := [(0, .ref (a 0)), (2, .int t3.2), (3, .int (0 : Int32))]) rfl ?_
    exact wL_X12_holds_28 M  t3.2 zFu (zI t3.1 1 (0 : Int32)) (0 : Int32) h
  · have h := gIt hc h
    refine z_iconst M dt_X12_holds_0.1.2.2.2 ki_m1 ?_
    obtain rfl := Option.some.inj h
    exact z_iret M dt_X12_holds_0.2.1.1.1
end ZWK
