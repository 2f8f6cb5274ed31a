section ZWK
variable {l : Launch} {D : va_G} {A : Nat → Prop} {ad : (Nat → Nat) × (Nat → Nat)} {a : Nat → Nat} {cy : ClassId × (ClassId × (ClassId × ClassId))} {own : String} {cc : ByteArray} {nL : Nat} {rt : Option FieldType} {σo : Zst} {ov : Option Value} {G : Zst → List (Nat × Value) → Nat → List Value → Prop}
variable {σ σ0 : Zst} {lv : List (Nat × Value)} {pc : Nat} {st : List Value} {zcl0 : List vw_C} {tys : List (ClassId × FieldType)} {wf : Zst → va_W}
set_option maxHeartbeats 4000000 in
set_option maxRecDepth 100000 in
theorem wL_X8_partingSort_7 {o : (Zst × Int32)} (M : zM l D zcl (zty cy) A ad (zR 10) (cW a cy) RX8 cX8_partingSort 5 (some .int) o.1 (some (.int o.2)) G) {k57 : Zst → Int32 → Int32 → Option (Zst × Int32)}   (Hk57 : ∀ (σ : Zst) (w1 : Int32) (w2 : Int32), k57 σ w1 w2 = some o → G σ [(0, .ref (a 30)), (1, .int w1), (2, .int w2)] 57 []) :
    ∀ (n7 : Nat) (σ : Zst) (v1 : Int32) (v2 : Int32) (v3 : Int32), L_X8_partingSort_7 k57 n7 σ v1 v2 v3 = some o → G σ [(0, .ref (a 30)), (1, .int v1), (2, .int v2), (3, .int v3)] 7 [] := by
  intro n7
  induction n7 with
  | zero => intro σ v1 v2 v3 h; exact nomatch (show (none : Option (Zst × Int32)) = some _ from h)
  | succ n7 ih =>
    intro σ v1 v2 v3 h
    refine z_iload_n M dt_X8_partingSort_0.1.2.2.1 rfl 3 rfl ?_
    refine z_aload_n M dt_X8_partingSort_0.1.2.2.2 rfl 0 rfl ?_
    refine gf_X8_town M u313 dt_X8_partingSort_0.2.1.1.1 ?_
    refine k_X10_sortCount M u1139 (Nat.le_of_ble_eq_true rfl) (Nat.le_of_ble_eq_true rfl) dt_X8_partingSort_0.2.1.1.2 ?_
    refine z_icmp_ge (tgt := 57) M dt_X8_partingSort_0.2.1.2.1 (by decide) (fun hc => ?_) (fun hc => ?_)
    · have h := gIt hc h
      refine z_sub M [0, 1, 2] (lv' := [(0, .ref (a 30)), (1, .int v1), (2, .int v2)]) rfl ?_
      exact Hk57 σ v1 v2 h
    · have h := gIf hc h
      refine z_aload_n M dt_X8_partingSort_0.2.1.2.2 rfl 0 rfl ?_
      refine z_iload_n M dt_X8_partingSort_0.2.2.1.1 rfl 3 rfl ?_
      obtain ⟨t1, hc, h⟩ := gBd h
      refine k_X8_judge M hc u1108 (Nat.le_of_ble_eq_true rfl) (Nat.le_of_ble_eq_true rfl) dt_X8_partingSort_0.2.2.1.2 ?_
      refine z_istore (lv' := [(4, .int t1.2), (0, .ref (a 30)), (1, .int v1), (2, .int v2), (3, .int v3)]) M dt_X8_partingSort_0.2.2.2.1 (by decide) rfl ?_
      refine z_iload M dt_X8_partingSort_0.2.2.2.2 0 rfl ?_
      refine z_if_eq (tgt := 51) M dt_X8_partingSort_1.1.1.1.1 (by decide) (fun hc => ?_) (fun hc => ?_)
      · have h := gIt hc h
        refine z_iinc (v := (v3 + (1 : Int32))) (lv' := [(3, .int (v3 + (1 : Int32))), (4, .int t1.2), (0, .ref (a 30)), (1, .int v1), (2, .int v2)]) M dt_X8_partingSort_1.2.2.1.1 (k := 4) rfl (congrArg (fun q => v3 + q) ki_1) (by decide) rfl ?_
        refine z_goto (tgt := 7) M dt_X8_partingSort_1.2.2.1.2 (by decide) ?_
        refine z_sub M [2, 3, 4, 0] (lv' := [(0, .ref (a 30)), (1, .int v1), (2, .int v2), (3, .int (v3 + (1 : Int32)))]) rfl ?_
        exact ih t1.1 v1 v2 (v3 + (1 : Int32)) h
      · have h := gIf hc h
        refine z_iload_n M dt_X8_partingSort_1.1.1.1.2 rfl 2 rfl ?_
        refine z_if_lt (tgt := 46) M dt_X8_partingSort_1.1.1.2.1 (by decide) (fun hc => ?_) (fun hc => ?_)
        · have h := gIt hc h
          refine z_iload_n M dt_X8_partingSort_1.2.1.1.1 rfl 4 rfl ?_
          refine z_istore_n (lv' := [(1, .int v3), (4, .int t1.2), (0, .ref (a 30)), (2, .int v2), (3, .int v3)]) M dt_X8_partingSort_1.2.1.1.2 rfl (by decide) rfl ?_
          refine z_iload M dt_X8_partingSort_1.2.1.2.1 1 rfl ?_
          refine z_istore_n (lv' := [(2, .int t1.2), (1, .int v3), (4, .int t1.2), (0, .ref (a 30)), (3, .int v3)]) M dt_X8_partingSort_1.2.1.2.2 rfl (by decide) rfl ?_
          refine z_iinc (v := (v3 + (1 : Int32))) (lv' := [(3, .int (v3 + (1 : Int32))), (2, .int t1.2), (1, .int v3), (4, .int t1.2), (0, .ref (a 30))]) M dt_X8_partingSort_1.2.2.1.1 (k := 4) rfl (congrArg (fun q => v3 + q) ki_1) (by decide) rfl ?_
          refine z_goto (tgt := 7) M dt_X8_partingSort_1.2.2.1.2 (by decide) ?_
          refine z_sub M [4, 2, 1, 0] (lv' := [(0, .ref (a 30)), (1, .int v3), (2, .int t1.2), (3, .int (v3 + (1 : Int32)))]) rfl ?_
          exact ih t1.1 v3 t1.2 (v3 + (1 : Int32)) h
        · have h := gIf hc h
          refine z_iload M dt_X8_partingSort_1.1.1.2.2 0 rfl ?_
          refine k_J6_bitCount_0f7a4 M u1140 (Nat.le_of_ble_eq_true rfl) (Nat.le_of_ble_eq_true rfl) dt_X8_partingSort_1.1.2.1.1 ?_
          refine z_iload_n M dt_X8_partingSort_1.1.2.1.2 rfl 3 rfl ?_
          refine k_J6_bitCount_0f7a4 M u1140 (Nat.le_of_ble_eq_true rfl) (Nat.le_of_ble_eq_true rfl) dt_X8_partingSort_1.1.2.2.1 ?_
          refine z_icmp_ge (tgt := 51) M dt_X8_partingSort_1.1.2.2.2 (by decide) (fun hc => ?_) (fun hc => ?_)
          · have h := gIt hc h
            refine z_iinc (v := (v3 + (1 : Int32))) (lv' := [(3, .int (v3 + (1 : Int32))), (4, .int t1.2), (0, .ref (a 30)), (1, .int v1), (2, .int v2)]) M dt_X8_partingSort_1.2.2.1.1 (k := 4) rfl (congrArg (fun q => v3 + q) ki_1) (by decide) rfl ?_
            refine z_goto (tgt := 7) M dt_X8_partingSort_1.2.2.1.2 (by decide) ?_
            refine z_sub M [2, 3, 4, 0] (lv' := [(0, .ref (a 30)), (1, .int v1), (2, .int v2), (3, .int (v3 + (1 : Int32)))]) rfl ?_
            exact ih t1.1 v1 v2 (v3 + (1 : Int32)) h
          · have h := gIf hc h
            refine z_iload_n M dt_X8_partingSort_1.2.1.1.1 rfl 4 rfl ?_
            refine z_istore_n (lv' := [(1, .int v3), (4, .int t1.2), (0, .ref (a 30)), (2, .int v2), (3, .int v3)]) M dt_X8_partingSort_1.2.1.1.2 rfl (by decide) rfl ?_
            refine z_iload M dt_X8_partingSort_1.2.1.2.1 1 rfl ?_
            refine z_istore_n (lv' := [(2, .int t1.2), (1, .int v3), (4, .int t1.2), (0, .ref (a 30)), (3, .int v3)]) M dt_X8_partingSort_1.2.1.2.2 rfl (by decide) rfl ?_
            refine z_iinc (v := (v3 + (1 : Int32))) (lv' := [(3, .int (v3 + (1 : Int32))), (2, .int t1.2), (1, .int v3), (4, .int t1.2), (0, .ref (a 30))]) M dt_X8_partingSort_1.2.2.1.1 (k := 4) rfl (congrArg (fun q => v3 + q) ki_1) (by decide) rfl ?_
            refine z_goto (tgt := 7) M dt_X8_partingSort_1.2.2.1.2 (by decide) ?_
            refine z_sub M [4, 2, 1, 0] (lv' := [(0, .ref (a 30)), (1, .int v3), (2, .int t1.2), (3, .int (v3 + (1 : Int32)))]) rfl ?_
            exact ih t1.1 v3 t1.2 (v3 + (1 : Int32)) h
set_option maxHeartbeats 4000000 in
set_option maxRecDepth 100000 in
theorem wJ_X8_partingSort_57 {o : (Zst × Int32)} (M : zM l D zcl (zty cy) A ad (zR 10) (cW a cy) RX8 cX8_partingSort 5 (some .int) o.1 (some (.int o.2)) G) (σ : Zst) (v1 : Int32) (v2 : Int32)  (h : J_X8_partingSort_57 σ v1 v2 = some o) : G σ [(0, .ref (a 30)), (1, .int v1), (2, .int v2)] 57 [] := by
  refine z_iload_n M dt_X8_partingSort_1.2.2.2.1 rfl 1 rfl ?_
  refine z_if_lt (tgt := 74) M dt_X8_partingSort_1.2.2.2.2 (by decide) (fun hc => ?_) (fun hc => ?_)
  · have h := gIt hc h
    refine z_iload_n M dt_X8_partingSort_2.2.2.1 rfl 1 rfl ?_
    obtain rfl := Option.some.inj h
    exact z_iret M dt_X8_partingSort_2.2.2.2
  · have h := gIf hc h
    refine z_aload_n M dt_X8_partingSort_2.1.1.1.1 rfl 0 rfl ?_
    refine gf_X8_row M u315 dt_X8_partingSort_2.1.1.1.2 ?_
    obtain ⟨t2, hc, h⟩ := gBd h
    refine k_X5_clear M hc u1074 (Nat.le_of_ble_eq_true rfl) (Nat.le_of_ble_eq_true rfl) dt_X8_partingSort_2.1.1.2 ?_
    refine z_iload_n M dt_X8_partingSort_2.1.2.1 rfl 2 rfl ?_
    refine z_i2l M dt_X8_partingSort_2.1.2.2 ?_
    obtain ⟨t3, hc, h⟩ := gBd h
    refine k_X5_add M hc u1130 (Nat.le_of_ble_eq_true rfl) (Nat.le_of_ble_eq_true rfl) dt_X8_partingSort_2.2.1.1 ?_
    refine z_pop M dt_X8_partingSort_2.2.1.2 rfl ?_
    refine z_iload_n M dt_X8_partingSort_2.2.2.1 rfl 1 rfl ?_
    obtain rfl := Option.some.inj h
    exact z_iret M dt_X8_partingSort_2.2.2.2
set_option maxHeartbeats 4000000 in
set_option maxRecDepth 100000 in
theorem m_X8_partingSort (hD : ∀ σ, va_D A (cW a cy σ)) {σ : Zst}  {o : (Zst × Int32)} (h : f_X8_partingSort σ = some o) : zT l D zcl (zty cy) A ad (cW a cy) yX8_partingSort cX8_partingSort 5 (some .int) 10 [.ref (a 30)] σ o.1 (some (.int o.2)) := by
  refine z_met pn_X8 hD (Nat.le_of_ble_eq_true rfl) rfl (fun G M => ?_)
  refine z_bipush M dt_X8_partingSort_0.1.1.1.1 kb_m2 ?_
  refine z_istore_n (lv' := [(1, .int (-2 : Int32)), (0, .ref (a 30))]) M dt_X8_partingSort_0.1.1.1.2 rfl (by decide) rfl ?_
  refine z_iconst M dt_X8_partingSort_0.1.1.2.1 ki_0 ?_
  refine z_istore_n (lv' := [(2, .int (0 : Int32)), (1, .int (-2 : Int32)), (0, .ref (a 30))]) M dt_X8_partingSort_0.1.1.2.2 rfl (by decide) rfl ?_
  refine z_iconst M dt_X8_partingSort_0.1.2.1.1 ki_0 ?_
  refine z_istore_n (lv' := [(3, .int (0 : Int32)), (2, .int (0 : Int32)), (1, .int (-2 : Int32)), (0, .ref (a 30))]) M dt_X8_partingSort_0.1.2.1.2 rfl (by decide) rfl ?_
  refine z_sub M [3, 2, 1, 0] (lv' := [(0, .ref (a 30)), (1, .int (-2 : Int32)), (2, .int (0 : Int32)), (3, .int (0 : Int32))]) rfl ?_
  exact wL_X8_partingSort_7 M (k57 := (fun σ6 w4 w5 => J_X8_partingSort_57 σ6 w4 w5)) (fun σ6 w4 w5 h => by
      exact wJ_X8_partingSort_57 M  σ6 w4 w5 h) zFu σ (-2 : Int32) (0 : Int32) (0 : Int32) h
theorem k_X8_partingSort {n : Nat} (M : zM l D zcl (zty cy) A ad (zR n) (cW a cy) own cc nL rt σo ov G)  {o : (Zst × Int32)} (h : f_X8_partingSort σ = some o) {index : Nat} (hl : Cond.methodLink own index yX8_partingSort ∈ uw) (hR : 11 ≤ n) (hW : (st.map fun v => v.category).sum ≤ 8) (d : decode cc pc = .ok (.invokevirtual index, 3)) (kk : G o.1 lv (pc + 3) (.int o.2 :: st)) : G σ lv pc (.ref (a 30) :: st) := z_callV M [] (m_X8_partingSort (zM_hD M) h) (hC30 σ) rfl hl u95 u1138 u1136 u1137 hd_X8_partingSort hR (by decide) rfl hW d kk
set_option maxHeartbeats 4000000 in
set_option maxRecDepth 100000 in
theorem m_X11_parts (hD : ∀ σ, va_D A (cW a cy σ)) {σ : Zst}  {o : (Zst × Int32)} (h : f_X11_parts σ = some o) : zT l D zcl (zty cy) A ad (cW a cy) yX11_parts cX11_parts 1 (some .int) 11 [.ref (a 0)] σ o.1 (some (.int o.2)) := by
  refine z_met pn_X11 hD (Nat.le_of_ble_eq_true rfl) rfl (fun G M => ?_)
  refine z_aload_n M dt_X11_parts_0.1.1 rfl 0 rfl ?_
  refine gf_X11_stories M u436 dt_X11_parts_0.1.2 ?_
  obtain ⟨t1, hc, h⟩ := gBd h
  refine k_X8_partingSort M hc u1135 (Nat.le_of_ble_eq_true rfl) (Nat.le_of_ble_eq_true rfl) dt_X11_parts_0.2.1 ?_
  obtain rfl := Option.some.inj h
  exact z_iret M dt_X11_parts_0.2.2
set_option maxHeartbeats 4000000 in
set_option maxRecDepth 100000 in
theorem m_X7_add (hD : ∀ σ, va_D A (cW a cy σ)) {σ : Zst} {p0 : Int32} {p1 : Int32} {p2 : Int32} {o : (Zst × Int32)} (h : f_X7_add σ p0 p1 p2 = some o) : zT l D zcl (zty cy) A ad (cW a cy) yX7_add cX7_add 4 (some .int) 2 [.ref (a 36), .int p0, .int p1, .int p2] σ o.1 (some (.int o.2)) := by
  refine z_met pn_X7 hD (Nat.le_of_ble_eq_true rfl) rfl (fun G M => ?_)
  refine z_aload_n M dt_X7_add_0.1.1.1.1 rfl 0 rfl ?_
  refine gf_X7_town M u346 dt_X7_add_0.1.1.1.2 ?_
  refine z_iload_n M dt_X7_add_0.1.1.2.1 rfl 1 rfl ?_
  refine k_X10_hasSort M u1154 (Nat.le_of_ble_eq_true rfl) (Nat.le_of_ble_eq_true rfl) dt_X7_add_0.1.1.2.2 ?_
  refine z_if_eq (tgt := 44) M dt_X7_add_0.1.2.1.1 (by decide) (fun hc => ?_) (fun hc => ?_)
  · have h := gIt hc h
    refine z_iconst M dt_X7_add_1.1.2.1.2 ki_m1 ?_
    obtain rfl := Option.some.inj h
    exact z_iret M dt_X7_add_1.1.2.2.1
  · have h := gIf hc h
    refine z_aload_n M dt_X7_add_0.1.2.1.2 rfl 0 rfl ?_
    refine gf_X7_town M u346 dt_X7_add_0.1.2.2.1 ?_
    refine z_iload_n M dt_X7_add_0.1.2.2.2 rfl 2 rfl ?_
    refine k_X10_hasSort M u1154 (Nat.le_of_ble_eq_true rfl) (Nat.le_of_ble_eq_true rfl) dt_X7_add_0.2.1.1.1 ?_
    refine z_if_eq (tgt := 44) M dt_X7_add_0.2.1.1.2 (by decide) (fun hc => ?_) (fun hc => ?_)
    · have h := gIt hc h
      refine z_iconst M dt_X7_add_1.1.2.1.2 ki_m1 ?_
      obtain rfl := Option.some.inj h
      exact z_iret M dt_X7_add_1.1.2.2.1
    · have h := gIf hc h
      refine z_iload_n M dt_X7_add_0.2.1.2.1 rfl 3 rfl ?_
      refine z_iconst M dt_X7_add_0.2.1.2.2 ki_1 ?_
      refine z_bipush M dt_X7_add_0.2.2.1.1 kb_99 ?_
      refine kn_X11_between M u1155 (Nat.le_of_ble_eq_true rfl) (Nat.le_of_ble_eq_true rfl) dt_X7_add_0.2.2.1.2 ?_
      refine z_if_eq (tgt := 44) M dt_X7_add_0.2.2.2.1 (by decide) (fun hc => ?_) (fun hc => ?_)
      · have h := gIt hc h
        refine z_iconst M dt_X7_add_1.1.2.1.2 ki_m1 ?_
        obtain rfl := Option.some.inj h
        exact z_iret M dt_X7_add_1.1.2.2.1
      · have h := gIf hc h
        refine z_aload_n M dt_X7_add_0.2.2.2.2 rfl 0 rfl ?_
        refine gf_X7_pieces (σ := σ) M u350 dt_X7_add_1.1.1.1.1 (v := (σ.1 21)) rfl ?_
        refine z_iload_n M dt_X7_add_1.1.1.1.2 rfl 3 rfl ?_
        refine z_iadd M dt_X7_add_1.1.1.2.1 ?_
        refine z_sipush M dt_X7_add_1.1.1.2.2 ks_9999 ?_
        refine z_icmp_le (tgt := 46) M dt_X7_add_1.1.2.1.1 (by decide) (fun hc => ?_) (fun hc => ?_)
        · have h := gIt hc h
          refine z_aload_n M dt_X7_add_1.1.2.2.2 rfl 0 rfl ?_
          refine gf_X7_taken M u349 dt_X7_add_1.2.1.1.1 ?_
          refine z_iload_n M dt_X7_add_1.2.1.1.2 rfl 1 rfl ?_
          refine z_bipush M dt_X7_add_1.2.1.2.1 kb_8 ?_
          refine z_imul M dt_X7_add_1.2.1.2.2 ?_
          refine z_iload_n M dt_X7_add_1.2.2.1.1 rfl 2 rfl ?_
          refine z_iadd M dt_X7_add_1.2.2.1.2 ?_
          refine z_dup2_11 M dt_X7_add_1.2.2.2.1 rfl rfl ?_
          have ⟨hg, h⟩ := gIx_s h
          refine al_C37 (σ := σ) M (f := (σ.2.1 22)) rfl hg dt_X7_add_1.2.2.2.2 ?_
          refine z_iload_n M dt_X7_add_2.1.1.1.1 rfl 3 rfl ?_
          refine z_iadd M dt_X7_add_2.1.1.1.2 ?_
          have ⟨hg, h⟩ := gIx_s h
          refine as_C37 (σ := σ) M (f := (σ.2.1 22)) rfl hg dt_X7_add_2.1.1.2 ?_
          refine z_aload_n M dt_X7_add_2.1.2.1.1 rfl 0 rfl ?_
          refine z_dup M dt_X7_add_2.1.2.1.2 rfl ?_
          refine gf_X7_pieces (σ := (zA σ 22 (upd (σ.2.1 22) (Int32.toNatClampNeg ((p0 * (8 : Int32)) + p1)) (((σ.2.1 22) (Int32.toNatClampNeg ((p0 * (8 : Int32)) + p1))) + p2)))) M u350 dt_X7_add_2.1.2.2 (v := (σ.1 21)) rfl ?_
          refine z_iload_n M dt_X7_add_2.2.1.1.1 rfl 3 rfl ?_
          refine z_iadd M dt_X7_add_2.2.1.1.2 ?_
          refine pf_X7_pieces M u350 dt_X7_add_2.2.1.2 ?_
          refine z_aload_n M dt_X7_add_2.2.2.1.1 rfl 0 rfl ?_
          refine gf_X7_pieces (σ := (zI (zA σ 22 (upd (σ.2.1 22) (Int32.toNatClampNeg ((p0 * (8 : Int32)) + p1)) (((σ.2.1 22) (Int32.toNatClampNeg ((p0 * (8 : Int32)) + p1))) + p2))) 21 ((σ.1 21) + p2))) M u350 dt_X7_add_2.2.2.1.2 (v := ((σ.1 21) + p2)) rfl ?_
          obtain rfl := Option.some.inj h
          exact z_iret M dt_X7_add_2.2.2.2
        · have h := gIf hc h
          refine z_iconst M dt_X7_add_1.1.2.1.2 ki_m1 ?_
          obtain rfl := Option.some.inj h
          exact z_iret M dt_X7_add_1.1.2.2.1
theorem k_X7_add {n : Nat} (M : zM l D zcl (zty cy) A ad (zR n) (cW a cy) own cc nL rt σo ov G) {p0 : Int32} {p1 : Int32} {p2 : Int32} {o : (Zst × Int32)} (h : f_X7_add σ p0 p1 p2 = some o) {index : Nat} (hl : Cond.methodLink own index yX7_add ∈ uw) (hR : 3 ≤ n) (hW : (st.map fun v => v.category).sum ≤ 8) (d : decode cc pc = .ok (.invokevirtual index, 3)) (kk : G o.1 lv (pc + 3) (.int o.2 :: st)) : G σ lv pc (.int p2 :: .int p1 :: .int p0 :: .ref (a 36) :: st) := z_callV M [.int p0, .int p1, .int p2] (m_X7_add (zM_hD M) h) (hC36 σ) rfl hl u96 u1153 u1151 u1152 hd_X7_add hR (by decide) rfl hW d kk
set_option maxHeartbeats 4000000 in
set_option maxRecDepth 100000 in
theorem m_X11_twice (hD : ∀ σ, va_D A (cW a cy σ)) {σ : Zst} {p0 : Int32} {p1 : Int32} {p2 : Int32} {o : (Zst × Int32)} (h : f_X11_twice σ p0 p1 p2 = some o) : zT l D zcl (zty cy) A ad (cW a cy) yX11_twice cX11_twice 4 (some .int) 3 [.ref (a 0), .int p0, .int p1, .int p2] σ o.1 (some (.int o.2)) := by
  refine z_met pn_X11 hD (Nat.le_of_ble_eq_true rfl) rfl (fun G M => ?_)
  refine z_aload_n M dt_X11_twice_0.1.1.1 rfl 0 rfl ?_
  refine gf_X11_sorters M u437 dt_X11_twice_0.1.1.2 ?_
  refine z_iload_n M dt_X11_twice_0.1.2.1 rfl 1 rfl ?_
  refine z_iload_n M dt_X11_twice_0.1.2.2 rfl 2 rfl ?_
  refine z_iload_n M dt_X11_twice_0.2.1.1 rfl 3 rfl ?_
  obtain ⟨t1, hc, h⟩ := gBd h
  refine k_X7_add M hc u1150 (Nat.le_of_ble_eq_true rfl) (Nat.le_of_ble_eq_true rfl) dt_X11_twice_0.2.1.2 ?_
  obtain rfl := Option.some.inj h
  exact z_iret M dt_X11_twice_0.2.2
set_option maxHeartbeats 4000000 in
set_option maxRecDepth 100000 in
theorem m_X7_takenAs (hD : ∀ σ, va_D A (cW a cy σ)) {σ0 : Zst} {p0 : Int32} {p1 : Int32} {o : Int32} (h : f_X7_takenAs σ0 p0 p1 = some o) : zT l D zcl (zty cy) A ad (cW a cy) yX7_takenAs cX7_takenAs 3 (some .int) 2 [.ref (a 36), .int p0, .int p1] σ0 σ0 (some (.int o)) := by
  refine z_met pn_X7 hD (Nat.le_of_ble_eq_true rfl) rfl (fun G M => ?_)
  refine z_aload_n M dt_X7_takenAs_0.1.1.1.1 rfl 0 rfl ?_
  refine gf_X7_town M u346 dt_X7_takenAs_0.1.1.1.2 ?_
  refine z_iload_n M dt_X7_takenAs_0.1.1.2.1 rfl 1 rfl ?_
  refine k_X10_hasSort M u1154 (Nat.le_of_ble_eq_true rfl) (Nat.le_of_ble_eq_true rfl) dt_X7_takenAs_0.1.1.2.2 ?_
  refine z_if_eq (tgt := 36) M dt_X7_takenAs_0.1.2.1.1 (by decide) (fun hc => ?_) (fun hc => ?_)
  · have h := gIt hc h
    refine z_iconst M dt_X7_takenAs_1.2.1 ki_0 ?_
    obtain rfl := Option.some.inj h
    exact z_iret M dt_X7_takenAs_1.2.2
  · have h := gIf hc h
    refine z_aload_n M dt_X7_takenAs_0.1.2.1.2 rfl 0 rfl ?_
    refine gf_X7_town M u346 dt_X7_takenAs_0.1.2.2.1 ?_
    refine z_iload_n M dt_X7_takenAs_0.1.2.2.2 rfl 2 rfl ?_
    refine k_X10_hasSort M u1154 (Nat.le_of_ble_eq_true rfl) (Nat.le_of_ble_eq_true rfl) dt_X7_takenAs_0.2.1.1.1 ?_
    refine z_if_eq (tgt := 36) M dt_X7_takenAs_0.2.1.1.2 (by decide) (fun hc => ?_) (fun hc => ?_)
    · have h := gIt hc h
      refine z_iconst M dt_X7_takenAs_1.2.1 ki_0 ?_
      obtain rfl := Option.some.inj h
      exact z_iret M dt_X7_takenAs_1.2.2
    · have h := gIf hc h
      refine z_aload_n M dt_X7_takenAs_0.2.1.2.1 rfl 0 rfl ?_
      refine gf_X7_taken M u349 dt_X7_takenAs_0.2.1.2.2 ?_
      refine z_iload_n M dt_X7_takenAs_0.2.2.1.1 rfl 1 rfl ?_
      refine z_bipush M dt_X7_takenAs_0.2.2.1.2 kb_8 ?_
      refine z_imul M dt_X7_takenAs_0.2.2.2.1 ?_
      refine z_iload_n M dt_X7_takenAs_0.2.2.2.2 rfl 2 rfl ?_
      refine z_iadd M dt_X7_takenAs_1.1.1.1 ?_
      have ⟨hg, h⟩ := gIx_s h
      refine al_C37 (σ := σ0) M (f := (σ0.2.1 22)) rfl hg dt_X7_takenAs_1.1.1.2 ?_
      refine z_goto (tgt := 37) M dt_X7_takenAs_1.1.2 (by decide) ?_
      obtain rfl := Option.some.inj h
      exact z_iret M dt_X7_takenAs_1.2.2
theorem k_X7_takenAs {n : Nat} (M : zM l D zcl (zty cy) A ad (zR n) (cW a cy) own cc nL rt σo ov G) {p0 : Int32} {p1 : Int32} {o : Int32} (h : f_X7_takenAs σ p0 p1 = some o) {index : Nat} (hl : Cond.methodLink own index yX7_takenAs ∈ uw) (hR : 3 ≤ n) (hW : (st.map fun v => v.category).sum ≤ 8) (d : decode cc pc = .ok (.invokevirtual index, 3)) (kk : G σ lv (pc + 3) (.int o :: st)) : G σ lv pc (.int p1 :: .int p0 :: .ref (a 36) :: st) := z_callV M [.int p0, .int p1] (m_X7_takenAs (zM_hD M) h) (hC36 σ) rfl hl u96 u1168 u1167 u32 hd_X7_takenAs hR (by decide) rfl hW d kk
set_option maxHeartbeats 4000000 in
set_option maxRecDepth 100000 in
theorem wL_X7_takenByFirst_4 {o : Int32} (M : zM l D zcl (zty cy) A ad (zR 3) (cW a cy) RX7 cX7_takenByFirst 4 (some .int) σ0 (some (.int o)) G)  (v1 : Int32)  :
    ∀ (n4 : Nat) (v2 : Int32) (v3 : Int32), L_X7_takenByFirst_4 σ0 v1 n4 v2 v3 = some o → G σ0 [(0, .ref (a 36)), (1, .int v1), (2, .int v2), (3, .int v3)] 4 [] := by
  intro n4
  induction n4 with
  | zero => intro v2 v3 h; exact nomatch (show (none : Option Int32) = some _ from h)
  | succ n4 ih =>
    intro v2 v3 h
    refine z_iload_n M dt_X7_takenByFirst_0.1.2.1.1 rfl 3 rfl ?_
    refine z_aload_n M dt_X7_takenByFirst_0.1.2.1.2 rfl 0 rfl ?_
    refine gf_X7_town M u346 dt_X7_takenByFirst_0.1.2.2.1 ?_
    refine k_X10_sortCount M u1164 (Nat.le_of_ble_eq_true rfl) (Nat.le_of_ble_eq_true rfl) dt_X7_takenByFirst_0.1.2.2.2 ?_
    refine z_icmp_ge (tgt := 30) M dt_X7_takenByFirst_0.2.1.1.1 (by decide) (fun hc => ?_) (fun hc => ?_)
    · have h := gIt hc h
      refine z_iload_n M dt_X7_takenByFirst_1.2.1 rfl 2 rfl ?_
      obtain rfl := Option.some.inj h
      exact z_iret M dt_X7_takenByFirst_1.2.2
    · have h := gIf hc h
      refine z_iload_n M dt_X7_takenByFirst_0.2.1.1.2 rfl 2 rfl ?_
      refine z_aload_n M dt_X7_takenByFirst_0.2.1.2.1 rfl 0 rfl ?_
      refine z_iload_n M dt_X7_takenByFirst_0.2.1.2.2 rfl 1 rfl ?_
      refine z_iload_n M dt_X7_takenByFirst_0.2.2.1.1 rfl 3 rfl ?_
      obtain ⟨t1, hc, h⟩ := gBd h
      refine k_X7_takenAs M hc u1165 (Nat.le_of_ble_eq_true rfl) (Nat.le_of_ble_eq_true rfl) dt_X7_takenByFirst_0.2.2.1.2 ?_
      refine z_iadd M dt_X7_takenByFirst_0.2.2.2.1 ?_
      refine z_istore_n (lv' := [(2, .int (v2 + t1)), (0, .ref (a 36)), (1, .int v1), (3, .int v3)]) M dt_X7_takenByFirst_0.2.2.2.2 rfl (by decide) rfl ?_
      refine z_iinc (v := (v3 + (1 : Int32))) (lv' := [(3, .int (v3 + (1 : Int32))), (2, .int (v2 + t1)), (0, .ref (a 36)), (1, .int v1)]) M dt_X7_takenByFirst_1.1.1 (k := 3) rfl (congrArg (fun q => v3 + q) ki_1) (by decide) rfl ?_
      refine z_goto (tgt := 4) M dt_X7_takenByFirst_1.1.2 (by decide) ?_
      refine z_sub M [2, 3, 1, 0] (lv' := [(0, .ref (a 36)), (1, .int v1), (2, .int (v2 + t1)), (3, .int (v3 + (1 : Int32)))]) rfl ?_
      exact ih (v2 + t1) (v3 + (1 : Int32)) h
set_option maxHeartbeats 4000000 in
set_option maxRecDepth 100000 in
theorem m_X7_takenByFirst (hD : ∀ σ, va_D A (cW a cy σ)) {σ0 : Zst} {p0 : Int32} {o : Int32} (h : f_X7_takenByFirst σ0 p0 = some o) : zT l D zcl (zty cy) A ad (cW a cy) yX7_takenByFirst cX7_takenByFirst 4 (some .int) 3 [.ref (a 36), .int p0] σ0 σ0 (some (.int o)) := by
  refine z_met pn_X7 hD (Nat.le_of_ble_eq_true rfl) rfl (fun G M => ?_)
  refine z_iconst M dt_X7_takenByFirst_0.1.1.1.1 ki_0 ?_
  refine z_istore_n (lv' := [(2, .int (0 : Int32)), (0, .ref (a 36)), (1, .int p0)]) M dt_X7_takenByFirst_0.1.1.1.2 rfl (by decide) rfl ?_
  refine z_iconst M dt_X7_takenByFirst_0.1.1.2.1 ki_0 ?_
  refine z_istore_n (lv' := [(3, .int (0 : Int32)), (2, .int (0 : Int32)), (0, .ref (a 36)), (1, .int p0)]) M dt_X7_takenByFirst_0.1.1.2.2 rfl (by decide) rfl ?_
  refine z_sub M [2, 3, 1, 0] (lv' := [(0, .ref (a 36)), (1, .int p0), (2, .int (0 : Int32)), (3, .int (0 : Int32))]) rfl ?_
  exact wL_X7_takenByFirst_4 M  p0 zFu (0 : Int32) (0 : Int32) h
theorem k_X7_takenByFirst {n : Nat} (M : zM l D zcl (zty cy) A ad (zR n) (cW a cy) own cc nL rt σo ov G) {p0 : Int32} {o : Int32} (h : f_X7_takenByFirst σ p0 = some o) {index : Nat} (hl : Cond.methodLink own index yX7_takenByFirst ∈ uw) (hR : 4 ≤ n) (hW : (st.map fun v => v.category).sum ≤ 8) (d : decode cc pc = .ok (.invokevirtual index, 3)) (kk : G σ lv (pc + 3) (.int o :: st)) : G σ lv pc (.int p0 :: .ref (a 36) :: st) := z_callV M [.int p0] (m_X7_takenByFirst (zM_hD M) h) (hC36 σ) rfl hl u96 u1172 u1171 u33 hd_X7_takenByFirst hR (by decide) rfl hW d kk
set_option maxHeartbeats 4000000 in
set_option maxRecDepth 100000 in
theorem wL_X7_takenBySecond_4 {o : Int32} (M : zM l D zcl (zty cy) A ad (zR 3) (cW a cy) RX7 cX7_takenBySecond 4 (some .int) σ0 (some (.int o)) G)  (v1 : Int32)  :
    ∀ (n4 : Nat) (v2 : Int32) (v3 : Int32), L_X7_takenBySecond_4 σ0 v1 n4 v2 v3 = some o → G σ0 [(0, .ref (a 36)), (1, .int v1), (2, .int v2), (3, .int v3)] 4 [] := by
  intro n4
  induction n4 with
  | zero => intro v2 v3 h; exact nomatch (show (none : Option Int32) = some _ from h)
  | succ n4 ih =>
    intro v2 v3 h
    refine z_iload_n M dt_X7_takenBySecond_0.1.2.1.1 rfl 3 rfl ?_
    refine z_aload_n M dt_X7_takenBySecond_0.1.2.1.2 rfl 0 rfl ?_
    refine gf_X7_town M u346 dt_X7_takenBySecond_0.1.2.2.1 ?_
    refine k_X10_sortCount M u1164 (Nat.le_of_ble_eq_true rfl) (Nat.le_of_ble_eq_true rfl) dt_X7_takenBySecond_0.1.2.2.2 ?_
    refine z_icmp_ge (tgt := 30) M dt_X7_takenBySecond_0.2.1.1.1 (by decide) (fun hc => ?_) (fun hc => ?_)
    · have h := gIt hc h
      refine z_iload_n M dt_X7_takenBySecond_1.2.1 rfl 2 rfl ?_
      obtain rfl := Option.some.inj h
      exact z_iret M dt_X7_takenBySecond_1.2.2
    · have h := gIf hc h
      refine z_iload_n M dt_X7_takenBySecond_0.2.1.1.2 rfl 2 rfl ?_
      refine z_aload_n M dt_X7_takenBySecond_0.2.1.2.1 rfl 0 rfl ?_
      refine z_iload_n M dt_X7_takenBySecond_0.2.1.2.2 rfl 3 rfl ?_
      refine z_iload_n M dt_X7_takenBySecond_0.2.2.1.1 rfl 1 rfl ?_
      obtain ⟨t1, hc, h⟩ := gBd h
      refine k_X7_takenAs M hc u1165 (Nat.le_of_ble_eq_true rfl) (Nat.le_of_ble_eq_true rfl) dt_X7_takenBySecond_0.2.2.1.2 ?_
      refine z_iadd M dt_X7_takenBySecond_0.2.2.2.1 ?_
      refine z_istore_n (lv' := [(2, .int (v2 + t1)), (0, .ref (a 36)), (1, .int v1), (3, .int v3)]) M dt_X7_takenBySecond_0.2.2.2.2 rfl (by decide) rfl ?_
      refine z_iinc (v := (v3 + (1 : Int32))) (lv' := [(3, .int (v3 + (1 : Int32))), (2, .int (v2 + t1)), (0, .ref (a 36)), (1, .int v1)]) M dt_X7_takenBySecond_1.1.1 (k := 3) rfl (congrArg (fun q => v3 + q) ki_1) (by decide) rfl ?_
      refine z_goto (tgt := 4) M dt_X7_takenBySecond_1.1.2 (by decide) ?_
      refine z_sub M [2, 3, 1, 0] (lv' := [(0, .ref (a 36)), (1, .int v1), (2, .int (v2 + t1)), (3, .int (v3 + (1 : Int32)))]) rfl ?_
      exact ih (v2 + t1) (v3 + (1 : Int32)) h
set_option maxHeartbeats 4000000 in
set_option maxRecDepth 100000 in
theorem m_X7_takenBySecond (hD : ∀ σ, va_D A (cW a cy σ)) {σ0 : Zst} {p0 : Int32} {o : Int32} (h : f_X7_takenBySecond σ0 p0 = some o) : zT l D zcl (zty cy) A ad (cW a cy) yX7_takenBySecond cX7_takenBySecond 4 (some .int) 3 [.ref (a 36), .int p0] σ0 σ0 (some (.int o)) := by
  refine z_met pn_X7 hD (Nat.le_of_ble_eq_true rfl) rfl (fun G M => ?_)
  refine z_iconst M dt_X7_takenBySecond_0.1.1.1.1 ki_0 ?_
  refine z_istore_n (lv' := [(2, .int (0 : Int32)), (0, .ref (a 36)), (1, .int p0)]) M dt_X7_takenBySecond_0.1.1.1.2 rfl (by decide) rfl ?_
  refine z_iconst M dt_X7_takenBySecond_0.1.1.2.1 ki_0 ?_
  refine z_istore_n (lv' := [(3, .int (0 : Int32)), (2, .int (0 : Int32)), (0, .ref (a 36)), (1, .int p0)]) M dt_X7_takenBySecond_0.1.1.2.2 rfl (by decide) rfl ?_
  refine z_sub M [2, 3, 1, 0] (lv' := [(0, .ref (a 36)), (1, .int p0), (2, .int (0 : Int32)), (3, .int (0 : Int32))]) rfl ?_
  exact wL_X7_takenBySecond_4 M  p0 zFu (0 : Int32) (0 : Int32) h
theorem k_X7_takenBySecond {n : Nat} (M : zM l D zcl (zty cy) A ad (zR n) (cW a cy) own cc nL rt σo ov G) {p0 : Int32} {o : Int32} (h : f_X7_takenBySecond σ p0 = some o) {index : Nat} (hl : Cond.methodLink own index yX7_takenBySecond ∈ uw) (hR : 4 ≤ n) (hW : (st.map fun v => v.category).sum ≤ 8) (d : decode cc pc = .ok (.invokevirtual index, 3)) (kk : G σ lv (pc + 3) (.int o :: st)) : G σ lv pc (.int p0 :: .ref (a 36) :: st) := z_callV M [.int p0] (m_X7_takenBySecond (zM_hD M) h) (hC36 σ) rfl hl u96 u1176 u1175 u34 hd_X7_takenBySecond hR (by decide) rfl hW d kk
set_option maxHeartbeats 4000000 in
set_option maxRecDepth 100000 in
theorem wL_X7_agreed_7 {o : (Zst × Int32)} (M : zM l D zcl (zty cy) A ad (zR 4) (cW a cy) RX7 cX7_agreed 6 (some .int) o.1 (some (.int o.2)) G) {k54 : Int32 → Int64 → Option (Zst × Int32)} (σ : Zst)  (Hk54 : ∀ (w1 : Int32) (w2 : Int64), k54 w1 w2 = some o → G σ [(0, .ref (a 36)), (1, .int w1), (2, .long w2)] 54 []) :
    ∀ (n7 : Nat) (v1 : Int32) (v2 : Int64) (v4 : Int32), L_X7_agreed_7 k54 σ n7 v1 v2 v4 = some o → G σ [(0, .ref (a 36)), (1, .int v1), (2, .long v2), (4, .int v4)] 7 [] := by
  intro n7
  induction n7 with
  | zero => intro v1 v2 v4 h; exact nomatch (show (none : Option (Zst × Int32)) = some _ from h)
  | succ n7 ih =>
    intro v1 v2 v4 h
    refine z_iload M dt_X7_agreed_0.1.2.2.1 3 rfl ?_
    refine z_aload_n M dt_X7_agreed_0.1.2.2.2 rfl 0 rfl ?_
    refine gf_X7_town M u346 dt_X7_agreed_0.2.1.1.1 ?_
    refine k_X10_sortCount M u1164 (Nat.le_of_ble_eq_true rfl) (Nat.le_of_ble_eq_true rfl) dt_X7_agreed_0.2.1.1.2 ?_
    refine z_icmp_ge (tgt := 54) M dt_X7_agreed_0.2.1.2.1 (by decide) (fun hc => ?_) (fun hc => ?_)
    · have h := gIt hc h
      refine z_sub M [0, 1, 2] (lv' := [(0, .ref (a 36)), (1, .int v1), (2, .long v2)]) rfl ?_
      exact Hk54 v1 v2 h
    · have h := gIf hc h
      refine z_iload_n M dt_X7_agreed_0.2.1.2.2 rfl 1 rfl ?_
      refine z_aload_n M dt_X7_agreed_0.2.2.1.1 rfl 0 rfl ?_
      refine z_iload M dt_X7_agreed_0.2.2.1.2 3 rfl ?_
      refine z_iload M dt_X7_agreed_0.2.2.2.1 3 rfl ?_
      obtain ⟨t1, hc, h⟩ := gBd h
      refine k_X7_takenAs M hc u1165 (Nat.le_of_ble_eq_true rfl) (Nat.le_of_ble_eq_true rfl) dt_X7_agreed_0.2.2.2.2 ?_
      refine z_iadd M dt_X7_agreed_1.1.1.1.1 ?_
      refine z_istore_n (lv' := [(1, .int (v1 + t1)), (0, .ref (a 36)), (2, .long v2), (4, .int v4)]) M dt_X7_agreed_1.1.1.1.2 rfl (by decide) rfl ?_
      refine z_lload_n M dt_X7_agreed_1.1.1.2.1 rfl 2 rfl ?_
      refine z_aload_n M dt_X7_agreed_1.1.1.2.2 rfl 1 rfl ?_
      refine z_iload M dt_X7_agreed_1.1.2.1.1 3 rfl ?_
      obtain ⟨t2, hc, h⟩ := gBd h
      refine k_X7_takenByFirst M hc u1169 (Nat.le_of_ble_eq_true rfl) (Nat.le_of_ble_eq_true rfl) dt_X7_agreed_1.1.2.1.2 ?_
      refine z_i2l M dt_X7_agreed_1.1.2.2.1 ?_
      refine z_aload_n M dt_X7_agreed_1.1.2.2.2 rfl 1 rfl ?_
      refine z_iload M dt_X7_agreed_1.2.1.1.1 3 rfl ?_
      obtain ⟨t3, hc, h⟩ := gBd h
      refine k_X7_takenBySecond M hc u1173 (Nat.le_of_ble_eq_true rfl) (Nat.le_of_ble_eq_true rfl) dt_X7_agreed_1.2.1.1.2 ?_
      refine z_i2l M dt_X7_agreed_1.2.1.2.1 ?_
      refine z_lmul M dt_X7_agreed_1.2.1.2.2 ?_
      refine z_ladd M dt_X7_agreed_1.2.2.1.1 ?_
      refine z_lstore_n (lv' := [(2, .long (v2 + ((Int32.toInt64 t2) * (Int32.toInt64 t3)))), (1, .int (v1 + t1)), (0, .ref (a 36)), (4, .int v4)]) M dt_X7_agreed_1.2.2.1.2 rfl (by decide) rfl ?_
      refine z_iinc (v := (v4 + (1 : Int32))) (lv' := [(4, .int (v4 + (1 : Int32))), (2, .long (v2 + ((Int32.toInt64 t2) * (Int32.toInt64 t3)))), (1, .int (v1 + t1)), (0, .ref (a 36))]) M dt_X7_agreed_1.2.2.2.1 (k := 3) rfl (congrArg (fun q => v4 + q) ki_1) (by decide) rfl ?_
      refine z_goto (tgt := 7) M dt_X7_agreed_1.2.2.2.2 (by decide) ?_
      refine z_sub M [3, 2, 1, 0] (lv' := [(0, .ref (a 36)), (1, .int (v1 + t1)), (2, .long (v2 + ((Int32.toInt64 t2) * (Int32.toInt64 t3)))), (4, .int (v4 + (1 : Int32)))]) rfl ?_
      exact ih (v1 + t1) (v2 + ((Int32.toInt64 t2) * (Int32.toInt64 t3))) (v4 + (1 : Int32)) h
set_option maxHeartbeats 4000000 in
set_option maxRecDepth 100000 in
theorem wJ_X7_agreed_54 {o : (Zst × Int32)} (M : zM l D zcl (zty cy) A ad (zR 4) (cW a cy) RX7 cX7_agreed 6 (some .int) o.1 (some (.int o.2)) G) (σ : Zst) (v1 : Int32) (v2 : Int64)  (h : J_X7_agreed_54 σ v1 v2 = some o) : G σ [(0, .ref (a 36)), (1, .int v1), (2, .long v2)] 54 [] := by
  refine z_aload_n M dt_X7_agreed_2.1.1.1.1 rfl 0 rfl ?_
  refine gf_X7_pieces (σ := σ) M u350 dt_X7_agreed_2.1.1.1.2 (v := (σ.1 21)) rfl ?_
  refine z_i2l M dt_X7_agreed_2.1.1.2.1 ?_
  refine z_aload_n M dt_X7_agreed_2.1.1.2.2 rfl 0 rfl ?_
  refine gf_X7_pieces (σ := σ) M u350 dt_X7_agreed_2.1.2.1.1 (v := (σ.1 21)) rfl ?_
  refine z_i2l M dt_X7_agreed_2.1.2.1.2 ?_
  refine z_lmul M dt_X7_agreed_2.1.2.2.1 ?_
  refine z_lload_n M dt_X7_agreed_2.1.2.2.2 rfl 2 rfl ?_
  refine z_lsub M dt_X7_agreed_2.2.1.1.1 ?_
  refine z_lstore (lv' := [(4, .long (((Int32.toInt64 (σ.1 21)) * (Int32.toInt64 (σ.1 21))) - v2)), (0, .ref (a 36)), (1, .int v1), (2, .long v2)]) M dt_X7_agreed_2.2.1.1.2 (by decide) rfl ?_
  refine z_lload M dt_X7_agreed_2.2.1.2.1 0 rfl ?_
  refine z_lconst (v := 0) M dt_X7_agreed_2.2.1.2.2 (by decide) ?_
  refine z_lcmp_ne (tgt := 79) M dt_X7_agreed_2.2.2.1.1 dt_X7_agreed_2.2.2.1.2 (by decide) (fun hc => ?_) (fun hc => ?_)
  · have h := gIf hc h
    refine z_aload_n M dt_X7_agreed_3.1.1.1.1 rfl 1 rfl ?_
    refine gf_X7_row M u348 dt_X7_agreed_3.1.1.1.2 ?_
    obtain ⟨t4, hc, h⟩ := gBd h
    refine k_X5_clear M hc u1177 (Nat.le_of_ble_eq_true rfl) (Nat.le_of_ble_eq_true rfl) dt_X7_agreed_3.1.1.2.1 ?_
    refine z_aload_n M dt_X7_agreed_3.1.1.2.2 rfl 1 rfl ?_
    refine gf_X7_pieces (σ := t4) M u350 dt_X7_agreed_3.1.2.1.1 (v := (t4.1 21)) rfl ?_
    refine z_i2l M dt_X7_agreed_3.1.2.1.2 ?_
    refine z_iload_n M dt_X7_agreed_3.1.2.2.1 rfl 2 rfl ?_
    refine z_i2l M dt_X7_agreed_3.1.2.2.2 ?_
    refine z_lmul M dt_X7_agreed_3.2.1.1.1 ?_
    refine z_lload_n M dt_X7_agreed_3.2.1.1.2 rfl 3 rfl ?_
    refine z_lsub M dt_X7_agreed_3.2.1.2.1 ?_
    refine z_lload M dt_X7_agreed_3.2.1.2.2 0 rfl ?_
    obtain ⟨t5, hc, h⟩ := gBd h
    refine k_X5_addFraction M hc u1178 (Nat.le_of_ble_eq_true rfl) (Nat.le_of_ble_eq_true rfl) dt_X7_agreed_3.2.2.1.1 ?_
    refine z_pop M dt_X7_agreed_3.2.2.1.2 rfl ?_
    refine z_iload_n M dt_X7_agreed_3.2.2.2.1 rfl 2 rfl ?_
    obtain rfl := Option.some.inj h
    exact z_iret M dt_X7_agreed_3.2.2.2.2
  · have h := gIt hc h
    refine z_bipush M dt_X7_agreed_2.2.2.2.1 kb_m2 ?_
    obtain rfl := Option.some.inj h
    exact z_iret M dt_X7_agreed_2.2.2.2.2
set_option maxHeartbeats 4000000 in
set_option maxRecDepth 100000 in
theorem m_X7_agreed (hD : ∀ σ, va_D A (cW a cy σ)) {σ : Zst}  {o : (Zst × Int32)} (h : f_X7_agreed σ = some o) : zT l D zcl (zty cy) A ad (cW a cy) yX7_agreed cX7_agreed 6 (some .int) 4 [.ref (a 36)] σ o.1 (some (.int o.2)) := by
  refine z_met pn_X7 hD (Nat.le_of_ble_eq_true rfl) rfl (fun G M => ?_)
  refine z_iconst M dt_X7_agreed_0.1.1.1.1 ki_0 ?_
  refine z_istore_n (lv' := [(1, .int (0 : Int32)), (0, .ref (a 36))]) M dt_X7_agreed_0.1.1.1.2 rfl (by decide) rfl ?_
  refine z_lconst (v := 0) M dt_X7_agreed_0.1.1.2.1 (by decide) ?_
  refine z_lstore_n (lv' := [(2, .long (0 : Int64)), (1, .int (0 : Int32)), (0, .ref (a 36))]) M dt_X7_agreed_0.1.1.2.2 rfl (by decide) rfl ?_
  refine z_iconst M dt_X7_agreed_0.1.2.1.1 ki_0 ?_
  refine z_istore (lv' := [(4, .int (0 : Int32)), (2, .long (0 : Int64)), (1, .int (0 : Int32)), (0, .ref (a 36))]) M dt_X7_agreed_0.1.2.1.2 (by decide) rfl ?_
  refine z_sub M [3, 2, 1, 0] (lv' := [(0, .ref (a 36)), (1, .int (0 : Int32)), (2, .long (0 : Int64)), (4, .int (0 : Int32))]) rfl ?_
  exact wL_X7_agreed_7 M (k54 := (fun w6 w7 => J_X7_agreed_54 σ w6 w7)) σ (fun w6 w7 h => by
      exact wJ_X7_agreed_54 M  σ w6 w7 h) zFu (0 : Int32) (0 : Int64) (0 : Int32) h
theorem k_X7_agreed {n : Nat} (M : zM l D zcl (zty cy) A ad (zR n) (cW a cy) own cc nL rt σo ov G)  {o : (Zst × Int32)} (h : f_X7_agreed σ = some o) {index : Nat} (hl : Cond.methodLink own index yX7_agreed ∈ uw) (hR : 5 ≤ n) (hW : (st.map fun v => v.category).sum ≤ 8) (d : decode cc pc = .ok (.invokevirtual index, 3)) (kk : G o.1 lv (pc + 3) (.int o.2 :: st)) : G σ lv pc (.ref (a 36) :: st) := z_callV M [] (m_X7_agreed (zM_hD M) h) (hC36 σ) rfl hl u96 u1163 u1161 u1162 hd_X7_agreed hR (by decide) rfl hW d kk
set_option maxHeartbeats 4000000 in
set_option maxRecDepth 100000 in
theorem m_X11_alike (hD : ∀ σ, va_D A (cW a cy σ)) {σ : Zst}  {o : (Zst × Int32)} (h : f_X11_alike σ = some o) : zT l D zcl (zty cy) A ad (cW a cy) yX11_alike cX11_alike 1 (some .int) 5 [.ref (a 0)] σ o.1 (some (.int o.2)) := by
  refine z_met pn_X11 hD (Nat.le_of_ble_eq_true rfl) rfl (fun G M => ?_)
  refine z_aload_n M dt_X11_alike_0.1.1 rfl 0 rfl ?_
  refine gf_X11_sorters M u437 dt_X11_alike_0.1.2 ?_
  obtain ⟨t1, hc, h⟩ := gBd h
  refine k_X7_agreed M hc u1160 (Nat.le_of_ble_eq_true rfl) (Nat.le_of_ble_eq_true rfl) dt_X11_alike_0.2.1 ?_
  obtain rfl := Option.some.inj h
  exact z_iret M dt_X11_alike_0.2.2
set_option maxHeartbeats 4000000 in
set_option maxRecDepth 100000 in
theorem wL_X7_mostMixed_27 {o : (Zst × Int32)} (M : zM l D zcl (zty cy) A ad (zR 3) (cW a cy) RX7 cX7_mostMixed 7 (some .int) o.1 (some (.int o.2)) G) {k79 : Int32 → Int32 → Int32 → Option (Zst × Int32)} (σ : Zst) (v4 : Int32) (Hk79 : ∀ (w1 : Int32) (w2 : Int32) (w3 : Int32), k79 w1 w2 w3 = some o → G σ [(0, .ref (a 36)), (1, .int w1), (2, .int w2), (3, .int w3), (4, .int v4)] 79 []) :
    ∀ (n27 : Nat) (v1 : Int32) (v2 : Int32) (v3 : Int32) (v5 : Int32), L_X7_mostMixed_27 k79 σ v4 n27 v1 v2 v3 v5 = some o → G σ [(0, .ref (a 36)), (1, .int v1), (2, .int v2), (3, .int v3), (4, .int v4), (5, .int v5)] 27 [] := by
  intro n27
  induction n27 with
  | zero => intro v1 v2 v3 v5 h; exact nomatch (show (none : Option (Zst × Int32)) = some _ from h)
  | succ n27 ih =>
    intro v1 v2 v3 v5 h
    refine z_iload M dt_X7_mostMixed_1.1.1.1.2 5 rfl ?_
    refine z_aload_n M dt_X7_mostMixed_1.1.1.2.1 rfl 0 rfl ?_
    refine gf_X7_town M u346 dt_X7_mostMixed_1.1.1.2.2 ?_
    refine k_X10_sortCount M u1164 (Nat.le_of_ble_eq_true rfl) (Nat.le_of_ble_eq_true rfl) dt_X7_mostMixed_1.1.2.1.1 ?_
    refine z_icmp_ge (tgt := 79) M dt_X7_mostMixed_1.1.2.1.2 (by decide) (fun hc => ?_) (fun hc => ?_)
    · have h := gIt hc h
      refine z_sub M [0, 1, 2, 3, 4] (lv' := [(0, .ref (a 36)), (1, .int v1), (2, .int v2), (3, .int v3), (4, .int v4)]) rfl ?_
      exact Hk79 v1 v2 v3 h
    · have h := gIf hc h
      refine z_aload_n M dt_X7_mostMixed_1.1.2.2.1 rfl 0 rfl ?_
      refine z_iload M dt_X7_mostMixed_1.1.2.2.2 4 rfl ?_
      refine z_iload M dt_X7_mostMixed_1.2.1.1.1 5 rfl ?_
      obtain ⟨t1, hc, h⟩ := gBd h
      refine k_X7_takenAs M hc u1165 (Nat.le_of_ble_eq_true rfl) (Nat.le_of_ble_eq_true rfl) dt_X7_mostMixed_1.2.1.1.2 ?_
      refine z_aload_n M dt_X7_mostMixed_1.2.1.2.1 rfl 0 rfl ?_
      refine z_iload M dt_X7_mostMixed_1.2.1.2.2 5 rfl ?_
      refine z_iload M dt_X7_mostMixed_1.2.2.1.1 4 rfl ?_
      obtain ⟨t2, hc, h⟩ := gBd h
      refine k_X7_takenAs M hc u1165 (Nat.le_of_ble_eq_true rfl) (Nat.le_of_ble_eq_true rfl) dt_X7_mostMixed_1.2.2.1.2 ?_
      refine z_iadd M dt_X7_mostMixed_1.2.2.2.1 ?_
      refine z_istore (lv' := [(6, .int (t1 + t2)), (0, .ref (a 36)), (1, .int v1), (2, .int v2), (3, .int v3), (4, .int v4), (5, .int v5)]) M dt_X7_mostMixed_1.2.2.2.2 (by decide) rfl ?_
      refine z_iload M dt_X7_mostMixed_2.1.1.1.1 0 rfl ?_
      refine z_iload_n M dt_X7_mostMixed_2.1.1.1.2 rfl 2 rfl ?_
      refine z_icmp_le (tgt := 73) M dt_X7_mostMixed_2.1.1.2.1 (by decide) (fun hc => ?_) (fun hc => ?_)
      · have h := gIt hc h
        refine z_iinc (v := (v5 + (1 : Int32))) (lv' := [(5, .int (v5 + (1 : Int32))), (6, .int (t1 + t2)), (0, .ref (a 36)), (1, .int v1), (2, .int v2), (3, .int v3), (4, .int v4)]) M dt_X7_mostMixed_2.2.1.1.2 (k := 6) rfl (congrArg (fun q => v5 + q) ki_1) (by decide) rfl ?_
        refine z_goto (tgt := 27) M dt_X7_mostMixed_2.2.1.2.1 (by decide) ?_
        refine z_sub M [2, 3, 4, 5, 6, 0] (lv' := [(0, .ref (a 36)), (1, .int v1), (2, .int v2), (3, .int v3), (4, .int v4), (5, .int (v5 + (1 : Int32)))]) rfl ?_
        exact ih v1 v2 v3 (v5 + (1 : Int32)) h
      · have h := gIf hc h
        refine z_iload M dt_X7_mostMixed_2.1.1.2.2 0 rfl ?_
        refine z_istore_n (lv' := [(1, .int (t1 + t2)), (6, .int (t1 + t2)), (0, .ref (a 36)), (2, .int v2), (3, .int v3), (4, .int v4), (5, .int v5)]) M dt_X7_mostMixed_2.1.2.1.1 rfl (by decide) rfl ?_
        refine z_iload M dt_X7_mostMixed_2.1.2.1.2 5 rfl ?_
        refine z_istore_n (lv' := [(2, .int v4), (1, .int (t1 + t2)), (6, .int (t1 + t2)), (0, .ref (a 36)), (3, .int v3), (4, .int v4), (5, .int v5)]) M dt_X7_mostMixed_2.1.2.2.1 rfl (by decide) rfl ?_
        refine z_iload M dt_X7_mostMixed_2.1.2.2.2 6 rfl ?_
        refine z_istore_n (lv' := [(3, .int v5), (2, .int v4), (1, .int (t1 + t2)), (6, .int (t1 + t2)), (0, .ref (a 36)), (4, .int v4), (5, .int v5)]) M dt_X7_mostMixed_2.2.1.1.1 rfl (by decide) rfl ?_
        refine z_iinc (v := (v5 + (1 : Int32))) (lv' := [(5, .int (v5 + (1 : Int32))), (3, .int v5), (2, .int v4), (1, .int (t1 + t2)), (6, .int (t1 + t2)), (0, .ref (a 36)), (4, .int v4)]) M dt_X7_mostMixed_2.2.1.1.2 (k := 6) rfl (congrArg (fun q => v5 + q) ki_1) (by decide) rfl ?_
        refine z_goto (tgt := 27) M dt_X7_mostMixed_2.2.1.2.1 (by decide) ?_
        refine z_sub M [5, 3, 2, 1, 6, 0] (lv' := [(0, .ref (a 36)), (1, .int (t1 + t2)), (2, .int v4), (3, .int v5), (4, .int v4), (5, .int (v5 + (1 : Int32)))]) rfl ?_
        exact ih (t1 + t2) v4 v5 (v5 + (1 : Int32)) h
set_option maxHeartbeats 4000000 in
set_option maxRecDepth 100000 in
theorem wJ_X7_mostMixed_79 {o : (Zst × Int32)} (M : zM l D zcl (zty cy) A ad (zR 3) (cW a cy) RX7 cX7_mostMixed 7 (some .int) o.1 (some (.int o.2)) G) {k9 : Int32 → Int32 → Int32 → Int32 → Option (Zst × Int32)} (σ : Zst) (v1 : Int32) (v2 : Int32) (v3 : Int32) (v4 : Int32) (Hk9 : ∀ (w1 : Int32) (w2 : Int32) (w3 : Int32) (w4 : Int32), k9 w1 w2 w3 w4 = some o → G σ [(0, .ref (a 36)), (1, .int w1), (2, .int w2), (3, .int w3), (4, .int w4)] 9 []) (h : J_X7_mostMixed_79 k9 σ v1 v2 v3 v4 = some o) : G σ [(0, .ref (a 36)), (1, .int v1), (2, .int v2), (3, .int v3), (4, .int v4)] 79 [] := by
  refine z_iinc (v := (v4 + (1 : Int32))) (lv' := [(4, .int (v4 + (1 : Int32))), (0, .ref (a 36)), (1, .int v1), (2, .int v2), (3, .int v3)]) M dt_X7_mostMixed_2.2.1.2.2 (k := 4) rfl (congrArg (fun q => v4 + q) ki_1) (by decide) rfl ?_
  refine z_goto (tgt := 9) M dt_X7_mostMixed_2.2.2.1.1 (by decide) ?_
  refine z_sub M [1, 2, 3, 4, 0] (lv' := [(0, .ref (a 36)), (1, .int v1), (2, .int v2), (3, .int v3), (4, .int (v4 + (1 : Int32)))]) rfl ?_
  exact Hk9 v1 v2 v3 (v4 + (1 : Int32)) h
set_option maxHeartbeats 4000000 in
set_option maxRecDepth 100000 in
theorem wL_X7_mostMixed_9 {o : (Zst × Int32)} (M : zM l D zcl (zty cy) A ad (zR 3) (cW a cy) RX7 cX7_mostMixed 7 (some .int) o.1 (some (.int o.2)) G) {k85 : Int32 → Int32 → Int32 → Option (Zst × Int32)} (σ : Zst)  (Hk85 : ∀ (w1 : Int32) (w2 : Int32) (w3 : Int32), k85 w1 w2 w3 = some o → G σ [(0, .ref (a 36)), (1, .int w1), (2, .int w2), (3, .int w3)] 85 []) :
    ∀ (n9 : Nat) (v1 : Int32) (v2 : Int32) (v3 : Int32) (v4 : Int32), L_X7_mostMixed_9 k85 σ n9 v1 v2 v3 v4 = some o → G σ [(0, .ref (a 36)), (1, .int v1), (2, .int v2), (3, .int v3), (4, .int v4)] 9 [] := by
  intro n9
  induction n9 with
  | zero => intro v1 v2 v3 v4 h; exact nomatch (show (none : Option (Zst × Int32)) = some _ from h)
  | succ n9 ih =>
    intro v1 v2 v3 v4 h
    refine z_iload M dt_X7_mostMixed_0.2.1.1.1 4 rfl ?_
    refine z_aload_n M dt_X7_mostMixed_0.2.1.1.2 rfl 0 rfl ?_
    refine gf_X7_town M u346 dt_X7_mostMixed_0.2.1.2.1 ?_
    refine k_X10_sortCount M u1164 (Nat.le_of_ble_eq_true rfl) (Nat.le_of_ble_eq_true rfl) dt_X7_mostMixed_0.2.1.2.2 ?_
    refine z_icmp_ge (tgt := 85) M dt_X7_mostMixed_0.2.2.1.1 (by decide) (fun hc => ?_) (fun hc => ?_)
    · have h := gIt hc h
      refine z_sub M [0, 1, 2, 3] (lv' := [(0, .ref (a 36)), (1, .int v1), (2, .int v2), (3, .int v3)]) rfl ?_
      exact Hk85 v1 v2 v3 h
    · have h := gIf hc h
      refine z_iload M dt_X7_mostMixed_0.2.2.1.2 4 rfl ?_
      refine z_iconst M dt_X7_mostMixed_0.2.2.2.1 ki_1 ?_
      refine z_iadd M dt_X7_mostMixed_0.2.2.2.2 ?_
      refine z_istore (lv' := [(5, .int (v4 + (1 : Int32))), (0, .ref (a 36)), (1, .int v1), (2, .int v2), (3, .int v3), (4, .int v4)]) M dt_X7_mostMixed_1.1.1.1.1 (by decide) rfl ?_
      refine z_sub M [1, 2, 3, 4, 5, 0] (lv' := [(0, .ref (a 36)), (1, .int v1), (2, .int v2), (3, .int v3), (4, .int v4), (5, .int (v4 + (1 : Int32)))]) rfl ?_
      exact wL_X7_mostMixed_27 M (k79 := (fun w3 w4 w5 => J_X7_mostMixed_79 (fun w1 w2 w3 w4 => L_X7_mostMixed_9 k85 σ n9 w1 w2 w3 w4) σ w3 w4 w5 v4)) σ v4 (fun w3 w4 w5 h => by
          exact wJ_X7_mostMixed_79 M (k9 := (fun w1 w2 w3 w4 => L_X7_mostMixed_9 k85 σ n9 w1 w2 w3 w4)) σ w3 w4 w5 v4 ih h) zFu v1 v2 v3 (v4 + (1 : Int32)) h
set_option maxHeartbeats 4000000 in
set_option maxRecDepth 100000 in
theorem wJ_X7_mostMixed_85 {o : (Zst × Int32)} (M : zM l D zcl (zty cy) A ad (zR 3) (cW a cy) RX7 cX7_mostMixed 7 (some .int) o.1 (some (.int o.2)) G) (σ : Zst) (v1 : Int32) (v2 : Int32) (v3 : Int32)  (h : J_X7_mostMixed_85 σ v1 v2 v3 = some o) : G σ [(0, .ref (a 36)), (1, .int v1), (2, .int v2), (3, .int v3)] 85 [] := by
  refine z_iload_n M dt_X7_mostMixed_2.2.2.1.2 rfl 1 rfl ?_
  refine z_if_le (tgt := 107) M dt_X7_mostMixed_2.2.2.2.1 (by decide) (fun hc => ?_) (fun hc => ?_)
  · have h := gIt hc h
    refine z_iload_n M dt_X7_mostMixed_3.2.2.1 rfl 1 rfl ?_
    obtain rfl := Option.some.inj h
    exact z_iret M dt_X7_mostMixed_3.2.2.2
  · have h := gIf hc h
    refine z_aload_n M dt_X7_mostMixed_2.2.2.2.2 rfl 0 rfl ?_
    refine gf_X7_row M u348 dt_X7_mostMixed_3.1.1.1.1 ?_
    obtain ⟨t6, hc, h⟩ := gBd h
    refine k_X5_clear M hc u1177 (Nat.le_of_ble_eq_true rfl) (Nat.le_of_ble_eq_true rfl) dt_X7_mostMixed_3.1.1.1.2 ?_
    refine z_iload_n M dt_X7_mostMixed_3.1.1.2 rfl 2 rfl ?_
    refine z_i2l M dt_X7_mostMixed_3.1.2.1.1 ?_
    obtain ⟨t7, hc, h⟩ := gBd h
    refine k_X5_add M hc u1187 (Nat.le_of_ble_eq_true rfl) (Nat.le_of_ble_eq_true rfl) dt_X7_mostMixed_3.1.2.1.2 ?_
    refine z_iload_n M dt_X7_mostMixed_3.1.2.2 rfl 3 rfl ?_
    refine z_i2l M dt_X7_mostMixed_3.2.1.1.1 ?_
    obtain ⟨t8, hc, h⟩ := gBd h
    refine k_X5_add M hc u1187 (Nat.le_of_ble_eq_true rfl) (Nat.le_of_ble_eq_true rfl) dt_X7_mostMixed_3.2.1.1.2 ?_
    refine z_pop M dt_X7_mostMixed_3.2.1.2 rfl ?_
    refine z_iload_n M dt_X7_mostMixed_3.2.2.1 rfl 1 rfl ?_
    obtain rfl := Option.some.inj h
    exact z_iret M dt_X7_mostMixed_3.2.2.2
set_option maxHeartbeats 4000000 in
set_option maxRecDepth 100000 in
theorem m_X7_mostMixed (hD : ∀ σ, va_D A (cW a cy σ)) {σ : Zst}  {o : (Zst × Int32)} (h : f_X7_mostMixed σ = some o) : zT l D zcl (zty cy) A ad (cW a cy) yX7_mostMixed cX7_mostMixed 7 (some .int) 3 [.ref (a 36)] σ o.1 (some (.int o.2)) := by
  refine z_met pn_X7 hD (Nat.le_of_ble_eq_true rfl) rfl (fun G M => ?_)
  refine z_iconst M dt_X7_mostMixed_0.1.1.1.1 ki_0 ?_
  refine z_istore_n (lv' := [(1, .int (0 : Int32)), (0, .ref (a 36))]) M dt_X7_mostMixed_0.1.1.1.2 rfl (by decide) rfl ?_
  refine z_iconst M dt_X7_mostMixed_0.1.1.2.1 ki_0 ?_
  refine z_istore_n (lv' := [(2, .int (0 : Int32)), (1, .int (0 : Int32)), (0, .ref (a 36))]) M dt_X7_mostMixed_0.1.1.2.2 rfl (by decide) rfl ?_
  refine z_iconst M dt_X7_mostMixed_0.1.2.1.1 ki_0 ?_
  refine z_istore_n (lv' := [(3, .int (0 : Int32)), (2, .int (0 : Int32)), (1, .int (0 : Int32)), (0, .ref (a 36))]) M dt_X7_mostMixed_0.1.2.1.2 rfl (by decide) rfl ?_
  refine z_iconst M dt_X7_mostMixed_0.1.2.2.1 ki_0 ?_
  refine z_istore (lv' := [(4, .int (0 : Int32)), (3, .int (0 : Int32)), (2, .int (0 : Int32)), (1, .int (0 : Int32)), (0, .ref (a 36))]) M dt_X7_mostMixed_0.1.2.2.2 (by decide) rfl ?_
  refine z_sub M [4, 3, 2, 1, 0] (lv' := [(0, .ref (a 36)), (1, .int (0 : Int32)), (2, .int (0 : Int32)), (3, .int (0 : Int32)), (4, .int (0 : Int32))]) rfl ?_
  exact wL_X7_mostMixed_9 M (k85 := (fun w9 w10 w11 => J_X7_mostMixed_85 σ w9 w10 w11)) σ (fun w9 w10 w11 h => by
      exact wJ_X7_mostMixed_85 M  σ w9 w10 w11 h) zFu (0 : Int32) (0 : Int32) (0 : Int32) (0 : Int32) h
theorem k_X7_mostMixed {n : Nat} (M : zM l D zcl (zty cy) A ad (zR n) (cW a cy) own cc nL rt σo ov G)  {o : (Zst × Int32)} (h : f_X7_mostMixed σ = some o) {index : Nat} (hl : Cond.methodLink own index yX7_mostMixed ∈ uw) (hR : 4 ≤ n) (hW : (st.map fun v => v.category).sum ≤ 8) (d : decode cc pc = .ok (.invokevirtual index, 3)) (kk : G o.1 lv (pc + 3) (.int o.2 :: st)) : G σ lv pc (.ref (a 36) :: st) := z_callV M [] (m_X7_mostMixed (zM_hD M) h) (hC36 σ) rfl hl u96 u1186 u1184 u1185 hd_X7_mostMixed hR (by decide) rfl hW d kk
set_option maxHeartbeats 4000000 in
set_option maxRecDepth 100000 in
theorem m_X11_mixed (hD : ∀ σ, va_D A (cW a cy σ)) {σ : Zst}  {o : (Zst × Int32)} (h : f_X11_mixed σ = some o) : zT l D zcl (zty cy) A ad (cW a cy) yX11_mixed cX11_mixed 1 (some .int) 4 [.ref (a 0)] σ o.1 (some (.int o.2)) := by
  refine z_met pn_X11 hD (Nat.le_of_ble_eq_true rfl) rfl (fun G M => ?_)
  refine z_aload_n M dt_X11_mixed_0.1.1 rfl 0 rfl ?_
  refine gf_X11_sorters M u437 dt_X11_mixed_0.1.2 ?_
  obtain ⟨t1, hc, h⟩ := gBd h
  refine k_X7_mostMixed M hc u1183 (Nat.le_of_ble_eq_true rfl) (Nat.le_of_ble_eq_true rfl) dt_X11_mixed_0.2.1 ?_
  obtain rfl := Option.some.inj h
  exact z_iret M dt_X11_mixed_0.2.2
set_option maxHeartbeats 4000000 in
set_option maxRecDepth 100000 in
theorem wL_X7_spread_64 {o : (Zst × Int32)} (M : zM l D zcl (zty cy) A ad (zR 4) (cW a cy) RX7 cX7_spread 7 (some .int) o.1 (some (.int o.2)) G)  (v1 : Int32) (v2 : Int32) (v3 : Int32)  :
    ∀ (n64 : Nat) (σ : Zst) (v4 : Int32) (v5 : Int32), L_X7_spread_64 v1 v2 v3 n64 σ v4 v5 = some o → G σ [(0, .ref (a 36)), (1, .int v1), (2, .int v2), (3, .int v3), (4, .int v4), (5, .int v5)] 64 [] := by
  intro n64
  induction n64 with
  | zero => intro σ v4 v5 h; exact nomatch (show (none : Option (Zst × Int32)) = some _ from h)
  | succ n64 ih =>
    intro σ v4 v5 h
    refine z_iload M dt_X7_spread_2.1.1.2.2 5 rfl ?_
    refine z_aload_n M dt_X7_spread_2.1.2.1.1 rfl 0 rfl ?_
    refine gf_X7_town M u346 dt_X7_spread_2.1.2.1.2 ?_
    refine k_X10_sortCount M u1164 (Nat.le_of_ble_eq_true rfl) (Nat.le_of_ble_eq_true rfl) dt_X7_spread_2.1.2.2.1 ?_
    refine z_icmp_ge (tgt := 122) M dt_X7_spread_2.1.2.2.2 (by decide) (fun hc => ?_) (fun hc => ?_)
    · have h := gIt hc h
      refine z_iload M dt_X7_spread_4.2.1 4 rfl ?_
      obtain rfl := Option.some.inj h
      exact z_iret M dt_X7_spread_4.2.2
    · have h := gIf hc h
      refine z_aload_n M dt_X7_spread_2.2.1.1.1 rfl 0 rfl ?_
      refine gf_X7_numbers M u347 dt_X7_spread_2.2.1.1.2 ?_
      refine z_iconst M dt_X7_spread_2.2.1.2.1 ki_0 ?_
      refine z_iload_n M dt_X7_spread_2.2.1.2.2 rfl 2 rfl ?_
      refine z_iload_n M dt_X7_spread_2.2.2.1.1 rfl 1 rfl ?_
      obtain ⟨t1, hc, h⟩ := gBd h
      refine k_X4_of M hc u1198 (Nat.le_of_ble_eq_true rfl) (Nat.le_of_ble_eq_true rfl) dt_X7_spread_2.2.2.1.2 ?_
      refine z_aload_n M dt_X7_spread_2.2.2.2.1 rfl 0 rfl ?_
      refine z_iload_n M dt_X7_spread_2.2.2.2.2 rfl 1 rfl ?_
      refine z_iload M dt_X7_spread_3.1.1.1.1 5 rfl ?_
      obtain ⟨t2, hc, h⟩ := gBd h
      refine k_X7_takenAs M hc u1165 (Nat.le_of_ble_eq_true rfl) (Nat.le_of_ble_eq_true rfl) dt_X7_spread_3.1.1.1.2 ?_
      refine z_imul M dt_X7_spread_3.1.1.2.1 ?_
      refine z_iload_n M dt_X7_spread_3.1.1.2.2 rfl 3 rfl ?_
      have ⟨hg, h⟩ := gNz_s h
      refine z_idiv M dt_X7_spread_3.1.2.1.1 hg ?_
      refine z_istore (lv' := [(6, .int ((t1 * t2) / v3)), (0, .ref (a 36)), (1, .int v1), (2, .int v2), (3, .int v3), (4, .int v4), (5, .int v5)]) M dt_X7_spread_3.1.2.1.2 (by decide) rfl ?_
      refine z_aload_n M dt_X7_spread_3.1.2.2.1 rfl 1 rfl ?_
      refine gf_X7_row M u348 dt_X7_spread_3.1.2.2.2 ?_
      refine z_iload M dt_X7_spread_3.2.1.1.1 0 rfl ?_
      refine z_i2l M dt_X7_spread_3.2.1.1.2 ?_
      obtain ⟨t3, hc, h⟩ := gBd h
      refine k_X5_add M hc u1187 (Nat.le_of_ble_eq_true rfl) (Nat.le_of_ble_eq_true rfl) dt_X7_spread_3.2.1.2.1 ?_
      refine z_pop M dt_X7_spread_3.2.1.2.2 rfl ?_
      refine z_iload M dt_X7_spread_3.2.2.1.1 5 rfl ?_
      refine z_iload M dt_X7_spread_3.2.2.1.2 0 rfl ?_
      refine z_iadd M dt_X7_spread_3.2.2.2.1 ?_
      refine z_istore (lv' := [(4, .int (v4 + ((t1 * t2) / v3))), (6, .int ((t1 * t2) / v3)), (0, .ref (a 36)), (1, .int v1), (2, .int v2), (3, .int v3), (5, .int v5)]) M dt_X7_spread_3.2.2.2.2 (by decide) rfl ?_
      refine z_iinc (v := (v5 + (1 : Int32))) (lv' := [(5, .int (v5 + (1 : Int32))), (4, .int (v4 + ((t1 * t2) / v3))), (6, .int ((t1 * t2) / v3)), (0, .ref (a 36)), (1, .int v1), (2, .int v2), (3, .int v3)]) M dt_X7_spread_4.1.1 (k := 6) rfl (congrArg (fun q => v5 + q) ki_1) (by decide) rfl ?_
      refine z_goto (tgt := 64) M dt_X7_spread_4.1.2 (by decide) ?_
      refine z_sub M [3, 4, 5, 6, 1, 0] (lv' := [(0, .ref (a 36)), (1, .int v1), (2, .int v2), (3, .int v3), (4, .int (v4 + ((t1 * t2) / v3))), (5, .int (v5 + (1 : Int32)))]) rfl ?_
      exact ih t3 (v4 + ((t1 * t2) / v3)) (v5 + (1 : Int32)) h
set_option maxHeartbeats 4000000 in
set_option maxRecDepth 100000 in
theorem m_X7_spread (hD : ∀ σ, va_D A (cW a cy σ)) {σ : Zst} {p0 : Int32} {p1 : Int32} {o : (Zst × Int32)} (h : f_X7_spread σ p0 p1 = some o) : zT l D zcl (zty cy) A ad (cW a cy) yX7_spread cX7_spread 7 (some .int) 4 [.ref (a 36), .int p0, .int p1] σ o.1 (some (.int o.2)) := by
  refine z_met pn_X7 hD (Nat.le_of_ble_eq_true rfl) rfl (fun G M => ?_)
  refine z_aload_n M dt_X7_spread_0.1.1.1.1 rfl 0 rfl ?_
  refine gf_X7_town M u346 dt_X7_spread_0.1.1.1.2 ?_
  refine z_iload_n M dt_X7_spread_0.1.1.2.1 rfl 1 rfl ?_
  refine k_X10_hasSort M u1154 (Nat.le_of_ble_eq_true rfl) (Nat.le_of_ble_eq_true rfl) dt_X7_spread_0.1.1.2.2 ?_
  refine z_if_eq (tgt := 22) M dt_X7_spread_0.1.2.1.1 (by decide) (fun hc => ?_) (fun hc => ?_)
  · have h := gIt hc h
    refine z_iconst M dt_X7_spread_0.2.1.2.1 ki_m1 ?_
    obtain rfl := Option.some.inj h
    exact z_iret M dt_X7_spread_0.2.1.2.2
  · have h := gIf hc h
    refine z_aload_n M dt_X7_spread_0.1.2.1.2 rfl 0 rfl ?_
    refine gf_X7_town M u346 dt_X7_spread_0.1.2.2.1 ?_
    refine z_iload_n M dt_X7_spread_0.1.2.2.2 rfl 2 rfl ?_
    refine k_X10_hasCell M u1196 (Nat.le_of_ble_eq_true rfl) (Nat.le_of_ble_eq_true rfl) dt_X7_spread_0.2.1.1.1 ?_
    refine z_if_ne (tgt := 24) M dt_X7_spread_0.2.1.1.2 (by decide) (fun hc => ?_) (fun hc => ?_)
    · have h := gIf hc h
      refine z_aload_n M dt_X7_spread_0.2.2.1.1 rfl 0 rfl ?_
      refine z_iload_n M dt_X7_spread_0.2.2.1.2 rfl 1 rfl ?_
      obtain ⟨t4, hc, h⟩ := gBd h
      refine k_X7_takenByFirst M hc u1169 (Nat.le_of_ble_eq_true rfl) (Nat.le_of_ble_eq_true rfl) dt_X7_spread_0.2.2.2.1 ?_
      refine z_istore_n (lv' := [(3, .int t4), (0, .ref (a 36)), (1, .int p0), (2, .int p1)]) M dt_X7_spread_0.2.2.2.2 rfl (by decide) rfl ?_
      refine z_aload_n M dt_X7_spread_1.1.1.1.1 rfl 1 rfl ?_
      refine gf_X7_numbers M u347 dt_X7_spread_1.1.1.1.2 ?_
      refine z_iconst M dt_X7_spread_1.1.1.2.1 ki_0 ?_
      refine z_iload_n M dt_X7_spread_1.1.1.2.2 rfl 3 rfl ?_
      refine z_iload_n M dt_X7_spread_1.1.2.1.1 rfl 2 rfl ?_
      obtain ⟨t5, hc, h⟩ := gBd h
      refine k_X4_has M hc u1197 (Nat.le_of_ble_eq_true rfl) (Nat.le_of_ble_eq_true rfl) dt_X7_spread_1.1.2.1.2 ?_
      refine z_if_eq (tgt := 47) M dt_X7_spread_1.1.2.2.1 (by decide) (fun hc => ?_) (fun hc => ?_)
      · have h := gIt hc h
        refine z_bipush M dt_X7_spread_1.2.1.1.2 kb_m2 ?_
        obtain rfl := Option.some.inj h
        exact z_iret M dt_X7_spread_1.2.1.2.1
      · have h := gIf hc h
        refine z_iload_n M dt_X7_spread_1.1.2.2.2 rfl 0 rfl ?_
        refine z_if_ne (tgt := 50) M dt_X7_spread_1.2.1.1.1 (by decide) (fun hc => ?_) (fun hc => ?_)
        · have h := gIf hc h
          refine z_aload_n M dt_X7_spread_1.2.1.2.2 rfl 1 rfl ?_
          refine gf_X7_row M u348 dt_X7_spread_1.2.2.1.1 ?_
          obtain ⟨t6, hc, h⟩ := gBd h
          refine k_X5_clear M hc u1177 (Nat.le_of_ble_eq_true rfl) (Nat.le_of_ble_eq_true rfl) dt_X7_spread_1.2.2.1.2 ?_
          refine z_pop M dt_X7_spread_1.2.2.2.1 rfl ?_
          refine z_iconst M dt_X7_spread_1.2.2.2.2 ki_0 ?_
          refine z_istore (lv' := [(4, .int (0 : Int32)), (3, .int t4), (0, .ref (a 36)), (1, .int p0), (2, .int p1)]) M dt_X7_spread_2.1.1.1.1 (by decide) rfl ?_
          refine z_iconst M dt_X7_spread_2.1.1.1.2 ki_0 ?_
          refine z_istore (lv' := [(5, .int (0 : Int32)), (4, .int (0 : Int32)), (3, .int t4), (0, .ref (a 36)), (1, .int p0), (2, .int p1)]) M dt_X7_spread_2.1.1.2.1 (by decide) rfl ?_
          refine z_sub M [3, 4, 5, 2, 1, 0] (lv' := [(0, .ref (a 36)), (1, .int p0), (2, .int p1), (3, .int t4), (4, .int (0 : Int32)), (5, .int (0 : Int32))]) rfl ?_
          exact wL_X7_spread_64 M  p0 p1 t4 zFu t6 (0 : Int32) (0 : Int32) h
        · have h := gIt hc h
          refine z_bipush M dt_X7_spread_1.2.1.1.2 kb_m2 ?_
          obtain rfl := Option.some.inj h
          exact z_iret M dt_X7_spread_1.2.1.2.1
    · have h := gIt hc h
      refine z_iconst M dt_X7_spread_0.2.1.2.1 ki_m1 ?_
      obtain rfl := Option.some.inj h
      exact z_iret M dt_X7_spread_0.2.1.2.2
theorem k_X7_spread {n : Nat} (M : zM l D zcl (zty cy) A ad (zR n) (cW a cy) own cc nL rt σo ov G) {p0 : Int32} {p1 : Int32} {o : (Zst × Int32)} (h : f_X7_spread σ p0 p1 = some o) {index : Nat} (hl : Cond.methodLink own index yX7_spread ∈ uw) (hR : 5 ≤ n) (hW : (st.map fun v => v.category).sum ≤ 8) (d : decode cc pc = .ok (.invokevirtual index, 3)) (kk : G o.1 lv (pc + 3) (.int o.2 :: st)) : G σ lv pc (.int p1 :: .int p0 :: .ref (a 36) :: st) := z_callV M [.int p0, .int p1] (m_X7_spread (zM_hD M) h) (hC36 σ) rfl hl u96 u1195 u1193 u1194 hd_X7_spread hR (by decide) rfl hW d kk
set_option maxHeartbeats 4000000 in
set_option maxRecDepth 100000 in
theorem m_X11_truly (hD : ∀ σ, va_D A (cW a cy σ)) {σ : Zst} {p0 : Int32} {p1 : Int32} {o : (Zst × Int32)} (h : f_X11_truly σ p0 p1 = some o) : zT l D zcl (zty cy) A ad (cW a cy) yX11_truly cX11_truly 3 (some .int) 5 [.ref (a 0), .int p0, .int p1] σ o.1 (some (.int o.2)) := by
  refine z_met pn_X11 hD (Nat.le_of_ble_eq_true rfl) rfl (fun G M => ?_)
  refine z_aload_n M dt_X11_truly_0.1.1.1 rfl 0 rfl ?_
  refine gf_X11_sorters M u437 dt_X11_truly_0.1.1.2 ?_
  refine z_iload_n M dt_X11_truly_0.1.2 rfl 1 rfl ?_
  refine z_iload_n M dt_X11_truly_0.2.1.1 rfl 2 rfl ?_
  obtain ⟨t1, hc, h⟩ := gBd h
  refine k_X7_spread M hc u1192 (Nat.le_of_ble_eq_true rfl) (Nat.le_of_ble_eq_true rfl) dt_X11_truly_0.2.1.2 ?_
  obtain rfl := Option.some.inj h
  exact z_iret M dt_X11_truly_0.2.2
set_option maxHeartbeats 4000000 in
set_option maxRecDepth 100000 in
theorem m_X10_streetCount (hD : ∀ σ, va_D A (cW a cy σ)) (σ0 : Zst) : zT l D zcl (zty cy) A ad (cW a cy) yX10_streetCount cX10_streetCount 1 (some .int) 1 [.ref (a 17)] σ0 σ0 (some (.int (f_X10_streetCount σ0))) := by
  obtain ⟨o, h⟩ : ∃ o, f_X10_streetCount σ0 = o := ⟨_, rfl⟩
  rw [h]
  refine z_met pn_X10 hD (Nat.le_of_ble_eq_true rfl) rfl (fun G M => ?_)
  refine z_aload_n M dt_X10_streetCount_0.1.1 rfl 0 rfl ?_
  refine gf_X10_streets (σ := σ0) M u236 dt_X10_streetCount_0.1.2 (v := (σ0.1 11)) rfl ?_
  subst h
  exact z_iret M dt_X10_streetCount_0.2
theorem k_X10_streetCount {n : Nat} (M : zM l D zcl (zty cy) A ad (zR n) (cW a cy) own cc nL rt σo ov G)  {index : Nat} (hl : Cond.methodLink own index yX10_streetCount ∈ uw) (hR : 2 ≤ n) (hW : (st.map fun v => v.category).sum ≤ 8) (d : decode cc pc = .ok (.invokevirtual index, 3)) (kk : G σ lv (pc + 3) (.int (f_X10_streetCount σ) :: st)) : G σ lv pc (.ref (a 17) :: st) := z_callV M [] (m_X10_streetCount (zM_hD M) σ ) (hC17 σ) rfl hl u93 u1212 u1210 u1211 hd_X10_streetCount hR (by decide) rfl hW d kk
set_option maxHeartbeats 4000000 in
set_option maxRecDepth 100000 in
theorem wL_X6_cameAndWent_34 {o : (Zst × Int32)} (M : zM l D zcl (zty cy) A ad (zR 4) (cW a cy) RX6 cX6_cameAndWent 12 (some .int) o.1 (some (.int o.2)) G) {k211 : Int32 → Int32 → Int32 → Int32 → Option (Zst × Int32)} (σ : Zst) (v1 : Int32) (v2 : Int32) (Hk211 : ∀ (w3 : Int32) (w4 : Int32) (w5 : Int32) (w6 : Int32), k211 w3 w4 w5 w6 = some o → G σ [(0, .ref (a 38)), (3, .int w3), (4, .int w4), (5, .int w5), (6, .int w6)] 211 []) :
    ∀ (n34 : Nat) (v3 : Int32) (v4 : Int32) (v5 : Int32) (v6 : Int32) (v7 : Int32), L_X6_cameAndWent_34 k211 σ v1 v2 n34 v3 v4 v5 v6 v7 = some o → G σ [(0, .ref (a 38)), (1, .int v1), (2, .int v2), (3, .int v3), (4, .int v4), (5, .int v5), (6, .int v6), (7, .int v7)] 34 [] := by
  intro n34
  induction n34 with
  | zero => intro v3 v4 v5 v6 v7 h; exact nomatch (show (none : Option (Zst × Int32)) = some _ from h)
  | succ n34 ih =>
    intro v3 v4 v5 v6 v7 h
    refine z_iload M dt_X6_cameAndWent_1.1.2.1.1 7 rfl ?_
    refine z_aload_n M dt_X6_cameAndWent_1.1.2.1.2 rfl 0 rfl ?_
    refine gf_X6_town M u368 dt_X6_cameAndWent_1.1.2.2.1 ?_
    refine k_X10_streetCount M u1209 (Nat.le_of_ble_eq_true rfl) (Nat.le_of_ble_eq_true rfl) dt_X6_cameAndWent_1.1.2.2.2 ?_
    refine z_icmp_ge (tgt := 211) M dt_X6_cameAndWent_1.2.1.1.1 (by decide) (fun hc => ?_) (fun hc => ?_)
    · have h := gIt hc h
      refine z_sub M [0, 3, 4, 5, 6] (lv' := [(0, .ref (a 38)), (3, .int v3), (4, .int v4), (5, .int v5), (6, .int v6)]) rfl ?_
      exact Hk211 v3 v4 v5 v6 h
    · have h := gIf hc h
      refine z_bipush M dt_X6_cameAndWent_1.2.1.1.2 kb_12 ?_
      refine z_iload M dt_X6_cameAndWent_1.2.1.2.1 7 rfl ?_
      refine z_imul M dt_X6_cameAndWent_1.2.1.2.2 ?_
      refine z_iload_n M dt_X6_cameAndWent_1.2.2.1.1 rfl 2 rfl ?_
      refine z_iadd M dt_X6_cameAndWent_1.2.2.1.2 ?_
      refine z_istore (lv' := [(8, .int (((12 : Int32) * v7) + v2)), (0, .ref (a 38)), (1, .int v1), (2, .int v2), (3, .int v3), (4, .int v4), (5, .int v5), (6, .int v6), (7, .int v7)]) M dt_X6_cameAndWent_1.2.2.2.1 (by decide) rfl ?_
      refine z_aload_n M dt_X6_cameAndWent_1.2.2.2.2 rfl 1 rfl ?_
      refine gf_X6_numbers M u369 dt_X6_cameAndWent_2.1.1.1.1 ?_
      refine z_iconst M dt_X6_cameAndWent_2.1.1.1.2 ki_0 ?_
      refine z_iload M dt_X6_cameAndWent_2.1.1.2.1 0 rfl ?_
      refine z_iload_n M dt_X6_cameAndWent_2.1.1.2.2 rfl 2 rfl ?_
      obtain ⟨t1, hc, h⟩ := gBd h
      refine k_X4_has M hc u1213 (Nat.le_of_ble_eq_true rfl) (Nat.le_of_ble_eq_true rfl) dt_X6_cameAndWent_2.1.2.1.1 ?_
      refine z_if_eq (tgt := 205) M dt_X6_cameAndWent_2.1.2.1.2 (by decide) (fun hc => ?_) (fun hc => ?_)
      · have h := gIt hc h
        refine z_iinc (v := (v7 + (1 : Int32))) (lv' := [(7, .int (v7 + (1 : Int32))), (8, .int (((12 : Int32) * v7) + v2)), (0, .ref (a 38)), (1, .int v1), (2, .int v2), (3, .int v3), (4, .int v4), (5, .int v5), (6, .int v6)]) M dt_X6_cameAndWent_7.1.1.1.1 (k := 8) rfl (congrArg (fun q => v7 + q) ki_1) (by decide) rfl ?_
        refine z_goto (tgt := 34) M dt_X6_cameAndWent_7.1.1.1.2 (by decide) ?_
        refine z_sub M [2, 3, 4, 5, 6, 7, 8, 0] (lv' := [(0, .ref (a 38)), (1, .int v1), (2, .int v2), (3, .int v3), (4, .int v4), (5, .int v5), (6, .int v6), (7, .int (v7 + (1 : Int32)))]) rfl ?_
        exact ih v3 v4 v5 v6 (v7 + (1 : Int32)) h
      · have h := gIf hc h
        refine z_aload_n M dt_X6_cameAndWent_2.1.2.2.1 rfl 1 rfl ?_
        refine gf_X6_numbers M u369 dt_X6_cameAndWent_2.1.2.2.2 ?_
        refine z_iconst M dt_X6_cameAndWent_2.2.1.1.1 ki_1 ?_
        refine z_iload M dt_X6_cameAndWent_2.2.1.1.2 0 rfl ?_
        refine z_iload_n M dt_X6_cameAndWent_2.2.1.2.1 rfl 2 rfl ?_
        obtain ⟨t2, hc, h⟩ := gBd h
        refine k_X4_has M hc u1213 (Nat.le_of_ble_eq_true rfl) (Nat.le_of_ble_eq_true rfl) dt_X6_cameAndWent_2.2.1.2.2 ?_
        refine z_if_eq (tgt := 205) M dt_X6_cameAndWent_2.2.2.1.1 (by decide) (fun hc => ?_) (fun hc => ?_)
        · have h := gIt hc h
          refine z_iinc (v := (v7 + (1 : Int32))) (lv' := [(7, .int (v7 + (1 : Int32))), (8, .int (((12 : Int32) * v7) + v2)), (0, .ref (a 38)), (1, .int v1), (2, .int v2), (3, .int v3), (4, .int v4), (5, .int v5), (6, .int v6)]) M dt_X6_cameAndWent_7.1.1.1.1 (k := 8) rfl (congrArg (fun q => v7 + q) ki_1) (by decide) rfl ?_
          refine z_goto (tgt := 34) M dt_X6_cameAndWent_7.1.1.1.2 (by decide) ?_
          refine z_sub M [2, 3, 4, 5, 6, 7, 8, 0] (lv' := [(0, .ref (a 38)), (1, .int v1), (2, .int v2), (3, .int v3), (4, .int v4), (5, .int v5), (6, .int v6), (7, .int (v7 + (1 : Int32)))]) rfl ?_
          exact ih v3 v4 v5 v6 (v7 + (1 : Int32)) h
        · have h := gIf hc h
          refine z_aload_n M dt_X6_cameAndWent_2.2.2.1.2 rfl 1 rfl ?_
          refine gf_X6_numbers M u369 dt_X6_cameAndWent_2.2.2.2.1 ?_
          refine z_iconst M dt_X6_cameAndWent_2.2.2.2.2 ki_0 ?_
          refine z_iload M dt_X6_cameAndWent_3.1.1.1.1 0 rfl ?_
          refine z_iload_n M dt_X6_cameAndWent_3.1.1.1.2 rfl 2 rfl ?_
          obtain ⟨t3, hc, h⟩ := gBd h
          refine k_X4_of M hc u1214 (Nat.le_of_ble_eq_true rfl) (Nat.le_of_ble_eq_true rfl) dt_X6_cameAndWent_3.1.1.2.1 ?_
          refine z_istore (lv' := [(9, .int t3), (8, .int (((12 : Int32) * v7) + v2)), (0, .ref (a 38)), (1, .int v1), (2, .int v2), (3, .int v3), (4, .int v4), (5, .int v5), (6, .int v6), (7, .int v7)]) M dt_X6_cameAndWent_3.1.1.2.2 (by decide) rfl ?_
          refine z_aload_n M dt_X6_cameAndWent_3.1.2.1.1 rfl 2 rfl ?_
          refine gf_X6_numbers M u369 dt_X6_cameAndWent_3.1.2.1.2 ?_
          refine z_iconst M dt_X6_cameAndWent_3.1.2.2.1 ki_1 ?_
          refine z_iload M dt_X6_cameAndWent_3.1.2.2.2 1 rfl ?_
          refine z_iload_n M dt_X6_cameAndWent_3.2.1.1.1 rfl 3 rfl ?_
          obtain ⟨t4, hc, h⟩ := gBd h
          refine k_X4_of M hc u1214 (Nat.le_of_ble_eq_true rfl) (Nat.le_of_ble_eq_true rfl) dt_X6_cameAndWent_3.2.1.1.2 ?_
          refine z_istore (lv' := [(10, .int t4), (9, .int t3), (8, .int (((12 : Int32) * v7) + v2)), (0, .ref (a 38)), (1, .int v1), (2, .int v2), (3, .int v3), (4, .int v4), (5, .int v5), (6, .int v6), (7, .int v7)]) M dt_X6_cameAndWent_3.2.1.2.1 (by decide) rfl ?_
          refine z_iload M dt_X6_cameAndWent_3.2.1.2.2 0 rfl ?_
          refine z_aload_n M dt_X6_cameAndWent_3.2.2.1.1 rfl 3 rfl ?_
          refine gf_X6_town M u368 dt_X6_cameAndWent_3.2.2.1.2 ?_
          refine z_iload_n M dt_X6_cameAndWent_3.2.2.2.1 rfl 4 rfl ?_
          obtain ⟨t5, hc, h⟩ := gBd h
          refine k_X10_leavesOf M hc u1215 (Nat.le_of_ble_eq_true rfl) (Nat.le_of_ble_eq_true rfl) dt_X6_cameAndWent_3.2.2.2.2 ?_
          refine z_imul M dt_X6_cameAndWent_4.1.1.1.1 ?_
          refine z_bipush M dt_X6_cameAndWent_4.1.1.1.2 kb_100 ?_
          refine z_idiv M dt_X6_cameAndWent_4.1.1.2.1 (by decide) ?_
          refine z_istore (lv' := [(11, .int ((t4 * t5) / (100 : Int32))), (10, .int t4), (9, .int t3), (8, .int (((12 : Int32) * v7) + v2)), (0, .ref (a 38)), (1, .int v1), (2, .int v2), (3, .int v3), (4, .int v4), (5, .int v5), (6, .int v6), (7, .int v7)]) M dt_X6_cameAndWent_4.1.1.2.2 (by decide) rfl ?_
          refine z_iload_n M dt_X6_cameAndWent_4.1.2.1.1 rfl 7 rfl ?_
          refine z_iload M dt_X6_cameAndWent_4.1.2.1.2 2 rfl ?_
          refine z_iload M dt_X6_cameAndWent_4.1.2.2.1 1 rfl ?_
          have hJ7 : G σ [(11, .int ((t4 * t5) / (100 : Int32))), (10, .int t4), (9, .int t3), (8, .int (((12 : Int32) * v7) + v2)), (0, .ref (a 38)), (1, .int v1), (2, .int v2), (3, .int v3), (4, .int v4), (5, .int v5), (6, .int v6), (7, .int v7)] 142 [.int (if t3 ≤ t4 then (0 : Int32) else (t3 - t4)), .int v3] := by
            refine z_iadd M dt_X6_cameAndWent_4.2.2.1.2 ?_
            refine z_istore_n (lv' := [(3, .int (v3 + (if t3 ≤ t4 then (0 : Int32) else (t3 - t4)))), (11, .int ((t4 * t5) / (100 : Int32))), (10, .int t4), (9, .int t3), (8, .int (((12 : Int32) * v7) + v2)), (0, .ref (a 38)), (1, .int v1), (2, .int v2), (4, .int v4), (5, .int v5), (6, .int v6), (7, .int v7)]) M dt_X6_cameAndWent_4.2.2.2.1 rfl (by decide) rfl ?_
            refine z_iload M dt_X6_cameAndWent_4.2.2.2.2 9 rfl ?_
            refine z_iload M dt_X6_cameAndWent_5.1.1.1.1 3 rfl ?_
            refine z_iload M dt_X6_cameAndWent_5.1.1.1.2 2 rfl ?_
            have hJ9 : G σ [(3, .int (v3 + (if t3 ≤ t4 then (0 : Int32) else (t3 - t4)))), (11, .int ((t4 * t5) / (100 : Int32))), (10, .int t4), (9, .int t3), (8, .int (((12 : Int32) * v7) + v2)), (0, .ref (a 38)), (1, .int v1), (2, .int v2), (4, .int v4), (5, .int v5), (6, .int v6), (7, .int v7)] 161 [.int (if t3 ≤ t4 then (0 : Int32) else (jShl (1 : Int32) v7)), .int v5] := by
              refine z_ior M dt_X6_cameAndWent_5.2.1.1.1 ?_
              refine z_istore (lv' := [(5, .int (v5 ||| (if t3 ≤ t4 then (0 : Int32) else (jShl (1 : Int32) v7)))), (3, .int (v3 + (if t3 ≤ t4 then (0 : Int32) else (t3 - t4)))), (11, .int ((t4 * t5) / (100 : Int32))), (10, .int t4), (9, .int t3), (8, .int (((12 : Int32) * v7) + v2)), (0, .ref (a 38)), (1, .int v1), (2, .int v2), (4, .int v4), (6, .int v6), (7, .int v7)]) M dt_X6_cameAndWent_5.2.1.1.2 (by decide) rfl ?_
              refine z_iload M dt_X6_cameAndWent_5.2.1.2.1 9 rfl ?_
              refine z_iload M dt_X6_cameAndWent_5.2.1.2.2 4 rfl ?_
              refine z_iload M dt_X6_cameAndWent_5.2.2.1.1 2 rfl ?_
              have hJ11 : G σ [(5, .int (v5 ||| (if t3 ≤ t4 then (0 : Int32) else (jShl (1 : Int32) v7)))), (3, .int (v3 + (if t3 ≤ t4 then (0 : Int32) else (t3 - t4)))), (11, .int ((t4 * t5) / (100 : Int32))), (10, .int t4), (9, .int t3), (8, .int (((12 : Int32) * v7) + v2)), (0, .ref (a 38)), (1, .int v1), (2, .int v2), (4, .int v4), (6, .int v6), (7, .int v7)] 182 [.int (if ((t4 * t5) / (100 : Int32)) ≤ t3 then (0 : Int32) else (((t4 * t5) / (100 : Int32)) - t3)), .int v4] := by
                refine z_iadd M dt_X6_cameAndWent_6.1.1.2.2 ?_
                refine z_istore (lv' := [(4, .int (v4 + (if ((t4 * t5) / (100 : Int32)) ≤ t3 then (0 : Int32) else (((t4 * t5) / (100 : Int32)) - t3)))), (5, .int (v5 ||| (if t3 ≤ t4 then (0 : Int32) else (jShl (1 : Int32) v7)))), (3, .int (v3 + (if t3 ≤ t4 then (0 : Int32) else (t3 - t4)))), (11, .int ((t4 * t5) / (100 : Int32))), (10, .int t4), (9, .int t3), (8, .int (((12 : Int32) * v7) + v2)), (0, .ref (a 38)), (1, .int v1), (2, .int v2), (6, .int v6), (7, .int v7)]) M dt_X6_cameAndWent_6.1.2.1.1 (by decide) rfl ?_
                refine z_iload M dt_X6_cameAndWent_6.1.2.1.2 10 rfl ?_
                refine z_iload M dt_X6_cameAndWent_6.1.2.2.1 5 rfl ?_
                refine z_iload M dt_X6_cameAndWent_6.1.2.2.2 3 rfl ?_
                have hJ13 : G σ [(4, .int (v4 + (if ((t4 * t5) / (100 : Int32)) ≤ t3 then (0 : Int32) else (((t4 * t5) / (100 : Int32)) - t3)))), (5, .int (v5 ||| (if t3 ≤ t4 then (0 : Int32) else (jShl (1 : Int32) v7)))), (3, .int (v3 + (if t3 ≤ t4 then (0 : Int32) else (t3 - t4)))), (11, .int ((t4 * t5) / (100 : Int32))), (10, .int t4), (9, .int t3), (8, .int (((12 : Int32) * v7) + v2)), (0, .ref (a 38)), (1, .int v1), (2, .int v2), (6, .int v6), (7, .int v7)] 202 [.int (if ((t4 * t5) / (100 : Int32)) ≤ t3 then (0 : Int32) else (jShl (1 : Int32) v7)), .int v6] := by
                  refine z_ior M dt_X6_cameAndWent_6.2.2.2.1 ?_
                  refine z_istore (lv' := [(6, .int (v6 ||| (if ((t4 * t5) / (100 : Int32)) ≤ t3 then (0 : Int32) else (jShl (1 : Int32) v7)))), (4, .int (v4 + (if ((t4 * t5) / (100 : Int32)) ≤ t3 then (0 : Int32) else (((t4 * t5) / (100 : Int32)) - t3)))), (5, .int (v5 ||| (if t3 ≤ t4 then (0 : Int32) else (jShl (1 : Int32) v7)))), (3, .int (v3 + (if t3 ≤ t4 then (0 : Int32) else (t3 - t4)))), (11, .int ((t4 * t5) / (100 : Int32))), (10, .int t4), (9, .int t3), (8, .int (((12 : Int32) * v7) + v2)), (0, .ref (a 38)), (1, .int v1), (2, .int v2), (7, .int v7)]) M dt_X6_cameAndWent_6.2.2.2.2 (by decide) rfl ?_
                  refine z_iinc (v := (v7 + (1 : Int32))) (lv' := [(7, .int (v7 + (1 : Int32))), (6, .int (v6 ||| (if ((t4 * t5) / (100 : Int32)) ≤ t3 then (0 : Int32) else (jShl (1 : Int32) v7)))), (4, .int (v4 + (if ((t4 * t5) / (100 : Int32)) ≤ t3 then (0 : Int32) else (((t4 * t5) / (100 : Int32)) - t3)))), (5, .int (v5 ||| (if t3 ≤ t4 then (0 : Int32) else (jShl (1 : Int32) v7)))), (3, .int (v3 + (if t3 ≤ t4 then (0 : Int32) else (t3 - t4)))), (11, .int ((t4 * t5) / (100 : Int32))), (10, .int t4), (9, .int t3), (8, .int (((12 : Int32) * v7) + v2)), (0, .ref (a 38)), (1, .int v1), (2, .int v2)]) M dt_X6_cameAndWent_7.1.1.1.1 (k := 11) rfl (congrArg (fun q => v7 + q) ki_1) (by decide) rfl ?_
                  refine z_goto (tgt := 34) M dt_X6_cameAndWent_7.1.1.1.2 (by decide) ?_
                  refine z_sub M [9, 10, 11, 4, 2, 3, 1, 0] (lv' := [(0, .ref (a 38)), (1, .int v1), (2, .int v2), (3, .int (v3 + (if t3 ≤ t4 then (0 : Int32) else (t3 - t4)))), (4, .int (v4 + (if ((t4 * t5) / (100 : Int32)) ≤ t3 then (0 : Int32) else (((t4 * t5) / (100 : Int32)) - t3)))), (5, .int (v5 ||| (if t3 ≤ t4 then (0 : Int32) else (jShl (1 : Int32) v7)))), (6, .int (v6 ||| (if ((t4 * t5) / (100 : Int32)) ≤ t3 then (0 : Int32) else (jShl (1 : Int32) v7)))), (7, .int (v7 + (1 : Int32)))]) rfl ?_
                  exact ih (v3 + (if t3 ≤ t4 then (0 : Int32) else (t3 - t4))) (v4 + (if ((t4 * t5) / (100 : Int32)) ≤ t3 then (0 : Int32) else (((t4 * t5) / (100 : Int32)) - t3))) (v5 ||| (if t3 ≤ t4 then (0 : Int32) else (jShl (1 : Int32) v7))) (v6 ||| (if ((t4 * t5) / (100 : Int32)) ≤ t3 then (0 : Int32) else (jShl (1 : Int32) v7))) (v7 + (1 : Int32)) h
                refine z_icmp_ge (tgt := 201) M dt_X6_cameAndWent_6.2.1.1.1 (by decide) (fun hc12 => ?_) (fun hc12 => ?_)
                · refine z_iconst M dt_X6_cameAndWent_6.2.2.1.2 ki_0 ?_
                  exact (zTt hc12 hJ13)
                · refine z_iconst M dt_X6_cameAndWent_6.2.1.1.2 ki_1 ?_
                  refine z_iload M dt_X6_cameAndWent_6.2.1.2.1 11 rfl ?_
                  refine z_ishl M dt_X6_cameAndWent_6.2.1.2.2 ?_
                  refine z_goto (tgt := 202) M dt_X6_cameAndWent_6.2.2.1.1 (by decide) ?_
                  exact (zTf hc12 hJ13)
              refine z_icmp_ge (tgt := 181) M dt_X6_cameAndWent_5.2.2.1.2 (by decide) (fun hc10 => ?_) (fun hc10 => ?_)
              · refine z_iconst M dt_X6_cameAndWent_6.1.1.2.1 ki_0 ?_
                exact (zTt hc10 hJ11)
              · refine z_iload M dt_X6_cameAndWent_5.2.2.2.1 2 rfl ?_
                refine z_iload M dt_X6_cameAndWent_5.2.2.2.2 4 rfl ?_
                refine z_isub M dt_X6_cameAndWent_6.1.1.1.1 ?_
                refine z_goto (tgt := 182) M dt_X6_cameAndWent_6.1.1.1.2 (by decide) ?_
                exact (zTf hc10 hJ11)
            refine z_icmp_le (tgt := 160) M dt_X6_cameAndWent_5.1.1.2.1 (by decide) (fun hc8 => ?_) (fun hc8 => ?_)
            · refine z_iconst M dt_X6_cameAndWent_5.1.2.2.2 ki_0 ?_
              exact (zTt hc8 hJ9)
            · refine z_iconst M dt_X6_cameAndWent_5.1.1.2.2 ki_1 ?_
              refine z_iload M dt_X6_cameAndWent_5.1.2.1.1 11 rfl ?_
              refine z_ishl M dt_X6_cameAndWent_5.1.2.1.2 ?_
              refine z_goto (tgt := 161) M dt_X6_cameAndWent_5.1.2.2.1 (by decide) ?_
              exact (zTf hc8 hJ9)
          refine z_icmp_le (tgt := 141) M dt_X6_cameAndWent_4.1.2.2.2 (by decide) (fun hc6 => ?_) (fun hc6 => ?_)
          · refine z_iconst M dt_X6_cameAndWent_4.2.2.1.1 ki_0 ?_
            exact (zTt hc6 hJ7)
          · refine z_iload M dt_X6_cameAndWent_4.2.1.1.1 2 rfl ?_
            refine z_iload M dt_X6_cameAndWent_4.2.1.1.2 1 rfl ?_
            refine z_isub M dt_X6_cameAndWent_4.2.1.2.1 ?_
            refine z_goto (tgt := 142) M dt_X6_cameAndWent_4.2.1.2.2 (by decide) ?_
            exact (zTf hc6 hJ7)
set_option maxHeartbeats 4000000 in
set_option maxRecDepth 100000 in
theorem wJ_X6_cameAndWent_211 {o : (Zst × Int32)} (M : zM l D zcl (zty cy) A ad (zR 4) (cW a cy) RX6 cX6_cameAndWent 12 (some .int) o.1 (some (.int o.2)) G) (σ : Zst) (v3 : Int32) (v4 : Int32) (v5 : Int32) (v6 : Int32)  (h : J_X6_cameAndWent_211 σ v3 v4 v5 v6 = some o) : G σ [(0, .ref (a 38)), (3, .int v3), (4, .int v4), (5, .int v5), (6, .int v6)] 211 [] := by
  refine z_aload_n M dt_X6_cameAndWent_7.1.1.2.1 rfl 0 rfl ?_
  refine gf_X6_row M u370 dt_X6_cameAndWent_7.1.1.2.2 ?_
  obtain ⟨t14, hc, h⟩ := gBd h
  refine k_X5_clear M hc u1216 (Nat.le_of_ble_eq_true rfl) (Nat.le_of_ble_eq_true rfl) dt_X6_cameAndWent_7.1.2.1.1 ?_
  refine z_iload M dt_X6_cameAndWent_7.1.2.1.2 2 rfl ?_
  refine z_i2l M dt_X6_cameAndWent_7.1.2.2.1 ?_
  obtain ⟨t15, hc, h⟩ := gBd h
  refine k_X5_add M hc u1217 (Nat.le_of_ble_eq_true rfl) (Nat.le_of_ble_eq_true rfl) dt_X6_cameAndWent_7.1.2.2.2 ?_
  refine z_iload M dt_X6_cameAndWent_7.2.1.1.1 3 rfl ?_
  refine z_i2l M dt_X6_cameAndWent_7.2.1.1.2 ?_
  obtain ⟨t16, hc, h⟩ := gBd h
  refine k_X5_add M hc u1217 (Nat.le_of_ble_eq_true rfl) (Nat.le_of_ble_eq_true rfl) dt_X6_cameAndWent_7.2.1.2.1 ?_
  refine z_iload M dt_X6_cameAndWent_7.2.1.2.2 4 rfl ?_
  refine z_i2l M dt_X6_cameAndWent_7.2.2.1.1 ?_
  obtain ⟨t17, hc, h⟩ := gBd h
  refine k_X5_add M hc u1217 (Nat.le_of_ble_eq_true rfl) (Nat.le_of_ble_eq_true rfl) dt_X6_cameAndWent_7.2.2.1.2 ?_
  refine z_pop M dt_X6_cameAndWent_7.2.2.2.1 rfl ?_
  refine z_iload_n M dt_X6_cameAndWent_7.2.2.2.2 rfl 1 rfl ?_
  obtain rfl := Option.some.inj h
  exact z_iret M dt_X6_cameAndWent_8
set_option maxHeartbeats 4000000 in
set_option maxRecDepth 100000 in
theorem m_X6_cameAndWent (hD : ∀ σ, va_D A (cW a cy σ)) {σ : Zst} {p0 : Int32} {p1 : Int32} {o : (Zst × Int32)} (h : f_X6_cameAndWent σ p0 p1 = some o) : zT l D zcl (zty cy) A ad (cW a cy) yX6_cameAndWent cX6_cameAndWent 12 (some .int) 4 [.ref (a 38), .int p0, .int p1] σ o.1 (some (.int o.2)) := by
  refine z_met pn_X6 hD (Nat.le_of_ble_eq_true rfl) rfl (fun G M => ?_)
  refine z_aload_n M dt_X6_cameAndWent_0.1.1.1.1 rfl 0 rfl ?_
  refine gf_X6_town M u368 dt_X6_cameAndWent_0.1.1.1.2 ?_
  refine z_iload_n M dt_X6_cameAndWent_0.1.1.2.1 rfl 1 rfl ?_
  refine k_X10_hasSort M u1207 (Nat.le_of_ble_eq_true rfl) (Nat.le_of_ble_eq_true rfl) dt_X6_cameAndWent_0.1.1.2.2 ?_
  refine z_if_eq (tgt := 18) M dt_X6_cameAndWent_0.1.2.1.1 (by decide) (fun hc => ?_) (fun hc => ?_)
  · have h := gIt hc h
    refine z_iconst M dt_X6_cameAndWent_0.2.1.1.1 ki_m1 ?_
    obtain rfl := Option.some.inj h
    exact z_iret M dt_X6_cameAndWent_0.2.1.1.2
  · have h := gIf hc h
    refine z_iload_n M dt_X6_cameAndWent_0.1.2.1.2 rfl 2 rfl ?_
    refine kn_X11_isWeek M u1208 (Nat.le_of_ble_eq_true rfl) (Nat.le_of_ble_eq_true rfl) dt_X6_cameAndWent_0.1.2.2.1 ?_
    refine z_if_ne (tgt := 20) M dt_X6_cameAndWent_0.1.2.2.2 (by decide) (fun hc => ?_) (fun hc => ?_)
    · have h := gIf hc h
      refine z_iconst M dt_X6_cameAndWent_0.2.1.2.1 ki_0 ?_
      refine z_istore_n (lv' := [(3, .int (0 : Int32)), (0, .ref (a 38)), (1, .int p0), (2, .int p1)]) M dt_X6_cameAndWent_0.2.1.2.2 rfl (by decide) rfl ?_
      refine z_iconst M dt_X6_cameAndWent_0.2.2.1.1 ki_0 ?_
      refine z_istore (lv' := [(4, .int (0 : Int32)), (3, .int (0 : Int32)), (0, .ref (a 38)), (1, .int p0), (2, .int p1)]) M dt_X6_cameAndWent_0.2.2.1.2 (by decide) rfl ?_
      refine z_iconst M dt_X6_cameAndWent_0.2.2.2.1 ki_0 ?_
      refine z_istore (lv' := [(5, .int (0 : Int32)), (4, .int (0 : Int32)), (3, .int (0 : Int32)), (0, .ref (a 38)), (1, .int p0), (2, .int p1)]) M dt_X6_cameAndWent_0.2.2.2.2 (by decide) rfl ?_
      refine z_iconst M dt_X6_cameAndWent_1.1.1.1.1 ki_0 ?_
      refine z_istore (lv' := [(6, .int (0 : Int32)), (5, .int (0 : Int32)), (4, .int (0 : Int32)), (3, .int (0 : Int32)), (0, .ref (a 38)), (1, .int p0), (2, .int p1)]) M dt_X6_cameAndWent_1.1.1.1.2 (by decide) rfl ?_
      refine z_iconst M dt_X6_cameAndWent_1.1.1.2.1 ki_0 ?_
      refine z_istore (lv' := [(7, .int (0 : Int32)), (6, .int (0 : Int32)), (5, .int (0 : Int32)), (4, .int (0 : Int32)), (3, .int (0 : Int32)), (0, .ref (a 38)), (1, .int p0), (2, .int p1)]) M dt_X6_cameAndWent_1.1.1.2.2 (by decide) rfl ?_
      refine z_sub M [5, 6, 7, 4, 3, 2, 1, 0] (lv' := [(0, .ref (a 38)), (1, .int p0), (2, .int p1), (3, .int (0 : Int32)), (4, .int (0 : Int32)), (5, .int (0 : Int32)), (6, .int (0 : Int32)), (7, .int (0 : Int32))]) rfl ?_
      exact wL_X6_cameAndWent_34 M (k211 := (fun w18 w19 w20 w21 => J_X6_cameAndWent_211 σ w18 w19 w20 w21)) σ p0 p1 (fun w18 w19 w20 w21 h => by
          exact wJ_X6_cameAndWent_211 M  σ w18 w19 w20 w21 h) zFu (0 : Int32) (0 : Int32) (0 : Int32) (0 : Int32) (0 : Int32) h
    · have h := gIt hc h
      refine z_iconst M dt_X6_cameAndWent_0.2.1.1.1 ki_m1 ?_
      obtain rfl := Option.some.inj h
      exact z_iret M dt_X6_cameAndWent_0.2.1.1.2
theorem k_X6_cameAndWent {n : Nat} (M : zM l D zcl (zty cy) A ad (zR n) (cW a cy) own cc nL rt σo ov G) {p0 : Int32} {p1 : Int32} {o : (Zst × Int32)} (h : f_X6_cameAndWent σ p0 p1 = some o) {index : Nat} (hl : Cond.methodLink own index yX6_cameAndWent ∈ uw) (hR : 5 ≤ n) (hW : (st.map fun v => v.category).sum ≤ 8) (d : decode cc pc = .ok (.invokevirtual index, 3)) (kk : G o.1 lv (pc + 3) (.int o.2 :: st)) : G σ lv pc (.int p1 :: .int p0 :: .ref (a 38) :: st) := z_callV M [.int p0, .int p1] (m_X6_cameAndWent (zM_hD M) h) (hC38 σ) rfl hl u97 u1206 u1204 u1205 hd_X6_cameAndWent hR (by decide) rfl hW d kk
set_option maxHeartbeats 4000000 in
set_option maxRecDepth 100000 in
theorem m_X11_moved (hD : ∀ σ, va_D A (cW a cy σ)) {σ : Zst} {p0 : Int32} {p1 : Int32} {o : (Zst × Int32)} (h : f_X11_moved σ p0 p1 = some o) : zT l D zcl (zty cy) A ad (cW a cy) yX11_moved cX11_moved 3 (some .int) 5 [.ref (a 0), .int p0, .int p1] σ o.1 (some (.int o.2)) := by
  refine z_met pn_X11 hD (Nat.le_of_ble_eq_true rfl) rfl (fun G M => ?_)
  refine z_aload_n M dt_X11_moved_0.1.1.1 rfl 0 rfl ?_
  refine gf_X11_samples M u438 dt_X11_moved_0.1.1.2 ?_
  refine z_iload_n M dt_X11_moved_0.1.2 rfl 1 rfl ?_
  refine z_iload_n M dt_X11_moved_0.2.1.1 rfl 2 rfl ?_
  obtain ⟨t1, hc, h⟩ := gBd h
  refine k_X6_cameAndWent M hc u1203 (Nat.le_of_ble_eq_true rfl) (Nat.le_of_ble_eq_true rfl) dt_X11_moved_0.2.1.2 ?_
  obtain rfl := Option.some.inj h
  exact z_iret M dt_X11_moved_0.2.2
set_option maxHeartbeats 4000000 in
set_option maxRecDepth 100000 in
theorem wL_X6_bagsOf_4 {o : Int32} (M : zM l D zcl (zty cy) A ad (zR 4) (cW a cy) RX6 cX6_bagsOf 4 (some .int) σ0 (some (.int o)) G)  (v1 : Int32)  :
    ∀ (n4 : Nat) (v2 : Int32) (v3 : Int32), L_X6_bagsOf_4 σ0 v1 n4 v2 v3 = some o → G σ0 [(0, .ref (a 38)), (1, .int v1), (2, .int v2), (3, .int v3)] 4 [] := by
  intro n4
  induction n4 with
  | zero => intro v2 v3 h; exact nomatch (show (none : Option Int32) = some _ from h)
  | succ n4 ih =>
    intro v2 v3 h
    refine z_iload_n M dt_X6_bagsOf_0.1.2.1.1 rfl 3 rfl ?_
    refine z_aload_n M dt_X6_bagsOf_0.1.2.1.2 rfl 0 rfl ?_
    refine gf_X6_town M u368 dt_X6_bagsOf_0.1.2.2.1 ?_
    refine k_X10_sortCount M u1231 (Nat.le_of_ble_eq_true rfl) (Nat.le_of_ble_eq_true rfl) dt_X6_bagsOf_0.1.2.2.2 ?_
    refine z_icmp_ge (tgt := 55) M dt_X6_bagsOf_0.2.1.1.1 (by decide) (fun hc => ?_) (fun hc => ?_)
    · have h := gIt hc h
      refine z_iload_n M dt_X6_bagsOf_1.2.2.2.2 rfl 2 rfl ?_
      obtain rfl := Option.some.inj h
      exact z_iret M dt_X6_bagsOf_2
    · have h := gIf hc h
      refine z_aload_n M dt_X6_bagsOf_0.2.1.1.2 rfl 0 rfl ?_
      refine gf_X6_numbers M u369 dt_X6_bagsOf_0.2.1.2.1 ?_
      refine z_iconst M dt_X6_bagsOf_0.2.1.2.2 ki_0 ?_
      refine z_iload_n M dt_X6_bagsOf_0.2.2.1.1 rfl 1 rfl ?_
      refine z_iload_n M dt_X6_bagsOf_0.2.2.1.2 rfl 3 rfl ?_
      obtain ⟨t1, hc, h⟩ := gBd h
      refine k_X4_has M hc u1213 (Nat.le_of_ble_eq_true rfl) (Nat.le_of_ble_eq_true rfl) dt_X6_bagsOf_0.2.2.2.1 ?_
      refine z_if_eq (tgt := 49) M dt_X6_bagsOf_0.2.2.2.2 (by decide) (fun hc => ?_) (fun hc => ?_)
      · have h := gIt hc h
        refine z_iinc (v := (v3 + (1 : Int32))) (lv' := [(3, .int (v3 + (1 : Int32))), (0, .ref (a 38)), (1, .int v1), (2, .int v2)]) M dt_X6_bagsOf_1.2.2.1.2 (k := 3) rfl (congrArg (fun q => v3 + q) ki_1) (by decide) rfl ?_
        refine z_goto (tgt := 4) M dt_X6_bagsOf_1.2.2.2.1 (by decide) ?_
        refine z_sub M [1, 2, 3, 0] (lv' := [(0, .ref (a 38)), (1, .int v1), (2, .int v2), (3, .int (v3 + (1 : Int32)))]) rfl ?_
        exact ih v2 (v3 + (1 : Int32)) h
      · have h := gIf hc h
        refine z_iload_n M dt_X6_bagsOf_1.1.1.1.1 rfl 2 rfl ?_
        have hJ3 : G σ0 [(0, .ref (a 38)), (1, .int v1), (2, .int v2), (3, .int v3)] 37 [.int (if (0 : Int32) ≤ v2 then v2 else (0 : Int32))] := by
          refine z_aload_n M dt_X6_bagsOf_1.1.2.1.2 rfl 0 rfl ?_
          refine gf_X6_numbers M u369 dt_X6_bagsOf_1.1.2.2.1 ?_
          refine z_iconst M dt_X6_bagsOf_1.1.2.2.2 ki_0 ?_
          refine z_iload_n M dt_X6_bagsOf_1.2.1.1.1 rfl 1 rfl ?_
          refine z_iload_n M dt_X6_bagsOf_1.2.1.1.2 rfl 3 rfl ?_
          obtain ⟨t4, hc, h⟩ := gBd h
          refine k_X4_of M hc u1214 (Nat.le_of_ble_eq_true rfl) (Nat.le_of_ble_eq_true rfl) dt_X6_bagsOf_1.2.1.2.1 ?_
          refine z_iadd M dt_X6_bagsOf_1.2.1.2.2 ?_
          refine z_istore_n (lv' := [(2, .int ((if (0 : Int32) ≤ v2 then v2 else (0 : Int32)) + t4)), (0, .ref (a 38)), (1, .int v1), (3, .int v3)]) M dt_X6_bagsOf_1.2.2.1.1 rfl (by decide) rfl ?_
          refine z_iinc (v := (v3 + (1 : Int32))) (lv' := [(3, .int (v3 + (1 : Int32))), (2, .int ((if (0 : Int32) ≤ v2 then v2 else (0 : Int32)) + t4)), (0, .ref (a 38)), (1, .int v1)]) M dt_X6_bagsOf_1.2.2.1.2 (k := 3) rfl (congrArg (fun q => v3 + q) ki_1) (by decide) rfl ?_
          refine z_goto (tgt := 4) M dt_X6_bagsOf_1.2.2.2.1 (by decide) ?_
          refine z_sub M [2, 3, 1, 0] (lv' := [(0, .ref (a 38)), (1, .int v1), (2, .int ((if (0 : Int32) ≤ v2 then v2 else (0 : Int32)) + t4)), (3, .int (v3 + (1 : Int32)))]) rfl ?_
          exact ih ((if (0 : Int32) ≤ v2 then v2 else (0 : Int32)) + t4) (v3 + (1 : Int32)) h
        refine z_if_ge (tgt := 36) M dt_X6_bagsOf_1.1.1.1.2 (by decide) (fun hc2 => ?_) (fun hc2 => ?_)
        · refine z_iload_n M dt_X6_bagsOf_1.1.2.1.1 rfl 2 rfl ?_
          exact (zTt hc2 hJ3)
        · refine z_iconst M dt_X6_bagsOf_1.1.1.2.1 ki_0 ?_
          refine z_goto (tgt := 37) M dt_X6_bagsOf_1.1.1.2.2 (by decide) ?_
          exact (zTf hc2 hJ3)
set_option maxHeartbeats 4000000 in
set_option maxRecDepth 100000 in
theorem m_X6_bagsOf (hD : ∀ σ, va_D A (cW a cy σ)) {σ0 : Zst} {p0 : Int32} {o : Int32} (h : f_X6_bagsOf σ0 p0 = some o) : zT l D zcl (zty cy) A ad (cW a cy) yX6_bagsOf cX6_bagsOf 4 (some .int) 4 [.ref (a 38), .int p0] σ0 σ0 (some (.int o)) := by
  refine z_met pn_X6 hD (Nat.le_of_ble_eq_true rfl) rfl (fun G M => ?_)
  refine z_iconst M dt_X6_bagsOf_0.1.1.1.1 ki_m1 ?_
  refine z_istore_n (lv' := [(2, .int (-1 : Int32)), (0, .ref (a 38)), (1, .int p0)]) M dt_X6_bagsOf_0.1.1.1.2 rfl (by decide) rfl ?_
  refine z_iconst M dt_X6_bagsOf_0.1.1.2.1 ki_0 ?_
  refine z_istore_n (lv' := [(3, .int (0 : Int32)), (2, .int (-1 : Int32)), (0, .ref (a 38)), (1, .int p0)]) M dt_X6_bagsOf_0.1.1.2.2 rfl (by decide) rfl ?_
  refine z_sub M [2, 3, 1, 0] (lv' := [(0, .ref (a 38)), (1, .int p0), (2, .int (-1 : Int32)), (3, .int (0 : Int32))]) rfl ?_
  exact wL_X6_bagsOf_4 M  p0 zFu (-1 : Int32) (0 : Int32) h
theorem k_X6_bagsOf {n : Nat} (M : zM l D zcl (zty cy) A ad (zR n) (cW a cy) own cc nL rt σo ov G) {p0 : Int32} {o : Int32} (h : f_X6_bagsOf σ p0 = some o) {index : Nat} (hl : Cond.methodLink own index yX6_bagsOf ∈ uw) (hR : 5 ≤ n) (hW : (st.map fun v => v.category).sum ≤ 8) (d : decode cc pc = .ok (.invokevirtual index, 3)) (kk : G σ lv (pc + 3) (.int o :: st)) : G σ lv pc (.int p0 :: .ref (a 38) :: st) := z_callV M [.int p0] (m_X6_bagsOf (zM_hD M) h) (hC38 σ) rfl hl u97 u1230 u1229 u35 hd_X6_bagsOf hR (by decide) rfl hW d kk
set_option maxHeartbeats 4000000 in
set_option maxRecDepth 100000 in
theorem wL_X6_insert_2 {o : Zst} (M : zM l D zcl (zty cy) A ad (zR 1) (cW a cy) RX6 cX6_insert 4 none o none G) {k44 : Zst → Int32 → Option Zst}  (v2 : Int32) (Hk44 : ∀ (σ : Zst) (w3 : Int32), k44 σ w3 = some o → G σ [(0, .ref (a 38)), (2, .int v2), (3, .int w3)] 44 []) :
    ∀ (n2 : Nat) (σ : Zst) (v3 : Int32), L_X6_insert_2 k44 v2 n2 σ v3 = some o → G σ [(0, .ref (a 38)), (2, .int v2), (3, .int v3)] 2 [] := by
  intro n2
  induction n2 with
  | zero => intro σ v3 h; exact nomatch (show (none : Option Zst) = some _ from h)
  | succ n2 ih =>
    intro σ v3 h
    refine z_iload_n M dt_X6_insert_0.1.1.2.1 rfl 2 rfl ?_
    refine z_if_le (tgt := 44) M dt_X6_insert_0.1.1.2.2 (by decide) (fun hc => ?_) (fun hc => ?_)
    · have h := gIt hc h
      exact Hk44 σ v3 h
    · have h := gIf hc h
      refine z_iload_n M dt_X6_insert_0.1.2.1.1 rfl 2 rfl ?_
      refine z_bipush M dt_X6_insert_0.1.2.1.2 kb_12 ?_
      refine z_icmp_ge (tgt := 44) M dt_X6_insert_0.1.2.2.1 (by decide) (fun hc => ?_) (fun hc => ?_)
      · have h := gIt hc h
        exact Hk44 σ v3 h
      · have h := gIf hc h
        refine z_aload_n M dt_X6_insert_0.1.2.2.2 rfl 0 rfl ?_
        refine gf_X6_sorted M u372 dt_X6_insert_0.2.1.1.1 ?_
        refine z_iload_n M dt_X6_insert_0.2.1.1.2 rfl 2 rfl ?_
        refine z_iconst M dt_X6_insert_0.2.1.2.1 ki_1 ?_
        refine z_isub M dt_X6_insert_0.2.1.2.2 ?_
        have ⟨hg, h⟩ := gIx_s h
        refine al_C40 (σ := σ) M (f := (σ.2.1 24)) rfl hg dt_X6_insert_0.2.2.1.1 ?_
        refine z_iload_n M dt_X6_insert_0.2.2.1.2 rfl 1 rfl ?_
        refine z_icmp_le (tgt := 44) M dt_X6_insert_0.2.2.2.1 (by decide) (fun hc => ?_) (fun hc => ?_)
        · have h := gIt hc h
          exact Hk44 σ v3 h
        · have h := gIf hc h
          refine z_aload_n M dt_X6_insert_0.2.2.2.2 rfl 0 rfl ?_
          refine gf_X6_sorted M u372 dt_X6_insert_1.1.1.1.1 ?_
          refine z_iload_n M dt_X6_insert_1.1.1.1.2 rfl 2 rfl ?_
          refine z_aload_n M dt_X6_insert_1.1.1.2.1 rfl 0 rfl ?_
          refine gf_X6_sorted M u372 dt_X6_insert_1.1.1.2.2 ?_
          refine z_iload_n M dt_X6_insert_1.1.2.1.1 rfl 2 rfl ?_
          refine z_iconst M dt_X6_insert_1.1.2.1.2 ki_1 ?_
          refine z_isub M dt_X6_insert_1.1.2.2.1 ?_
          have ⟨hg, h⟩ := gIx_s h
          refine al_C40 (σ := σ) M (f := (σ.2.1 24)) rfl hg dt_X6_insert_1.1.2.2.2 ?_
          have ⟨hg, h⟩ := gIx_s h
          refine as_C40 (σ := σ) M (f := (σ.2.1 24)) rfl hg dt_X6_insert_1.2.1.1.1 ?_
          refine z_iinc (v := (v3 + (-1 : Int32))) (lv' := [(3, .int (v3 + (-1 : Int32))), (0, .ref (a 38)), (2, .int v2)]) M dt_X6_insert_1.2.1.1.2 (k := 2) rfl (congrArg (fun q => v3 + q) ki_m1) (by decide) rfl ?_
          refine z_goto (tgt := 2) M dt_X6_insert_1.2.1.2.1 (by decide) ?_
          refine z_sub M [1, 2, 0] (lv' := [(0, .ref (a 38)), (2, .int v2), (3, .int (v3 + (-1 : Int32)))]) rfl ?_
          exact ih (zA σ 24 (upd (σ.2.1 24) (Int32.toNatClampNeg v3) ((σ.2.1 24) (Int32.toNatClampNeg (v3 - (1 : Int32)))))) (v3 + (-1 : Int32)) h
set_option maxHeartbeats 4000000 in
set_option maxRecDepth 100000 in
theorem wJ_X6_insert_44 {o : Zst} (M : zM l D zcl (zty cy) A ad (zR 1) (cW a cy) RX6 cX6_insert 4 none o none G) (σ : Zst) (v2 : Int32) (v3 : Int32)  (h : J_X6_insert_44 σ v2 v3 = some o) : G σ [(0, .ref (a 38)), (2, .int v2), (3, .int v3)] 44 [] := by
  refine z_iload_n M dt_X6_insert_1.2.1.2.2 rfl 2 rfl ?_
  refine z_if_lt (tgt := 61) M dt_X6_insert_1.2.2.1.1 (by decide) (fun hc => ?_) (fun hc => ?_)
  · have h := gIt hc h
    obtain rfl := Option.some.inj h
    exact z_vret M dt_X6_insert_2.2.2
  · have h := gIf hc h
    refine z_iload_n M dt_X6_insert_1.2.2.1.2 rfl 2 rfl ?_
    refine z_bipush M dt_X6_insert_1.2.2.2.1 kb_12 ?_
    refine z_icmp_ge (tgt := 61) M dt_X6_insert_1.2.2.2.2 (by decide) (fun hc => ?_) (fun hc => ?_)
    · have h := gIt hc h
      obtain rfl := Option.some.inj h
      exact z_vret M dt_X6_insert_2.2.2
    · have h := gIf hc h
      refine z_aload_n M dt_X6_insert_2.1.1.1 rfl 0 rfl ?_
      refine gf_X6_sorted M u372 dt_X6_insert_2.1.1.2 ?_
      refine z_iload_n M dt_X6_insert_2.1.2 rfl 2 rfl ?_
      refine z_iload_n M dt_X6_insert_2.2.1.1 rfl 1 rfl ?_
      have ⟨hg, h⟩ := gIx_s h
      refine as_C40 (σ := σ) M (f := (σ.2.1 24)) rfl hg dt_X6_insert_2.2.1.2 ?_
      obtain rfl := Option.some.inj h
      exact z_vret M dt_X6_insert_2.2.2
set_option maxHeartbeats 4000000 in
set_option maxRecDepth 100000 in
theorem m_X6_insert (hD : ∀ σ, va_D A (cW a cy σ)) {σ : Zst} {p0 : Int32} {p1 : Int32} {o : Zst} (h : f_X6_insert σ p0 p1 = some o) : zT l D zcl (zty cy) A ad (cW a cy) yX6_insert cX6_insert 4 none 1 [.ref (a 38), .int p0, .int p1] σ o none := by
  refine z_met pn_X6 hD (Nat.le_of_ble_eq_true rfl) rfl (fun G M => ?_)
  refine z_iload_n M dt_X6_insert_0.1.1.1.1 rfl 1 rfl ?_
  refine z_istore_n (lv' := [(3, .int p0), (0, .ref (a 38)), (1, .int p0), (2, .int p1)]) M dt_X6_insert_0.1.1.1.2 rfl (by decide) rfl ?_
  refine z_sub M [1, 3, 0] (lv' := [(0, .ref (a 38)), (2, .int p1), (3, .int p0)]) rfl ?_
  exact wL_X6_insert_2 M (k44 := (fun σ2 w1 => J_X6_insert_44 σ2 p1 w1)) p1 (fun σ2 w1 h => by
      exact wJ_X6_insert_44 M  σ2 p1 w1 h) zFu σ p0 h
theorem k_X6_insert {n : Nat} (M : zM l D zcl (zty cy) A ad (zR n) (cW a cy) own cc nL rt σo ov G) {p0 : Int32} {p1 : Int32} {o : Zst} (h : f_X6_insert σ p0 p1 = some o) {index : Nat} (hl : Cond.methodLink own index yX6_insert ∈ uw) (hR : 2 ≤ n) (hW : (st.map fun v => v.category).sum ≤ 8) (d : decode cc pc = .ok (.invokevirtual index, 3)) (kk : G o lv (pc + 3) (st)) : G σ lv pc (.int p1 :: .int p0 :: .ref (a 38) :: st) := z_callV M [.int p0, .int p1] (m_X6_insert (zM_hD M) h) (hC38 σ) rfl hl u97 u1235 u1234 u36 hd_X6_insert hR (by decide) rfl hW d kk
set_option maxHeartbeats 4000000 in
set_option maxRecDepth 100000 in
theorem wL_X6_feastWeeks_17 {o : (Zst × Int32)} (M : zM l D zcl (zty cy) A ad (zR 5) (cW a cy) RX6 cX6_feastWeeks 6 (some .int) o.1 (some (.int o.2)) G) {k68 : Zst → Int32 → Option (Zst × Int32)}  (v1 : Int32) (Hk68 : ∀ (σ : Zst) (w2 : Int32), k68 σ w2 = some o → G σ [(0, .ref (a 38)), (2, .int w2)] 68 []) :
    ∀ (n17 : Nat) (σ : Zst) (v2 : Int32) (v3 : Int32), L_X6_feastWeeks_17 k68 v1 n17 σ v2 v3 = some o → G σ [(0, .ref (a 38)), (1, .int v1), (2, .int v2), (3, .int v3)] 17 [] := by
  intro n17
  induction n17 with
  | zero => intro σ v2 v3 h; exact nomatch (show (none : Option (Zst × Int32)) = some _ from h)
  | succ n17 ih =>
    intro σ v2 v3 h
    refine z_iload_n M dt_X6_feastWeeks_0.2.1.2.2 rfl 3 rfl ?_
    refine z_bipush M dt_X6_feastWeeks_0.2.2.1.1 kb_12 ?_
    refine z_icmp_ge (tgt := 68) M dt_X6_feastWeeks_0.2.2.1.2 (by decide) (fun hc => ?_) (fun hc => ?_)
    · have h := gIt hc h
      refine z_sub M [0, 2] (lv' := [(0, .ref (a 38)), (2, .int v2)]) rfl ?_
      exact Hk68 σ v2 h
    · have h := gIf hc h
      refine z_aload_n M dt_X6_feastWeeks_0.2.2.2.1 rfl 0 rfl ?_
      refine gf_X6_totals M u371 dt_X6_feastWeeks_0.2.2.2.2 ?_
      refine z_iload_n M dt_X6_feastWeeks_1.1.1.1.1 rfl 3 rfl ?_
      refine z_aload_n M dt_X6_feastWeeks_1.1.1.1.2 rfl 0 rfl ?_
      refine z_bipush M dt_X6_feastWeeks_1.1.1.2.1 kb_12 ?_
      refine z_iload_n M dt_X6_feastWeeks_1.1.1.2.2 rfl 1 rfl ?_
      refine z_imul M dt_X6_feastWeeks_1.1.2.1.1 ?_
      refine z_iload_n M dt_X6_feastWeeks_1.1.2.1.2 rfl 3 rfl ?_
      refine z_iadd M dt_X6_feastWeeks_1.1.2.2.1 ?_
      obtain ⟨t1, hc, h⟩ := gBd h
      refine k_X6_bagsOf M hc u1227 (Nat.le_of_ble_eq_true rfl) (Nat.le_of_ble_eq_true rfl) dt_X6_feastWeeks_1.1.2.2.2 ?_
      have ⟨hg, h⟩ := gIx_s h
      refine as_C39 (σ := σ) M (f := (σ.2.1 23)) rfl hg dt_X6_feastWeeks_1.2.1.1.1 ?_
      refine z_aload_n M dt_X6_feastWeeks_1.2.1.1.2 rfl 0 rfl ?_
      refine gf_X6_totals M u371 dt_X6_feastWeeks_1.2.1.2.1 ?_
      refine z_iload_n M dt_X6_feastWeeks_1.2.1.2.2 rfl 3 rfl ?_
      have ⟨hg, h⟩ := gIx_s h
      refine al_C39 (σ := (zA σ 23 (upd (σ.2.1 23) (Int32.toNatClampNeg v3) t1))) M (f := (upd (σ.2.1 23) (Int32.toNatClampNeg v3) t1)) rfl hg dt_X6_feastWeeks_1.2.2.1.1 ?_
      refine z_if_lt (tgt := 62) M dt_X6_feastWeeks_1.2.2.1.2 (by decide) (fun hc => ?_) (fun hc => ?_)
      · have h := gIt hc h
        refine z_iinc (v := (v3 + (1 : Int32))) (lv' := [(3, .int (v3 + (1 : Int32))), (0, .ref (a 38)), (1, .int v1), (2, .int v2)]) M dt_X6_feastWeeks_2.1.2.2.1 (k := 3) rfl (congrArg (fun q => v3 + q) ki_1) (by decide) rfl ?_
        refine z_goto (tgt := 17) M dt_X6_feastWeeks_2.1.2.2.2 (by decide) ?_
        refine z_sub M [1, 2, 3, 0] (lv' := [(0, .ref (a 38)), (1, .int v1), (2, .int v2), (3, .int (v3 + (1 : Int32)))]) rfl ?_
        exact ih (zA σ 23 (upd (σ.2.1 23) (Int32.toNatClampNeg v3) t1)) v2 (v3 + (1 : Int32)) h
      · have h := gIf hc h
        refine z_aload_n M dt_X6_feastWeeks_1.2.2.2.1 rfl 0 rfl ?_
        refine z_iload_n M dt_X6_feastWeeks_1.2.2.2.2 rfl 2 rfl ?_
        refine z_aload_n M dt_X6_feastWeeks_2.1.1.1.1 rfl 0 rfl ?_
        refine gf_X6_totals M u371 dt_X6_feastWeeks_2.1.1.1.2 ?_
        refine z_iload_n M dt_X6_feastWeeks_2.1.1.2.1 rfl 3 rfl ?_
        have ⟨hg, h⟩ := gIx_s h
        refine al_C39 (σ := (zA σ 23 (upd (σ.2.1 23) (Int32.toNatClampNeg v3) t1))) M (f := (upd (σ.2.1 23) (Int32.toNatClampNeg v3) t1)) rfl hg dt_X6_feastWeeks_2.1.1.2.2 ?_
        obtain ⟨t2, hc, h⟩ := gBd h
        refine k_X6_insert M hc u1232 (Nat.le_of_ble_eq_true rfl) (Nat.le_of_ble_eq_true rfl) dt_X6_feastWeeks_2.1.2.1.1 ?_
        refine z_iinc (v := (v2 + (1 : Int32))) (lv' := [(2, .int (v2 + (1 : Int32))), (0, .ref (a 38)), (1, .int v1), (3, .int v3)]) M dt_X6_feastWeeks_2.1.2.1.2 (k := 2) rfl (congrArg (fun q => v2 + q) ki_1) (by decide) rfl ?_
        refine z_iinc (v := (v3 + (1 : Int32))) (lv' := [(3, .int (v3 + (1 : Int32))), (2, .int (v2 + (1 : Int32))), (0, .ref (a 38)), (1, .int v1)]) M dt_X6_feastWeeks_2.1.2.2.1 (k := 3) rfl (congrArg (fun q => v3 + q) ki_1) (by decide) rfl ?_
        refine z_goto (tgt := 17) M dt_X6_feastWeeks_2.1.2.2.2 (by decide) ?_
        refine z_sub M [2, 3, 1, 0] (lv' := [(0, .ref (a 38)), (1, .int v1), (2, .int (v2 + (1 : Int32))), (3, .int (v3 + (1 : Int32)))]) rfl ?_
        exact ih t2 (v2 + (1 : Int32)) (v3 + (1 : Int32)) h
set_option maxHeartbeats 4000000 in
set_option maxRecDepth 100000 in
theorem wL_X6_feastWeeks_91 {o : (Zst × Int32)} (M : zM l D zcl (zty cy) A ad (zR 5) (cW a cy) RX6 cX6_feastWeeks 6 (some .int) o.1 (some (.int o.2)) G) (σ : Zst) (v3 : Int32)  :
    ∀ (n91 : Nat) (v4 : Int32) (v5 : Int32), L_X6_feastWeeks_91 σ v3 n91 v4 v5 = some o → G σ [(0, .ref (a 38)), (3, .int v3), (4, .int v4), (5, .int v5)] 91 [] := by
  intro n91
  induction n91 with
  | zero => intro v4 v5 h; exact nomatch (show (none : Option (Zst × Int32)) = some _ from h)
  | succ n91 ih =>
    intro v4 v5 h
    refine z_iload M dt_X6_feastWeeks_3.2.1.1.2 3 rfl ?_
    refine z_bipush M dt_X6_feastWeeks_3.2.1.2.1 kb_12 ?_
    refine z_icmp_ge (tgt := 130) M dt_X6_feastWeeks_3.2.1.2.2 (by decide) (fun hc => ?_) (fun hc => ?_)
    · have h := gIt hc h
      refine z_iload M dt_X6_feastWeeks_4.2.2.2.1 2 rfl ?_
      obtain rfl := Option.some.inj h
      exact z_iret M dt_X6_feastWeeks_4.2.2.2.2
    · have h := gIf hc h
      refine z_iload M dt_X6_feastWeeks_3.2.2.1.1 2 rfl ?_
      refine z_aload_n M dt_X6_feastWeeks_3.2.2.1.2 rfl 0 rfl ?_
      refine gf_X6_totals M u371 dt_X6_feastWeeks_3.2.2.2.1 ?_
      refine z_iload M dt_X6_feastWeeks_3.2.2.2.2 3 rfl ?_
      have ⟨hg, h⟩ := gIx_s h
      refine al_C39 (σ := σ) M (f := (σ.2.1 23)) rfl hg dt_X6_feastWeeks_4.1.1.1.1 ?_
      refine z_iconst M dt_X6_feastWeeks_4.1.1.1.2 ki_2 ?_
      refine z_iload_n M dt_X6_feastWeeks_4.1.1.2.1 rfl 1 rfl ?_
      refine z_imul M dt_X6_feastWeeks_4.1.1.2.2 ?_
      have hJ4 : G σ [(0, .ref (a 38)), (3, .int v3), (4, .int v4), (5, .int v5)] 121 [.int (if ((σ.2.1 23) (Int32.toNatClampNeg v5)) ≤ ((2 : Int32) * v3) then (0 : Int32) else (jShl (1 : Int32) v5)), .int v4] := by
        refine z_ior M dt_X6_feastWeeks_4.2.1.2.1 ?_
        refine z_istore (lv' := [(4, .int (v4 ||| (if ((σ.2.1 23) (Int32.toNatClampNeg v5)) ≤ ((2 : Int32) * v3) then (0 : Int32) else (jShl (1 : Int32) v5)))), (0, .ref (a 38)), (3, .int v3), (5, .int v5)]) M dt_X6_feastWeeks_4.2.1.2.2 (by decide) rfl ?_
        refine z_iinc (v := (v5 + (1 : Int32))) (lv' := [(5, .int (v5 + (1 : Int32))), (4, .int (v4 ||| (if ((σ.2.1 23) (Int32.toNatClampNeg v5)) ≤ ((2 : Int32) * v3) then (0 : Int32) else (jShl (1 : Int32) v5)))), (0, .ref (a 38)), (3, .int v3)]) M dt_X6_feastWeeks_4.2.2.1.1 (k := 3) rfl (congrArg (fun q => v5 + q) ki_1) (by decide) rfl ?_
        refine z_goto (tgt := 91) M dt_X6_feastWeeks_4.2.2.1.2 (by decide) ?_
        refine z_sub M [2, 3, 1, 0] (lv' := [(0, .ref (a 38)), (3, .int v3), (4, .int (v4 ||| (if ((σ.2.1 23) (Int32.toNatClampNeg v5)) ≤ ((2 : Int32) * v3) then (0 : Int32) else (jShl (1 : Int32) v5)))), (5, .int (v5 + (1 : Int32)))]) rfl ?_
        exact ih (v4 ||| (if ((σ.2.1 23) (Int32.toNatClampNeg v5)) ≤ ((2 : Int32) * v3) then (0 : Int32) else (jShl (1 : Int32) v5))) (v5 + (1 : Int32)) h
      refine z_icmp_le (tgt := 120) M dt_X6_feastWeeks_4.1.2.1.1 (by decide) (fun hc3 => ?_) (fun hc3 => ?_)
      · refine z_iconst M dt_X6_feastWeeks_4.2.1.1.2 ki_0 ?_
        exact (zTt hc3 hJ4)
      · refine z_iconst M dt_X6_feastWeeks_4.1.2.1.2 ki_1 ?_
        refine z_iload M dt_X6_feastWeeks_4.1.2.2.1 3 rfl ?_
        refine z_ishl M dt_X6_feastWeeks_4.1.2.2.2 ?_
        refine z_goto (tgt := 121) M dt_X6_feastWeeks_4.2.1.1.1 (by decide) ?_
        exact (zTf hc3 hJ4)
set_option maxHeartbeats 4000000 in
set_option maxRecDepth 100000 in
theorem wJ_X6_feastWeeks_68 {o : (Zst × Int32)} (M : zM l D zcl (zty cy) A ad (zR 5) (cW a cy) RX6 cX6_feastWeeks 6 (some .int) o.1 (some (.int o.2)) G) (σ : Zst) (v2 : Int32)  (h : J_X6_feastWeeks_68 σ v2 = some o) : G σ [(0, .ref (a 38)), (2, .int v2)] 68 [] := by
  refine z_iload_n M dt_X6_feastWeeks_2.2.1.1.1 rfl 1 rfl ?_
  refine z_if_ne (tgt := 74) M dt_X6_feastWeeks_2.2.1.1.2 (by decide) (fun hc => ?_) (fun hc => ?_)
  · have h := gIf hc h
    refine z_aload_n M dt_X6_feastWeeks_2.2.2.1.1 rfl 0 rfl ?_
    refine gf_X6_sorted M u372 dt_X6_feastWeeks_2.2.2.1.2 ?_
    refine z_iload_n M dt_X6_feastWeeks_2.2.2.2.1 rfl 1 rfl ?_
    refine z_iconst M dt_X6_feastWeeks_2.2.2.2.2 ki_1 ?_
    refine z_isub M dt_X6_feastWeeks_3.1.1.1.1 ?_
    refine z_iconst M dt_X6_feastWeeks_3.1.1.1.2 ki_2 ?_
    refine z_idiv M dt_X6_feastWeeks_3.1.1.2.1 (by decide) ?_
    have ⟨hg, h⟩ := gIx_s h
    refine al_C40 (σ := σ) M (f := (σ.2.1 24)) rfl hg dt_X6_feastWeeks_3.1.1.2.2 ?_
    refine z_istore_n (lv' := [(3, .int ((σ.2.1 24) (Int32.toNatClampNeg ((v2 - (1 : Int32)) / (2 : Int32))))), (0, .ref (a 38)), (2, .int v2)]) M dt_X6_feastWeeks_3.1.2.1.1 rfl (by decide) rfl ?_
    refine z_iconst M dt_X6_feastWeeks_3.1.2.1.2 ki_0 ?_
    refine z_istore (lv' := [(4, .int (0 : Int32)), (3, .int ((σ.2.1 24) (Int32.toNatClampNeg ((v2 - (1 : Int32)) / (2 : Int32))))), (0, .ref (a 38)), (2, .int v2)]) M dt_X6_feastWeeks_3.1.2.2.1 (by decide) rfl ?_
    refine z_iconst M dt_X6_feastWeeks_3.1.2.2.2 ki_0 ?_
    refine z_istore (lv' := [(5, .int (0 : Int32)), (4, .int (0 : Int32)), (3, .int ((σ.2.1 24) (Int32.toNatClampNeg ((v2 - (1 : Int32)) / (2 : Int32))))), (0, .ref (a 38)), (2, .int v2)]) M dt_X6_feastWeeks_3.2.1.1.1 (by decide) rfl ?_
    refine z_sub M [3, 2, 1, 0] (lv' := [(0, .ref (a 38)), (3, .int ((σ.2.1 24) (Int32.toNatClampNeg ((v2 - (1 : Int32)) / (2 : Int32))))), (4, .int (0 : Int32)), (5, .int (0 : Int32))]) rfl ?_
    exact wL_X6_feastWeeks_91 M  σ ((σ.2.1 24) (Int32.toNatClampNeg ((v2 - (1 : Int32)) / (2 : Int32)))) zFu (0 : Int32) (0 : Int32) h
  · have h := gIt hc h
    refine z_iconst M dt_X6_feastWeeks_2.2.1.2.1 ki_0 ?_
    obtain rfl := Option.some.inj h
    exact z_iret M dt_X6_feastWeeks_2.2.1.2.2
set_option maxHeartbeats 4000000 in
set_option maxRecDepth 100000 in
theorem m_X6_feastWeeks (hD : ∀ σ, va_D A (cW a cy σ)) {σ : Zst} {p0 : Int32} {o : (Zst × Int32)} (h : f_X6_feastWeeks σ p0 = some o) : zT l D zcl (zty cy) A ad (cW a cy) yX6_feastWeeks cX6_feastWeeks 6 (some .int) 5 [.ref (a 38), .int p0] σ o.1 (some (.int o.2)) := by
  refine z_met pn_X6 hD (Nat.le_of_ble_eq_true rfl) rfl (fun G M => ?_)
  refine z_aload_n M dt_X6_feastWeeks_0.1.1.1.1 rfl 0 rfl ?_
  refine gf_X6_town M u368 dt_X6_feastWeeks_0.1.1.1.2 ?_
  refine z_iload_n M dt_X6_feastWeeks_0.1.1.2.1 rfl 1 rfl ?_
  refine k_X10_hasStreet M u1226 (Nat.le_of_ble_eq_true rfl) (Nat.le_of_ble_eq_true rfl) dt_X6_feastWeeks_0.1.1.2.2 ?_
  refine z_if_ne (tgt := 13) M dt_X6_feastWeeks_0.1.2.1.1 (by decide) (fun hc => ?_) (fun hc => ?_)
  · have h := gIf hc h
    refine z_iconst M dt_X6_feastWeeks_0.1.2.2.2 ki_0 ?_
    refine z_istore_n (lv' := [(2, .int (0 : Int32)), (0, .ref (a 38)), (1, .int p0)]) M dt_X6_feastWeeks_0.2.1.1.1 rfl (by decide) rfl ?_
    refine z_iconst M dt_X6_feastWeeks_0.2.1.1.2 ki_0 ?_
    refine z_istore_n (lv' := [(3, .int (0 : Int32)), (2, .int (0 : Int32)), (0, .ref (a 38)), (1, .int p0)]) M dt_X6_feastWeeks_0.2.1.2.1 rfl (by decide) rfl ?_
    refine z_sub M [2, 3, 1, 0] (lv' := [(0, .ref (a 38)), (1, .int p0), (2, .int (0 : Int32)), (3, .int (0 : Int32))]) rfl ?_
    exact wL_X6_feastWeeks_17 M (k68 := (fun σ6 w5 => J_X6_feastWeeks_68 σ6 w5)) p0 (fun σ6 w5 h => by
        exact wJ_X6_feastWeeks_68 M  σ6 w5 h) zFu σ (0 : Int32) (0 : Int32) h
  · have h := gIt hc h
    refine z_iconst M dt_X6_feastWeeks_0.1.2.1.2 ki_m1 ?_
    obtain rfl := Option.some.inj h
    exact z_iret M dt_X6_feastWeeks_0.1.2.2.1
theorem k_X6_feastWeeks {n : Nat} (M : zM l D zcl (zty cy) A ad (zR n) (cW a cy) own cc nL rt σo ov G) {p0 : Int32} {o : (Zst × Int32)} (h : f_X6_feastWeeks σ p0 = some o) {index : Nat} (hl : Cond.methodLink own index yX6_feastWeeks ∈ uw) (hR : 6 ≤ n) (hW : (st.map fun v => v.category).sum ≤ 8) (d : decode cc pc = .ok (.invokevirtual index, 3)) (kk : G o.1 lv (pc + 3) (.int o.2 :: st)) : G σ lv pc (.int p0 :: .ref (a 38) :: st) := z_callV M [.int p0] (m_X6_feastWeeks (zM_hD M) h) (hC38 σ) rfl hl u97 u1225 u1223 u1224 hd_X6_feastWeeks hR (by decide) rfl hW d kk
set_option maxHeartbeats 4000000 in
set_option maxRecDepth 100000 in
theorem m_X11_feasts (hD : ∀ σ, va_D A (cW a cy σ)) {σ : Zst} {p0 : Int32} {o : (Zst × Int32)} (h : f_X11_feasts σ p0 = some o) : zT l D zcl (zty cy) A ad (cW a cy) yX11_feasts cX11_feasts 2 (some .int) 6 [.ref (a 0), .int p0] σ o.1 (some (.int o.2)) := by
  refine z_met pn_X11 hD (Nat.le_of_ble_eq_true rfl) rfl (fun G M => ?_)
  refine z_aload_n M dt_X11_feasts_0.1.1.1 rfl 0 rfl ?_
  refine gf_X11_samples M u438 dt_X11_feasts_0.1.1.2 ?_
  refine z_iload_n M dt_X11_feasts_0.1.2 rfl 1 rfl ?_
  obtain ⟨t1, hc, h⟩ := gBd h
  refine k_X6_feastWeeks M hc u1222 (Nat.le_of_ble_eq_true rfl) (Nat.le_of_ble_eq_true rfl) dt_X11_feasts_0.2.1 ?_
  obtain rfl := Option.some.inj h
  exact z_iret M dt_X11_feasts_0.2.2
set_option maxHeartbeats 4000000 in
set_option maxRecDepth 100000 in
theorem wL_X6_gatherMeans_67 {o : Zst} (M : zM l D zcl (zty cy) A ad (zR 4) (cW a cy) RX6 cX6_gatherMeans 12 none o none G) {k139 : Int64 → Int32 → Option Zst} (σ : Zst) (v1 : Int32) (v2 : Int32) (v3 : Int32) (v4 : Int32) (v5 : Int32) (v6 : Int32) (Hk139 : ∀ (w7 : Int64) (w9 : Int32), k139 w7 w9 = some o → G σ [(0, .ref (a 38)), (1, .int v1), (2, .int v2), (3, .int v3), (4, .int v4), (5, .int v5), (6, .int v6), (7, .long w7), (9, .int w9)] 139 []) :
    ∀ (n67 : Nat) (v7 : Int64) (v9 : Int32) (v10 : Int32), L_X6_gatherMeans_67 k139 σ v1 v2 v3 v4 v5 v6 n67 v7 v9 v10 = some o → G σ [(0, .ref (a 38)), (1, .int v1), (2, .int v2), (3, .int v3), (4, .int v4), (5, .int v5), (6, .int v6), (7, .long v7), (9, .int v9), (10, .int v10)] 67 [] := by
  intro n67
  induction n67 with
  | zero => intro v7 v9 v10 h; exact nomatch (show (none : Option Zst) = some _ from h)
  | succ n67 ih =>
    intro v7 v9 v10 h
    refine z_iload M dt_X6_gatherMeans_2.1.1.1.2 9 rfl ?_
    refine z_iload M dt_X6_gatherMeans_2.1.1.2.1 5 rfl ?_
    refine z_icmp_ge (tgt := 139) M dt_X6_gatherMeans_2.1.1.2.2 (by decide) (fun hc => ?_) (fun hc => ?_)
    · have h := gIt hc h
      refine z_sub M [0, 1, 2, 3, 4, 5, 6, 7, 8] (lv' := [(0, .ref (a 38)), (1, .int v1), (2, .int v2), (3, .int v3), (4, .int v4), (5, .int v5), (6, .int v6), (7, .long v7), (9, .int v9)]) rfl ?_
      exact Hk139 v7 v9 h
    · have h := gIf hc h
      refine z_iload_n M dt_X6_gatherMeans_2.1.2.1.1 rfl 3 rfl ?_
      have hJ2 : G σ [(0, .ref (a 38)), (1, .int v1), (2, .int v2), (3, .int v3), (4, .int v4), (5, .int v5), (6, .int v6), (7, .long v7), (9, .int v9), (10, .int v10)] 97 [.int (if v3 = (0 : Int32) then (((12 : Int32) * v6) + v10) else (((12 : Int32) * v10) + v6))] := by
        refine z_istore (lv' := [(11, .int (if v3 = (0 : Int32) then (((12 : Int32) * v6) + v10) else (((12 : Int32) * v10) + v6))), (0, .ref (a 38)), (1, .int v1), (2, .int v2), (3, .int v3), (4, .int v4), (5, .int v5), (6, .int v6), (7, .long v7), (9, .int v9), (10, .int v10)]) M dt_X6_gatherMeans_3.1.1.1.2 (by decide) rfl ?_
        refine z_aload_n M dt_X6_gatherMeans_3.1.1.2.1 rfl 1 rfl ?_
        refine gf_X6_numbers M u369 dt_X6_gatherMeans_3.1.1.2.2 ?_
        refine z_iload_n M dt_X6_gatherMeans_3.1.2.1.1 rfl 2 rfl ?_
        refine z_iload M dt_X6_gatherMeans_3.1.2.1.2 0 rfl ?_
        refine z_iload_n M dt_X6_gatherMeans_3.1.2.2.1 rfl 3 rfl ?_
        obtain ⟨t3, hc, h⟩ := gBd h
        refine k_X4_has M hc u1213 (Nat.le_of_ble_eq_true rfl) (Nat.le_of_ble_eq_true rfl) dt_X6_gatherMeans_3.1.2.2.2 ?_
        refine z_if_eq (tgt := 133) M dt_X6_gatherMeans_3.2.1.1.1 (by decide) (fun hc => ?_) (fun hc => ?_)
        · have h := gIt hc h
          refine z_iinc (v := (v10 + (1 : Int32))) (lv' := [(10, .int (v10 + (1 : Int32))), (11, .int (if v3 = (0 : Int32) then (((12 : Int32) * v6) + v10) else (((12 : Int32) * v10) + v6))), (0, .ref (a 38)), (1, .int v1), (2, .int v2), (3, .int v3), (4, .int v4), (5, .int v5), (6, .int v6), (7, .long v7), (9, .int v9)]) M dt_X6_gatherMeans_4.1.2.1.1 (k := 10) rfl (congrArg (fun q => v10 + q) ki_1) (by decide) rfl ?_
          refine z_goto (tgt := 67) M dt_X6_gatherMeans_4.1.2.1.2 (by decide) ?_
          refine z_sub M [2, 3, 4, 5, 6, 7, 8, 9, 10, 0] (lv' := [(0, .ref (a 38)), (1, .int v1), (2, .int v2), (3, .int v3), (4, .int v4), (5, .int v5), (6, .int v6), (7, .long v7), (9, .int v9), (10, .int (v10 + (1 : Int32)))]) rfl ?_
          exact ih v7 v9 (v10 + (1 : Int32)) h
        · have h := gIf hc h
          refine z_lload M dt_X6_gatherMeans_3.2.1.1.2 8 rfl ?_
          refine z_aload_n M dt_X6_gatherMeans_3.2.1.2.1 rfl 1 rfl ?_
          refine gf_X6_numbers M u369 dt_X6_gatherMeans_3.2.1.2.2 ?_
          refine z_iload_n M dt_X6_gatherMeans_3.2.2.1.1 rfl 2 rfl ?_
          refine z_iload M dt_X6_gatherMeans_3.2.2.1.2 0 rfl ?_
          refine z_iload_n M dt_X6_gatherMeans_3.2.2.2.1 rfl 3 rfl ?_
          obtain ⟨t4, hc, h⟩ := gBd h
          refine k_X4_of M hc u1214 (Nat.le_of_ble_eq_true rfl) (Nat.le_of_ble_eq_true rfl) dt_X6_gatherMeans_3.2.2.2.2 ?_
          refine z_i2l M dt_X6_gatherMeans_4.1.1.1.1 ?_
          refine z_ladd M dt_X6_gatherMeans_4.1.1.1.2 ?_
          refine z_lstore (lv' := [(7, .long (v7 + (Int32.toInt64 t4))), (11, .int (if v3 = (0 : Int32) then (((12 : Int32) * v6) + v10) else (((12 : Int32) * v10) + v6))), (0, .ref (a 38)), (1, .int v1), (2, .int v2), (3, .int v3), (4, .int v4), (5, .int v5), (6, .int v6), (9, .int v9), (10, .int v10)]) M dt_X6_gatherMeans_4.1.1.2.1 (by decide) rfl ?_
          refine z_iinc (v := (v9 + (1 : Int32))) (lv' := [(9, .int (v9 + (1 : Int32))), (7, .long (v7 + (Int32.toInt64 t4))), (11, .int (if v3 = (0 : Int32) then (((12 : Int32) * v6) + v10) else (((12 : Int32) * v10) + v6))), (0, .ref (a 38)), (1, .int v1), (2, .int v2), (3, .int v3), (4, .int v4), (5, .int v5), (6, .int v6), (10, .int v10)]) M dt_X6_gatherMeans_4.1.1.2.2 (k := 9) rfl (congrArg (fun q => v9 + q) ki_1) (by decide) rfl ?_
          refine z_iinc (v := (v10 + (1 : Int32))) (lv' := [(10, .int (v10 + (1 : Int32))), (9, .int (v9 + (1 : Int32))), (7, .long (v7 + (Int32.toInt64 t4))), (11, .int (if v3 = (0 : Int32) then (((12 : Int32) * v6) + v10) else (((12 : Int32) * v10) + v6))), (0, .ref (a 38)), (1, .int v1), (2, .int v2), (3, .int v3), (4, .int v4), (5, .int v5), (6, .int v6)]) M dt_X6_gatherMeans_4.1.2.1.1 (k := 10) rfl (congrArg (fun q => v10 + q) ki_1) (by decide) rfl ?_
          refine z_goto (tgt := 67) M dt_X6_gatherMeans_4.1.2.1.2 (by decide) ?_
          refine z_sub M [4, 5, 6, 7, 8, 9, 10, 2, 1, 0] (lv' := [(0, .ref (a 38)), (1, .int v1), (2, .int v2), (3, .int v3), (4, .int v4), (5, .int v5), (6, .int v6), (7, .long (v7 + (Int32.toInt64 t4))), (9, .int (v9 + (1 : Int32))), (10, .int (v10 + (1 : Int32)))]) rfl ?_
          exact ih (v7 + (Int32.toInt64 t4)) (v9 + (1 : Int32)) (v10 + (1 : Int32)) h
      refine z_if_eq (tgt := 89) M dt_X6_gatherMeans_2.1.2.1.2 (by decide) (fun hc1 => ?_) (fun hc1 => ?_)
      · refine z_bipush M dt_X6_gatherMeans_2.2.2.1.1 kb_12 ?_
        refine z_iload M dt_X6_gatherMeans_2.2.2.1.2 6 rfl ?_
        refine z_imul M dt_X6_gatherMeans_2.2.2.2.1 ?_
        refine z_iload M dt_X6_gatherMeans_2.2.2.2.2 9 rfl ?_
        refine z_iadd M dt_X6_gatherMeans_3.1.1.1.1 ?_
        exact (zTt hc1 hJ2)
      · refine z_bipush M dt_X6_gatherMeans_2.1.2.2.1 kb_12 ?_
        refine z_iload M dt_X6_gatherMeans_2.1.2.2.2 9 rfl ?_
        refine z_imul M dt_X6_gatherMeans_2.2.1.1.1 ?_
        refine z_iload M dt_X6_gatherMeans_2.2.1.1.2 6 rfl ?_
        refine z_iadd M dt_X6_gatherMeans_2.2.1.2.1 ?_
        refine z_goto (tgt := 97) M dt_X6_gatherMeans_2.2.1.2.2 (by decide) ?_
        exact (zTf hc1 hJ2)
set_option maxHeartbeats 4000000 in
set_option maxRecDepth 100000 in
theorem wJ_X6_gatherMeans_139 {o : Zst} (M : zM l D zcl (zty cy) A ad (zR 4) (cW a cy) RX6 cX6_gatherMeans 12 none o none G) {k44 : Zst → Int32 → Option Zst} (σ : Zst) (v1 : Int32) (v2 : Int32) (v3 : Int32) (v4 : Int32) (v5 : Int32) (v6 : Int32) (v7 : Int64) (v9 : Int32) (Hk44 : ∀ (σ : Zst) (w6 : Int32), k44 σ w6 = some o → G σ [(0, .ref (a 38)), (1, .int v1), (2, .int v2), (3, .int v3), (4, .int v4), (5, .int v5), (6, .int w6)] 44 []) (h : J_X6_gatherMeans_139 k44 σ v1 v2 v3 v4 v5 v6 v7 v9 = some o) : G σ [(0, .ref (a 38)), (1, .int v1), (2, .int v2), (3, .int v3), (4, .int v4), (5, .int v5), (6, .int v6), (7, .long v7), (9, .int v9)] 139 [] := by
  refine z_iload M dt_X6_gatherMeans_4.1.2.2.1 8 rfl ?_
  refine z_if_le (tgt := 182) M dt_X6_gatherMeans_4.1.2.2.2 (by decide) (fun hc => ?_) (fun hc => ?_)
  · have h := gIt hc h
    refine z_iinc (v := (v6 + (1 : Int32))) (lv' := [(6, .int (v6 + (1 : Int32))), (0, .ref (a 38)), (1, .int v1), (2, .int v2), (3, .int v3), (4, .int v4), (5, .int v5), (7, .long v7), (9, .int v9)]) M dt_X6_gatherMeans_5.2.2.1.2 (k := 6) rfl (congrArg (fun q => v6 + q) ki_1) (by decide) rfl ?_
    refine z_goto (tgt := 44) M dt_X6_gatherMeans_5.2.2.2.1 (by decide) ?_
    refine z_sub M [1, 2, 3, 4, 5, 6, 0] (lv' := [(0, .ref (a 38)), (1, .int v1), (2, .int v2), (3, .int v3), (4, .int v4), (5, .int v5), (6, .int (v6 + (1 : Int32)))]) rfl ?_
    exact Hk44 σ (v6 + (1 : Int32)) h
  · have h := gIf hc h
    refine z_aload_n M dt_X6_gatherMeans_4.2.1.1.1 rfl 0 rfl ?_
    refine gf_X6_many (σ := σ) M u374 dt_X6_gatherMeans_4.2.1.1.2 (v := (σ.1 22)) rfl ?_
    refine z_bipush M dt_X6_gatherMeans_4.2.1.2.1 kb_12 ?_
    refine z_icmp_ge (tgt := 182) M dt_X6_gatherMeans_4.2.1.2.2 (by decide) (fun hc => ?_) (fun hc => ?_)
    · have h := gIt hc h
      refine z_iinc (v := (v6 + (1 : Int32))) (lv' := [(6, .int (v6 + (1 : Int32))), (0, .ref (a 38)), (1, .int v1), (2, .int v2), (3, .int v3), (4, .int v4), (5, .int v5), (7, .long v7), (9, .int v9)]) M dt_X6_gatherMeans_5.2.2.1.2 (k := 6) rfl (congrArg (fun q => v6 + q) ki_1) (by decide) rfl ?_
      refine z_goto (tgt := 44) M dt_X6_gatherMeans_5.2.2.2.1 (by decide) ?_
      refine z_sub M [1, 2, 3, 4, 5, 6, 0] (lv' := [(0, .ref (a 38)), (1, .int v1), (2, .int v2), (3, .int v3), (4, .int v4), (5, .int v5), (6, .int (v6 + (1 : Int32)))]) rfl ?_
      exact Hk44 σ (v6 + (1 : Int32)) h
    · have h := gIf hc h
      refine z_aload_n M dt_X6_gatherMeans_4.2.2.1.1 rfl 0 rfl ?_
      refine gf_X6_means M u373 dt_X6_gatherMeans_4.2.2.1.2 ?_
      refine z_aload_n M dt_X6_gatherMeans_4.2.2.2.1 rfl 0 rfl ?_
      refine gf_X6_many (σ := σ) M u374 dt_X6_gatherMeans_4.2.2.2.2 (v := (σ.1 22)) rfl ?_
      refine z_lload M dt_X6_gatherMeans_5.1.1.1.1 7 rfl ?_
      refine z_ldc2 M dt_X6_gatherMeans_5.1.1.1.2 u1250 ?_
      refine z_lmul M dt_X6_gatherMeans_5.1.1.2.1 ?_
      refine z_iload M dt_X6_gatherMeans_5.1.1.2.2 8 rfl ?_
      refine z_i2l M dt_X6_gatherMeans_5.1.2.1.1 ?_
      have ⟨hg, h⟩ := gNzL_s h
      refine z_ldiv M dt_X6_gatherMeans_5.1.2.1.2 hg ?_
      have ⟨hg, h⟩ := gIx_s h
      refine as_C41 (σ := σ) M (f := (σ.2.2.1 5)) rfl hg dt_X6_gatherMeans_5.1.2.2.1 ?_
      refine z_aload_n M dt_X6_gatherMeans_5.1.2.2.2 rfl 0 rfl ?_
      refine z_dup M dt_X6_gatherMeans_5.2.1.1.1 rfl ?_
      refine gf_X6_many (σ := (zL σ 5 (vp_updL (σ.2.2.1 5) (Int32.toNatClampNeg (σ.1 22)) ((v7 * (27720 : Int64)) / (Int32.toInt64 v9))))) M u374 dt_X6_gatherMeans_5.2.1.1.2 (v := (σ.1 22)) rfl ?_
      refine z_iconst M dt_X6_gatherMeans_5.2.1.2.1 ki_1 ?_
      refine z_iadd M dt_X6_gatherMeans_5.2.1.2.2 ?_
      refine pf_X6_many M u374 dt_X6_gatherMeans_5.2.2.1.1 ?_
      refine z_iinc (v := (v6 + (1 : Int32))) (lv' := [(6, .int (v6 + (1 : Int32))), (0, .ref (a 38)), (1, .int v1), (2, .int v2), (3, .int v3), (4, .int v4), (5, .int v5), (7, .long v7), (9, .int v9)]) M dt_X6_gatherMeans_5.2.2.1.2 (k := 6) rfl (congrArg (fun q => v6 + q) ki_1) (by decide) rfl ?_
      refine z_goto (tgt := 44) M dt_X6_gatherMeans_5.2.2.2.1 (by decide) ?_
      refine z_sub M [1, 2, 3, 4, 5, 6, 0] (lv' := [(0, .ref (a 38)), (1, .int v1), (2, .int v2), (3, .int v3), (4, .int v4), (5, .int v5), (6, .int (v6 + (1 : Int32)))]) rfl ?_
      exact Hk44 (zI (zL σ 5 (vp_updL (σ.2.2.1 5) (Int32.toNatClampNeg (σ.1 22)) ((v7 * (27720 : Int64)) / (Int32.toInt64 v9)))) 22 ((σ.1 22) + (1 : Int32))) (v6 + (1 : Int32)) h
set_option maxHeartbeats 4000000 in
set_option maxRecDepth 100000 in
theorem wL_X6_gatherMeans_44 {o : Zst} (M : zM l D zcl (zty cy) A ad (zR 4) (cW a cy) RX6 cX6_gatherMeans 12 none o none G)  (v1 : Int32) (v2 : Int32) (v3 : Int32) (v4 : Int32) (v5 : Int32)  :
    ∀ (n44 : Nat) (σ : Zst) (v6 : Int32), L_X6_gatherMeans_44 v1 v2 v3 v4 v5 n44 σ v6 = some o → G σ [(0, .ref (a 38)), (1, .int v1), (2, .int v2), (3, .int v3), (4, .int v4), (5, .int v5), (6, .int v6)] 44 [] := by
  intro n44
  induction n44 with
  | zero => intro σ v6 h; exact nomatch (show (none : Option Zst) = some _ from h)
  | succ n44 ih =>
    intro σ v6 h
    refine z_iload M dt_X6_gatherMeans_1.1.2.1.2 6 rfl ?_
    refine z_iload M dt_X6_gatherMeans_1.1.2.2.1 4 rfl ?_
    refine z_icmp_ge (tgt := 188) M dt_X6_gatherMeans_1.1.2.2.2 (by decide) (fun hc => ?_) (fun hc => ?_)
    · have h := gIt hc h
      obtain rfl := Option.some.inj h
      exact z_vret M dt_X6_gatherMeans_5.2.2.2.2
    · have h := gIf hc h
      refine z_iload M dt_X6_gatherMeans_1.2.1.1.1 6 rfl ?_
      refine z_bipush M dt_X6_gatherMeans_1.2.1.1.2 kb_12 ?_
      refine z_icmp_ge (tgt := 188) M dt_X6_gatherMeans_1.2.1.2.1 (by decide) (fun hc => ?_) (fun hc => ?_)
      · have h := gIt hc h
        obtain rfl := Option.some.inj h
        exact z_vret M dt_X6_gatherMeans_5.2.2.2.2
      · have h := gIf hc h
        refine z_lconst (v := 0) M dt_X6_gatherMeans_1.2.1.2.2 (by decide) ?_
        refine z_lstore (lv' := [(7, .long (0 : Int64)), (0, .ref (a 38)), (1, .int v1), (2, .int v2), (3, .int v3), (4, .int v4), (5, .int v5), (6, .int v6)]) M dt_X6_gatherMeans_1.2.2.1.1 (by decide) rfl ?_
        refine z_iconst M dt_X6_gatherMeans_1.2.2.1.2 ki_0 ?_
        refine z_istore (lv' := [(9, .int (0 : Int32)), (7, .long (0 : Int64)), (0, .ref (a 38)), (1, .int v1), (2, .int v2), (3, .int v3), (4, .int v4), (5, .int v5), (6, .int v6)]) M dt_X6_gatherMeans_1.2.2.2.1 (by decide) rfl ?_
        refine z_iconst M dt_X6_gatherMeans_1.2.2.2.2 ki_0 ?_
        refine z_istore (lv' := [(10, .int (0 : Int32)), (9, .int (0 : Int32)), (7, .long (0 : Int64)), (0, .ref (a 38)), (1, .int v1), (2, .int v2), (3, .int v3), (4, .int v4), (5, .int v5), (6, .int v6)]) M dt_X6_gatherMeans_2.1.1.1.1 (by decide) rfl ?_
        refine z_sub M [3, 4, 5, 6, 7, 8, 9, 2, 1, 0] (lv' := [(0, .ref (a 38)), (1, .int v1), (2, .int v2), (3, .int v3), (4, .int v4), (5, .int v5), (6, .int v6), (7, .long (0 : Int64)), (9, .int (0 : Int32)), (10, .int (0 : Int32))]) rfl ?_
        exact wL_X6_gatherMeans_67 M (k139 := (fun w5 w6 => J_X6_gatherMeans_139 (fun σ w6 => L_X6_gatherMeans_44 v1 v2 v3 v4 v5 n44 σ w6) σ v1 v2 v3 v4 v5 v6 w5 w6)) σ v1 v2 v3 v4 v5 v6 (fun w5 w6 h => by
            exact wJ_X6_gatherMeans_139 M (k44 := (fun σ w6 => L_X6_gatherMeans_44 v1 v2 v3 v4 v5 n44 σ w6)) σ v1 v2 v3 v4 v5 v6 w5 w6 ih h) zFu (0 : Int64) (0 : Int32) (0 : Int32) h
set_option maxHeartbeats 4000000 in
set_option maxRecDepth 100000 in
theorem m_X6_gatherMeans (hD : ∀ σ, va_D A (cW a cy σ)) {σ : Zst} {p0 : Int32} {p1 : Int32} {p2 : Int32} {o : Zst} (h : f_X6_gatherMeans σ p0 p1 p2 = some o) : zT l D zcl (zty cy) A ad (cW a cy) yX6_gatherMeans cX6_gatherMeans 12 none 4 [.ref (a 38), .int p0, .int p1, .int p2] σ o none := by
  refine z_met pn_X6 hD (Nat.le_of_ble_eq_true rfl) rfl (fun G M => ?_)
  refine z_aload_n M dt_X6_gatherMeans_0.1.1.1.1 rfl 0 rfl ?_
  refine z_iconst M dt_X6_gatherMeans_0.1.1.1.2 ki_0 ?_
  refine pf_X6_many M u374 dt_X6_gatherMeans_0.1.1.2.1 ?_
  refine z_iload_n M dt_X6_gatherMeans_0.1.1.2.2 rfl 3 rfl ?_
  have hJ8 : G (zI σ 22 (0 : Int32)) [(0, .ref (a 38)), (1, .int p0), (2, .int p1), (3, .int p2)] 21 [.int (if p2 = (0 : Int32) then (f_X10_streetCount (zI σ 22 (0 : Int32))) else (12 : Int32))] := by
    refine z_istore (lv' := [(4, .int (if p2 = (0 : Int32) then (f_X10_streetCount (zI σ 22 (0 : Int32))) else (12 : Int32))), (0, .ref (a 38)), (1, .int p0), (2, .int p1), (3, .int p2)]) M dt_X6_gatherMeans_0.2.1.2.1 (by decide) rfl ?_
    refine z_iload_n M dt_X6_gatherMeans_0.2.1.2.2 rfl 4 rfl ?_
    have hJ10 : G (zI σ 22 (0 : Int32)) [(4, .int (if p2 = (0 : Int32) then (f_X10_streetCount (zI σ 22 (0 : Int32))) else (12 : Int32))), (0, .ref (a 38)), (1, .int p0), (2, .int p1), (3, .int p2)] 39 [.int (if p2 = (0 : Int32) then (12 : Int32) else (f_X10_streetCount (zI σ 22 (0 : Int32))))] := by
      refine z_istore (lv' := [(5, .int (if p2 = (0 : Int32) then (12 : Int32) else (f_X10_streetCount (zI σ 22 (0 : Int32))))), (4, .int (if p2 = (0 : Int32) then (f_X10_streetCount (zI σ 22 (0 : Int32))) else (12 : Int32))), (0, .ref (a 38)), (1, .int p0), (2, .int p1), (3, .int p2)]) M dt_X6_gatherMeans_1.1.1.2.1 (by decide) rfl ?_
      refine z_iconst M dt_X6_gatherMeans_1.1.1.2.2 ki_0 ?_
      refine z_istore (lv' := [(6, .int (0 : Int32)), (5, .int (if p2 = (0 : Int32) then (12 : Int32) else (f_X10_streetCount (zI σ 22 (0 : Int32))))), (4, .int (if p2 = (0 : Int32) then (f_X10_streetCount (zI σ 22 (0 : Int32))) else (12 : Int32))), (0, .ref (a 38)), (1, .int p0), (2, .int p1), (3, .int p2)]) M dt_X6_gatherMeans_1.1.2.1.1 (by decide) rfl ?_
      refine z_sub M [3, 4, 5, 6, 2, 1, 0] (lv' := [(0, .ref (a 38)), (1, .int p0), (2, .int p1), (3, .int p2), (4, .int (if p2 = (0 : Int32) then (f_X10_streetCount (zI σ 22 (0 : Int32))) else (12 : Int32))), (5, .int (if p2 = (0 : Int32) then (12 : Int32) else (f_X10_streetCount (zI σ 22 (0 : Int32))))), (6, .int (0 : Int32))]) rfl ?_
      exact wL_X6_gatherMeans_44 M  p0 p1 p2 (if p2 = (0 : Int32) then (f_X10_streetCount (zI σ 22 (0 : Int32))) else (12 : Int32)) (if p2 = (0 : Int32) then (12 : Int32) else (f_X10_streetCount (zI σ 22 (0 : Int32)))) zFu (zI σ 22 (0 : Int32)) (0 : Int32) h
    refine z_if_eq (tgt := 37) M dt_X6_gatherMeans_0.2.2.1.1 (by decide) (fun hc9 => ?_) (fun hc9 => ?_)
    · refine z_bipush M dt_X6_gatherMeans_1.1.1.1.2 kb_12 ?_
      exact (zTt hc9 hJ10)
    · refine z_aload_n M dt_X6_gatherMeans_0.2.2.1.2 rfl 1 rfl ?_
      refine gf_X6_town M u368 dt_X6_gatherMeans_0.2.2.2.1 ?_
      refine k_X10_streetCount M u1209 (Nat.le_of_ble_eq_true rfl) (Nat.le_of_ble_eq_true rfl) dt_X6_gatherMeans_0.2.2.2.2 ?_
      refine z_goto (tgt := 39) M dt_X6_gatherMeans_1.1.1.1.1 (by decide) ?_
      exact (zTf hc9 hJ10)
  refine z_if_eq (tgt := 14) M dt_X6_gatherMeans_0.1.2.1.1 (by decide) (fun hc7 => ?_) (fun hc7 => ?_)
  · refine z_aload_n M dt_X6_gatherMeans_0.1.2.2.2 rfl 0 rfl ?_
    refine gf_X6_town M u368 dt_X6_gatherMeans_0.2.1.1.1 ?_
    refine k_X10_streetCount M u1209 (Nat.le_of_ble_eq_true rfl) (Nat.le_of_ble_eq_true rfl) dt_X6_gatherMeans_0.2.1.1.2 ?_
    exact (zTt hc7 hJ8)
  · refine z_bipush M dt_X6_gatherMeans_0.1.2.1.2 kb_12 ?_
    refine z_goto (tgt := 21) M dt_X6_gatherMeans_0.1.2.2.1 (by decide) ?_
    exact (zTf hc7 hJ8)
theorem k_X6_gatherMeans {n : Nat} (M : zM l D zcl (zty cy) A ad (zR n) (cW a cy) own cc nL rt σo ov G) {p0 : Int32} {p1 : Int32} {p2 : Int32} {o : Zst} (h : f_X6_gatherMeans σ p0 p1 p2 = some o) {index : Nat} (hl : Cond.methodLink own index yX6_gatherMeans ∈ uw) (hR : 5 ≤ n) (hW : (st.map fun v => v.category).sum ≤ 8) (d : decode cc pc = .ok (.invokevirtual index, 3)) (kk : G o lv (pc + 3) (st)) : G σ lv pc (.int p2 :: .int p1 :: .int p0 :: .ref (a 38) :: st) := z_callV M [.int p0, .int p1, .int p2] (m_X6_gatherMeans (zM_hD M) h) (hC38 σ) rfl hl u97 u1249 u1248 u37 hd_X6_gatherMeans hR (by decide) rfl hW d kk
set_option maxHeartbeats 4000000 in
set_option maxRecDepth 100000 in
theorem wL_J7_fill_53178_42_5 {o : Zst} (M : zM l D zcl (zty cy) A ad (zR 1) (cW a cy) RJ7 cJ7_fill_53178 4 none o none G)  (v1 : Int32) (v3 : Int32)  :
    ∀ (n5 : Nat) (σ : Zst) (v2 : Int32), L_J7_fill_53178_42_5 v1 v3 n5 σ v2 = some o → G σ [(0, .ref (a 42)), (1, .int v1), (2, .int v2), (3, .int v3)] 5 [] := by
  intro n5
  induction n5 with
  | zero => intro σ v2 h; exact nomatch (show (none : Option Zst) = some _ from h)
  | succ n5 ih =>
    intro σ v2 h
    refine z_iload_n M dt_J7_fill_53178_0.1.2.1.2 rfl 2 rfl ?_
    refine z_iload_n M dt_J7_fill_53178_0.1.2.2.1 rfl 3 rfl ?_
    refine z_icmp_ge (tgt := 20) M dt_J7_fill_53178_0.1.2.2.2 (by decide) (fun hc => ?_) (fun hc => ?_)
    · have h := gIt hc h
      obtain rfl := Option.some.inj h
      exact z_vret M dt_J7_fill_53178_0.2.2.2
    · have h := gIf hc h
      refine z_aload_n M dt_J7_fill_53178_0.2.1.1.1 rfl 0 rfl ?_
      refine z_iload_n M dt_J7_fill_53178_0.2.1.1.2 rfl 2 rfl ?_
      refine z_iload_n M dt_J7_fill_53178_0.2.1.2.1 rfl 1 rfl ?_
      have ⟨hg, h⟩ := gIx_s h
      refine as_C42 (σ := σ) M (f := (σ.2.1 25)) rfl hg dt_J7_fill_53178_0.2.1.2.2 ?_
      refine z_iinc (v := (v2 + (1 : Int32))) (lv' := [(2, .int (v2 + (1 : Int32))), (0, .ref (a 42)), (1, .int v1), (3, .int v3)]) M dt_J7_fill_53178_0.2.2.1.1 (k := 2) rfl (congrArg (fun q => v2 + q) ki_1) (by decide) rfl ?_
      refine z_goto (tgt := 5) M dt_J7_fill_53178_0.2.2.1.2 (by decide) ?_
      refine z_sub M [1, 2, 0, 3] (lv' := [(0, .ref (a 42)), (1, .int v1), (2, .int (v2 + (1 : Int32))), (3, .int v3)]) rfl ?_
      exact ih (zA σ 25 (upd (σ.2.1 25) (Int32.toNatClampNeg v2) v1)) (v2 + (1 : Int32)) h
set_option maxHeartbeats 4000000 in
set_option maxRecDepth 100000 in
theorem m_J7_fill_53178_42 (hD : ∀ σ, va_D A (cW a cy σ)) {σ : Zst} {p0 : Int32} {o : Zst} (h : f_J7_fill_53178_42 σ p0 = some o) : zT l D zcl (zty cy) A ad (cW a cy) yJ7_fill_53178 cJ7_fill_53178 4 none 1 [.ref (a 42), .int p0] σ o none := by
  refine z_met pn_J7 hD (Nat.le_of_ble_eq_true rfl) rfl (fun G M => ?_)
  refine z_iconst M dt_J7_fill_53178_0.1.1.1.1 ki_0 ?_
  refine z_istore_n (lv' := [(2, .int (0 : Int32)), (0, .ref (a 42)), (1, .int p0)]) M dt_J7_fill_53178_0.1.1.1.2 rfl (by decide) rfl ?_
  refine z_aload_n M dt_J7_fill_53178_0.1.1.2.1 rfl 1 rfl ?_
  refine ln_C42 M dt_J7_fill_53178_0.1.1.2.2 ?_
  refine z_istore_n (lv' := [(3, .int (13 : Int32)), (2, .int (0 : Int32)), (0, .ref (a 42)), (1, .int p0)]) M dt_J7_fill_53178_0.1.2.1.1 rfl (by decide) rfl ?_
  refine z_sub M [2, 3, 1, 0] (lv' := [(0, .ref (a 42)), (1, .int p0), (2, .int (0 : Int32)), (3, .int (13 : Int32))]) rfl ?_
  exact wL_J7_fill_53178_42_5 M  p0 (13 : Int32) zFu σ (0 : Int32) h
theorem k_J7_fill_53178_42 {n : Nat} (M : zM l D zcl (zty cy) A ad (zR n) (cW a cy) own cc nL rt σo ov G) {p0 : Int32} {o : Zst} (h : f_J7_fill_53178_42 σ p0 = some o) {index : Nat} (hl : Cond.methodLink own index yJ7_fill_53178 ∈ uw) (hR : 2 ≤ n) (hW : (st.map fun v => v.category).sum ≤ 8) (d : decode cc pc = .ok (.invokestatic index, 3)) (kk : G o lv (pc + 3) (st)) : G σ lv pc (.int p0 :: .ref (a 42) :: st) := z_callS M [.ref (a 42), .int p0] (m_J7_fill_53178_42 (zM_hD M) h) hl u108 u1257 u1256 hd_J7_fill_53178 hR (by decide) rfl hW d kk
set_option maxHeartbeats 4000000 in
set_option maxRecDepth 100000 in
theorem wL_J7_fill_53178_43_5 {o : Zst} (M : zM l D zcl (zty cy) A ad (zR 1) (cW a cy) RJ7 cJ7_fill_53178 4 none o none G)  (v1 : Int32) (v3 : Int32)  :
    ∀ (n5 : Nat) (σ : Zst) (v2 : Int32), L_J7_fill_53178_43_5 v1 v3 n5 σ v2 = some o → G σ [(0, .ref (a 43)), (1, .int v1), (2, .int v2), (3, .int v3)] 5 [] := by
  intro n5
  induction n5 with
  | zero => intro σ v2 h; exact nomatch (show (none : Option Zst) = some _ from h)
  | succ n5 ih =>
    intro σ v2 h
    refine z_iload_n M dt_J7_fill_53178_0.1.2.1.2 rfl 2 rfl ?_
    refine z_iload_n M dt_J7_fill_53178_0.1.2.2.1 rfl 3 rfl ?_
    refine z_icmp_ge (tgt := 20) M dt_J7_fill_53178_0.1.2.2.2 (by decide) (fun hc => ?_) (fun hc => ?_)
    · have h := gIt hc h
      obtain rfl := Option.some.inj h
      exact z_vret M dt_J7_fill_53178_0.2.2.2
    · have h := gIf hc h
      refine z_aload_n M dt_J7_fill_53178_0.2.1.1.1 rfl 0 rfl ?_
      refine z_iload_n M dt_J7_fill_53178_0.2.1.1.2 rfl 2 rfl ?_
      refine z_iload_n M dt_J7_fill_53178_0.2.1.2.1 rfl 1 rfl ?_
      have ⟨hg, h⟩ := gIx_s h
      refine as_C43 (σ := σ) M (f := (σ.2.1 26)) rfl hg dt_J7_fill_53178_0.2.1.2.2 ?_
      refine z_iinc (v := (v2 + (1 : Int32))) (lv' := [(2, .int (v2 + (1 : Int32))), (0, .ref (a 43)), (1, .int v1), (3, .int v3)]) M dt_J7_fill_53178_0.2.2.1.1 (k := 2) rfl (congrArg (fun q => v2 + q) ki_1) (by decide) rfl ?_
      refine z_goto (tgt := 5) M dt_J7_fill_53178_0.2.2.1.2 (by decide) ?_
      refine z_sub M [1, 2, 0, 3] (lv' := [(0, .ref (a 43)), (1, .int v1), (2, .int (v2 + (1 : Int32))), (3, .int v3)]) rfl ?_
      exact ih (zA σ 26 (upd (σ.2.1 26) (Int32.toNatClampNeg v2) v1)) (v2 + (1 : Int32)) h
set_option maxHeartbeats 4000000 in
set_option maxRecDepth 100000 in
theorem m_J7_fill_53178_43 (hD : ∀ σ, va_D A (cW a cy σ)) {σ : Zst} {p0 : Int32} {o : Zst} (h : f_J7_fill_53178_43 σ p0 = some o) : zT l D zcl (zty cy) A ad (cW a cy) yJ7_fill_53178 cJ7_fill_53178 4 none 1 [.ref (a 43), .int p0] σ o none := by
  refine z_met pn_J7 hD (Nat.le_of_ble_eq_true rfl) rfl (fun G M => ?_)
  refine z_iconst M dt_J7_fill_53178_0.1.1.1.1 ki_0 ?_
  refine z_istore_n (lv' := [(2, .int (0 : Int32)), (0, .ref (a 43)), (1, .int p0)]) M dt_J7_fill_53178_0.1.1.1.2 rfl (by decide) rfl ?_
  refine z_aload_n M dt_J7_fill_53178_0.1.1.2.1 rfl 1 rfl ?_
  refine ln_C43 M dt_J7_fill_53178_0.1.1.2.2 ?_
  refine z_istore_n (lv' := [(3, .int (13 : Int32)), (2, .int (0 : Int32)), (0, .ref (a 43)), (1, .int p0)]) M dt_J7_fill_53178_0.1.2.1.1 rfl (by decide) rfl ?_
  refine z_sub M [2, 3, 1, 0] (lv' := [(0, .ref (a 43)), (1, .int p0), (2, .int (0 : Int32)), (3, .int (13 : Int32))]) rfl ?_
  exact wL_J7_fill_53178_43_5 M  p0 (13 : Int32) zFu σ (0 : Int32) h
theorem k_J7_fill_53178_43 {n : Nat} (M : zM l D zcl (zty cy) A ad (zR n) (cW a cy) own cc nL rt σo ov G) {p0 : Int32} {o : Zst} (h : f_J7_fill_53178_43 σ p0 = some o) {index : Nat} (hl : Cond.methodLink own index yJ7_fill_53178 ∈ uw) (hR : 2 ≤ n) (hW : (st.map fun v => v.category).sum ≤ 8) (d : decode cc pc = .ok (.invokestatic index, 3)) (kk : G o lv (pc + 3) (st)) : G σ lv pc (.int p0 :: .ref (a 43) :: st) := z_callS M [.ref (a 43), .int p0] (m_J7_fill_53178_43 (zM_hD M) h) hl u108 u1257 u1256 hd_J7_fill_53178 hR (by decide) rfl hW d kk
set_option maxHeartbeats 4000000 in
set_option maxRecDepth 100000 in
theorem wJ_J6_numberOfTrailingZeros_0f7a4_62 {o : Int32} (M : zM l D zcl0 tys A ad (zR 1) wf RJ6 cJ6_numberOfTrailingZeros_0f7a4 2 (some .int) σ0 (some (.int o)) G)  (v0 : Int32) (v1 : Int32)  (h : J_J6_numberOfTrailingZeros_0f7a4_62 v0 v1 = o) : G σ0 [(0, .int v0), (1, .int v1)] 62 [] := by
  refine z_iload_n M dt_J6_numberOfTrailingZeros_0f7a4_2.2.1.1.1 rfl 0 rfl ?_
  refine z_iconst M dt_J6_numberOfTrailingZeros_0f7a4_2.2.1.1.2 ki_4 ?_
  refine z_icmp_le (tgt := 74) M dt_J6_numberOfTrailingZeros_0f7a4_2.2.1.2.1 (by decide) (fun hc => ?_) (fun hc => ?_)
  · have h := gTt hc h
    refine z_iload_n M dt_J6_numberOfTrailingZeros_0f7a4_3.1.1.1 rfl 1 rfl ?_
    refine z_iload_n M dt_J6_numberOfTrailingZeros_0f7a4_3.1.1.2 rfl 0 rfl ?_
    refine z_iconst M dt_J6_numberOfTrailingZeros_0f7a4_3.1.2 ki_1 ?_
    refine z_iushr M dt_J6_numberOfTrailingZeros_0f7a4_3.2.1.1 ?_
    refine z_iadd M dt_J6_numberOfTrailingZeros_0f7a4_3.2.1.2 ?_
    subst h
    exact z_iret M dt_J6_numberOfTrailingZeros_0f7a4_3.2.2
  · have h := gTf hc h
    refine z_iinc (v := (v1 + (2 : Int32))) (lv' := [(1, .int (v1 + (2 : Int32))), (0, .int v0)]) M dt_J6_numberOfTrailingZeros_0f7a4_2.2.1.2.2 (k := 1) rfl (congrArg (fun q => v1 + q) ki_2) (by decide) rfl ?_
    refine z_iload_n M dt_J6_numberOfTrailingZeros_0f7a4_2.2.2.1.1 rfl 1 rfl ?_
    refine z_iconst M dt_J6_numberOfTrailingZeros_0f7a4_2.2.2.1.2 ki_2 ?_
    refine z_iushr M dt_J6_numberOfTrailingZeros_0f7a4_2.2.2.2.1 ?_
    refine z_istore_n (lv' := [(0, .int (jUshr v0 (2 : Int32))), (1, .int (v1 + (2 : Int32)))]) M dt_J6_numberOfTrailingZeros_0f7a4_2.2.2.2.2 rfl (by decide) rfl ?_
    refine z_iload_n M dt_J6_numberOfTrailingZeros_0f7a4_3.1.1.1 rfl 1 rfl ?_
    refine z_iload_n M dt_J6_numberOfTrailingZeros_0f7a4_3.1.1.2 rfl 0 rfl ?_
    refine z_iconst M dt_J6_numberOfTrailingZeros_0f7a4_3.1.2 ki_1 ?_
    refine z_iushr M dt_J6_numberOfTrailingZeros_0f7a4_3.2.1.1 ?_
    refine z_iadd M dt_J6_numberOfTrailingZeros_0f7a4_3.2.1.2 ?_
    subst h
    exact z_iret M dt_J6_numberOfTrailingZeros_0f7a4_3.2.2
set_option maxHeartbeats 4000000 in
set_option maxRecDepth 100000 in
theorem wJ_J6_numberOfTrailingZeros_0f7a4_49 {o : Int32} (M : zM l D zcl0 tys A ad (zR 1) wf RJ6 cJ6_numberOfTrailingZeros_0f7a4 2 (some .int) σ0 (some (.int o)) G)  (v0 : Int32) (v1 : Int32)  (h : J_J6_numberOfTrailingZeros_0f7a4_49 v0 v1 = o) : G σ0 [(0, .int v0), (1, .int v1)] 49 [] := by
  refine z_iload_n M dt_J6_numberOfTrailingZeros_0f7a4_2.1.1.1.1 rfl 0 rfl ?_
  refine z_bipush M dt_J6_numberOfTrailingZeros_0f7a4_2.1.1.1.2 kb_16 ?_
  refine z_icmp_le (tgt := 62) M dt_J6_numberOfTrailingZeros_0f7a4_2.1.1.2.1 (by decide) (fun hc => ?_) (fun hc => ?_)
  · have h := gTt hc h
    exact wJ_J6_numberOfTrailingZeros_0f7a4_62 M  v0 v1 h
  · have h := gTf hc h
    refine z_iinc (v := (v1 + (4 : Int32))) (lv' := [(1, .int (v1 + (4 : Int32))), (0, .int v0)]) M dt_J6_numberOfTrailingZeros_0f7a4_2.1.1.2.2 (k := 1) rfl (congrArg (fun q => v1 + q) ki_4) (by decide) rfl ?_
    refine z_iload_n M dt_J6_numberOfTrailingZeros_0f7a4_2.1.2.1.1 rfl 1 rfl ?_
    refine z_iconst M dt_J6_numberOfTrailingZeros_0f7a4_2.1.2.1.2 ki_4 ?_
    refine z_iushr M dt_J6_numberOfTrailingZeros_0f7a4_2.1.2.2.1 ?_
    refine z_istore_n (lv' := [(0, .int (jUshr v0 (4 : Int32))), (1, .int (v1 + (4 : Int32)))]) M dt_J6_numberOfTrailingZeros_0f7a4_2.1.2.2.2 rfl (by decide) rfl ?_
    exact wJ_J6_numberOfTrailingZeros_0f7a4_62 M  (jUshr v0 (4 : Int32)) (v1 + (4 : Int32)) h
set_option maxHeartbeats 4000000 in
set_option maxRecDepth 100000 in
theorem wJ_J6_numberOfTrailingZeros_0f7a4_34 {o : Int32} (M : zM l D zcl0 tys A ad (zR 1) wf RJ6 cJ6_numberOfTrailingZeros_0f7a4 2 (some .int) σ0 (some (.int o)) G)  (v0 : Int32) (v1 : Int32)  (h : J_J6_numberOfTrailingZeros_0f7a4_34 v0 v1 = o) : G σ0 [(0, .int v0), (1, .int v1)] 34 [] := by
  refine z_iload_n M dt_J6_numberOfTrailingZeros_0f7a4_1.2.1.1.1 rfl 0 rfl ?_
  refine z_sipush M dt_J6_numberOfTrailingZeros_0f7a4_1.2.1.1.2 ks_256 ?_
  refine z_icmp_le (tgt := 49) M dt_J6_numberOfTrailingZeros_0f7a4_1.2.1.2.1 (by decide) (fun hc => ?_) (fun hc => ?_)
  · have h := gTt hc h
    exact wJ_J6_numberOfTrailingZeros_0f7a4_49 M  v0 v1 h
  · have h := gTf hc h
    refine z_iinc (v := (v1 + (8 : Int32))) (lv' := [(1, .int (v1 + (8 : Int32))), (0, .int v0)]) M dt_J6_numberOfTrailingZeros_0f7a4_1.2.1.2.2 (k := 1) rfl (congrArg (fun q => v1 + q) ki_8) (by decide) rfl ?_
    refine z_iload_n M dt_J6_numberOfTrailingZeros_0f7a4_1.2.2.1.1 rfl 1 rfl ?_
    refine z_bipush M dt_J6_numberOfTrailingZeros_0f7a4_1.2.2.1.2 kb_8 ?_
    refine z_iushr M dt_J6_numberOfTrailingZeros_0f7a4_1.2.2.2.1 ?_
    refine z_istore_n (lv' := [(0, .int (jUshr v0 (8 : Int32))), (1, .int (v1 + (8 : Int32)))]) M dt_J6_numberOfTrailingZeros_0f7a4_1.2.2.2.2 rfl (by decide) rfl ?_
    exact wJ_J6_numberOfTrailingZeros_0f7a4_49 M  (jUshr v0 (8 : Int32)) (v1 + (8 : Int32)) h
set_option maxHeartbeats 4000000 in
set_option maxRecDepth 100000 in
theorem m_J6_numberOfTrailingZeros_0f7a4 (hD : ∀ σ, va_D A (wf σ)) (σ0 : Zst) (p0 : Int32) : zT l D zcl0 tys A ad wf yJ6_numberOfTrailingZeros_0f7a4 cJ6_numberOfTrailingZeros_0f7a4 2 (some .int) 1 [.int p0] σ0 σ0 (some (.int (f_J6_numberOfTrailingZeros_0f7a4 p0))) := by
  obtain ⟨o, h⟩ : ∃ o, f_J6_numberOfTrailingZeros_0f7a4 p0 = o := ⟨_, rfl⟩
  rw [h]
  refine z_met pn_J6 hD (Nat.le_of_ble_eq_true rfl) rfl (fun G M => ?_)
  refine z_iload_n M dt_J6_numberOfTrailingZeros_0f7a4_0.1.1.1.1 rfl 0 rfl ?_
  refine z_iconst M dt_J6_numberOfTrailingZeros_0f7a4_0.1.1.1.2 ki_m1 ?_
  refine z_ixor M dt_J6_numberOfTrailingZeros_0f7a4_0.1.1.2.1 ?_
  refine z_iload_n M dt_J6_numberOfTrailingZeros_0f7a4_0.1.1.2.2 rfl 0 rfl ?_
  refine z_iconst M dt_J6_numberOfTrailingZeros_0f7a4_0.1.2.1.1 ki_1 ?_
  refine z_isub M dt_J6_numberOfTrailingZeros_0f7a4_0.1.2.1.2 ?_
  refine z_iand M dt_J6_numberOfTrailingZeros_0f7a4_0.1.2.2.1 ?_
  refine z_istore_n (lv' := [(0, .int ((p0 ^^^ (-1 : Int32)) &&& (p0 - (1 : Int32))))]) M dt_J6_numberOfTrailingZeros_0f7a4_0.1.2.2.2 rfl (by decide) rfl ?_
  refine z_iload_n M dt_J6_numberOfTrailingZeros_0f7a4_0.2.1.1.1 rfl 0 rfl ?_
  refine z_if_gt (tgt := 17) M dt_J6_numberOfTrailingZeros_0f7a4_0.2.1.1.2 (by decide) (fun hc => ?_) (fun hc => ?_)
  · have h := gTt hc h
    refine z_iconst M dt_J6_numberOfTrailingZeros_0f7a4_0.2.2.2.1 ki_1 ?_
    refine z_istore_n (lv' := [(1, .int (1 : Int32)), (0, .int ((p0 ^^^ (-1 : Int32)) &&& (p0 - (1 : Int32))))]) M dt_J6_numberOfTrailingZeros_0f7a4_0.2.2.2.2 rfl (by decide) rfl ?_
    refine z_iload_n M dt_J6_numberOfTrailingZeros_0f7a4_1.1.1.1.1 rfl 1 rfl ?_
    refine z_ldcw M dt_J6_numberOfTrailingZeros_0f7a4_1.1.1.1.2 u1261 ?_
    refine z_icmp_le (tgt := 34) M dt_J6_numberOfTrailingZeros_0f7a4_1.1.1.2.1 (by decide) (fun hc => ?_) (fun hc => ?_)
    · have h := gTt hc h
      refine z_sub M [1, 0] (lv' := [(0, .int ((p0 ^^^ (-1 : Int32)) &&& (p0 - (1 : Int32)))), (1, .int (1 : Int32))]) rfl ?_
      exact wJ_J6_numberOfTrailingZeros_0f7a4_34 M  ((p0 ^^^ (-1 : Int32)) &&& (p0 - (1 : Int32))) (1 : Int32) h
    · have h := gTf hc h
      refine z_iinc (v := ((1 : Int32) + (16 : Int32))) (lv' := [(1, .int ((1 : Int32) + (16 : Int32))), (0, .int ((p0 ^^^ (-1 : Int32)) &&& (p0 - (1 : Int32))))]) M dt_J6_numberOfTrailingZeros_0f7a4_1.1.1.2.2 (k := 0) rfl (congrArg (fun q => (1 : Int32) + q) ki_16) (by decide) rfl ?_
      refine z_iload_n M dt_J6_numberOfTrailingZeros_0f7a4_1.1.2.1.1 rfl 1 rfl ?_
      refine z_bipush M dt_J6_numberOfTrailingZeros_0f7a4_1.1.2.1.2 kb_16 ?_
      refine z_iushr M dt_J6_numberOfTrailingZeros_0f7a4_1.1.2.2.1 ?_
      refine z_istore_n (lv' := [(0, .int (jUshr ((p0 ^^^ (-1 : Int32)) &&& (p0 - (1 : Int32))) (16 : Int32))), (1, .int ((1 : Int32) + (16 : Int32)))]) M dt_J6_numberOfTrailingZeros_0f7a4_1.1.2.2.2 rfl (by decide) rfl ?_
      exact wJ_J6_numberOfTrailingZeros_0f7a4_34 M  (jUshr ((p0 ^^^ (-1 : Int32)) &&& (p0 - (1 : Int32))) (16 : Int32)) ((1 : Int32) + (16 : Int32)) h
  · have h := gTf hc h
    refine z_iload_n M dt_J6_numberOfTrailingZeros_0f7a4_0.2.1.2.1 rfl 0 rfl ?_
    refine z_bipush M dt_J6_numberOfTrailingZeros_0f7a4_0.2.1.2.2 kb_32 ?_
    refine z_iand M dt_J6_numberOfTrailingZeros_0f7a4_0.2.2.1.1 ?_
    subst h
    exact z_iret M dt_J6_numberOfTrailingZeros_0f7a4_0.2.2.1.2
theorem k_J6_numberOfTrailingZeros_0f7a4 {n : Nat} (M : zM l D zcl0 tys A ad (zR n) wf own cc nL rt σo ov G) {p0 : Int32} {index : Nat} (hl : Cond.methodLink own index yJ6_numberOfTrailingZeros_0f7a4 ∈ uw) (hR : 2 ≤ n) (hW : (st.map fun v => v.category).sum ≤ 8) (d : decode cc pc = .ok (.invokestatic index, 3)) (kk : G σ lv (pc + 3) (.int (f_J6_numberOfTrailingZeros_0f7a4 p0) :: st)) : G σ lv pc (.int p0 :: st) := z_callS M [.int p0] (m_J6_numberOfTrailingZeros_0f7a4 (zM_hD M) σ p0) hl u107 u1260 u1259 hd_J6_numberOfTrailingZeros_0f7a4 hR (by decide) rfl hW d kk
set_option maxHeartbeats 4000000 in
set_option maxRecDepth 100000 in
theorem wL_X6_countWays_21 {o : Zst} (M : zM l D zcl (zty cy) A ad (zR 2) (cW a cy) RX6 cX6_countWays 10 none o none G) {k53 : Int64 → Option Zst} (σ : Zst) (v1 : Int32) (Hk53 : ∀ (w2 : Int64), k53 w2 = some o → G σ [(0, .ref (a 38)), (1, .int v1), (2, .long w2)] 53 []) :
    ∀ (n21 : Nat) (v2 : Int64) (v4 : Int32), L_X6_countWays_21 k53 σ v1 n21 v2 v4 = some o → G σ [(0, .ref (a 38)), (1, .int v1), (2, .long v2), (4, .int v4)] 21 [] := by
  intro n21
  induction n21 with
  | zero => intro v2 v4 h; exact nomatch (show (none : Option Zst) = some _ from h)
  | succ n21 ih =>
    intro v2 v4 h
    refine z_iload M dt_X6_countWays_0.2.2.1.1 3 rfl ?_
    refine z_aload_n M dt_X6_countWays_0.2.2.1.2 rfl 0 rfl ?_
    refine gf_X6_many (σ := σ) M u374 dt_X6_countWays_0.2.2.2.1 (v := (σ.1 22)) rfl ?_
    refine z_icmp_ge (tgt := 53) M dt_X6_countWays_0.2.2.2.2 (by decide) (fun hc => ?_) (fun hc => ?_)
    · have h := gIt hc h
      refine z_sub M [0, 1, 2] (lv' := [(0, .ref (a 38)), (1, .int v1), (2, .long v2)]) rfl ?_
      exact Hk53 v2 h
    · have h := gIf hc h
      refine z_iload M dt_X6_countWays_1.1.1.1.1 3 rfl ?_
      refine z_bipush M dt_X6_countWays_1.1.1.1.2 kb_12 ?_
      refine z_icmp_ge (tgt := 53) M dt_X6_countWays_1.1.1.2.1 (by decide) (fun hc => ?_) (fun hc => ?_)
      · have h := gIt hc h
        refine z_sub M [0, 1, 2] (lv' := [(0, .ref (a 38)), (1, .int v1), (2, .long v2)]) rfl ?_
        exact Hk53 v2 h
      · have h := gIf hc h
        refine z_lload_n M dt_X6_countWays_1.1.1.2.2 rfl 2 rfl ?_
        refine z_aload_n M dt_X6_countWays_1.1.2.1.1 rfl 0 rfl ?_
        refine gf_X6_means M u373 dt_X6_countWays_1.1.2.1.2 ?_
        refine z_iload M dt_X6_countWays_1.1.2.2.1 3 rfl ?_
        have ⟨hg, h⟩ := gIx_s h
        refine al_C41 (σ := σ) M (f := (σ.2.2.1 5)) rfl hg dt_X6_countWays_1.1.2.2.2 ?_
        refine z_ladd M dt_X6_countWays_1.2.1.1.1 ?_
        refine z_lstore_n (lv' := [(2, .long (v2 + ((σ.2.2.1 5) (Int32.toNatClampNeg v4)))), (0, .ref (a 38)), (1, .int v1), (4, .int v4)]) M dt_X6_countWays_1.2.1.1.2 rfl (by decide) rfl ?_
        refine z_iinc (v := (v4 + (1 : Int32))) (lv' := [(4, .int (v4 + (1 : Int32))), (2, .long (v2 + ((σ.2.2.1 5) (Int32.toNatClampNeg v4)))), (0, .ref (a 38)), (1, .int v1)]) M dt_X6_countWays_1.2.1.2.1 (k := 3) rfl (congrArg (fun q => v4 + q) ki_1) (by decide) rfl ?_
        refine z_goto (tgt := 21) M dt_X6_countWays_1.2.1.2.2 (by decide) ?_
        refine z_sub M [2, 3, 1, 0] (lv' := [(0, .ref (a 38)), (1, .int v1), (2, .long (v2 + ((σ.2.2.1 5) (Int32.toNatClampNeg v4)))), (4, .int (v4 + (1 : Int32)))]) rfl ?_
        exact ih (v2 + ((σ.2.2.1 5) (Int32.toNatClampNeg v4))) (v4 + (1 : Int32)) h
set_option maxHeartbeats 4000000 in
set_option maxRecDepth 100000 in
theorem wJ_X6_countWays_130 {o : Zst} (M : zM l D zcl (zty cy) A ad (zR 2) (cW a cy) RX6 cX6_countWays 10 none o none G) {k62 : Zst → Int32 → Int64 → Int32 → Option Zst} (σ : Zst) (v1 : Int32) (v2 : Int64) (v4 : Int32) (v7 : Int32) (s0 : Int64) (s1 : Int64) (Hk62 : ∀ (σ : Zst) (w4 : Int32) (w5 : Int64) (w7 : Int32), k62 σ w4 w5 w7 = some o → G σ [(0, .ref (a 38)), (1, .int v1), (2, .long v2), (4, .int w4), (5, .long w5), (7, .int w7)] 62 []) (h : J_X6_countWays_130 k62 σ v1 v2 v4 v7 s0 s1 = some o) : G σ [(0, .ref (a 38)), (1, .int v1), (2, .long v2), (4, .int v4), (7, .int v7)] 130 [.long s0, .long s1] := by
  refine z_ladd M dt_X6_countWays_4.1.2.1.2 ?_
  refine z_lstore (lv' := [(5, .long (s1 + s0)), (0, .ref (a 38)), (1, .int v1), (2, .long v2), (4, .int v4), (7, .int v7)]) M dt_X6_countWays_4.1.2.2.1 (by decide) rfl ?_
  refine z_iload M dt_X6_countWays_4.1.2.2.2 4 rfl ?_
  refine k_J6_bitCount_0f7a4 M u1263 (Nat.le_of_ble_eq_true rfl) (Nat.le_of_ble_eq_true rfl) dt_X6_countWays_4.2.1.1.1 ?_
  refine z_istore (lv' := [(9, .int (f_J6_bitCount_0f7a4 v4)), (5, .long (s1 + s0)), (0, .ref (a 38)), (1, .int v1), (2, .long v2), (4, .int v4), (7, .int v7)]) M dt_X6_countWays_4.2.1.1.2 (by decide) rfl ?_
  refine z_iload M dt_X6_countWays_4.2.1.2.1 0 rfl ?_
  refine z_bipush M dt_X6_countWays_4.2.1.2.2 kb_12 ?_
  refine z_icmp_gt (tgt := 210) M dt_X6_countWays_4.2.2.1.1 (by decide) (fun hc => ?_) (fun hc => ?_)
  · have h := gIt hc h
    refine z_iinc (v := (v7 + (1 : Int32))) (lv' := [(7, .int (v7 + (1 : Int32))), (9, .int (f_J6_bitCount_0f7a4 v4)), (5, .long (s1 + s0)), (0, .ref (a 38)), (1, .int v1), (2, .long v2), (4, .int v4)]) M dt_X6_countWays_7.2.1.2 (k := 6) rfl (congrArg (fun q => v7 + q) ki_1) (by decide) rfl ?_
    refine z_goto (tgt := 62) M dt_X6_countWays_7.2.2.1 (by decide) ?_
    refine z_sub M [3, 4, 5, 6, 2, 0] (lv' := [(0, .ref (a 38)), (1, .int v1), (2, .long v2), (4, .int v4), (5, .long (s1 + s0)), (7, .int (v7 + (1 : Int32)))]) rfl ?_
    exact Hk62 σ v4 (s1 + s0) (v7 + (1 : Int32)) h
  · have h := gIf hc h
    refine z_aload_n M dt_X6_countWays_4.2.2.1.2 rfl 2 rfl ?_
    refine gf_X6_ways M u375 dt_X6_countWays_4.2.2.2.1 ?_
    refine z_iload M dt_X6_countWays_4.2.2.2.2 0 rfl ?_
    refine z_dup2_11 M dt_X6_countWays_5.1.1.1.1 rfl rfl ?_
    have ⟨hg, h⟩ := gIx_s h
    refine al_C42 (σ := σ) M (f := (σ.2.1 25)) rfl hg dt_X6_countWays_5.1.1.1.2 ?_
    refine z_iconst M dt_X6_countWays_5.1.1.2.1 ki_1 ?_
    refine z_iadd M dt_X6_countWays_5.1.1.2.2 ?_
    have ⟨hg, h⟩ := gIx_s h
    refine as_C42 (σ := σ) M (f := (σ.2.1 25)) rfl hg dt_X6_countWays_5.1.2.1.1 ?_
    refine z_aload_n M dt_X6_countWays_5.1.2.1.2 rfl 2 rfl ?_
    refine gf_X6_nearWays M u376 dt_X6_countWays_5.1.2.2.1 ?_
    refine z_iload M dt_X6_countWays_5.1.2.2.2 0 rfl ?_
    refine z_dup2_11 M dt_X6_countWays_5.2.1.1.1 rfl rfl ?_
    have ⟨hg, h⟩ := gIx_s h
    refine al_C43 (σ := (zA σ 25 (upd (σ.2.1 25) (Int32.toNatClampNeg (f_J6_bitCount_0f7a4 v4)) (((σ.2.1 25) (Int32.toNatClampNeg (f_J6_bitCount_0f7a4 v4))) + (1 : Int32))))) M (f := (σ.2.1 26)) rfl hg dt_X6_countWays_5.2.1.1.2 ?_
    refine z_lload M dt_X6_countWays_5.2.1.2.1 1 rfl ?_
    refine z_aload_n M dt_X6_countWays_5.2.1.2.2 rfl 2 rfl ?_
    refine gf_X6_many (σ := (zA σ 25 (upd (σ.2.1 25) (Int32.toNatClampNeg (f_J6_bitCount_0f7a4 v4)) (((σ.2.1 25) (Int32.toNatClampNeg (f_J6_bitCount_0f7a4 v4))) + (1 : Int32))))) M u374 dt_X6_countWays_5.2.2.1.1 (v := (σ.1 22)) rfl ?_
    refine z_i2l M dt_X6_countWays_5.2.2.1.2 ?_
    refine z_lmul M dt_X6_countWays_5.2.2.2.1 ?_
    refine z_lload_n M dt_X6_countWays_5.2.2.2.2 rfl 4 rfl ?_
    refine z_iload M dt_X6_countWays_6.1.1.1.1 0 rfl ?_
    refine z_i2l M dt_X6_countWays_6.1.1.1.2 ?_
    refine z_lmul M dt_X6_countWays_6.1.1.2.1 ?_
    refine z_lsub M dt_X6_countWays_6.1.1.2.2 ?_
    refine z_mabsL M u1264 u899 u100 u900 (Nat.le_of_ble_eq_true rfl) (Nat.le_of_ble_eq_true rfl) dt_X6_countWays_6.1.2.1.1 ?_
    refine z_iload_n M dt_X6_countWays_6.1.2.1.2 rfl 3 rfl ?_
    refine z_i2l M dt_X6_countWays_6.1.2.2.1 ?_
    refine z_ldc2 M dt_X6_countWays_6.1.2.2.2 u1250 ?_
    refine z_lmul M dt_X6_countWays_6.2.1.1.1 ?_
    refine z_aload_n M dt_X6_countWays_6.2.1.1.2 rfl 2 rfl ?_
    refine gf_X6_many (σ := (zA σ 25 (upd (σ.2.1 25) (Int32.toNatClampNeg (f_J6_bitCount_0f7a4 v4)) (((σ.2.1 25) (Int32.toNatClampNeg (f_J6_bitCount_0f7a4 v4))) + (1 : Int32))))) M u374 dt_X6_countWays_6.2.1.2.1 (v := (σ.1 22)) rfl ?_
    refine z_i2l M dt_X6_countWays_6.2.1.2.2 ?_
    refine z_lmul M dt_X6_countWays_6.2.2.1.1 ?_
    refine z_iload M dt_X6_countWays_6.2.2.1.2 0 rfl ?_
    refine z_i2l M dt_X6_countWays_6.2.2.2.1 ?_
    refine z_lmul M dt_X6_countWays_6.2.2.2.2 ?_
    have hJ2 : G (zA σ 25 (upd (σ.2.1 25) (Int32.toNatClampNeg (f_J6_bitCount_0f7a4 v4)) (((σ.2.1 25) (Int32.toNatClampNeg (f_J6_bitCount_0f7a4 v4))) + (1 : Int32)))) [(9, .int (f_J6_bitCount_0f7a4 v4)), (5, .long (s1 + s0)), (0, .ref (a 38)), (1, .int v1), (2, .long v2), (4, .int v4), (7, .int v7)] 208 [.int (if ((((Int32.toInt64 v1) * (27720 : Int64)) * (Int32.toInt64 (σ.1 22))) * (Int32.toInt64 (f_J6_bitCount_0f7a4 v4))) < (jAbsL (((s1 + s0) * (Int32.toInt64 (σ.1 22))) - (v2 * (Int32.toInt64 (f_J6_bitCount_0f7a4 v4))))) then (0 : Int32) else (1 : Int32)), .int ((σ.2.1 26) (Int32.toNatClampNeg (f_J6_bitCount_0f7a4 v4))), .int (f_J6_bitCount_0f7a4 v4), .ref (a 43)] := by
      refine z_iadd M dt_X6_countWays_7.2.1.1.1 ?_
      have ⟨hg, h⟩ := gIx_s h
      refine as_C43 (σ := (zA σ 25 (upd (σ.2.1 25) (Int32.toNatClampNeg (f_J6_bitCount_0f7a4 v4)) (((σ.2.1 25) (Int32.toNatClampNeg (f_J6_bitCount_0f7a4 v4))) + (1 : Int32))))) M (f := (σ.2.1 26)) rfl hg dt_X6_countWays_7.2.1.1.2 ?_
      refine z_iinc (v := (v7 + (1 : Int32))) (lv' := [(7, .int (v7 + (1 : Int32))), (9, .int (f_J6_bitCount_0f7a4 v4)), (5, .long (s1 + s0)), (0, .ref (a 38)), (1, .int v1), (2, .long v2), (4, .int v4)]) M dt_X6_countWays_7.2.1.2 (k := 6) rfl (congrArg (fun q => v7 + q) ki_1) (by decide) rfl ?_
      refine z_goto (tgt := 62) M dt_X6_countWays_7.2.2.1 (by decide) ?_
      refine z_sub M [3, 4, 5, 6, 2, 0] (lv' := [(0, .ref (a 38)), (1, .int v1), (2, .long v2), (4, .int v4), (5, .long (s1 + s0)), (7, .int (v7 + (1 : Int32)))]) rfl ?_
      exact Hk62 (zA (zA σ 25 (upd (σ.2.1 25) (Int32.toNatClampNeg (f_J6_bitCount_0f7a4 v4)) (((σ.2.1 25) (Int32.toNatClampNeg (f_J6_bitCount_0f7a4 v4))) + (1 : Int32)))) 26 (upd (σ.2.1 26) (Int32.toNatClampNeg (f_J6_bitCount_0f7a4 v4)) (((σ.2.1 26) (Int32.toNatClampNeg (f_J6_bitCount_0f7a4 v4))) + (if ((((Int32.toInt64 v1) * (27720 : Int64)) * (Int32.toInt64 (σ.1 22))) * (Int32.toInt64 (f_J6_bitCount_0f7a4 v4))) < (jAbsL (((s1 + s0) * (Int32.toInt64 (σ.1 22))) - (v2 * (Int32.toInt64 (f_J6_bitCount_0f7a4 v4))))) then (0 : Int32) else (1 : Int32))))) v4 (s1 + s0) (v7 + (1 : Int32)) h
    refine z_lcmp_gt (tgt := 207) M dt_X6_countWays_7.1.1.1.1 dt_X6_countWays_7.1.1.1.2 (by decide) (fun hc1 => ?_) (fun hc1 => ?_)
    · refine z_iconst M dt_X6_countWays_7.1.2.2 ki_0 ?_
      exact (zTt hc1 hJ2)
    · refine z_iconst M dt_X6_countWays_7.1.1.2 ki_1 ?_
      refine z_goto (tgt := 208) M dt_X6_countWays_7.1.2.1 (by decide) ?_
      exact (zTf hc1 hJ2)
set_option maxHeartbeats 4000000 in
set_option maxRecDepth 100000 in
theorem wL_X6_countWays_62 {o : Zst} (M : zM l D zcl (zty cy) A ad (zR 2) (cW a cy) RX6 cX6_countWays 10 none o none G)  (v1 : Int32) (v2 : Int64)  :
    ∀ (n62 : Nat) (σ : Zst) (v4 : Int32) (v5 : Int64) (v7 : Int32), L_X6_countWays_62 v1 v2 n62 σ v4 v5 v7 = some o → G σ [(0, .ref (a 38)), (1, .int v1), (2, .long v2), (4, .int v4), (5, .long v5), (7, .int v7)] 62 [] := by
  intro n62
  induction n62 with
  | zero => intro σ v4 v5 v7 h; exact nomatch (show (none : Option Zst) = some _ from h)
  | succ n62 ih =>
    intro σ v4 v5 v7 h
    refine z_iload M dt_X6_countWays_2.1.1.2.1 5 rfl ?_
    refine z_iconst M dt_X6_countWays_2.1.1.2.2 ki_1 ?_
    refine z_aload_n M dt_X6_countWays_2.1.2.1.1 rfl 0 rfl ?_
    refine gf_X6_many (σ := σ) M u374 dt_X6_countWays_2.1.2.1.2 (v := (σ.1 22)) rfl ?_
    refine z_ishl M dt_X6_countWays_2.1.2.2.1 ?_
    refine z_icmp_ge (tgt := 216) M dt_X6_countWays_2.1.2.2.2 (by decide) (fun hc => ?_) (fun hc => ?_)
    · have h := gIt hc h
      obtain rfl := Option.some.inj h
      exact z_vret M dt_X6_countWays_7.2.2.2
    · have h := gIf hc h
      refine z_iload M dt_X6_countWays_2.2.1.1.1 5 rfl ?_
      refine k_J6_numberOfTrailingZeros_0f7a4 M u1258 (Nat.le_of_ble_eq_true rfl) (Nat.le_of_ble_eq_true rfl) dt_X6_countWays_2.2.1.1.2 ?_
      refine z_istore (lv' := [(8, .int (f_J6_numberOfTrailingZeros_0f7a4 v7)), (0, .ref (a 38)), (1, .int v1), (2, .long v2), (4, .int v4), (5, .long v5), (7, .int v7)]) M dt_X6_countWays_2.2.1.2.1 (by decide) rfl ?_
      refine z_iload M dt_X6_countWays_2.2.1.2.2 4 rfl ?_
      refine z_iconst M dt_X6_countWays_2.2.2.1.1 ki_1 ?_
      refine z_iload M dt_X6_countWays_2.2.2.1.2 0 rfl ?_
      refine z_ishl M dt_X6_countWays_2.2.2.2.1 ?_
      refine z_ixor M dt_X6_countWays_2.2.2.2.2 ?_
      refine z_istore (lv' := [(4, .int (v4 ^^^ (jShl (1 : Int32) (f_J6_numberOfTrailingZeros_0f7a4 v7)))), (8, .int (f_J6_numberOfTrailingZeros_0f7a4 v7)), (0, .ref (a 38)), (1, .int v1), (2, .long v2), (5, .long v5), (7, .int v7)]) M dt_X6_countWays_3.1.1.1.1 (by decide) rfl ?_
      refine z_lload M dt_X6_countWays_3.1.1.1.2 5 rfl ?_
      refine z_iload M dt_X6_countWays_3.1.1.2.1 1 rfl ?_
      refine z_bipush M dt_X6_countWays_3.1.1.2.2 kb_12 ?_
      refine z_icmp_lt (tgt := 102) M dt_X6_countWays_3.1.2.1.1 (by decide) (fun hc => ?_) (fun hc => ?_)
      · have h := gIt hc h
        refine z_iload M dt_X6_countWays_3.1.2.2.2 0 rfl ?_
        refine z_iload M dt_X6_countWays_3.2.1.1.1 1 rfl ?_
        refine kn_X11_hasBit M u1262 (Nat.le_of_ble_eq_true rfl) (Nat.le_of_ble_eq_true rfl) dt_X6_countWays_3.2.1.1.2 ?_
        refine z_if_eq (tgt := 122) M dt_X6_countWays_3.2.1.2.1 (by decide) (fun hc => ?_) (fun hc => ?_)
        · have h := gIt hc h
          refine z_aload_n M dt_X6_countWays_4.1.1.1.1 rfl 2 rfl ?_
          refine gf_X6_means M u373 dt_X6_countWays_4.1.1.1.2 ?_
          refine z_iload M dt_X6_countWays_4.1.1.2.1 1 rfl ?_
          have ⟨hg, h⟩ := gIx_s h
          refine al_C41 (σ := σ) M (f := (σ.2.2.1 5)) rfl hg dt_X6_countWays_4.1.1.2.2 ?_
          refine z_lneg M dt_X6_countWays_4.1.2.1.1 ?_
          refine z_sub M [2, 3, 4, 0, 6] (lv' := [(0, .ref (a 38)), (1, .int v1), (2, .long v2), (4, .int (v4 ^^^ (jShl (1 : Int32) (f_J6_numberOfTrailingZeros_0f7a4 v7)))), (7, .int v7)]) rfl ?_
          exact wJ_X6_countWays_130 M (k62 := (fun σ w4 w5 w7 => L_X6_countWays_62 v1 v2 n62 σ w4 w5 w7)) σ v1 v2 (v4 ^^^ (jShl (1 : Int32) (f_J6_numberOfTrailingZeros_0f7a4 v7))) v7 (-((σ.2.2.1 5) (Int32.toNatClampNeg (f_J6_numberOfTrailingZeros_0f7a4 v7)))) v5 ih h
        · have h := gIf hc h
          refine z_aload_n M dt_X6_countWays_3.2.1.2.2 rfl 2 rfl ?_
          refine gf_X6_means M u373 dt_X6_countWays_3.2.2.1.1 ?_
          refine z_iload M dt_X6_countWays_3.2.2.1.2 1 rfl ?_
          have ⟨hg, h⟩ := gIx_s h
          refine al_C41 (σ := σ) M (f := (σ.2.2.1 5)) rfl hg dt_X6_countWays_3.2.2.2.1 ?_
          refine z_goto (tgt := 130) M dt_X6_countWays_3.2.2.2.2 (by decide) ?_
          refine z_sub M [2, 3, 4, 0, 6] (lv' := [(0, .ref (a 38)), (1, .int v1), (2, .long v2), (4, .int (v4 ^^^ (jShl (1 : Int32) (f_J6_numberOfTrailingZeros_0f7a4 v7)))), (7, .int v7)]) rfl ?_
          exact wJ_X6_countWays_130 M (k62 := (fun σ w4 w5 w7 => L_X6_countWays_62 v1 v2 n62 σ w4 w5 w7)) σ v1 v2 (v4 ^^^ (jShl (1 : Int32) (f_J6_numberOfTrailingZeros_0f7a4 v7))) v7 ((σ.2.2.1 5) (Int32.toNatClampNeg (f_J6_numberOfTrailingZeros_0f7a4 v7))) v5 ih h
      · have h := gIf hc h
        refine z_lconst (v := 0) M dt_X6_countWays_3.1.2.1.2 (by decide) ?_
        refine z_goto (tgt := 130) M dt_X6_countWays_3.1.2.2.1 (by decide) ?_
        refine z_sub M [2, 3, 4, 0, 6] (lv' := [(0, .ref (a 38)), (1, .int v1), (2, .long v2), (4, .int (v4 ^^^ (jShl (1 : Int32) (f_J6_numberOfTrailingZeros_0f7a4 v7)))), (7, .int v7)]) rfl ?_
        exact wJ_X6_countWays_130 M (k62 := (fun σ w4 w5 w7 => L_X6_countWays_62 v1 v2 n62 σ w4 w5 w7)) σ v1 v2 (v4 ^^^ (jShl (1 : Int32) (f_J6_numberOfTrailingZeros_0f7a4 v7))) v7 (0 : Int64) v5 ih h
set_option maxHeartbeats 4000000 in
set_option maxRecDepth 100000 in
theorem wJ_X6_countWays_53 {o : Zst} (M : zM l D zcl (zty cy) A ad (zR 2) (cW a cy) RX6 cX6_countWays 10 none o none G) (σ : Zst) (v1 : Int32) (v2 : Int64)  (h : J_X6_countWays_53 σ v1 v2 = some o) : G σ [(0, .ref (a 38)), (1, .int v1), (2, .long v2)] 53 [] := by
  refine z_iconst M dt_X6_countWays_1.2.2.1.1 ki_0 ?_
  refine z_istore (lv' := [(4, .int (0 : Int32)), (0, .ref (a 38)), (1, .int v1), (2, .long v2)]) M dt_X6_countWays_1.2.2.1.2 (by decide) rfl ?_
  refine z_lconst (v := 0) M dt_X6_countWays_1.2.2.2.1 (by decide) ?_
  refine z_lstore (lv' := [(5, .long (0 : Int64)), (4, .int (0 : Int32)), (0, .ref (a 38)), (1, .int v1), (2, .long v2)]) M dt_X6_countWays_1.2.2.2.2 (by decide) rfl ?_
  refine z_iconst M dt_X6_countWays_2.1.1.1.1 ki_1 ?_
  refine z_istore (lv' := [(7, .int (1 : Int32)), (5, .long (0 : Int64)), (4, .int (0 : Int32)), (0, .ref (a 38)), (1, .int v1), (2, .long v2)]) M dt_X6_countWays_2.1.1.1.2 (by decide) rfl ?_
  refine z_sub M [3, 4, 5, 2, 1, 0] (lv' := [(0, .ref (a 38)), (1, .int v1), (2, .long v2), (4, .int (0 : Int32)), (5, .long (0 : Int64)), (7, .int (1 : Int32))]) rfl ?_
  exact wL_X6_countWays_62 M  v1 v2 zFu σ (0 : Int32) (0 : Int64) (1 : Int32) h
set_option maxHeartbeats 4000000 in
set_option maxRecDepth 100000 in
theorem m_X6_countWays (hD : ∀ σ, va_D A (cW a cy σ)) {σ : Zst} {p0 : Int32} {o : Zst} (h : f_X6_countWays σ p0 = some o) : zT l D zcl (zty cy) A ad (cW a cy) yX6_countWays cX6_countWays 10 none 2 [.ref (a 38), .int p0] σ o none := by
  refine z_met pn_X6 hD (Nat.le_of_ble_eq_true rfl) rfl (fun G M => ?_)
  refine z_aload_n M dt_X6_countWays_0.1.1.1.1 rfl 0 rfl ?_
  refine gf_X6_ways M u375 dt_X6_countWays_0.1.1.1.2 ?_
  refine z_iconst M dt_X6_countWays_0.1.1.2.1 ki_0 ?_
  obtain ⟨t3, hc, h⟩ := gBd h
  refine k_J7_fill_53178_42 M hc u1255 (Nat.le_of_ble_eq_true rfl) (Nat.le_of_ble_eq_true rfl) dt_X6_countWays_0.1.1.2.2 ?_
  refine z_aload_n M dt_X6_countWays_0.1.2.1.1 rfl 0 rfl ?_
  refine gf_X6_nearWays M u376 dt_X6_countWays_0.1.2.1.2 ?_
  refine z_iconst M dt_X6_countWays_0.1.2.2.1 ki_0 ?_
  obtain ⟨t4, hc, h⟩ := gBd h
  refine k_J7_fill_53178_43 M hc u1255 (Nat.le_of_ble_eq_true rfl) (Nat.le_of_ble_eq_true rfl) dt_X6_countWays_0.1.2.2.2 ?_
  refine z_lconst (v := 0) M dt_X6_countWays_0.2.1.1.1 (by decide) ?_
  refine z_lstore_n (lv' := [(2, .long (0 : Int64)), (0, .ref (a 38)), (1, .int p0)]) M dt_X6_countWays_0.2.1.1.2 rfl (by decide) rfl ?_
  refine z_iconst M dt_X6_countWays_0.2.1.2.1 ki_0 ?_
  refine z_istore (lv' := [(4, .int (0 : Int32)), (2, .long (0 : Int64)), (0, .ref (a 38)), (1, .int p0)]) M dt_X6_countWays_0.2.1.2.2 (by decide) rfl ?_
  refine z_sub M [2, 3, 1, 0] (lv' := [(0, .ref (a 38)), (1, .int p0), (2, .long (0 : Int64)), (4, .int (0 : Int32))]) rfl ?_
  exact wL_X6_countWays_21 M (k53 := (fun w5 => J_X6_countWays_53 t4 p0 w5)) t4 p0 (fun w5 h => by
      exact wJ_X6_countWays_53 M  t4 p0 w5 h) zFu (0 : Int64) (0 : Int32) h
theorem k_X6_countWays {n : Nat} (M : zM l D zcl (zty cy) A ad (zR n) (cW a cy) own cc nL rt σo ov G) {p0 : Int32} {o : Zst} (h : f_X6_countWays σ p0 = some o) {index : Nat} (hl : Cond.methodLink own index yX6_countWays ∈ uw) (hR : 3 ≤ n) (hW : (st.map fun v => v.category).sum ≤ 8) (d : decode cc pc = .ok (.invokevirtual index, 3)) (kk : G o lv (pc + 3) (st)) : G σ lv pc (.int p0 :: .ref (a 38) :: st) := z_callV M [.int p0] (m_X6_countWays (zM_hD M) h) (hC38 σ) rfl hl u97 u1254 u1253 u38 hd_X6_countWays hR (by decide) rfl hW d kk
set_option maxHeartbeats 4000000 in
set_option maxRecDepth 100000 in
theorem wL_X6_fewest_70 {o : (Zst × Int32)} (M : zM l D zcl (zty cy) A ad (zR 5) (cW a cy) RX6 cX6_fewest 8 (some .int) o.1 (some (.int o.2)) G) {k109 : Int32 → Option (Zst × Int32)} (σ : Zst) (v4 : Int32) (Hk109 : ∀ (w7 : Int32), k109 w7 = some o → G σ [(0, .ref (a 38)), (7, .int w7)] 109 []) :
    ∀ (n70 : Nat) (v7 : Int32), L_X6_fewest_70 k109 σ v4 n70 v7 = some o → G σ [(0, .ref (a 38)), (4, .int v4), (7, .int v7)] 70 [] := by
  intro n70
  induction n70 with
  | zero => intro v7 h; exact nomatch (show (none : Option (Zst × Int32)) = some _ from h)
  | succ n70 ih =>
    intro v7 h
    refine z_iload M dt_X6_fewest_2.1.2.1.1 2 rfl ?_
    refine z_aload_n M dt_X6_fewest_2.1.2.1.2 rfl 0 rfl ?_
    refine gf_X6_many (σ := σ) M u374 dt_X6_fewest_2.1.2.2.1 (v := (σ.1 22)) rfl ?_
    refine z_icmp_gt (tgt := 148) M dt_X6_fewest_2.1.2.2.2 (by decide) (fun hc => ?_) (fun hc => ?_)
    · have h := gIt hc h
      refine z_bipush M dt_X6_fewest_4.2.2.1.2 kb_m2 ?_
      obtain rfl := Option.some.inj h
      exact z_iret M dt_X6_fewest_4.2.2.2
    · have h := gIf hc h
      refine z_iload M dt_X6_fewest_2.2.1.1.1 2 rfl ?_
      refine z_bipush M dt_X6_fewest_2.2.1.1.2 kb_12 ?_
      refine z_icmp_gt (tgt := 148) M dt_X6_fewest_2.2.1.2.1 (by decide) (fun hc => ?_) (fun hc => ?_)
      · have h := gIt hc h
        refine z_bipush M dt_X6_fewest_4.2.2.1.2 kb_m2 ?_
        obtain rfl := Option.some.inj h
        exact z_iret M dt_X6_fewest_4.2.2.2
      · have h := gIf hc h
        refine z_aload_n M dt_X6_fewest_2.2.1.2.2 rfl 0 rfl ?_
        refine gf_X6_nearWays M u376 dt_X6_fewest_2.2.2.1.1 ?_
        refine z_iload M dt_X6_fewest_2.2.2.1.2 2 rfl ?_
        have ⟨hg, h⟩ := gIx_s h
        refine al_C43 (σ := σ) M (f := (σ.2.1 26)) rfl hg dt_X6_fewest_2.2.2.2.1 ?_
        refine z_bipush M dt_X6_fewest_2.2.2.2.2 kb_100 ?_
        refine z_imul M dt_X6_fewest_3.1.1.1.1 ?_
        refine z_iload M dt_X6_fewest_3.1.1.1.2 1 rfl ?_
        refine z_aload_n M dt_X6_fewest_3.1.1.2.1 rfl 0 rfl ?_
        refine gf_X6_ways M u375 dt_X6_fewest_3.1.1.2.2 ?_
        refine z_iload M dt_X6_fewest_3.1.2.1.1 2 rfl ?_
        have ⟨hg, h⟩ := gIx_s h
        refine al_C42 (σ := σ) M (f := (σ.2.1 25)) rfl hg dt_X6_fewest_3.1.2.1.2 ?_
        refine z_imul M dt_X6_fewest_3.1.2.2.1 ?_
        refine z_icmp_lt (tgt := 142) M dt_X6_fewest_3.1.2.2.2 (by decide) (fun hc => ?_) (fun hc => ?_)
        · have h := gIt hc h
          refine z_iinc (v := (v7 + (1 : Int32))) (lv' := [(7, .int (v7 + (1 : Int32))), (0, .ref (a 38)), (4, .int v4)]) M dt_X6_fewest_4.2.1.2.2 (k := 2) rfl (congrArg (fun q => v7 + q) ki_1) (by decide) rfl ?_
          refine z_goto (tgt := 70) M dt_X6_fewest_4.2.2.1.1 (by decide) ?_
          refine z_sub M [1, 2, 0] (lv' := [(0, .ref (a 38)), (4, .int v4), (7, .int (v7 + (1 : Int32)))]) rfl ?_
          exact ih (v7 + (1 : Int32)) h
        · have h := gIf hc h
          refine z_sub M [0, 2] (lv' := [(0, .ref (a 38)), (7, .int v7)]) rfl ?_
          exact Hk109 v7 h
set_option maxHeartbeats 4000000 in
set_option maxRecDepth 100000 in
theorem wJ_X6_fewest_109 {o : (Zst × Int32)} (M : zM l D zcl (zty cy) A ad (zR 5) (cW a cy) RX6 cX6_fewest 8 (some .int) o.1 (some (.int o.2)) G) (σ : Zst) (v7 : Int32)  (h : J_X6_fewest_109 σ v7 = some o) : G σ [(0, .ref (a 38)), (7, .int v7)] 109 [] := by
  refine z_aload_n M dt_X6_fewest_3.2.1.1.1 rfl 0 rfl ?_
  refine gf_X6_row M u370 dt_X6_fewest_3.2.1.1.2 ?_
  obtain ⟨t1, hc, h⟩ := gBd h
  refine k_X5_clear M hc u1216 (Nat.le_of_ble_eq_true rfl) (Nat.le_of_ble_eq_true rfl) dt_X6_fewest_3.2.1.2.1 ?_
  refine z_aload_n M dt_X6_fewest_3.2.1.2.2 rfl 0 rfl ?_
  refine gf_X6_nearWays M u376 dt_X6_fewest_3.2.2.1.1 ?_
  refine z_iload M dt_X6_fewest_3.2.2.1.2 1 rfl ?_
  have ⟨hg, h⟩ := gIx_s h
  refine al_C43 (σ := t1) M (f := (t1.2.1 26)) rfl hg dt_X6_fewest_3.2.2.2.1 ?_
  refine z_i2l M dt_X6_fewest_3.2.2.2.2 ?_
  obtain ⟨t2, hc, h⟩ := gBd h
  refine k_X5_add M hc u1217 (Nat.le_of_ble_eq_true rfl) (Nat.le_of_ble_eq_true rfl) dt_X6_fewest_4.1.1.1.1 ?_
  refine z_aload_n M dt_X6_fewest_4.1.1.1.2 rfl 0 rfl ?_
  refine gf_X6_ways M u375 dt_X6_fewest_4.1.1.2.1 ?_
  refine z_iload M dt_X6_fewest_4.1.1.2.2 1 rfl ?_
  have ⟨hg, h⟩ := gIx_s h
  refine al_C42 (σ := t2) M (f := (t2.2.1 25)) rfl hg dt_X6_fewest_4.1.2.1.1 ?_
  refine z_i2l M dt_X6_fewest_4.1.2.1.2 ?_
  obtain ⟨t3, hc, h⟩ := gBd h
  refine k_X5_add M hc u1217 (Nat.le_of_ble_eq_true rfl) (Nat.le_of_ble_eq_true rfl) dt_X6_fewest_4.1.2.2 ?_
  refine z_pop M dt_X6_fewest_4.2.1.1.1 rfl ?_
  refine z_iload M dt_X6_fewest_4.2.1.1.2 1 rfl ?_
  obtain rfl := Option.some.inj h
  exact z_iret M dt_X6_fewest_4.2.1.2.1
set_option maxHeartbeats 4000000 in
set_option maxRecDepth 100000 in
theorem m_X6_fewest (hD : ∀ σ, va_D A (cW a cy σ)) {σ : Zst} {p0 : Int32} {p1 : Int32} {p2 : Int32} {p3 : Int32} {p4 : Int32} {o : (Zst × Int32)} (h : f_X6_fewest σ p0 p1 p2 p3 p4 = some o) : zT l D zcl (zty cy) A ad (cW a cy) yX6_fewest cX6_fewest 8 (some .int) 5 [.ref (a 38), .int p0, .int p1, .int p2, .int p3, .int p4] σ o.1 (some (.int o.2)) := by
  refine z_met pn_X6 hD (Nat.le_of_ble_eq_true rfl) rfl (fun G M => ?_)
  refine z_iload_n M dt_X6_fewest_0.1.1.1.1 rfl 3 rfl ?_
  refine z_iconst M dt_X6_fewest_0.1.1.1.2 ki_0 ?_
  refine z_sipush M dt_X6_fewest_0.1.1.2.1 ks_999 ?_
  refine kn_X11_between M u1244 (Nat.le_of_ble_eq_true rfl) (Nat.le_of_ble_eq_true rfl) dt_X6_fewest_0.1.1.2.2 ?_
  have hJ6 : G σ [(0, .ref (a 38)), (1, .int p0), (2, .int p1), (3, .int p2), (4, .int p3), (5, .int p4)] 27 [.int (if (f_X11_between p2 (0 : Int32) (999 : Int32)) = (0 : Int32) then (0 : Int32) else (if (f_X11_between p3 (1 : Int32) (100 : Int32)) = (0 : Int32) then (0 : Int32) else (1 : Int32)))] := by
    refine z_istore (lv' := [(6, .int (if (f_X11_between p2 (0 : Int32) (999 : Int32)) = (0 : Int32) then (0 : Int32) else (if (f_X11_between p3 (1 : Int32) (100 : Int32)) = (0 : Int32) then (0 : Int32) else (1 : Int32)))), (0, .ref (a 38)), (1, .int p0), (2, .int p1), (3, .int p2), (4, .int p3), (5, .int p4)]) M dt_X6_fewest_0.2.2.1.2 (by decide) rfl ?_
    refine z_iload_n M dt_X6_fewest_0.2.2.2.1 rfl 2 rfl ?_
    refine kn_X11_isKind M u1245 (Nat.le_of_ble_eq_true rfl) (Nat.le_of_ble_eq_true rfl) dt_X6_fewest_0.2.2.2.2 ?_
    refine z_if_eq (tgt := 52) M dt_X6_fewest_1.1.1.1.1 (by decide) (fun hc => ?_) (fun hc => ?_)
    · have h := gIt hc h
      refine z_iconst M dt_X6_fewest_1.2.1.1.1 ki_m1 ?_
      obtain rfl := Option.some.inj h
      exact z_iret M dt_X6_fewest_1.2.1.1.2
    · have h := gIf hc h
      refine z_aload_n M dt_X6_fewest_1.1.1.1.2 rfl 1 rfl ?_
      refine gf_X6_town M u368 dt_X6_fewest_1.1.1.2.1 ?_
      refine z_iload_n M dt_X6_fewest_1.1.1.2.2 rfl 3 rfl ?_
      refine k_X10_hasSort M u1207 (Nat.le_of_ble_eq_true rfl) (Nat.le_of_ble_eq_true rfl) dt_X6_fewest_1.1.2.1.1 ?_
      refine z_if_eq (tgt := 52) M dt_X6_fewest_1.1.2.1.2 (by decide) (fun hc => ?_) (fun hc => ?_)
      · have h := gIt hc h
        refine z_iconst M dt_X6_fewest_1.2.1.1.1 ki_m1 ?_
        obtain rfl := Option.some.inj h
        exact z_iret M dt_X6_fewest_1.2.1.1.2
      · have h := gIf hc h
        refine z_iload M dt_X6_fewest_1.1.2.2.1 0 rfl ?_
        refine z_if_ne (tgt := 54) M dt_X6_fewest_1.1.2.2.2 (by decide) (fun hc => ?_) (fun hc => ?_)
        · have h := gIf hc h
          refine z_aload_n M dt_X6_fewest_1.2.1.2.1 rfl 1 rfl ?_
          refine z_iload_n M dt_X6_fewest_1.2.1.2.2 rfl 2 rfl ?_
          refine z_iload_n M dt_X6_fewest_1.2.2.1.1 rfl 3 rfl ?_
          refine z_iload M dt_X6_fewest_1.2.2.1.2 6 rfl ?_
          obtain ⟨t7, hc, h⟩ := gBd h
          refine k_X6_gatherMeans M hc u1246 (Nat.le_of_ble_eq_true rfl) (Nat.le_of_ble_eq_true rfl) dt_X6_fewest_1.2.2.2.1 ?_
          refine z_aload_n M dt_X6_fewest_1.2.2.2.2 rfl 1 rfl ?_
          refine z_iload_n M dt_X6_fewest_2.1.1.1.1 rfl 4 rfl ?_
          obtain ⟨t8, hc, h⟩ := gBd h
          refine k_X6_countWays M hc u1251 (Nat.le_of_ble_eq_true rfl) (Nat.le_of_ble_eq_true rfl) dt_X6_fewest_2.1.1.1.2 ?_
          refine z_iconst M dt_X6_fewest_2.1.1.2.1 ki_1 ?_
          refine z_istore (lv' := [(7, .int (1 : Int32)), (6, .int (if (f_X11_between p2 (0 : Int32) (999 : Int32)) = (0 : Int32) then (0 : Int32) else (if (f_X11_between p3 (1 : Int32) (100 : Int32)) = (0 : Int32) then (0 : Int32) else (1 : Int32)))), (0, .ref (a 38)), (1, .int p0), (2, .int p1), (3, .int p2), (4, .int p3), (5, .int p4)]) M dt_X6_fewest_2.1.1.2.2 (by decide) rfl ?_
          refine z_sub M [2, 6, 0] (lv' := [(0, .ref (a 38)), (4, .int p3), (7, .int (1 : Int32))]) rfl ?_
          exact wL_X6_fewest_70 M (k109 := (fun w9 => J_X6_fewest_109 t8 w9)) t8 p3 (fun w9 h => by
              exact wJ_X6_fewest_109 M  t8 w9 h) zFu (1 : Int32) h
        · have h := gIt hc h
          refine z_iconst M dt_X6_fewest_1.2.1.1.1 ki_m1 ?_
          obtain rfl := Option.some.inj h
          exact z_iret M dt_X6_fewest_1.2.1.1.2
  refine z_if_eq (tgt := 26) M dt_X6_fewest_0.1.2.1.1 (by decide) (fun hc4 => ?_) (fun hc4 => ?_)
  · refine z_iconst M dt_X6_fewest_0.2.2.1.1 ki_0 ?_
    exact (zTt hc4 hJ6)
  · refine z_iload M dt_X6_fewest_0.1.2.1.2 4 rfl ?_
    refine z_iconst M dt_X6_fewest_0.1.2.2.1 ki_1 ?_
    refine z_bipush M dt_X6_fewest_0.1.2.2.2 kb_100 ?_
    refine kn_X11_between M u1244 (Nat.le_of_ble_eq_true rfl) (Nat.le_of_ble_eq_true rfl) dt_X6_fewest_0.2.1.1.1 ?_
    refine z_if_eq (tgt := 26) M dt_X6_fewest_0.2.1.1.2 (by decide) (fun hc5 => ?_) (fun hc5 => ?_)
    · refine z_iconst M dt_X6_fewest_0.2.2.1.1 ki_0 ?_
      exact (zTt hc5 (zTf hc4 hJ6))
    · refine z_iconst M dt_X6_fewest_0.2.1.2.1 ki_1 ?_
      refine z_goto (tgt := 27) M dt_X6_fewest_0.2.1.2.2 (by decide) ?_
      exact (zTf hc5 (zTf hc4 hJ6))
theorem k_X6_fewest {n : Nat} (M : zM l D zcl (zty cy) A ad (zR n) (cW a cy) own cc nL rt σo ov G) {p0 : Int32} {p1 : Int32} {p2 : Int32} {p3 : Int32} {p4 : Int32} {o : (Zst × Int32)} (h : f_X6_fewest σ p0 p1 p2 p3 p4 = some o) {index : Nat} (hl : Cond.methodLink own index yX6_fewest ∈ uw) (hR : 6 ≤ n) (hW : (st.map fun v => v.category).sum ≤ 8) (d : decode cc pc = .ok (.invokevirtual index, 3)) (kk : G o.1 lv (pc + 3) (.int o.2 :: st)) : G σ lv pc (.int p4 :: .int p3 :: .int p2 :: .int p1 :: .int p0 :: .ref (a 38) :: st) := z_callV M [.int p0, .int p1, .int p2, .int p3, .int p4] (m_X6_fewest (zM_hD M) h) (hC38 σ) rfl hl u97 u1243 u1241 u1242 hd_X6_fewest hR (by decide) rfl hW d kk
end ZWK
