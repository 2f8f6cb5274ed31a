section ZWK
variable {l : Launch} {D : va_G} {A : Nat → Prop} {ad : (Nat → Nat) × (Nat → Nat)} {a : Nat → Nat} {cy : ClassId × (ClassId × (ClassId × ClassId))} {own : String} {cc : ByteArray} {nL : Nat} {rt : Option FieldType} {σo : Zst} {ov : Option Value} {G : Zst → List (Nat × Value) → Nat → List Value → Prop}
variable {σ σ0 : Zst} {lv : List (Nat × Value)} {pc : Nat} {st : List Value} {zcl0 : List vw_C} {tys : List (ClassId × FieldType)} {wf : Zst → va_W}
set_option maxHeartbeats 4000000 in
set_option maxRecDepth 100000 in
theorem wL_X12_parts_12 {o : (Zst × Int32)} (M : zM l D zcl (zty cy) A ad (zR 6) (mW a cy ad) RX12 cX12_parts 5 (some .int) o.1 (some (.int o.2)) G) {k59 : Zst → Int32 → Int32 → Option (Zst × Int32)}   (Hk59 : ∀ (σ : Zst) (w1 : Int32) (w2 : Int32), k59 σ w1 w2 = some o → G σ [(0, .ref (a 0)), (1, .int w1), (2, .int w2)] 59 []) :
    ∀ (n12 : Nat) (σ : Zst) (v1 : Int32) (v2 : Int32) (v3 : Int32), L_X12_parts_12 k59 n12 σ v1 v2 v3 = some o → G σ [(0, .ref (a 0)), (1, .int v1), (2, .int v2), (3, .int v3)] 12 [] := by
  intro n12
  induction n12 with
  | zero => intro σ v1 v2 v3 h; exact nomatch (show (none : Option (Zst × Int32)) = some _ from h)
  | succ n12 ih =>
    intro σ v1 v2 v3 h
    refine z_iload_n M dt_X12_parts_0.2.1.1.2 rfl 3 rfl ?_
    refine z_aload_n M dt_X12_parts_0.2.1.2.1 rfl 0 rfl ?_
    refine gf_X12_sorts (σ := σ) M u1963 dt_X12_parts_0.2.1.2.2 (v := (σ.1 2)) rfl ?_
    refine z_icmp_ge (tgt := 59) M dt_X12_parts_0.2.2.1.1 (by decide) (fun hc => ?_) (fun hc => ?_)
    · have h := gIt hc h
      refine z_sub M [0, 1, 2] (lv' := [(0, .ref (a 0)), (1, .int v1), (2, .int v2)]) rfl ?_
      exact Hk59 σ v1 v2 h
    · have h := gIf hc h
      refine z_aload_n M dt_X12_parts_0.2.2.1.2 rfl 0 rfl ?_
      refine z_iload_n M dt_X12_parts_0.2.2.2.1 rfl 3 rfl ?_
      obtain ⟨t1, hc, h⟩ := gBd h
      refine k_X12_holding M hc u1821 (Nat.le_of_ble_eq_true rfl) (Nat.le_of_ble_eq_true rfl) dt_X12_parts_0.2.2.2.2 ?_
      refine z_istore (lv' := [(4, .int t1.2), (0, .ref (a 0)), (1, .int v1), (2, .int v2), (3, .int v3)]) M dt_X12_parts_1.1.1.1.1 (by decide) rfl ?_
      refine z_iload M dt_X12_parts_1.1.1.1.2 0 rfl ?_
      refine z_if_eq (tgt := 53) M dt_X12_parts_1.1.1.2.1 (by decide) (fun hc => ?_) (fun hc => ?_)
      · have h := gIt hc h
        refine z_iinc (v := (v3 + (1 : Int32))) (lv' := [(3, .int (v3 + (1 : Int32))), (4, .int t1.2), (0, .ref (a 0)), (1, .int v1), (2, .int v2)]) M dt_X12_parts_1.2.2.2.1 (k := 4) rfl (congrArg (fun q => v3 + q) ki_1) (by decide) rfl ?_
        refine z_goto (tgt := 12) M dt_X12_parts_1.2.2.2.2 (by decide) ?_
        refine z_sub M [2, 3, 4, 0] (lv' := [(0, .ref (a 0)), (1, .int v1), (2, .int v2), (3, .int (v3 + (1 : Int32)))]) rfl ?_
        exact ih t1.1 v1 v2 (v3 + (1 : Int32)) h
      · have h := gIf hc h
        refine z_iload_n M dt_X12_parts_1.1.1.2.2 rfl 2 rfl ?_
        refine z_if_lt (tgt := 48) M dt_X12_parts_1.1.2.1.1 (by decide) (fun hc => ?_) (fun hc => ?_)
        · have h := gIt hc h
          refine z_iload_n M dt_X12_parts_1.2.1.2.1 rfl 4 rfl ?_
          refine z_istore_n (lv' := [(1, .int v3), (4, .int t1.2), (0, .ref (a 0)), (2, .int v2), (3, .int v3)]) M dt_X12_parts_1.2.1.2.2 rfl (by decide) rfl ?_
          refine z_iload M dt_X12_parts_1.2.2.1.1 1 rfl ?_
          refine z_istore_n (lv' := [(2, .int t1.2), (1, .int v3), (4, .int t1.2), (0, .ref (a 0)), (3, .int v3)]) M dt_X12_parts_1.2.2.1.2 rfl (by decide) rfl ?_
          refine z_iinc (v := (v3 + (1 : Int32))) (lv' := [(3, .int (v3 + (1 : Int32))), (2, .int t1.2), (1, .int v3), (4, .int t1.2), (0, .ref (a 0))]) M dt_X12_parts_1.2.2.2.1 (k := 4) rfl (congrArg (fun q => v3 + q) ki_1) (by decide) rfl ?_
          refine z_goto (tgt := 12) M dt_X12_parts_1.2.2.2.2 (by decide) ?_
          refine z_sub M [4, 2, 1, 0] (lv' := [(0, .ref (a 0)), (1, .int v3), (2, .int t1.2), (3, .int (v3 + (1 : Int32)))]) rfl ?_
          exact ih t1.1 v3 t1.2 (v3 + (1 : Int32)) h
        · have h := gIf hc h
          refine z_iload M dt_X12_parts_1.1.2.1.2 0 rfl ?_
          refine k_J6_bitCount_0f7a4 M u1837 (Nat.le_of_ble_eq_true rfl) (Nat.le_of_ble_eq_true rfl) dt_X12_parts_1.1.2.2.1 ?_
          refine z_iload_n M dt_X12_parts_1.1.2.2.2 rfl 3 rfl ?_
          refine k_J6_bitCount_0f7a4 M u1837 (Nat.le_of_ble_eq_true rfl) (Nat.le_of_ble_eq_true rfl) dt_X12_parts_1.2.1.1.1 ?_
          refine z_icmp_ge (tgt := 53) M dt_X12_parts_1.2.1.1.2 (by decide) (fun hc => ?_) (fun hc => ?_)
          · have h := gIt hc h
            refine z_iinc (v := (v3 + (1 : Int32))) (lv' := [(3, .int (v3 + (1 : Int32))), (4, .int t1.2), (0, .ref (a 0)), (1, .int v1), (2, .int v2)]) M dt_X12_parts_1.2.2.2.1 (k := 4) rfl (congrArg (fun q => v3 + q) ki_1) (by decide) rfl ?_
            refine z_goto (tgt := 12) M dt_X12_parts_1.2.2.2.2 (by decide) ?_
            refine z_sub M [2, 3, 4, 0] (lv' := [(0, .ref (a 0)), (1, .int v1), (2, .int v2), (3, .int (v3 + (1 : Int32)))]) rfl ?_
            exact ih t1.1 v1 v2 (v3 + (1 : Int32)) h
          · have h := gIf hc h
            refine z_iload_n M dt_X12_parts_1.2.1.2.1 rfl 4 rfl ?_
            refine z_istore_n (lv' := [(1, .int v3), (4, .int t1.2), (0, .ref (a 0)), (2, .int v2), (3, .int v3)]) M dt_X12_parts_1.2.1.2.2 rfl (by decide) rfl ?_
            refine z_iload M dt_X12_parts_1.2.2.1.1 1 rfl ?_
            refine z_istore_n (lv' := [(2, .int t1.2), (1, .int v3), (4, .int t1.2), (0, .ref (a 0)), (3, .int v3)]) M dt_X12_parts_1.2.2.1.2 rfl (by decide) rfl ?_
            refine z_iinc (v := (v3 + (1 : Int32))) (lv' := [(3, .int (v3 + (1 : Int32))), (2, .int t1.2), (1, .int v3), (4, .int t1.2), (0, .ref (a 0))]) M dt_X12_parts_1.2.2.2.1 (k := 4) rfl (congrArg (fun q => v3 + q) ki_1) (by decide) rfl ?_
            refine z_goto (tgt := 12) M dt_X12_parts_1.2.2.2.2 (by decide) ?_
            refine z_sub M [4, 2, 1, 0] (lv' := [(0, .ref (a 0)), (1, .int v3), (2, .int t1.2), (3, .int (v3 + (1 : Int32)))]) rfl ?_
            exact ih t1.1 v3 t1.2 (v3 + (1 : Int32)) h
set_option maxHeartbeats 4000000 in
set_option maxRecDepth 100000 in
theorem wJ_X12_parts_59 {o : (Zst × Int32)} (M : zM l D zcl (zty cy) A ad (zR 6) (mW a cy ad) RX12 cX12_parts 5 (some .int) o.1 (some (.int o.2)) G) (σ : Zst) (v1 : Int32) (v2 : Int32)  (h : J_X12_parts_59 σ v1 v2 = some o) : G σ [(0, .ref (a 0)), (1, .int v1), (2, .int v2)] 59 [] := by
  refine z_iload_n M dt_X12_parts_2.1.1.1.1 rfl 1 rfl ?_
  refine z_if_lt (tgt := 74) M dt_X12_parts_2.1.1.1.2 (by decide) (fun hc => ?_) (fun hc => ?_)
  · have h := gIt hc h
    refine z_iload_n M dt_X12_parts_2.2.2.1 rfl 1 rfl ?_
    obtain rfl := Option.some.inj h
    exact z_iret M dt_X12_parts_2.2.2.2
  · have h := gIf hc h
    refine z_aload_n M dt_X12_parts_2.1.1.2 rfl 0 rfl ?_
    refine z_iconst M dt_X12_parts_2.1.2.1.1 ki_0 ?_
    refine pf_X12_rows M u1961 dt_X12_parts_2.1.2.1.2 ?_
    refine z_aload_n M dt_X12_parts_2.1.2.2 rfl 0 rfl ?_
    refine z_iload_n M dt_X12_parts_2.2.1.1.1 rfl 2 rfl ?_
    refine z_i2l M dt_X12_parts_2.2.1.1.2 ?_
    obtain ⟨t2, hc, h⟩ := gBd h
    refine k_X12_enters M hc u1708 (Nat.le_of_ble_eq_true rfl) (Nat.le_of_ble_eq_true rfl) dt_X12_parts_2.2.1.2 ?_
    refine z_iload_n M dt_X12_parts_2.2.2.1 rfl 1 rfl ?_
    obtain rfl := Option.some.inj h
    exact z_iret M dt_X12_parts_2.2.2.2
set_option maxHeartbeats 4000000 in
set_option maxRecDepth 100000 in
theorem m_X12_parts (hD : ∀ σ, va_D A (mW a cy ad σ)) {σ : Zst}  {o : (Zst × Int32)} (h : f_X12_parts σ = some o) : zT l D zcl (zty cy) A ad (mW a cy ad) yX12_parts cX12_parts 5 (some .int) 6 [.ref (a 0)] σ o.1 (some (.int o.2)) := by
  refine z_met pn_X12 hD (Nat.le_of_ble_eq_true rfl) rfl (fun G M => ?_)
  refine z_aload_n M dt_X12_parts_0.1.1.1.1 rfl 0 rfl ?_
  refine z_iconst M dt_X12_parts_0.1.1.1.2 ki_0 ?_
  refine pf_X12_thrown M u1960 dt_X12_parts_0.1.1.2.1 ?_
  refine z_bipush M dt_X12_parts_0.1.1.2.2 kb_m2 ?_
  refine z_istore_n (lv' := [(1, .int (-2 : Int32)), (0, .ref (a 0))]) M dt_X12_parts_0.1.2.1.1 rfl (by decide) rfl ?_
  refine z_iconst M dt_X12_parts_0.1.2.1.2 ki_0 ?_
  refine z_istore_n (lv' := [(2, .int (0 : Int32)), (1, .int (-2 : Int32)), (0, .ref (a 0))]) M dt_X12_parts_0.1.2.2.1 rfl (by decide) rfl ?_
  refine z_iconst M dt_X12_parts_0.1.2.2.2 ki_0 ?_
  refine z_istore_n (lv' := [(3, .int (0 : Int32)), (2, .int (0 : Int32)), (1, .int (-2 : Int32)), (0, .ref (a 0))]) M dt_X12_parts_0.2.1.1.1 rfl (by decide) rfl ?_
  refine z_sub M [3, 2, 1, 0] (lv' := [(0, .ref (a 0)), (1, .int (-2 : Int32)), (2, .int (0 : Int32)), (3, .int (0 : Int32))]) rfl ?_
  exact wL_X12_parts_12 M (k59 := (fun σ5 w3 w4 => J_X12_parts_59 σ5 w3 w4)) (fun σ5 w3 w4 h => by
      exact wJ_X12_parts_59 M  σ5 w3 w4 h) zFu (zI σ 0 (0 : Int32)) (-2 : Int32) (0 : Int32) (0 : Int32) h
set_option maxHeartbeats 4000000 in
set_option maxRecDepth 100000 in
theorem m_X12_twice (hD : ∀ σ, va_D A (mW a cy ad σ)) {σ : Zst} {p0 : Int32} {p1 : Int32} {p2 : Int32} {o : (Zst × Int32)} (h : f_X12_twice σ p0 p1 p2 = some o) : zT l D zcl (zty cy) A ad (mW a cy ad) yX12_twice cX12_twice 4 (some .int) 3 [.ref (a 0), .int p0, .int p1, .int p2] σ o.1 (some (.int o.2)) := by
  refine z_met pn_X12 hD (Nat.le_of_ble_eq_true rfl) rfl (fun G M => ?_)
  refine z_aload_n M dt_X12_twice_0.1.1.1.1 rfl 0 rfl ?_
  refine z_iconst M dt_X12_twice_0.1.1.1.2 ki_0 ?_
  refine pf_X12_thrown M u1960 dt_X12_twice_0.1.1.2.1 ?_
  refine z_aload_n M dt_X12_twice_0.1.1.2.2 rfl 0 rfl ?_
  refine z_iload_n M dt_X12_twice_0.1.2.1.1 rfl 1 rfl ?_
  refine k_X12_isSort M u1526 (Nat.le_of_ble_eq_true rfl) (Nat.le_of_ble_eq_true rfl) dt_X12_twice_0.1.2.1.2 ?_
  refine z_if_eq (tgt := 45) M dt_X12_twice_0.1.2.2.1 (by decide) (fun hc => ?_) (fun hc => ?_)
  · have h := gIt hc h
    refine z_iconst M dt_X12_twice_1.1.2.2.2 ki_m1 ?_
    obtain rfl := Option.some.inj h
    exact z_iret M dt_X12_twice_1.2.1.1.1
  · have h := gIf hc h
    refine z_aload_n M dt_X12_twice_0.1.2.2.2 rfl 0 rfl ?_
    refine z_iload_n M dt_X12_twice_0.2.1.1.1 rfl 2 rfl ?_
    refine k_X12_isSort M u1526 (Nat.le_of_ble_eq_true rfl) (Nat.le_of_ble_eq_true rfl) dt_X12_twice_0.2.1.1.2 ?_
    refine z_if_eq (tgt := 45) M dt_X12_twice_0.2.1.2.1 (by decide) (fun hc => ?_) (fun hc => ?_)
    · have h := gIt hc h
      refine z_iconst M dt_X12_twice_1.1.2.2.2 ki_m1 ?_
      obtain rfl := Option.some.inj h
      exact z_iret M dt_X12_twice_1.2.1.1.1
    · have h := gIf hc h
      refine z_iload_n M dt_X12_twice_0.2.1.2.2 rfl 3 rfl ?_
      refine z_i2l M dt_X12_twice_0.2.2.1.1 ?_
      refine z_lconst (v := 1) M dt_X12_twice_0.2.2.1.2 (by decide) ?_
      refine z_ldc2 M dt_X12_twice_0.2.2.2.1 u1842 ?_
      refine k_X12_in M u1517 (Nat.le_of_ble_eq_true rfl) (Nat.le_of_ble_eq_true rfl) dt_X12_twice_0.2.2.2.2 ?_
      refine z_if_eq (tgt := 45) M dt_X12_twice_1.1.1.1.1 (by decide) (fun hc => ?_) (fun hc => ?_)
      · have h := gIt hc h
        refine z_iconst M dt_X12_twice_1.1.2.2.2 ki_m1 ?_
        obtain rfl := Option.some.inj h
        exact z_iret M dt_X12_twice_1.2.1.1.1
      · have h := gIf hc h
        refine z_aload_n M dt_X12_twice_1.1.1.1.2 rfl 0 rfl ?_
        refine gf_X12_takenMany (σ := (zI σ 0 (0 : Int32))) M u2008 dt_X12_twice_1.1.1.2.1 (v := (σ.1 21)) rfl ?_
        refine z_iload_n M dt_X12_twice_1.1.1.2.2 rfl 3 rfl ?_
        refine z_iadd M dt_X12_twice_1.1.2.1.1 ?_
        refine z_sipush M dt_X12_twice_1.1.2.1.2 ks_9999 ?_
        refine z_icmp_le (tgt := 47) M dt_X12_twice_1.1.2.2.1 (by decide) (fun hc => ?_) (fun hc => ?_)
        · have h := gIt hc h
          refine z_aload_n M dt_X12_twice_1.2.1.1.2 rfl 0 rfl ?_
          refine gf_X12_taken M u2009 dt_X12_twice_1.2.1.2.1 ?_
          refine z_bipush M dt_X12_twice_1.2.1.2.2 kb_8 ?_
          refine z_iload_n M dt_X12_twice_1.2.2.1.1 rfl 1 rfl ?_
          refine z_imul M dt_X12_twice_1.2.2.1.2 ?_
          refine z_iload_n M dt_X12_twice_1.2.2.2.1 rfl 2 rfl ?_
          refine z_iadd M dt_X12_twice_1.2.2.2.2 ?_
          refine z_dup2_11 M dt_X12_twice_2.1.1.1.1 rfl rfl ?_
          have ⟨hg, h⟩ := gIx_s h
          refine al_M27 (σ := (zI σ 0 (0 : Int32))) M (f := (σ.2.1 21)) rfl hg dt_X12_twice_2.1.1.1.2 ?_
          refine z_iload_n M dt_X12_twice_2.1.1.2.1 rfl 3 rfl ?_
          refine z_iadd M dt_X12_twice_2.1.1.2.2 ?_
          have ⟨hg, h⟩ := gIx_s h
          refine as_M27 (σ := (zI σ 0 (0 : Int32))) M (f := (σ.2.1 21)) rfl hg dt_X12_twice_2.1.2.1.1 ?_
          refine z_aload_n M dt_X12_twice_2.1.2.1.2 rfl 0 rfl ?_
          refine z_dup M dt_X12_twice_2.1.2.2 rfl ?_
          refine gf_X12_takenMany (σ := (zA (zI σ 0 (0 : Int32)) 21 (upd (σ.2.1 21) (Int32.toNatClampNeg (((8 : Int32) * p0) + p1)) (((σ.2.1 21) (Int32.toNatClampNeg (((8 : Int32) * p0) + p1))) + p2)))) M u2008 dt_X12_twice_2.2.1.1.1 (v := (σ.1 21)) rfl ?_
          refine z_iload_n M dt_X12_twice_2.2.1.1.2 rfl 3 rfl ?_
          refine z_iadd M dt_X12_twice_2.2.1.2.1 ?_
          refine pf_X12_takenMany M u2008 dt_X12_twice_2.2.1.2.2 ?_
          refine z_aload_n M dt_X12_twice_2.2.2.1.1 rfl 0 rfl ?_
          refine gf_X12_takenMany (σ := (zI (zA (zI σ 0 (0 : Int32)) 21 (upd (σ.2.1 21) (Int32.toNatClampNeg (((8 : Int32) * p0) + p1)) (((σ.2.1 21) (Int32.toNatClampNeg (((8 : Int32) * p0) + p1))) + p2))) 21 ((σ.1 21) + p2))) M u2008 dt_X12_twice_2.2.2.1.2 (v := ((σ.1 21) + p2)) rfl ?_
          obtain rfl := Option.some.inj h
          exact z_iret M dt_X12_twice_2.2.2.2
        · have h := gIf hc h
          refine z_iconst M dt_X12_twice_1.1.2.2.2 ki_m1 ?_
          obtain rfl := Option.some.inj h
          exact z_iret M dt_X12_twice_1.2.1.1.1
set_option maxHeartbeats 4000000 in
set_option maxRecDepth 100000 in
theorem wL_X12_tookFor_5 {o : Int32} (M : zM l D zcl (zty cy) A ad (zR 1) (mW a cy ad) RX12 cX12_tookFor 5 (some .int) σ0 (some (.int o)) G)  (v1 : Int32) (v2 : Int32)  :
    ∀ (n5 : Nat) (v3 : Int32) (v4 : Int32), L_X12_tookFor_5 σ0 v1 v2 n5 v3 v4 = some o → G σ0 [(0, .ref (a 0)), (1, .int v1), (2, .int v2), (3, .int v3), (4, .int v4)] 5 [] := by
  intro n5
  induction n5 with
  | zero => intro v3 v4 h; exact nomatch (show (none : Option Int32) = some _ from h)
  | succ n5 ih =>
    intro v3 v4 h
    refine z_iload M dt_X12_tookFor_0.1.2.1.1 4 rfl ?_
    refine z_bipush M dt_X12_tookFor_0.1.2.1.2 kb_8 ?_
    refine z_icmp_ge (tgt := 52) M dt_X12_tookFor_0.1.2.2.1 (by decide) (fun hc => ?_) (fun hc => ?_)
    · have h := gIt hc h
      refine z_iload_n M dt_X12_tookFor_1.2.2.2.2 rfl 3 rfl ?_
      obtain rfl := Option.some.inj h
      exact z_iret M dt_X12_tookFor_2
    · have h := gIf hc h
      refine z_iload_n M dt_X12_tookFor_0.1.2.2.2 rfl 3 rfl ?_
      refine z_iload_n M dt_X12_tookFor_0.2.1.1.1 rfl 1 rfl ?_
      refine z_if_ne (tgt := 32) M dt_X12_tookFor_0.2.1.1.2 (by decide) (fun hc => ?_) (fun hc => ?_)
      · have h := gIf hc h
        refine z_aload_n M dt_X12_tookFor_1.1.1.2.2 rfl 0 rfl ?_
        refine gf_X12_taken M u2009 dt_X12_tookFor_1.1.2.1.1 ?_
        refine z_bipush M dt_X12_tookFor_1.1.2.1.2 kb_8 ?_
        refine z_iload M dt_X12_tookFor_1.1.2.2.1 4 rfl ?_
        refine z_imul M dt_X12_tookFor_1.1.2.2.2 ?_
        refine z_iload_n M dt_X12_tookFor_1.2.1.1.1 rfl 2 rfl ?_
        refine z_iadd M dt_X12_tookFor_1.2.1.1.2 ?_
        have ⟨hg, h⟩ := gIx_s h
        refine al_M27 (σ := σ0) M (f := (σ0.2.1 21)) rfl hg dt_X12_tookFor_1.2.1.2.1 ?_
        refine z_iadd M dt_X12_tookFor_1.2.1.2.2 ?_
        refine z_istore_n (lv' := [(3, .int (v3 + ((σ0.2.1 21) (Int32.toNatClampNeg (((8 : Int32) * v4) + v2))))), (0, .ref (a 0)), (1, .int v1), (2, .int v2), (4, .int v4)]) M dt_X12_tookFor_1.2.2.1.1 rfl (by decide) rfl ?_
        refine z_iinc (v := (v4 + (1 : Int32))) (lv' := [(4, .int (v4 + (1 : Int32))), (3, .int (v3 + ((σ0.2.1 21) (Int32.toNatClampNeg (((8 : Int32) * v4) + v2))))), (0, .ref (a 0)), (1, .int v1), (2, .int v2)]) M dt_X12_tookFor_1.2.2.1.2 (k := 4) rfl (congrArg (fun q => v4 + q) ki_1) (by decide) rfl ?_
        refine z_goto (tgt := 5) M dt_X12_tookFor_1.2.2.2.1 (by decide) ?_
        refine z_sub M [2, 3, 4, 1, 0] (lv' := [(0, .ref (a 0)), (1, .int v1), (2, .int v2), (3, .int (v3 + ((σ0.2.1 21) (Int32.toNatClampNeg (((8 : Int32) * v4) + v2))))), (4, .int (v4 + (1 : Int32)))]) rfl ?_
        exact ih (v3 + ((σ0.2.1 21) (Int32.toNatClampNeg (((8 : Int32) * v4) + v2)))) (v4 + (1 : Int32)) h
      · have h := gIt hc h
        refine z_aload_n M dt_X12_tookFor_0.2.1.2.1 rfl 0 rfl ?_
        refine gf_X12_taken M u2009 dt_X12_tookFor_0.2.1.2.2 ?_
        refine z_bipush M dt_X12_tookFor_0.2.2.1.1 kb_8 ?_
        refine z_iload_n M dt_X12_tookFor_0.2.2.1.2 rfl 2 rfl ?_
        refine z_imul M dt_X12_tookFor_0.2.2.2.1 ?_
        refine z_iload M dt_X12_tookFor_0.2.2.2.2 4 rfl ?_
        refine z_iadd M dt_X12_tookFor_1.1.1.1.1 ?_
        have ⟨hg, h⟩ := gIx_s h
        refine al_M27 (σ := σ0) M (f := (σ0.2.1 21)) rfl hg dt_X12_tookFor_1.1.1.1.2 ?_
        refine z_goto (tgt := 44) M dt_X12_tookFor_1.1.1.2.1 (by decide) ?_
        refine z_iadd M dt_X12_tookFor_1.2.1.2.2 ?_
        refine z_istore_n (lv' := [(3, .int (v3 + ((σ0.2.1 21) (Int32.toNatClampNeg (((8 : Int32) * v2) + v4))))), (0, .ref (a 0)), (1, .int v1), (2, .int v2), (4, .int v4)]) M dt_X12_tookFor_1.2.2.1.1 rfl (by decide) rfl ?_
        refine z_iinc (v := (v4 + (1 : Int32))) (lv' := [(4, .int (v4 + (1 : Int32))), (3, .int (v3 + ((σ0.2.1 21) (Int32.toNatClampNeg (((8 : Int32) * v2) + v4))))), (0, .ref (a 0)), (1, .int v1), (2, .int v2)]) M dt_X12_tookFor_1.2.2.1.2 (k := 4) rfl (congrArg (fun q => v4 + q) ki_1) (by decide) rfl ?_
        refine z_goto (tgt := 5) M dt_X12_tookFor_1.2.2.2.1 (by decide) ?_
        refine z_sub M [2, 3, 4, 1, 0] (lv' := [(0, .ref (a 0)), (1, .int v1), (2, .int v2), (3, .int (v3 + ((σ0.2.1 21) (Int32.toNatClampNeg (((8 : Int32) * v2) + v4))))), (4, .int (v4 + (1 : Int32)))]) rfl ?_
        exact ih (v3 + ((σ0.2.1 21) (Int32.toNatClampNeg (((8 : Int32) * v2) + v4)))) (v4 + (1 : Int32)) h
set_option maxHeartbeats 4000000 in
set_option maxRecDepth 100000 in
theorem m_X12_tookFor (hD : ∀ σ, va_D A (mW a cy ad σ)) {σ0 : Zst} {p0 : Int32} {p1 : Int32} {o : Int32} (h : f_X12_tookFor σ0 p0 p1 = some o) : zT l D zcl (zty cy) A ad (mW a cy ad) yX12_tookFor cX12_tookFor 5 (some .int) 1 [.ref (a 0), .int p0, .int p1] σ0 σ0 (some (.int o)) := by
  refine z_met pn_X12 hD (Nat.le_of_ble_eq_true rfl) rfl (fun G M => ?_)
  refine z_iconst M dt_X12_tookFor_0.1.1.1.1 ki_0 ?_
  refine z_istore_n (lv' := [(3, .int (0 : Int32)), (0, .ref (a 0)), (1, .int p0), (2, .int p1)]) M dt_X12_tookFor_0.1.1.1.2 rfl (by decide) rfl ?_
  refine z_iconst M dt_X12_tookFor_0.1.1.2.1 ki_0 ?_
  refine z_istore (lv' := [(4, .int (0 : Int32)), (3, .int (0 : Int32)), (0, .ref (a 0)), (1, .int p0), (2, .int p1)]) M dt_X12_tookFor_0.1.1.2.2 (by decide) rfl ?_
  refine z_sub M [2, 3, 4, 1, 0] (lv' := [(0, .ref (a 0)), (1, .int p0), (2, .int p1), (3, .int (0 : Int32)), (4, .int (0 : Int32))]) rfl ?_
  exact wL_X12_tookFor_5 M  p0 p1 zFu (0 : Int32) (0 : Int32) h
theorem k_X12_tookFor {n : Nat} (M : zM l D zcl (zty cy) A ad (zR n) (mW a cy ad) own cc nL rt σo ov G) {p0 : Int32} {p1 : Int32} {o : Int32} (h : f_X12_tookFor σ p0 p1 = some o) {index : Nat} (hl : Cond.methodLink own index yX12_tookFor ∈ uw) (hR : 2 ≤ n) (hW : (st.map fun v => v.category).sum ≤ 8) (d : decode cc pc = .ok (.invokevirtual index, 3)) (kk : G σ lv (pc + 3) (.int o :: st)) : G σ lv pc (.int p1 :: .int p0 :: .ref (a 0) :: st) := z_callV M [.int p0, .int p1] (m_X12_tookFor (zM_hD M) h) (hM0 σ) rfl hl u99 u1850 u1849 u78 hd_X12_tookFor hR (by decide) rfl hW d kk
set_option maxHeartbeats 4000000 in
set_option maxRecDepth 100000 in
theorem wL_X12_alike_19 {o : (Zst × Int32)} (M : zM l D zcl (zty cy) A ad (zR 3) (mW a cy ad) RX12 cX12_alike 8 (some .int) o.1 (some (.int o.2)) G) {k69 : Int64 → Int64 → Option (Zst × Int32)} (σ : Zst) (v5 : Int64) (Hk69 : ∀ (w1 : Int64) (w3 : Int64), k69 w1 w3 = some o → G σ [(0, .ref (a 0)), (1, .long w1), (3, .long w3), (5, .long v5)] 69 []) :
    ∀ (n19 : Nat) (v1 : Int64) (v3 : Int64) (v7 : Int32), L_X12_alike_19 k69 σ v5 n19 v1 v3 v7 = some o → G σ [(0, .ref (a 0)), (1, .long v1), (3, .long v3), (5, .long v5), (7, .int v7)] 19 [] := by
  intro n19
  induction n19 with
  | zero => intro v1 v3 v7 h; exact nomatch (show (none : Option (Zst × Int32)) = some _ from h)
  | succ n19 ih =>
    intro v1 v3 v7 h
    refine z_iload M dt_X12_alike_0.2.2.1.2 4 rfl ?_
    refine z_bipush M dt_X12_alike_0.2.2.2.1 kb_8 ?_
    refine z_icmp_ge (tgt := 69) M dt_X12_alike_0.2.2.2.2 (by decide) (fun hc => ?_) (fun hc => ?_)
    · have h := gIt hc h
      refine z_sub M [0, 1, 2, 3] (lv' := [(0, .ref (a 0)), (1, .long v1), (3, .long v3), (5, .long v5)]) rfl ?_
      exact Hk69 v1 v3 h
    · have h := gIf hc h
      refine z_lload_n M dt_X12_alike_1.1.1.1.1 rfl 1 rfl ?_
      refine z_aload_n M dt_X12_alike_1.1.1.1.2 rfl 0 rfl ?_
      refine gf_X12_taken M u2009 dt_X12_alike_1.1.1.2.1 ?_
      refine z_bipush M dt_X12_alike_1.1.1.2.2 kb_8 ?_
      refine z_iload M dt_X12_alike_1.1.2.1.1 4 rfl ?_
      refine z_imul M dt_X12_alike_1.1.2.1.2 ?_
      refine z_iload M dt_X12_alike_1.1.2.2.1 4 rfl ?_
      refine z_iadd M dt_X12_alike_1.1.2.2.2 ?_
      have ⟨hg, h⟩ := gIx_s h
      refine al_M27 (σ := σ) M (f := (σ.2.1 21)) rfl hg dt_X12_alike_1.2.1.1.1 ?_
      refine z_i2l M dt_X12_alike_1.2.1.1.2 ?_
      refine z_ladd M dt_X12_alike_1.2.1.2.1 ?_
      refine z_lstore_n (lv' := [(1, .long (v1 + (Int32.toInt64 ((σ.2.1 21) (Int32.toNatClampNeg (((8 : Int32) * v7) + v7)))))), (0, .ref (a 0)), (3, .long v3), (5, .long v5), (7, .int v7)]) M dt_X12_alike_1.2.1.2.2 rfl (by decide) rfl ?_
      refine z_lload_n M dt_X12_alike_1.2.2.1.1 rfl 2 rfl ?_
      refine z_aload_n M dt_X12_alike_1.2.2.1.2 rfl 1 rfl ?_
      refine z_iconst M dt_X12_alike_1.2.2.2.1 ki_0 ?_
      refine z_iload M dt_X12_alike_1.2.2.2.2 4 rfl ?_
      obtain ⟨t1, hc, h⟩ := gBd h
      refine k_X12_tookFor M hc u1847 (Nat.le_of_ble_eq_true rfl) (Nat.le_of_ble_eq_true rfl) dt_X12_alike_2.1.1.1.1 ?_
      refine z_i2l M dt_X12_alike_2.1.1.1.2 ?_
      refine z_aload_n M dt_X12_alike_2.1.1.2.1 rfl 1 rfl ?_
      refine z_iconst M dt_X12_alike_2.1.1.2.2 ki_1 ?_
      refine z_iload M dt_X12_alike_2.1.2.1.1 4 rfl ?_
      obtain ⟨t2, hc, h⟩ := gBd h
      refine k_X12_tookFor M hc u1847 (Nat.le_of_ble_eq_true rfl) (Nat.le_of_ble_eq_true rfl) dt_X12_alike_2.1.2.1.2 ?_
      refine z_i2l M dt_X12_alike_2.1.2.2.1 ?_
      refine z_lmul M dt_X12_alike_2.1.2.2.2 ?_
      refine z_ladd M dt_X12_alike_2.2.1.1.1 ?_
      refine z_lstore_n (lv' := [(3, .long (v3 + ((Int32.toInt64 t1) * (Int32.toInt64 t2)))), (1, .long (v1 + (Int32.toInt64 ((σ.2.1 21) (Int32.toNatClampNeg (((8 : Int32) * v7) + v7)))))), (0, .ref (a 0)), (5, .long v5), (7, .int v7)]) M dt_X12_alike_2.2.1.1.2 rfl (by decide) rfl ?_
      refine z_iinc (v := (v7 + (1 : Int32))) (lv' := [(7, .int (v7 + (1 : Int32))), (3, .long (v3 + ((Int32.toInt64 t1) * (Int32.toInt64 t2)))), (1, .long (v1 + (Int32.toInt64 ((σ.2.1 21) (Int32.toNatClampNeg (((8 : Int32) * v7) + v7)))))), (0, .ref (a 0)), (5, .long v5)]) M dt_X12_alike_2.2.1.2.1 (k := 4) rfl (congrArg (fun q => v7 + q) ki_1) (by decide) rfl ?_
      refine z_goto (tgt := 19) M dt_X12_alike_2.2.1.2.2 (by decide) ?_
      refine z_sub M [3, 2, 1, 4, 0] (lv' := [(0, .ref (a 0)), (1, .long (v1 + (Int32.toInt64 ((σ.2.1 21) (Int32.toNatClampNeg (((8 : Int32) * v7) + v7)))))), (3, .long (v3 + ((Int32.toInt64 t1) * (Int32.toInt64 t2)))), (5, .long v5), (7, .int (v7 + (1 : Int32)))]) rfl ?_
      exact ih (v1 + (Int32.toInt64 ((σ.2.1 21) (Int32.toNatClampNeg (((8 : Int32) * v7) + v7))))) (v3 + ((Int32.toInt64 t1) * (Int32.toInt64 t2))) (v7 + (1 : Int32)) h
set_option maxHeartbeats 4000000 in
set_option maxRecDepth 100000 in
theorem wJ_X12_alike_69 {o : (Zst × Int32)} (M : zM l D zcl (zty cy) A ad (zR 3) (mW a cy ad) RX12 cX12_alike 8 (some .int) o.1 (some (.int o.2)) G) (σ : Zst) (v1 : Int64) (v3 : Int64) (v5 : Int64)  (h : J_X12_alike_69 σ v1 v3 v5 = some o) : G σ [(0, .ref (a 0)), (1, .long v1), (3, .long v3), (5, .long v5)] 69 [] := by
  refine z_lload M dt_X12_alike_2.2.2.1.1 3 rfl ?_
  refine z_lconst (v := 0) M dt_X12_alike_2.2.2.1.2 (by decide) ?_
  refine z_lcmp_eq (tgt := 86) M dt_X12_alike_2.2.2.2.1 dt_X12_alike_2.2.2.2.2 (by decide) (fun hc => ?_) (fun hc => ?_)
  · have h := gIt hc h
    refine z_bipush M dt_X12_alike_3.1.2.2.1 kb_m2 ?_
    obtain rfl := Option.some.inj h
    exact z_iret M dt_X12_alike_3.1.2.2.2
  · have h := gIf hc h
    refine z_lload M dt_X12_alike_3.1.1.1.1 3 rfl ?_
    refine z_lload M dt_X12_alike_3.1.1.1.2 3 rfl ?_
    refine z_lmul M dt_X12_alike_3.1.1.2.1 ?_
    refine z_lload_n M dt_X12_alike_3.1.1.2.2 rfl 2 rfl ?_
    refine z_lcmp_ne (tgt := 89) M dt_X12_alike_3.1.2.1.1 dt_X12_alike_3.1.2.1.2 (by decide) (fun hc => ?_) (fun hc => ?_)
    · have h := gIf hc h
      refine z_aload_n M dt_X12_alike_3.2.1.1.1 rfl 0 rfl ?_
      refine z_iconst M dt_X12_alike_3.2.1.1.2 ki_0 ?_
      refine pf_X12_rows M u1961 dt_X12_alike_3.2.1.2.1 ?_
      refine z_aload_n M dt_X12_alike_3.2.1.2.2 rfl 0 rfl ?_
      refine z_lload M dt_X12_alike_3.2.2.1.1 3 rfl ?_
      refine z_lload_n M dt_X12_alike_3.2.2.1.2 rfl 1 rfl ?_
      refine z_lmul M dt_X12_alike_3.2.2.2.1 ?_
      refine z_lload_n M dt_X12_alike_3.2.2.2.2 rfl 2 rfl ?_
      refine z_lsub M dt_X12_alike_4.1.1.1.1 ?_
      refine z_lload M dt_X12_alike_4.1.1.1.2 3 rfl ?_
      refine z_lload M dt_X12_alike_4.1.1.2 3 rfl ?_
      refine z_lmul M dt_X12_alike_4.1.2.1 ?_
      refine z_lload_n M dt_X12_alike_4.1.2.2 rfl 2 rfl ?_
      refine z_lsub M dt_X12_alike_4.2.1.1.1 ?_
      obtain ⟨t3, hc, h⟩ := gBd h
      refine k_X12_entersFraction M hc u1716 (Nat.le_of_ble_eq_true rfl) (Nat.le_of_ble_eq_true rfl) dt_X12_alike_4.2.1.1.2 ?_
      refine z_lload_n M dt_X12_alike_4.2.1.2 rfl 1 rfl ?_
      refine z_l2i M dt_X12_alike_4.2.2.1 ?_
      obtain rfl := Option.some.inj h
      exact z_iret M dt_X12_alike_4.2.2.2
    · have h := gIt hc h
      refine z_bipush M dt_X12_alike_3.1.2.2.1 kb_m2 ?_
      obtain rfl := Option.some.inj h
      exact z_iret M dt_X12_alike_3.1.2.2.2
set_option maxHeartbeats 4000000 in
set_option maxRecDepth 100000 in
theorem m_X12_alike (hD : ∀ σ, va_D A (mW a cy ad σ)) {σ : Zst}  {o : (Zst × Int32)} (h : f_X12_alike σ = some o) : zT l D zcl (zty cy) A ad (mW a cy ad) yX12_alike cX12_alike 8 (some .int) 3 [.ref (a 0)] σ o.1 (some (.int o.2)) := by
  refine z_met pn_X12 hD (Nat.le_of_ble_eq_true rfl) rfl (fun G M => ?_)
  refine z_aload_n M dt_X12_alike_0.1.1.1.1 rfl 0 rfl ?_
  refine z_iconst M dt_X12_alike_0.1.1.1.2 ki_0 ?_
  refine pf_X12_thrown M u1960 dt_X12_alike_0.1.1.2.1 ?_
  refine z_lconst (v := 0) M dt_X12_alike_0.1.1.2.2 (by decide) ?_
  refine z_lstore_n (lv' := [(1, .long (0 : Int64)), (0, .ref (a 0))]) M dt_X12_alike_0.1.2.1.1 rfl (by decide) rfl ?_
  refine z_lconst (v := 0) M dt_X12_alike_0.1.2.1.2 (by decide) ?_
  refine z_lstore_n (lv' := [(3, .long (0 : Int64)), (1, .long (0 : Int64)), (0, .ref (a 0))]) M dt_X12_alike_0.1.2.2.1 rfl (by decide) rfl ?_
  refine z_aload_n M dt_X12_alike_0.1.2.2.2 rfl 2 rfl ?_
  refine gf_X12_takenMany (σ := (zI σ 0 (0 : Int32))) M u2008 dt_X12_alike_0.2.1.1.1 (v := (σ.1 21)) rfl ?_
  refine z_i2l M dt_X12_alike_0.2.1.1.2 ?_
  refine z_lstore (lv' := [(5, .long (Int32.toInt64 (σ.1 21))), (3, .long (0 : Int64)), (1, .long (0 : Int64)), (0, .ref (a 0))]) M dt_X12_alike_0.2.1.2.1 (by decide) rfl ?_
  refine z_iconst M dt_X12_alike_0.2.1.2.2 ki_0 ?_
  refine z_istore (lv' := [(7, .int (0 : Int32)), (5, .long (Int32.toInt64 (σ.1 21))), (3, .long (0 : Int64)), (1, .long (0 : Int64)), (0, .ref (a 0))]) M dt_X12_alike_0.2.2.1.1 (by decide) rfl ?_
  refine z_sub M [4, 3, 2, 1, 0] (lv' := [(0, .ref (a 0)), (1, .long (0 : Int64)), (3, .long (0 : Int64)), (5, .long (Int32.toInt64 (σ.1 21))), (7, .int (0 : Int32))]) rfl ?_
  exact wL_X12_alike_19 M (k69 := (fun w4 w5 => J_X12_alike_69 (zI σ 0 (0 : Int32)) w4 w5 (Int32.toInt64 (σ.1 21)))) (zI σ 0 (0 : Int32)) (Int32.toInt64 (σ.1 21)) (fun w4 w5 h => by
      exact wJ_X12_alike_69 M  (zI σ 0 (0 : Int32)) w4 w5 (Int32.toInt64 (σ.1 21)) h) zFu (0 : Int64) (0 : Int64) (0 : Int32) h
set_option maxHeartbeats 4000000 in
set_option maxRecDepth 100000 in
theorem wL_X12_mixed_27 {o : (Zst × Int32)} (M : zM l D zcl (zty cy) A ad (zR 2) (mW a cy ad) RX12 cX12_mixed 7 (some .int) o.1 (some (.int o.2)) G) {k84 : Int32 → Int32 → Int32 → Option (Zst × Int32)} (σ : Zst) (v4 : Int32) (Hk84 : ∀ (w1 : Int32) (w2 : Int32) (w3 : Int32), k84 w1 w2 w3 = some o → G σ [(0, .ref (a 0)), (1, .int w1), (2, .int w2), (3, .int w3), (4, .int v4)] 84 []) :
    ∀ (n27 : Nat) (v1 : Int32) (v2 : Int32) (v3 : Int32) (v5 : Int32), L_X12_mixed_27 k84 σ v4 n27 v1 v2 v3 v5 = some o → G σ [(0, .ref (a 0)), (1, .int v1), (2, .int v2), (3, .int v3), (4, .int v4), (5, .int v5)] 27 [] := by
  intro n27
  induction n27 with
  | zero => intro v1 v2 v3 v5 h; exact nomatch (show (none : Option (Zst × Int32)) = some _ from h)
  | succ n27 ih =>
    intro v1 v2 v3 v5 h
    refine z_iload M dt_X12_mixed_1.1.1.2.1 5 rfl ?_
    refine z_bipush M dt_X12_mixed_1.1.1.2.2 kb_8 ?_
    refine z_icmp_ge (tgt := 84) M dt_X12_mixed_1.1.2.1.1 (by decide) (fun hc => ?_) (fun hc => ?_)
    · have h := gIt hc h
      refine z_sub M [0, 1, 2, 3, 4] (lv' := [(0, .ref (a 0)), (1, .int v1), (2, .int v2), (3, .int v3), (4, .int v4)]) rfl ?_
      exact Hk84 v1 v2 v3 h
    · have h := gIf hc h
      refine z_aload_n M dt_X12_mixed_1.1.2.1.2 rfl 0 rfl ?_
      refine gf_X12_taken M u2009 dt_X12_mixed_1.1.2.2.1 ?_
      refine z_bipush M dt_X12_mixed_1.1.2.2.2 kb_8 ?_
      refine z_iload M dt_X12_mixed_1.2.1.1.1 4 rfl ?_
      refine z_imul M dt_X12_mixed_1.2.1.1.2 ?_
      refine z_iload M dt_X12_mixed_1.2.1.2.1 5 rfl ?_
      refine z_iadd M dt_X12_mixed_1.2.1.2.2 ?_
      have ⟨hg, h⟩ := gIx_s h
      refine al_M27 (σ := σ) M (f := (σ.2.1 21)) rfl hg dt_X12_mixed_1.2.2.1.1 ?_
      refine z_aload_n M dt_X12_mixed_1.2.2.1.2 rfl 0 rfl ?_
      refine gf_X12_taken M u2009 dt_X12_mixed_1.2.2.2.1 ?_
      refine z_bipush M dt_X12_mixed_1.2.2.2.2 kb_8 ?_
      refine z_iload M dt_X12_mixed_2.1.1.1.1 5 rfl ?_
      refine z_imul M dt_X12_mixed_2.1.1.1.2 ?_
      refine z_iload M dt_X12_mixed_2.1.1.2.1 4 rfl ?_
      refine z_iadd M dt_X12_mixed_2.1.1.2.2 ?_
      have ⟨hg, h⟩ := gIx_s h
      refine al_M27 (σ := σ) M (f := (σ.2.1 21)) rfl hg dt_X12_mixed_2.1.2.1.1 ?_
      refine z_iadd M dt_X12_mixed_2.1.2.1.2 ?_
      refine z_istore (lv' := [(6, .int (((σ.2.1 21) (Int32.toNatClampNeg (((8 : Int32) * v4) + v5))) + ((σ.2.1 21) (Int32.toNatClampNeg (((8 : Int32) * v5) + v4))))), (0, .ref (a 0)), (1, .int v1), (2, .int v2), (3, .int v3), (4, .int v4), (5, .int v5)]) M dt_X12_mixed_2.1.2.2.1 (by decide) rfl ?_
      refine z_iload M dt_X12_mixed_2.1.2.2.2 0 rfl ?_
      refine z_iload_n M dt_X12_mixed_2.2.1.1.1 rfl 2 rfl ?_
      refine z_icmp_le (tgt := 78) M dt_X12_mixed_2.2.1.1.2 (by decide) (fun hc => ?_) (fun hc => ?_)
      · have h := gIt hc h
        refine z_iinc (v := (v5 + (1 : Int32))) (lv' := [(5, .int (v5 + (1 : Int32))), (6, .int (((σ.2.1 21) (Int32.toNatClampNeg (((8 : Int32) * v4) + v5))) + ((σ.2.1 21) (Int32.toNatClampNeg (((8 : Int32) * v5) + v4))))), (0, .ref (a 0)), (1, .int v1), (2, .int v2), (3, .int v3), (4, .int v4)]) M dt_X12_mixed_3.1.1.1.1 (k := 6) rfl (congrArg (fun q => v5 + q) ki_1) (by decide) rfl ?_
        refine z_goto (tgt := 27) M dt_X12_mixed_3.1.1.1.2 (by decide) ?_
        refine z_sub M [2, 3, 4, 5, 6, 0] (lv' := [(0, .ref (a 0)), (1, .int v1), (2, .int v2), (3, .int v3), (4, .int v4), (5, .int (v5 + (1 : Int32)))]) rfl ?_
        exact ih v1 v2 v3 (v5 + (1 : Int32)) h
      · have h := gIf hc h
        refine z_iload M dt_X12_mixed_2.2.1.2.1 0 rfl ?_
        refine z_istore_n (lv' := [(1, .int (((σ.2.1 21) (Int32.toNatClampNeg (((8 : Int32) * v4) + v5))) + ((σ.2.1 21) (Int32.toNatClampNeg (((8 : Int32) * v5) + v4))))), (6, .int (((σ.2.1 21) (Int32.toNatClampNeg (((8 : Int32) * v4) + v5))) + ((σ.2.1 21) (Int32.toNatClampNeg (((8 : Int32) * v5) + v4))))), (0, .ref (a 0)), (2, .int v2), (3, .int v3), (4, .int v4), (5, .int v5)]) M dt_X12_mixed_2.2.1.2.2 rfl (by decide) rfl ?_
        refine z_iload M dt_X12_mixed_2.2.2.1.1 5 rfl ?_
        refine z_istore_n (lv' := [(2, .int v4), (1, .int (((σ.2.1 21) (Int32.toNatClampNeg (((8 : Int32) * v4) + v5))) + ((σ.2.1 21) (Int32.toNatClampNeg (((8 : Int32) * v5) + v4))))), (6, .int (((σ.2.1 21) (Int32.toNatClampNeg (((8 : Int32) * v4) + v5))) + ((σ.2.1 21) (Int32.toNatClampNeg (((8 : Int32) * v5) + v4))))), (0, .ref (a 0)), (3, .int v3), (4, .int v4), (5, .int v5)]) M dt_X12_mixed_2.2.2.1.2 rfl (by decide) rfl ?_
        refine z_iload M dt_X12_mixed_2.2.2.2.1 6 rfl ?_
        refine z_istore_n (lv' := [(3, .int v5), (2, .int v4), (1, .int (((σ.2.1 21) (Int32.toNatClampNeg (((8 : Int32) * v4) + v5))) + ((σ.2.1 21) (Int32.toNatClampNeg (((8 : Int32) * v5) + v4))))), (6, .int (((σ.2.1 21) (Int32.toNatClampNeg (((8 : Int32) * v4) + v5))) + ((σ.2.1 21) (Int32.toNatClampNeg (((8 : Int32) * v5) + v4))))), (0, .ref (a 0)), (4, .int v4), (5, .int v5)]) M dt_X12_mixed_2.2.2.2.2 rfl (by decide) rfl ?_
        refine z_iinc (v := (v5 + (1 : Int32))) (lv' := [(5, .int (v5 + (1 : Int32))), (3, .int v5), (2, .int v4), (1, .int (((σ.2.1 21) (Int32.toNatClampNeg (((8 : Int32) * v4) + v5))) + ((σ.2.1 21) (Int32.toNatClampNeg (((8 : Int32) * v5) + v4))))), (6, .int (((σ.2.1 21) (Int32.toNatClampNeg (((8 : Int32) * v4) + v5))) + ((σ.2.1 21) (Int32.toNatClampNeg (((8 : Int32) * v5) + v4))))), (0, .ref (a 0)), (4, .int v4)]) M dt_X12_mixed_3.1.1.1.1 (k := 6) rfl (congrArg (fun q => v5 + q) ki_1) (by decide) rfl ?_
        refine z_goto (tgt := 27) M dt_X12_mixed_3.1.1.1.2 (by decide) ?_
        refine z_sub M [5, 3, 2, 1, 6, 0] (lv' := [(0, .ref (a 0)), (1, .int (((σ.2.1 21) (Int32.toNatClampNeg (((8 : Int32) * v4) + v5))) + ((σ.2.1 21) (Int32.toNatClampNeg (((8 : Int32) * v5) + v4))))), (2, .int v4), (3, .int v5), (4, .int v4), (5, .int (v5 + (1 : Int32)))]) rfl ?_
        exact ih (((σ.2.1 21) (Int32.toNatClampNeg (((8 : Int32) * v4) + v5))) + ((σ.2.1 21) (Int32.toNatClampNeg (((8 : Int32) * v5) + v4)))) v4 v5 (v5 + (1 : Int32)) h
set_option maxHeartbeats 4000000 in
set_option maxRecDepth 100000 in
theorem wJ_X12_mixed_84 {o : (Zst × Int32)} (M : zM l D zcl (zty cy) A ad (zR 2) (mW a cy ad) RX12 cX12_mixed 7 (some .int) o.1 (some (.int o.2)) G) {k14 : Int32 → Int32 → Int32 → Int32 → Option (Zst × Int32)} (σ : Zst) (v1 : Int32) (v2 : Int32) (v3 : Int32) (v4 : Int32) (Hk14 : ∀ (w1 : Int32) (w2 : Int32) (w3 : Int32) (w4 : Int32), k14 w1 w2 w3 w4 = some o → G σ [(0, .ref (a 0)), (1, .int w1), (2, .int w2), (3, .int w3), (4, .int w4)] 14 []) (h : J_X12_mixed_84 k14 σ v1 v2 v3 v4 = some o) : G σ [(0, .ref (a 0)), (1, .int v1), (2, .int v2), (3, .int v3), (4, .int v4)] 84 [] := by
  refine z_iinc (v := (v4 + (1 : Int32))) (lv' := [(4, .int (v4 + (1 : Int32))), (0, .ref (a 0)), (1, .int v1), (2, .int v2), (3, .int v3)]) M dt_X12_mixed_3.1.1.2.1 (k := 4) rfl (congrArg (fun q => v4 + q) ki_1) (by decide) rfl ?_
  refine z_goto (tgt := 14) M dt_X12_mixed_3.1.1.2.2 (by decide) ?_
  refine z_sub M [1, 2, 3, 4, 0] (lv' := [(0, .ref (a 0)), (1, .int v1), (2, .int v2), (3, .int v3), (4, .int (v4 + (1 : Int32)))]) rfl ?_
  exact Hk14 v1 v2 v3 (v4 + (1 : Int32)) h
set_option maxHeartbeats 4000000 in
set_option maxRecDepth 100000 in
theorem wL_X12_mixed_14 {o : (Zst × Int32)} (M : zM l D zcl (zty cy) A ad (zR 2) (mW a cy ad) RX12 cX12_mixed 7 (some .int) o.1 (some (.int o.2)) G) {k90 : Int32 → Int32 → Int32 → Option (Zst × Int32)} (σ : Zst)  (Hk90 : ∀ (w1 : Int32) (w2 : Int32) (w3 : Int32), k90 w1 w2 w3 = some o → G σ [(0, .ref (a 0)), (1, .int w1), (2, .int w2), (3, .int w3)] 90 []) :
    ∀ (n14 : Nat) (v1 : Int32) (v2 : Int32) (v3 : Int32) (v4 : Int32), L_X12_mixed_14 k90 σ n14 v1 v2 v3 v4 = some o → G σ [(0, .ref (a 0)), (1, .int v1), (2, .int v2), (3, .int v3), (4, .int v4)] 14 [] := by
  intro n14
  induction n14 with
  | zero => intro v1 v2 v3 v4 h; exact nomatch (show (none : Option (Zst × Int32)) = some _ from h)
  | succ n14 ih =>
    intro v1 v2 v3 v4 h
    refine z_iload M dt_X12_mixed_0.2.1.2.2 4 rfl ?_
    refine z_bipush M dt_X12_mixed_0.2.2.1.1 kb_8 ?_
    refine z_icmp_ge (tgt := 90) M dt_X12_mixed_0.2.2.1.2 (by decide) (fun hc => ?_) (fun hc => ?_)
    · have h := gIt hc h
      refine z_sub M [0, 1, 2, 3] (lv' := [(0, .ref (a 0)), (1, .int v1), (2, .int v2), (3, .int v3)]) rfl ?_
      exact Hk90 v1 v2 v3 h
    · have h := gIf hc h
      refine z_iload M dt_X12_mixed_0.2.2.2.1 4 rfl ?_
      refine z_iconst M dt_X12_mixed_0.2.2.2.2 ki_1 ?_
      refine z_iadd M dt_X12_mixed_1.1.1.1.1 ?_
      refine z_istore (lv' := [(5, .int (v4 + (1 : Int32))), (0, .ref (a 0)), (1, .int v1), (2, .int v2), (3, .int v3), (4, .int v4)]) M dt_X12_mixed_1.1.1.1.2 (by decide) rfl ?_
      refine z_sub M [1, 2, 3, 4, 5, 0] (lv' := [(0, .ref (a 0)), (1, .int v1), (2, .int v2), (3, .int v3), (4, .int v4), (5, .int (v4 + (1 : Int32)))]) rfl ?_
      exact wL_X12_mixed_27 M (k84 := (fun w1 w2 w3 => J_X12_mixed_84 (fun w1 w2 w3 w4 => L_X12_mixed_14 k90 σ n14 w1 w2 w3 w4) σ w1 w2 w3 v4)) σ v4 (fun w1 w2 w3 h => by
          exact wJ_X12_mixed_84 M (k14 := (fun w1 w2 w3 w4 => L_X12_mixed_14 k90 σ n14 w1 w2 w3 w4)) σ w1 w2 w3 v4 ih h) zFu v1 v2 v3 (v4 + (1 : Int32)) h
set_option maxHeartbeats 4000000 in
set_option maxRecDepth 100000 in
theorem wJ_X12_mixed_90 {o : (Zst × Int32)} (M : zM l D zcl (zty cy) A ad (zR 2) (mW a cy ad) RX12 cX12_mixed 7 (some .int) o.1 (some (.int o.2)) G) (σ : Zst) (v1 : Int32) (v2 : Int32) (v3 : Int32)  (h : J_X12_mixed_90 σ v1 v2 v3 = some o) : G σ [(0, .ref (a 0)), (1, .int v1), (2, .int v2), (3, .int v3)] 90 [] := by
  refine z_iload_n M dt_X12_mixed_3.1.2.1.1 rfl 1 rfl ?_
  refine z_if_le (tgt := 111) M dt_X12_mixed_3.1.2.1.2 (by decide) (fun hc => ?_) (fun hc => ?_)
  · have h := gIt hc h
    refine z_iload_n M dt_X12_mixed_4.1.2 rfl 1 rfl ?_
    obtain rfl := Option.some.inj h
    exact z_iret M dt_X12_mixed_4.2
  · have h := gIf hc h
    refine z_aload_n M dt_X12_mixed_3.1.2.2.1 rfl 0 rfl ?_
    refine z_iconst M dt_X12_mixed_3.1.2.2.2 ki_0 ?_
    refine pf_X12_rows M u1961 dt_X12_mixed_3.2.1.1.1 ?_
    refine z_aload_n M dt_X12_mixed_3.2.1.1.2 rfl 0 rfl ?_
    refine z_iload_n M dt_X12_mixed_3.2.1.2.1 rfl 2 rfl ?_
    refine z_i2l M dt_X12_mixed_3.2.1.2.2 ?_
    obtain ⟨t4, hc, h⟩ := gBd h
    refine k_X12_enters M hc u1708 (Nat.le_of_ble_eq_true rfl) (Nat.le_of_ble_eq_true rfl) dt_X12_mixed_3.2.2.1.1 ?_
    refine z_aload_n M dt_X12_mixed_3.2.2.1.2 rfl 0 rfl ?_
    refine z_iload_n M dt_X12_mixed_3.2.2.2.1 rfl 3 rfl ?_
    refine z_i2l M dt_X12_mixed_3.2.2.2.2 ?_
    obtain ⟨t5, hc, h⟩ := gBd h
    refine k_X12_enters M hc u1708 (Nat.le_of_ble_eq_true rfl) (Nat.le_of_ble_eq_true rfl) dt_X12_mixed_4.1.1 ?_
    refine z_iload_n M dt_X12_mixed_4.1.2 rfl 1 rfl ?_
    obtain rfl := Option.some.inj h
    exact z_iret M dt_X12_mixed_4.2
set_option maxHeartbeats 4000000 in
set_option maxRecDepth 100000 in
theorem m_X12_mixed (hD : ∀ σ, va_D A (mW a cy ad σ)) {σ : Zst}  {o : (Zst × Int32)} (h : f_X12_mixed σ = some o) : zT l D zcl (zty cy) A ad (mW a cy ad) yX12_mixed cX12_mixed 7 (some .int) 2 [.ref (a 0)] σ o.1 (some (.int o.2)) := by
  refine z_met pn_X12 hD (Nat.le_of_ble_eq_true rfl) rfl (fun G M => ?_)
  refine z_aload_n M dt_X12_mixed_0.1.1.1.1 rfl 0 rfl ?_
  refine z_iconst M dt_X12_mixed_0.1.1.1.2 ki_0 ?_
  refine pf_X12_thrown M u1960 dt_X12_mixed_0.1.1.2.1 ?_
  refine z_iconst M dt_X12_mixed_0.1.1.2.2 ki_0 ?_
  refine z_istore_n (lv' := [(1, .int (0 : Int32)), (0, .ref (a 0))]) M dt_X12_mixed_0.1.2.1.1 rfl (by decide) rfl ?_
  refine z_iconst M dt_X12_mixed_0.1.2.1.2 ki_0 ?_
  refine z_istore_n (lv' := [(2, .int (0 : Int32)), (1, .int (0 : Int32)), (0, .ref (a 0))]) M dt_X12_mixed_0.1.2.2.1 rfl (by decide) rfl ?_
  refine z_iconst M dt_X12_mixed_0.1.2.2.2 ki_0 ?_
  refine z_istore_n (lv' := [(3, .int (0 : Int32)), (2, .int (0 : Int32)), (1, .int (0 : Int32)), (0, .ref (a 0))]) M dt_X12_mixed_0.2.1.1.1 rfl (by decide) rfl ?_
  refine z_iconst M dt_X12_mixed_0.2.1.1.2 ki_0 ?_
  refine z_istore (lv' := [(4, .int (0 : Int32)), (3, .int (0 : Int32)), (2, .int (0 : Int32)), (1, .int (0 : Int32)), (0, .ref (a 0))]) M dt_X12_mixed_0.2.1.2.1 (by decide) rfl ?_
  refine z_sub M [4, 3, 2, 1, 0] (lv' := [(0, .ref (a 0)), (1, .int (0 : Int32)), (2, .int (0 : Int32)), (3, .int (0 : Int32)), (4, .int (0 : Int32))]) rfl ?_
  exact wL_X12_mixed_14 M (k90 := (fun w6 w7 w8 => J_X12_mixed_90 (zI σ 0 (0 : Int32)) w6 w7 w8)) (zI σ 0 (0 : Int32)) (fun w6 w7 w8 h => by
      exact wJ_X12_mixed_90 M  (zI σ 0 (0 : Int32)) w6 w7 w8 h) zFu (0 : Int32) (0 : Int32) (0 : Int32) (0 : Int32) h
set_option maxHeartbeats 4000000 in
set_option maxRecDepth 100000 in
theorem m_X12_leans (hD : ∀ σ, va_D A (mW a cy ad σ)) {σ : Zst} {p0 : Int32} {o : (Zst × Int32)} (h : f_X12_leans σ p0 = some o) : zT l D zcl (zty cy) A ad (mW a cy ad) yX12_leans cX12_leans 2 (some .int) 3 [.ref (a 0), .int p0] σ o.1 (some (.int o.2)) := by
  refine z_met pn_X12 hD (Nat.le_of_ble_eq_true rfl) rfl (fun G M => ?_)
  refine z_aload_n M dt_X12_leans_0.1.1.1.1 rfl 0 rfl ?_
  refine z_iconst M dt_X12_leans_0.1.1.1.2 ki_0 ?_
  refine pf_X12_thrown M u1960 dt_X12_leans_0.1.1.2.1 ?_
  refine z_aload_n M dt_X12_leans_0.1.1.2.2 rfl 0 rfl ?_
  refine z_iload_n M dt_X12_leans_0.1.2.1.1 rfl 1 rfl ?_
  refine k_X12_isSort M u1526 (Nat.le_of_ble_eq_true rfl) (Nat.le_of_ble_eq_true rfl) dt_X12_leans_0.1.2.1.2 ?_
  refine z_if_ne (tgt := 20) M dt_X12_leans_0.1.2.2.1 (by decide) (fun hc => ?_) (fun hc => ?_)
  · have h := gIf hc h
    refine z_aload_n M dt_X12_leans_0.2.2.1.1 rfl 0 rfl ?_
    refine z_iconst M dt_X12_leans_0.2.2.1.2 ki_0 ?_
    refine z_iload_n M dt_X12_leans_0.2.2.2.1 rfl 1 rfl ?_
    obtain ⟨t1, hc, h⟩ := gBd h
    refine k_X12_tookFor M hc u1847 (Nat.le_of_ble_eq_true rfl) (Nat.le_of_ble_eq_true rfl) dt_X12_leans_0.2.2.2.2 ?_
    refine z_aload_n M dt_X12_leans_1.1.1.1 rfl 0 rfl ?_
    refine z_iconst M dt_X12_leans_1.1.1.2 ki_1 ?_
    refine z_iload_n M dt_X12_leans_1.1.2 rfl 1 rfl ?_
    obtain ⟨t2, hc, h⟩ := gBd h
    refine k_X12_tookFor M hc u1847 (Nat.le_of_ble_eq_true rfl) (Nat.le_of_ble_eq_true rfl) dt_X12_leans_1.2.1.1 ?_
    refine z_isub M dt_X12_leans_1.2.1.2 ?_
    obtain rfl := Option.some.inj h
    exact z_iret M dt_X12_leans_1.2.2
  · have h := gIt hc h
    refine z_aload_n M dt_X12_leans_0.1.2.2.2 rfl 0 rfl ?_
    refine z_iconst M dt_X12_leans_0.2.1.1.1 ki_1 ?_
    refine pf_X12_thrown M u1960 dt_X12_leans_0.2.1.1.2 ?_
    refine z_iconst M dt_X12_leans_0.2.1.2.1 ki_0 ?_
    obtain rfl := Option.some.inj h
    exact z_iret M dt_X12_leans_0.2.1.2.2
set_option maxHeartbeats 4000000 in
set_option maxRecDepth 100000 in
theorem wL_X12_truly_58 {o : (Zst × Int32)} (M : zM l D zcl (zty cy) A ad (zR 3) (mW a cy ad) RX12 cX12_truly 7 (some .int) o.1 (some (.int o.2)) G)  (v1 : Int32) (v2 : Int32) (v3 : Int32)  :
    ∀ (n58 : Nat) (σ : Zst) (v4 : Int32) (v5 : Int32), L_X12_truly_58 v1 v2 v3 n58 σ v4 v5 = some o → G σ [(0, .ref (a 0)), (1, .int v1), (2, .int v2), (3, .int v3), (4, .int v4), (5, .int v5)] 58 [] := by
  intro n58
  induction n58 with
  | zero => intro σ v4 v5 h; exact nomatch (show (none : Option (Zst × Int32)) = some _ from h)
  | succ n58 ih =>
    intro σ v4 v5 h
    refine z_iload M dt_X12_truly_2.1.1.2.2 5 rfl ?_
    refine z_aload_n M dt_X12_truly_2.1.2.1.1 rfl 0 rfl ?_
    refine gf_X12_sorts (σ := σ) M u1963 dt_X12_truly_2.1.2.1.2 (v := (σ.1 2)) rfl ?_
    refine z_icmp_ge (tgt := 111) M dt_X12_truly_2.1.2.2.1 (by decide) (fun hc => ?_) (fun hc => ?_)
    · have h := gIt hc h
      refine z_iload M dt_X12_truly_4.2.1 4 rfl ?_
      obtain rfl := Option.some.inj h
      exact z_iret M dt_X12_truly_4.2.2
    · have h := gIf hc h
      refine z_aload_n M dt_X12_truly_2.1.2.2.2 rfl 0 rfl ?_
      refine z_iconst M dt_X12_truly_2.2.1.1.1 ki_0 ?_
      refine z_iload_n M dt_X12_truly_2.2.1.1.2 rfl 2 rfl ?_
      refine z_iload_n M dt_X12_truly_2.2.1.2.1 rfl 1 rfl ?_
      obtain ⟨t1, hc, h⟩ := gBd h
      refine k_X12_at M hc u1556 (Nat.le_of_ble_eq_true rfl) (Nat.le_of_ble_eq_true rfl) dt_X12_truly_2.2.1.2.2 ?_
      refine z_aload_n M dt_X12_truly_2.2.2.1.1 rfl 0 rfl ?_
      refine gf_X12_taken M u2009 dt_X12_truly_2.2.2.1.2 ?_
      refine z_bipush M dt_X12_truly_2.2.2.2.1 kb_8 ?_
      refine z_iload_n M dt_X12_truly_2.2.2.2.2 rfl 1 rfl ?_
      refine z_imul M dt_X12_truly_3.1.1.1.1 ?_
      refine z_iload M dt_X12_truly_3.1.1.1.2 5 rfl ?_
      refine z_iadd M dt_X12_truly_3.1.1.2.1 ?_
      have ⟨hg, h⟩ := gIx_s h
      refine al_M27 (σ := σ) M (f := (σ.2.1 21)) rfl hg dt_X12_truly_3.1.1.2.2 ?_
      refine z_imul M dt_X12_truly_3.1.2.1.1 ?_
      refine z_iload_n M dt_X12_truly_3.1.2.1.2 rfl 3 rfl ?_
      have ⟨hg, h⟩ := gNz_s h
      refine z_idiv M dt_X12_truly_3.1.2.2.1 hg ?_
      refine z_istore (lv' := [(6, .int ((t1 * ((σ.2.1 21) (Int32.toNatClampNeg (((8 : Int32) * v1) + v5)))) / v3)), (0, .ref (a 0)), (1, .int v1), (2, .int v2), (3, .int v3), (4, .int v4), (5, .int v5)]) M dt_X12_truly_3.1.2.2.2 (by decide) rfl ?_
      refine z_aload_n M dt_X12_truly_3.2.1.1.1 rfl 1 rfl ?_
      refine z_iload M dt_X12_truly_3.2.1.1.2 0 rfl ?_
      refine z_i2l M dt_X12_truly_3.2.1.2.1 ?_
      obtain ⟨t2, hc, h⟩ := gBd h
      refine k_X12_enters M hc u1708 (Nat.le_of_ble_eq_true rfl) (Nat.le_of_ble_eq_true rfl) dt_X12_truly_3.2.1.2.2 ?_
      refine z_iload M dt_X12_truly_3.2.2.1.1 5 rfl ?_
      refine z_iload M dt_X12_truly_3.2.2.1.2 0 rfl ?_
      refine z_iadd M dt_X12_truly_3.2.2.2.1 ?_
      refine z_istore (lv' := [(4, .int (v4 + ((t1 * ((σ.2.1 21) (Int32.toNatClampNeg (((8 : Int32) * v1) + v5)))) / v3))), (6, .int ((t1 * ((σ.2.1 21) (Int32.toNatClampNeg (((8 : Int32) * v1) + v5)))) / v3)), (0, .ref (a 0)), (1, .int v1), (2, .int v2), (3, .int v3), (5, .int v5)]) M dt_X12_truly_3.2.2.2.2 (by decide) rfl ?_
      refine z_iinc (v := (v5 + (1 : Int32))) (lv' := [(5, .int (v5 + (1 : Int32))), (4, .int (v4 + ((t1 * ((σ.2.1 21) (Int32.toNatClampNeg (((8 : Int32) * v1) + v5)))) / v3))), (6, .int ((t1 * ((σ.2.1 21) (Int32.toNatClampNeg (((8 : Int32) * v1) + v5)))) / v3)), (0, .ref (a 0)), (1, .int v1), (2, .int v2), (3, .int v3)]) M dt_X12_truly_4.1.1 (k := 6) rfl (congrArg (fun q => v5 + q) ki_1) (by decide) rfl ?_
      refine z_goto (tgt := 58) M dt_X12_truly_4.1.2 (by decide) ?_
      refine z_sub M [3, 4, 5, 6, 1, 0] (lv' := [(0, .ref (a 0)), (1, .int v1), (2, .int v2), (3, .int v3), (4, .int (v4 + ((t1 * ((σ.2.1 21) (Int32.toNatClampNeg (((8 : Int32) * v1) + v5)))) / v3))), (5, .int (v5 + (1 : Int32)))]) rfl ?_
      exact ih t2 (v4 + ((t1 * ((σ.2.1 21) (Int32.toNatClampNeg (((8 : Int32) * v1) + v5)))) / v3)) (v5 + (1 : Int32)) h
set_option maxHeartbeats 4000000 in
set_option maxRecDepth 100000 in
theorem m_X12_truly (hD : ∀ σ, va_D A (mW a cy ad σ)) {σ : Zst} {p0 : Int32} {p1 : Int32} {o : (Zst × Int32)} (h : f_X12_truly σ p0 p1 = some o) : zT l D zcl (zty cy) A ad (mW a cy ad) yX12_truly cX12_truly 7 (some .int) 3 [.ref (a 0), .int p0, .int p1] σ o.1 (some (.int o.2)) := by
  refine z_met pn_X12 hD (Nat.le_of_ble_eq_true rfl) rfl (fun G M => ?_)
  refine z_aload_n M dt_X12_truly_0.1.1.1.1 rfl 0 rfl ?_
  refine z_iconst M dt_X12_truly_0.1.1.1.2 ki_0 ?_
  refine pf_X12_thrown M u1960 dt_X12_truly_0.1.1.2.1 ?_
  refine z_aload_n M dt_X12_truly_0.1.1.2.2 rfl 0 rfl ?_
  refine z_iload_n M dt_X12_truly_0.1.2.1.1 rfl 1 rfl ?_
  refine k_X12_isSort M u1526 (Nat.le_of_ble_eq_true rfl) (Nat.le_of_ble_eq_true rfl) dt_X12_truly_0.1.2.1.2 ?_
  refine z_if_eq (tgt := 21) M dt_X12_truly_0.1.2.2.1 (by decide) (fun hc => ?_) (fun hc => ?_)
  · have h := gIt hc h
    refine z_iconst M dt_X12_truly_0.2.1.2.2 ki_m1 ?_
    obtain rfl := Option.some.inj h
    exact z_iret M dt_X12_truly_0.2.2.1.1
  · have h := gIf hc h
    refine z_aload_n M dt_X12_truly_0.1.2.2.2 rfl 0 rfl ?_
    refine z_iload_n M dt_X12_truly_0.2.1.1.1 rfl 2 rfl ?_
    refine k_X12_isCell M u1550 (Nat.le_of_ble_eq_true rfl) (Nat.le_of_ble_eq_true rfl) dt_X12_truly_0.2.1.1.2 ?_
    refine z_if_ne (tgt := 23) M dt_X12_truly_0.2.1.2.1 (by decide) (fun hc => ?_) (fun hc => ?_)
    · have h := gIf hc h
      refine z_aload_n M dt_X12_truly_0.2.2.1.2 rfl 0 rfl ?_
      refine z_iconst M dt_X12_truly_0.2.2.2.1 ki_0 ?_
      refine z_iload_n M dt_X12_truly_0.2.2.2.2 rfl 1 rfl ?_
      obtain ⟨t3, hc, h⟩ := gBd h
      refine k_X12_tookFor M hc u1847 (Nat.le_of_ble_eq_true rfl) (Nat.le_of_ble_eq_true rfl) dt_X12_truly_1.1.1.1.1 ?_
      refine z_istore_n (lv' := [(3, .int t3), (0, .ref (a 0)), (1, .int p0), (2, .int p1)]) M dt_X12_truly_1.1.1.1.2 rfl (by decide) rfl ?_
      refine z_aload_n M dt_X12_truly_1.1.1.2.1 rfl 1 rfl ?_
      refine z_iconst M dt_X12_truly_1.1.1.2.2 ki_0 ?_
      refine z_iload_n M dt_X12_truly_1.1.2.1.1 rfl 3 rfl ?_
      refine z_iload_n M dt_X12_truly_1.1.2.1.2 rfl 2 rfl ?_
      obtain ⟨t4, hc, h⟩ := gBd h
      refine k_X12_isTold M hc u1704 (Nat.le_of_ble_eq_true rfl) (Nat.le_of_ble_eq_true rfl) dt_X12_truly_1.1.2.2.1 ?_
      refine z_if_eq (tgt := 44) M dt_X12_truly_1.1.2.2.2 (by decide) (fun hc => ?_) (fun hc => ?_)
      · have h := gIt hc h
        refine z_bipush M dt_X12_truly_1.2.1.2.1 kb_m2 ?_
        obtain rfl := Option.some.inj h
        exact z_iret M dt_X12_truly_1.2.1.2.2
      · have h := gIf hc h
        refine z_iload_n M dt_X12_truly_1.2.1.1.1 rfl 0 rfl ?_
        refine z_if_ne (tgt := 47) M dt_X12_truly_1.2.1.1.2 (by decide) (fun hc => ?_) (fun hc => ?_)
        · have h := gIf hc h
          refine z_iconst M dt_X12_truly_1.2.2.1.1 ki_0 ?_
          refine z_istore (lv' := [(4, .int (0 : Int32)), (3, .int t3), (0, .ref (a 0)), (1, .int p0), (2, .int p1)]) M dt_X12_truly_1.2.2.1.2 (by decide) rfl ?_
          refine z_aload_n M dt_X12_truly_1.2.2.2.1 rfl 2 rfl ?_
          refine z_iconst M dt_X12_truly_1.2.2.2.2 ki_0 ?_
          refine pf_X12_rows M u1961 dt_X12_truly_2.1.1.1.1 ?_
          refine z_iconst M dt_X12_truly_2.1.1.1.2 ki_0 ?_
          refine z_istore (lv' := [(5, .int (0 : Int32)), (4, .int (0 : Int32)), (3, .int t3), (0, .ref (a 0)), (1, .int p0), (2, .int p1)]) M dt_X12_truly_2.1.1.2.1 (by decide) rfl ?_
          refine z_sub M [3, 4, 5, 2, 1, 0] (lv' := [(0, .ref (a 0)), (1, .int p0), (2, .int p1), (3, .int t3), (4, .int (0 : Int32)), (5, .int (0 : Int32))]) rfl ?_
          exact wL_X12_truly_58 M  p0 p1 t3 zFu (zI (zI σ 0 (0 : Int32)) 1 (0 : Int32)) (0 : Int32) (0 : Int32) h
        · have h := gIt hc h
          refine z_bipush M dt_X12_truly_1.2.1.2.1 kb_m2 ?_
          obtain rfl := Option.some.inj h
          exact z_iret M dt_X12_truly_1.2.1.2.2
    · have h := gIt hc h
      refine z_iconst M dt_X12_truly_0.2.1.2.2 ki_m1 ?_
      obtain rfl := Option.some.inj h
      exact z_iret M dt_X12_truly_0.2.2.1.1
set_option maxHeartbeats 4000000 in
set_option maxRecDepth 100000 in
theorem wL_X12_moved_36 {o : (Zst × Int32)} (M : zM l D zcl (zty cy) A ad (zR 3) (mW a cy ad) RX12 cX12_moved 11 (some .int) o.1 (some (.int o.2)) G) {k186 : Int32 → Int32 → Int32 → Int32 → Option (Zst × Int32)} (σ : Zst) (v1 : Int32) (v2 : Int32) (Hk186 : ∀ (w3 : Int32) (w4 : Int32) (w5 : Int32) (w6 : Int32), k186 w3 w4 w5 w6 = some o → G σ [(0, .ref (a 0)), (3, .int w3), (4, .int w4), (5, .int w5), (6, .int w6)] 186 []) :
    ∀ (n36 : Nat) (v3 : Int32) (v4 : Int32) (v5 : Int32) (v6 : Int32) (v7 : Int32), L_X12_moved_36 k186 σ v1 v2 n36 v3 v4 v5 v6 v7 = some o → G σ [(0, .ref (a 0)), (1, .int v1), (2, .int v2), (3, .int v3), (4, .int v4), (5, .int v5), (6, .int v6), (7, .int v7)] 36 [] := by
  intro n36
  induction n36 with
  | zero => intro v3 v4 v5 v6 v7 h; exact nomatch (show (none : Option (Zst × Int32)) = some _ from h)
  | succ n36 ih =>
    intro v3 v4 v5 v6 v7 h
    refine z_iload M dt_X12_moved_1.1.2.2.1 7 rfl ?_
    refine z_aload_n M dt_X12_moved_1.1.2.2.2 rfl 0 rfl ?_
    refine gf_X12_streets (σ := σ) M u1970 dt_X12_moved_1.2.1.1.1 (v := (σ.1 3)) rfl ?_
    refine z_icmp_ge (tgt := 186) M dt_X12_moved_1.2.1.1.2 (by decide) (fun hc => ?_) (fun hc => ?_)
    · have h := gIt hc h
      refine z_sub M [0, 3, 4, 5, 6] (lv' := [(0, .ref (a 0)), (3, .int v3), (4, .int v4), (5, .int v5), (6, .int v6)]) rfl ?_
      exact Hk186 v3 v4 v5 v6 h
    · have h := gIf hc h
      refine z_bipush M dt_X12_moved_1.2.1.2.1 kb_12 ?_
      refine z_iload M dt_X12_moved_1.2.1.2.2 7 rfl ?_
      refine z_imul M dt_X12_moved_1.2.2.1.1 ?_
      refine z_iload_n M dt_X12_moved_1.2.2.1.2 rfl 2 rfl ?_
      refine z_iadd M dt_X12_moved_1.2.2.2.1 ?_
      refine z_istore (lv' := [(8, .int (((12 : Int32) * v7) + v2)), (0, .ref (a 0)), (1, .int v1), (2, .int v2), (3, .int v3), (4, .int v4), (5, .int v5), (6, .int v6), (7, .int v7)]) M dt_X12_moved_1.2.2.2.2 (by decide) rfl ?_
      refine z_aload_n M dt_X12_moved_2.1.1.1.1 rfl 1 rfl ?_
      refine z_iconst M dt_X12_moved_2.1.1.1.2 ki_0 ?_
      refine z_iload M dt_X12_moved_2.1.1.2.1 0 rfl ?_
      refine z_iload_n M dt_X12_moved_2.1.1.2.2 rfl 2 rfl ?_
      obtain ⟨t1, hc, h⟩ := gBd h
      refine k_X12_isTold M hc u1704 (Nat.le_of_ble_eq_true rfl) (Nat.le_of_ble_eq_true rfl) dt_X12_moved_2.1.2.1.1 ?_
      refine z_if_eq (tgt := 180) M dt_X12_moved_2.1.2.1.2 (by decide) (fun hc => ?_) (fun hc => ?_)
      · have h := gIt hc h
        refine z_iinc (v := (v7 + (1 : Int32))) (lv' := [(7, .int (v7 + (1 : Int32))), (8, .int (((12 : Int32) * v7) + v2)), (0, .ref (a 0)), (1, .int v1), (2, .int v2), (3, .int v3), (4, .int v4), (5, .int v5), (6, .int v6)]) M dt_X12_moved_6.2.1.2.2 (k := 8) rfl (congrArg (fun q => v7 + q) ki_1) (by decide) rfl ?_
        refine z_goto (tgt := 36) M dt_X12_moved_6.2.2.1.1 (by decide) ?_
        refine z_sub M [2, 3, 4, 5, 6, 7, 8, 0] (lv' := [(0, .ref (a 0)), (1, .int v1), (2, .int v2), (3, .int v3), (4, .int v4), (5, .int v5), (6, .int v6), (7, .int (v7 + (1 : Int32)))]) rfl ?_
        exact ih v3 v4 v5 v6 (v7 + (1 : Int32)) h
      · have h := gIf hc h
        refine z_aload_n M dt_X12_moved_2.1.2.2.1 rfl 1 rfl ?_
        refine z_iconst M dt_X12_moved_2.1.2.2.2 ki_1 ?_
        refine z_iload M dt_X12_moved_2.2.1.1.1 0 rfl ?_
        refine z_iload_n M dt_X12_moved_2.2.1.1.2 rfl 2 rfl ?_
        obtain ⟨t2, hc, h⟩ := gBd h
        refine k_X12_isTold M hc u1704 (Nat.le_of_ble_eq_true rfl) (Nat.le_of_ble_eq_true rfl) dt_X12_moved_2.2.1.2.1 ?_
        refine z_if_eq (tgt := 180) M dt_X12_moved_2.2.1.2.2 (by decide) (fun hc => ?_) (fun hc => ?_)
        · have h := gIt hc h
          refine z_iinc (v := (v7 + (1 : Int32))) (lv' := [(7, .int (v7 + (1 : Int32))), (8, .int (((12 : Int32) * v7) + v2)), (0, .ref (a 0)), (1, .int v1), (2, .int v2), (3, .int v3), (4, .int v4), (5, .int v5), (6, .int v6)]) M dt_X12_moved_6.2.1.2.2 (k := 8) rfl (congrArg (fun q => v7 + q) ki_1) (by decide) rfl ?_
          refine z_goto (tgt := 36) M dt_X12_moved_6.2.2.1.1 (by decide) ?_
          refine z_sub M [2, 3, 4, 5, 6, 7, 8, 0] (lv' := [(0, .ref (a 0)), (1, .int v1), (2, .int v2), (3, .int v3), (4, .int v4), (5, .int v5), (6, .int v6), (7, .int (v7 + (1 : Int32)))]) rfl ?_
          exact ih v3 v4 v5 v6 (v7 + (1 : Int32)) h
        · have h := gIf hc h
          refine z_aload_n M dt_X12_moved_2.2.2.1.1 rfl 1 rfl ?_
          refine z_iconst M dt_X12_moved_2.2.2.1.2 ki_0 ?_
          refine z_iload M dt_X12_moved_2.2.2.2.1 0 rfl ?_
          refine z_iload_n M dt_X12_moved_2.2.2.2.2 rfl 2 rfl ?_
          obtain ⟨t3, hc, h⟩ := gBd h
          refine k_X12_at M hc u1556 (Nat.le_of_ble_eq_true rfl) (Nat.le_of_ble_eq_true rfl) dt_X12_moved_3.1.1.1.1 ?_
          refine z_aload_n M dt_X12_moved_3.1.1.1.2 rfl 1 rfl ?_
          refine z_iconst M dt_X12_moved_3.1.1.2.1 ki_1 ?_
          refine z_iload M dt_X12_moved_3.1.1.2.2 0 rfl ?_
          refine z_iload_n M dt_X12_moved_3.1.2.1.1 rfl 2 rfl ?_
          obtain ⟨t4, hc, h⟩ := gBd h
          refine k_X12_at M hc u1556 (Nat.le_of_ble_eq_true rfl) (Nat.le_of_ble_eq_true rfl) dt_X12_moved_3.1.2.1.2 ?_
          refine z_isub M dt_X12_moved_3.1.2.2.1 ?_
          refine z_istore (lv' := [(9, .int (t3 - t4)), (8, .int (((12 : Int32) * v7) + v2)), (0, .ref (a 0)), (1, .int v1), (2, .int v2), (3, .int v3), (4, .int v4), (5, .int v5), (6, .int v6), (7, .int v7)]) M dt_X12_moved_3.1.2.2.2 (by decide) rfl ?_
          refine z_aload_n M dt_X12_moved_3.2.1.1.1 rfl 2 rfl ?_
          refine z_iconst M dt_X12_moved_3.2.1.1.2 ki_1 ?_
          refine z_iload M dt_X12_moved_3.2.1.2.1 1 rfl ?_
          refine z_iload_n M dt_X12_moved_3.2.1.2.2 rfl 3 rfl ?_
          obtain ⟨t5, hc, h⟩ := gBd h
          refine k_X12_at M hc u1556 (Nat.le_of_ble_eq_true rfl) (Nat.le_of_ble_eq_true rfl) dt_X12_moved_3.2.2.1.1 ?_
          refine z_aload_n M dt_X12_moved_3.2.2.1.2 rfl 2 rfl ?_
          refine gf_X12_leaves M u1964 dt_X12_moved_3.2.2.2.1 ?_
          refine z_iload_n M dt_X12_moved_3.2.2.2.2 rfl 3 rfl ?_
          have ⟨hg, h⟩ := gIx_s h
          refine al_M2 (σ := σ) M (f := (σ.2.1 0)) rfl hg dt_X12_moved_4.1.1.1.1 ?_
          refine z_imul M dt_X12_moved_4.1.1.1.2 ?_
          refine z_bipush M dt_X12_moved_4.1.1.2.1 kb_100 ?_
          refine z_idiv M dt_X12_moved_4.1.1.2.2 (by decide) ?_
          refine z_aload_n M dt_X12_moved_4.1.2.1.1 rfl 2 rfl ?_
          refine z_iconst M dt_X12_moved_4.1.2.1.2 ki_0 ?_
          refine z_iload M dt_X12_moved_4.1.2.2.1 1 rfl ?_
          refine z_iload_n M dt_X12_moved_4.1.2.2.2 rfl 3 rfl ?_
          obtain ⟨t6, hc, h⟩ := gBd h
          refine k_X12_at M hc u1556 (Nat.le_of_ble_eq_true rfl) (Nat.le_of_ble_eq_true rfl) dt_X12_moved_4.2.1.1.1 ?_
          refine z_isub M dt_X12_moved_4.2.1.1.2 ?_
          refine z_istore (lv' := [(10, .int (((t5 * ((σ.2.1 0) (Int32.toNatClampNeg v1))) / (100 : Int32)) - t6)), (9, .int (t3 - t4)), (8, .int (((12 : Int32) * v7) + v2)), (0, .ref (a 0)), (1, .int v1), (2, .int v2), (3, .int v3), (4, .int v4), (5, .int v5), (6, .int v6), (7, .int v7)]) M dt_X12_moved_4.2.1.2.1 (by decide) rfl ?_
          refine z_iload_n M dt_X12_moved_4.2.1.2.2 rfl 6 rfl ?_
          refine z_iconst M dt_X12_moved_4.2.2.1.1 ki_0 ?_
          refine z_iload M dt_X12_moved_4.2.2.1.2 1 rfl ?_
          refine z_mmax M u1686 u677 u100 u678 (Nat.le_of_ble_eq_true rfl) (Nat.le_of_ble_eq_true rfl) dt_X12_moved_4.2.2.2.1 ?_
          refine z_iadd M dt_X12_moved_4.2.2.2.2 ?_
          refine z_istore_n (lv' := [(3, .int (v3 + (jMax (0 : Int32) (t3 - t4)))), (10, .int (((t5 * ((σ.2.1 0) (Int32.toNatClampNeg v1))) / (100 : Int32)) - t6)), (9, .int (t3 - t4)), (8, .int (((12 : Int32) * v7) + v2)), (0, .ref (a 0)), (1, .int v1), (2, .int v2), (4, .int v4), (5, .int v5), (6, .int v6), (7, .int v7)]) M dt_X12_moved_5.1.1.1.1 rfl (by decide) rfl ?_
          refine z_iload M dt_X12_moved_5.1.1.1.2 7 rfl ?_
          refine z_iconst M dt_X12_moved_5.1.1.2.1 ki_0 ?_
          refine z_iload M dt_X12_moved_5.1.1.2.2 1 rfl ?_
          refine z_mmax M u1686 u677 u100 u678 (Nat.le_of_ble_eq_true rfl) (Nat.le_of_ble_eq_true rfl) dt_X12_moved_5.1.2.1.1 ?_
          refine z_iadd M dt_X12_moved_5.1.2.1.2 ?_
          refine z_istore (lv' := [(4, .int (v4 + (jMax (0 : Int32) (((t5 * ((σ.2.1 0) (Int32.toNatClampNeg v1))) / (100 : Int32)) - t6)))), (3, .int (v3 + (jMax (0 : Int32) (t3 - t4)))), (10, .int (((t5 * ((σ.2.1 0) (Int32.toNatClampNeg v1))) / (100 : Int32)) - t6)), (9, .int (t3 - t4)), (8, .int (((12 : Int32) * v7) + v2)), (0, .ref (a 0)), (1, .int v1), (2, .int v2), (5, .int v5), (6, .int v6), (7, .int v7)]) M dt_X12_moved_5.1.2.2.1 (by decide) rfl ?_
          refine z_iload M dt_X12_moved_5.1.2.2.2 8 rfl ?_
          refine z_iload M dt_X12_moved_5.2.1.1.1 3 rfl ?_
          have hJ8 : G σ [(4, .int (v4 + (jMax (0 : Int32) (((t5 * ((σ.2.1 0) (Int32.toNatClampNeg v1))) / (100 : Int32)) - t6)))), (3, .int (v3 + (jMax (0 : Int32) (t3 - t4)))), (10, .int (((t5 * ((σ.2.1 0) (Int32.toNatClampNeg v1))) / (100 : Int32)) - t6)), (9, .int (t3 - t4)), (8, .int (((12 : Int32) * v7) + v2)), (0, .ref (a 0)), (1, .int v1), (2, .int v2), (5, .int v5), (6, .int v6), (7, .int v7)] 159 [.int (if (t3 - t4) ≤ (0 : Int32) then (0 : Int32) else (jShl (1 : Int32) v7)), .int v5] := by
            refine z_ior M dt_X12_moved_5.2.2.2.2 ?_
            refine z_istore (lv' := [(5, .int (v5 ||| (if (t3 - t4) ≤ (0 : Int32) then (0 : Int32) else (jShl (1 : Int32) v7)))), (4, .int (v4 + (jMax (0 : Int32) (((t5 * ((σ.2.1 0) (Int32.toNatClampNeg v1))) / (100 : Int32)) - t6)))), (3, .int (v3 + (jMax (0 : Int32) (t3 - t4)))), (10, .int (((t5 * ((σ.2.1 0) (Int32.toNatClampNeg v1))) / (100 : Int32)) - t6)), (9, .int (t3 - t4)), (8, .int (((12 : Int32) * v7) + v2)), (0, .ref (a 0)), (1, .int v1), (2, .int v2), (6, .int v6), (7, .int v7)]) M dt_X12_moved_6.1.1.1.1 (by decide) rfl ?_
            refine z_iload M dt_X12_moved_6.1.1.1.2 9 rfl ?_
            refine z_iload M dt_X12_moved_6.1.1.2.1 3 rfl ?_
            have hJ10 : G σ [(5, .int (v5 ||| (if (t3 - t4) ≤ (0 : Int32) then (0 : Int32) else (jShl (1 : Int32) v7)))), (4, .int (v4 + (jMax (0 : Int32) (((t5 * ((σ.2.1 0) (Int32.toNatClampNeg v1))) / (100 : Int32)) - t6)))), (3, .int (v3 + (jMax (0 : Int32) (t3 - t4)))), (10, .int (((t5 * ((σ.2.1 0) (Int32.toNatClampNeg v1))) / (100 : Int32)) - t6)), (9, .int (t3 - t4)), (8, .int (((12 : Int32) * v7) + v2)), (0, .ref (a 0)), (1, .int v1), (2, .int v2), (6, .int v6), (7, .int v7)] 177 [.int (if (((t5 * ((σ.2.1 0) (Int32.toNatClampNeg v1))) / (100 : Int32)) - t6) ≤ (0 : Int32) then (0 : Int32) else (jShl (1 : Int32) v7)), .int v6] := by
              refine z_ior M dt_X12_moved_6.2.1.1.2 ?_
              refine z_istore (lv' := [(6, .int (v6 ||| (if (((t5 * ((σ.2.1 0) (Int32.toNatClampNeg v1))) / (100 : Int32)) - t6) ≤ (0 : Int32) then (0 : Int32) else (jShl (1 : Int32) v7)))), (5, .int (v5 ||| (if (t3 - t4) ≤ (0 : Int32) then (0 : Int32) else (jShl (1 : Int32) v7)))), (4, .int (v4 + (jMax (0 : Int32) (((t5 * ((σ.2.1 0) (Int32.toNatClampNeg v1))) / (100 : Int32)) - t6)))), (3, .int (v3 + (jMax (0 : Int32) (t3 - t4)))), (10, .int (((t5 * ((σ.2.1 0) (Int32.toNatClampNeg v1))) / (100 : Int32)) - t6)), (9, .int (t3 - t4)), (8, .int (((12 : Int32) * v7) + v2)), (0, .ref (a 0)), (1, .int v1), (2, .int v2), (7, .int v7)]) M dt_X12_moved_6.2.1.2.1 (by decide) rfl ?_
              refine z_iinc (v := (v7 + (1 : Int32))) (lv' := [(7, .int (v7 + (1 : Int32))), (6, .int (v6 ||| (if (((t5 * ((σ.2.1 0) (Int32.toNatClampNeg v1))) / (100 : Int32)) - t6) ≤ (0 : Int32) then (0 : Int32) else (jShl (1 : Int32) v7)))), (5, .int (v5 ||| (if (t3 - t4) ≤ (0 : Int32) then (0 : Int32) else (jShl (1 : Int32) v7)))), (4, .int (v4 + (jMax (0 : Int32) (((t5 * ((σ.2.1 0) (Int32.toNatClampNeg v1))) / (100 : Int32)) - t6)))), (3, .int (v3 + (jMax (0 : Int32) (t3 - t4)))), (10, .int (((t5 * ((σ.2.1 0) (Int32.toNatClampNeg v1))) / (100 : Int32)) - t6)), (9, .int (t3 - t4)), (8, .int (((12 : Int32) * v7) + v2)), (0, .ref (a 0)), (1, .int v1), (2, .int v2)]) M dt_X12_moved_6.2.1.2.2 (k := 10) rfl (congrArg (fun q => v7 + q) ki_1) (by decide) rfl ?_
              refine z_goto (tgt := 36) M dt_X12_moved_6.2.2.1.1 (by decide) ?_
              refine z_sub M [8, 9, 10, 4, 3, 2, 1, 0] (lv' := [(0, .ref (a 0)), (1, .int v1), (2, .int v2), (3, .int (v3 + (jMax (0 : Int32) (t3 - t4)))), (4, .int (v4 + (jMax (0 : Int32) (((t5 * ((σ.2.1 0) (Int32.toNatClampNeg v1))) / (100 : Int32)) - t6)))), (5, .int (v5 ||| (if (t3 - t4) ≤ (0 : Int32) then (0 : Int32) else (jShl (1 : Int32) v7)))), (6, .int (v6 ||| (if (((t5 * ((σ.2.1 0) (Int32.toNatClampNeg v1))) / (100 : Int32)) - t6) ≤ (0 : Int32) then (0 : Int32) else (jShl (1 : Int32) v7)))), (7, .int (v7 + (1 : Int32)))]) rfl ?_
              exact ih (v3 + (jMax (0 : Int32) (t3 - t4))) (v4 + (jMax (0 : Int32) (((t5 * ((σ.2.1 0) (Int32.toNatClampNeg v1))) / (100 : Int32)) - t6))) (v5 ||| (if (t3 - t4) ≤ (0 : Int32) then (0 : Int32) else (jShl (1 : Int32) v7))) (v6 ||| (if (((t5 * ((σ.2.1 0) (Int32.toNatClampNeg v1))) / (100 : Int32)) - t6) ≤ (0 : Int32) then (0 : Int32) else (jShl (1 : Int32) v7))) (v7 + (1 : Int32)) h
            refine z_if_le (tgt := 176) M dt_X12_moved_6.1.1.2.2 (by decide) (fun hc9 => ?_) (fun hc9 => ?_)
            · refine z_iconst M dt_X12_moved_6.2.1.1.1 ki_0 ?_
              exact (zTt hc9 hJ10)
            · refine z_iconst M dt_X12_moved_6.1.2.1.1 ki_1 ?_
              refine z_iload M dt_X12_moved_6.1.2.1.2 10 rfl ?_
              refine z_ishl M dt_X12_moved_6.1.2.2.1 ?_
              refine z_goto (tgt := 177) M dt_X12_moved_6.1.2.2.2 (by decide) ?_
              exact (zTf hc9 hJ10)
          refine z_if_le (tgt := 158) M dt_X12_moved_5.2.1.1.2 (by decide) (fun hc7 => ?_) (fun hc7 => ?_)
          · refine z_iconst M dt_X12_moved_5.2.2.2.1 ki_0 ?_
            exact (zTt hc7 hJ8)
          · refine z_iconst M dt_X12_moved_5.2.1.2.1 ki_1 ?_
            refine z_iload M dt_X12_moved_5.2.1.2.2 10 rfl ?_
            refine z_ishl M dt_X12_moved_5.2.2.1.1 ?_
            refine z_goto (tgt := 159) M dt_X12_moved_5.2.2.1.2 (by decide) ?_
            exact (zTf hc7 hJ8)
set_option maxHeartbeats 4000000 in
set_option maxRecDepth 100000 in
theorem wJ_X12_moved_186 {o : (Zst × Int32)} (M : zM l D zcl (zty cy) A ad (zR 3) (mW a cy ad) RX12 cX12_moved 11 (some .int) o.1 (some (.int o.2)) G) (σ : Zst) (v3 : Int32) (v4 : Int32) (v5 : Int32) (v6 : Int32)  (h : J_X12_moved_186 σ v3 v4 v5 v6 = some o) : G σ [(0, .ref (a 0)), (3, .int v3), (4, .int v4), (5, .int v5), (6, .int v6)] 186 [] := by
  refine z_aload_n M dt_X12_moved_6.2.2.1.2 rfl 0 rfl ?_
  refine z_iconst M dt_X12_moved_6.2.2.2.1 ki_0 ?_
  refine pf_X12_rows M u1961 dt_X12_moved_6.2.2.2.2 ?_
  refine z_aload_n M dt_X12_moved_7.1.1.1.1 rfl 0 rfl ?_
  refine z_iload M dt_X12_moved_7.1.1.1.2 2 rfl ?_
  refine z_i2l M dt_X12_moved_7.1.1.2.1 ?_
  obtain ⟨t11, hc, h⟩ := gBd h
  refine k_X12_enters M hc u1708 (Nat.le_of_ble_eq_true rfl) (Nat.le_of_ble_eq_true rfl) dt_X12_moved_7.1.1.2.2 ?_
  refine z_aload_n M dt_X12_moved_7.1.2.1.1 rfl 0 rfl ?_
  refine z_iload M dt_X12_moved_7.1.2.1.2 3 rfl ?_
  refine z_i2l M dt_X12_moved_7.1.2.2 ?_
  obtain ⟨t12, hc, h⟩ := gBd h
  refine k_X12_enters M hc u1708 (Nat.le_of_ble_eq_true rfl) (Nat.le_of_ble_eq_true rfl) dt_X12_moved_7.2.1.1.1 ?_
  refine z_aload_n M dt_X12_moved_7.2.1.1.2 rfl 0 rfl ?_
  refine z_iload M dt_X12_moved_7.2.1.2.1 4 rfl ?_
  refine z_i2l M dt_X12_moved_7.2.1.2.2 ?_
  obtain ⟨t13, hc, h⟩ := gBd h
  refine k_X12_enters M hc u1708 (Nat.le_of_ble_eq_true rfl) (Nat.le_of_ble_eq_true rfl) dt_X12_moved_7.2.2.1.1 ?_
  refine z_iload_n M dt_X12_moved_7.2.2.1.2 rfl 1 rfl ?_
  obtain rfl := Option.some.inj h
  exact z_iret M dt_X12_moved_7.2.2.2
set_option maxHeartbeats 4000000 in
set_option maxRecDepth 100000 in
theorem m_X12_moved (hD : ∀ σ, va_D A (mW a cy ad σ)) {σ : Zst} {p0 : Int32} {p1 : Int32} {o : (Zst × Int32)} (h : f_X12_moved σ p0 p1 = some o) : zT l D zcl (zty cy) A ad (mW a cy ad) yX12_moved cX12_moved 11 (some .int) 3 [.ref (a 0), .int p0, .int p1] σ o.1 (some (.int o.2)) := by
  refine z_met pn_X12 hD (Nat.le_of_ble_eq_true rfl) rfl (fun G M => ?_)
  refine z_aload_n M dt_X12_moved_0.1.1.1.1 rfl 0 rfl ?_
  refine z_iconst M dt_X12_moved_0.1.1.1.2 ki_0 ?_
  refine pf_X12_thrown M u1960 dt_X12_moved_0.1.1.2.1 ?_
  refine z_aload_n M dt_X12_moved_0.1.1.2.2 rfl 0 rfl ?_
  refine z_iload_n M dt_X12_moved_0.1.2.1.1 rfl 1 rfl ?_
  refine k_X12_isSort M u1526 (Nat.le_of_ble_eq_true rfl) (Nat.le_of_ble_eq_true rfl) dt_X12_moved_0.1.2.1.2 ?_
  refine z_if_eq (tgt := 20) M dt_X12_moved_0.1.2.2.1 (by decide) (fun hc => ?_) (fun hc => ?_)
  · have h := gIt hc h
    refine z_iconst M dt_X12_moved_0.2.1.2.1 ki_m1 ?_
    obtain rfl := Option.some.inj h
    exact z_iret M dt_X12_moved_0.2.1.2.2
  · have h := gIf hc h
    refine z_iload_n M dt_X12_moved_0.1.2.2.2 rfl 2 rfl ?_
    refine k_X12_isWeek M u1539 (Nat.le_of_ble_eq_true rfl) (Nat.le_of_ble_eq_true rfl) dt_X12_moved_0.2.1.1.1 ?_
    refine z_if_ne (tgt := 22) M dt_X12_moved_0.2.1.1.2 (by decide) (fun hc => ?_) (fun hc => ?_)
    · have h := gIf hc h
      refine z_iconst M dt_X12_moved_0.2.2.1.1 ki_0 ?_
      refine z_istore_n (lv' := [(3, .int (0 : Int32)), (0, .ref (a 0)), (1, .int p0), (2, .int p1)]) M dt_X12_moved_0.2.2.1.2 rfl (by decide) rfl ?_
      refine z_iconst M dt_X12_moved_0.2.2.2.1 ki_0 ?_
      refine z_istore (lv' := [(4, .int (0 : Int32)), (3, .int (0 : Int32)), (0, .ref (a 0)), (1, .int p0), (2, .int p1)]) M dt_X12_moved_0.2.2.2.2 (by decide) rfl ?_
      refine z_iconst M dt_X12_moved_1.1.1.1.1 ki_0 ?_
      refine z_istore (lv' := [(5, .int (0 : Int32)), (4, .int (0 : Int32)), (3, .int (0 : Int32)), (0, .ref (a 0)), (1, .int p0), (2, .int p1)]) M dt_X12_moved_1.1.1.1.2 (by decide) rfl ?_
      refine z_iconst M dt_X12_moved_1.1.1.2.1 ki_0 ?_
      refine z_istore (lv' := [(6, .int (0 : Int32)), (5, .int (0 : Int32)), (4, .int (0 : Int32)), (3, .int (0 : Int32)), (0, .ref (a 0)), (1, .int p0), (2, .int p1)]) M dt_X12_moved_1.1.1.2.2 (by decide) rfl ?_
      refine z_iconst M dt_X12_moved_1.1.2.1.1 ki_0 ?_
      refine z_istore (lv' := [(7, .int (0 : Int32)), (6, .int (0 : Int32)), (5, .int (0 : Int32)), (4, .int (0 : Int32)), (3, .int (0 : Int32)), (0, .ref (a 0)), (1, .int p0), (2, .int p1)]) M dt_X12_moved_1.1.2.1.2 (by decide) rfl ?_
      refine z_sub M [5, 6, 7, 4, 3, 2, 1, 0] (lv' := [(0, .ref (a 0)), (1, .int p0), (2, .int p1), (3, .int (0 : Int32)), (4, .int (0 : Int32)), (5, .int (0 : Int32)), (6, .int (0 : Int32)), (7, .int (0 : Int32))]) rfl ?_
      exact wL_X12_moved_36 M (k186 := (fun w14 w15 w16 w17 => J_X12_moved_186 (zI σ 0 (0 : Int32)) w14 w15 w16 w17)) (zI σ 0 (0 : Int32)) p0 p1 (fun w14 w15 w16 w17 h => by
          exact wJ_X12_moved_186 M  (zI σ 0 (0 : Int32)) w14 w15 w16 w17 h) zFu (0 : Int32) (0 : Int32) (0 : Int32) (0 : Int32) (0 : Int32) h
    · have h := gIt hc h
      refine z_iconst M dt_X12_moved_0.2.1.2.1 ki_m1 ?_
      obtain rfl := Option.some.inj h
      exact z_iret M dt_X12_moved_0.2.1.2.2
set_option maxHeartbeats 4000000 in
set_option maxRecDepth 100000 in
theorem wL_X12_feasts_35 {o : (Zst × Int32)} (M : zM l D zcl (zty cy) A ad (zR 3) (mW a cy ad) RX12 cX12_feasts 5 (some .int) o.1 (some (.int o.2)) G) {k96 : Zst → Option (Zst × Int32)}  (v1 : Int32) (v2 : Int32) (v3 : Int32) (Hk96 : ∀ (σ : Zst), k96 σ = some o → G σ [(0, .ref (a 0)), (1, .int v1), (2, .int v2), (3, .int v3)] 96 []) :
    ∀ (n35 : Nat) (σ : Zst) (v4 : Int32), L_X12_feasts_35 k96 v1 v2 v3 n35 σ v4 = some o → G σ [(0, .ref (a 0)), (1, .int v1), (2, .int v2), (3, .int v3), (4, .int v4)] 35 [] := by
  intro n35
  induction n35 with
  | zero => intro σ v4 h; exact nomatch (show (none : Option (Zst × Int32)) = some _ from h)
  | succ n35 ih =>
    intro σ v4 h
    refine z_iload M dt_X12_feasts_1.1.2.2.2 4 rfl ?_
    refine z_aload_n M dt_X12_feasts_1.2.1.1.1 rfl 0 rfl ?_
    refine gf_X12_sorts (σ := σ) M u1963 dt_X12_feasts_1.2.1.1.2 (v := (σ.1 2)) rfl ?_
    refine z_icmp_ge (tgt := 96) M dt_X12_feasts_1.2.1.2.1 (by decide) (fun hc => ?_) (fun hc => ?_)
    · have h := gIt hc h
      refine z_sub M [0, 1, 2, 3] (lv' := [(0, .ref (a 0)), (1, .int v1), (2, .int v2), (3, .int v3)]) rfl ?_
      exact Hk96 σ h
    · have h := gIf hc h
      refine z_aload_n M dt_X12_feasts_1.2.1.2.2 rfl 0 rfl ?_
      refine z_iconst M dt_X12_feasts_1.2.2.1.1 ki_0 ?_
      refine z_bipush M dt_X12_feasts_1.2.2.1.2 kb_12 ?_
      refine z_iload_n M dt_X12_feasts_1.2.2.2.1 rfl 1 rfl ?_
      refine z_imul M dt_X12_feasts_1.2.2.2.2 ?_
      refine z_iload_n M dt_X12_feasts_2.1.1.1.1 rfl 3 rfl ?_
      refine z_iadd M dt_X12_feasts_2.1.1.1.2 ?_
      refine z_iload M dt_X12_feasts_2.1.1.2.1 4 rfl ?_
      obtain ⟨t1, hc, h⟩ := gBd h
      refine k_X12_isTold M hc u1704 (Nat.le_of_ble_eq_true rfl) (Nat.le_of_ble_eq_true rfl) dt_X12_feasts_2.1.1.2.2 ?_
      refine z_if_eq (tgt := 90) M dt_X12_feasts_2.1.2.1.1 (by decide) (fun hc => ?_) (fun hc => ?_)
      · have h := gIt hc h
        refine z_iinc (v := (v4 + (1 : Int32))) (lv' := [(4, .int (v4 + (1 : Int32))), (0, .ref (a 0)), (1, .int v1), (2, .int v2), (3, .int v3)]) M dt_X12_feasts_3.2.1.1.2 (k := 4) rfl (congrArg (fun q => v4 + q) ki_1) (by decide) rfl ?_
        refine z_goto (tgt := 35) M dt_X12_feasts_3.2.1.2.1 (by decide) ?_
        refine z_sub M [1, 2, 3, 4, 0] (lv' := [(0, .ref (a 0)), (1, .int v1), (2, .int v2), (3, .int v3), (4, .int (v4 + (1 : Int32)))]) rfl ?_
        exact ih σ (v4 + (1 : Int32)) h
      · have h := gIf hc h
        refine z_aload_n M dt_X12_feasts_2.1.2.1.2 rfl 0 rfl ?_
        refine gf_X12_inWeek M u2010 dt_X12_feasts_2.1.2.2.1 ?_
        refine z_iload_n M dt_X12_feasts_2.1.2.2.2 rfl 3 rfl ?_
        refine z_iconst M dt_X12_feasts_2.2.1.1.1 ki_0 ?_
        refine z_aload_n M dt_X12_feasts_2.2.1.1.2 rfl 0 rfl ?_
        refine gf_X12_inWeek M u2010 dt_X12_feasts_2.2.1.2.1 ?_
        refine z_iload_n M dt_X12_feasts_2.2.1.2.2 rfl 3 rfl ?_
        have ⟨hg, h⟩ := gIx_s h
        refine al_M28 (σ := σ) M (f := (σ.2.1 22)) rfl hg dt_X12_feasts_2.2.2.1.1 ?_
        refine z_mmax M u1686 u677 u100 u678 (Nat.le_of_ble_eq_true rfl) (Nat.le_of_ble_eq_true rfl) dt_X12_feasts_2.2.2.1.2 ?_
        refine z_aload_n M dt_X12_feasts_2.2.2.2.1 rfl 0 rfl ?_
        refine z_iconst M dt_X12_feasts_2.2.2.2.2 ki_0 ?_
        refine z_bipush M dt_X12_feasts_3.1.1.1.1 kb_12 ?_
        refine z_iload_n M dt_X12_feasts_3.1.1.1.2 rfl 1 rfl ?_
        refine z_imul M dt_X12_feasts_3.1.1.2.1 ?_
        refine z_iload_n M dt_X12_feasts_3.1.1.2.2 rfl 3 rfl ?_
        refine z_iadd M dt_X12_feasts_3.1.2.1.1 ?_
        refine z_iload M dt_X12_feasts_3.1.2.1.2 4 rfl ?_
        obtain ⟨t2, hc, h⟩ := gBd h
        refine k_X12_at M hc u1556 (Nat.le_of_ble_eq_true rfl) (Nat.le_of_ble_eq_true rfl) dt_X12_feasts_3.1.2.2.1 ?_
        refine z_iadd M dt_X12_feasts_3.1.2.2.2 ?_
        have ⟨hg, h⟩ := gIx_s h
        refine as_M28 (σ := σ) M (f := (σ.2.1 22)) rfl hg dt_X12_feasts_3.2.1.1.1 ?_
        refine z_iinc (v := (v4 + (1 : Int32))) (lv' := [(4, .int (v4 + (1 : Int32))), (0, .ref (a 0)), (1, .int v1), (2, .int v2), (3, .int v3)]) M dt_X12_feasts_3.2.1.1.2 (k := 4) rfl (congrArg (fun q => v4 + q) ki_1) (by decide) rfl ?_
        refine z_goto (tgt := 35) M dt_X12_feasts_3.2.1.2.1 (by decide) ?_
        refine z_sub M [1, 2, 3, 4, 0] (lv' := [(0, .ref (a 0)), (1, .int v1), (2, .int v2), (3, .int v3), (4, .int (v4 + (1 : Int32)))]) rfl ?_
        exact ih (zA σ 22 (upd (σ.2.1 22) (Int32.toNatClampNeg v3) ((jMax (0 : Int32) ((σ.2.1 22) (Int32.toNatClampNeg v3))) + t2))) (v4 + (1 : Int32)) h
set_option maxHeartbeats 4000000 in
set_option maxRecDepth 100000 in
theorem wL_X12_feasts_108 {o : (Zst × Int32)} (M : zM l D zcl (zty cy) A ad (zR 3) (mW a cy ad) RX12 cX12_feasts 5 (some .int) o.1 (some (.int o.2)) G) {k153 : Zst → Int32 → Option (Zst × Int32)}  (v1 : Int32) (v2 : Int32) (v3 : Int32) (Hk153 : ∀ (σ : Zst) (w4 : Int32), k153 σ w4 = some o → G σ [(0, .ref (a 0)), (1, .int v1), (2, .int v2), (3, .int v3), (4, .int w4)] 153 []) :
    ∀ (n108 : Nat) (σ : Zst) (v4 : Int32), L_X12_feasts_108 k153 v1 v2 v3 n108 σ v4 = some o → G σ [(0, .ref (a 0)), (1, .int v1), (2, .int v2), (3, .int v3), (4, .int v4)] 108 [] := by
  intro n108
  induction n108 with
  | zero => intro σ v4 h; exact nomatch (show (none : Option (Zst × Int32)) = some _ from h)
  | succ n108 ih =>
    intro σ v4 h
    refine z_iload M dt_X12_feasts_4.1.1.2.1 4 rfl ?_
    refine z_if_le (tgt := 153) M dt_X12_feasts_4.1.1.2.2 (by decide) (fun hc => ?_) (fun hc => ?_)
    · have h := gIt hc h
      exact Hk153 σ v4 h
    · have h := gIf hc h
      refine z_aload_n M dt_X12_feasts_4.1.2.1.1 rfl 0 rfl ?_
      refine gf_X12_sorted M u2011 dt_X12_feasts_4.1.2.1.2 ?_
      refine z_iload M dt_X12_feasts_4.1.2.2.1 4 rfl ?_
      refine z_iconst M dt_X12_feasts_4.1.2.2.2 ki_1 ?_
      refine z_isub M dt_X12_feasts_4.2.1.1.1 ?_
      have ⟨hg, h⟩ := gIx_s h
      refine al_M29 (σ := σ) M (f := (σ.2.1 23)) rfl hg dt_X12_feasts_4.2.1.1.2 ?_
      refine z_aload_n M dt_X12_feasts_4.2.1.2.1 rfl 0 rfl ?_
      refine gf_X12_inWeek M u2010 dt_X12_feasts_4.2.1.2.2 ?_
      refine z_iload_n M dt_X12_feasts_4.2.2.1.1 rfl 3 rfl ?_
      have ⟨hg, h⟩ := gIx_s h
      refine al_M28 (σ := σ) M (f := (σ.2.1 22)) rfl hg dt_X12_feasts_4.2.2.1.2 ?_
      refine z_icmp_le (tgt := 153) M dt_X12_feasts_4.2.2.2.1 (by decide) (fun hc => ?_) (fun hc => ?_)
      · have h := gIt hc h
        exact Hk153 σ v4 h
      · have h := gIf hc h
        refine z_aload_n M dt_X12_feasts_4.2.2.2.2 rfl 0 rfl ?_
        refine gf_X12_sorted M u2011 dt_X12_feasts_5.1.1.1.1 ?_
        refine z_iload M dt_X12_feasts_5.1.1.1.2 4 rfl ?_
        refine z_aload_n M dt_X12_feasts_5.1.1.2.1 rfl 0 rfl ?_
        refine gf_X12_sorted M u2011 dt_X12_feasts_5.1.1.2.2 ?_
        refine z_iload M dt_X12_feasts_5.1.2.1.1 4 rfl ?_
        refine z_iconst M dt_X12_feasts_5.1.2.1.2 ki_1 ?_
        refine z_isub M dt_X12_feasts_5.1.2.2.1 ?_
        have ⟨hg, h⟩ := gIx_s h
        refine al_M29 (σ := σ) M (f := (σ.2.1 23)) rfl hg dt_X12_feasts_5.1.2.2.2 ?_
        have ⟨hg, h⟩ := gIx_s h
        refine as_M29 (σ := σ) M (f := (σ.2.1 23)) rfl hg dt_X12_feasts_5.2.1.1.1 ?_
        refine z_iinc (v := (v4 + (-1 : Int32))) (lv' := [(4, .int (v4 + (-1 : Int32))), (0, .ref (a 0)), (1, .int v1), (2, .int v2), (3, .int v3)]) M dt_X12_feasts_5.2.1.1.2 (k := 4) rfl (congrArg (fun q => v4 + q) ki_m1) (by decide) rfl ?_
        refine z_goto (tgt := 108) M dt_X12_feasts_5.2.1.2.1 (by decide) ?_
        refine z_sub M [1, 2, 3, 4, 0] (lv' := [(0, .ref (a 0)), (1, .int v1), (2, .int v2), (3, .int v3), (4, .int (v4 + (-1 : Int32)))]) rfl ?_
        exact ih (zA σ 23 (upd (σ.2.1 23) (Int32.toNatClampNeg v4) ((σ.2.1 23) (Int32.toNatClampNeg (v4 - (1 : Int32)))))) (v4 + (-1 : Int32)) h
set_option maxHeartbeats 4000000 in
set_option maxRecDepth 100000 in
theorem wJ_X12_feasts_153 {o : (Zst × Int32)} (M : zM l D zcl (zty cy) A ad (zR 3) (mW a cy ad) RX12 cX12_feasts 5 (some .int) o.1 (some (.int o.2)) G) {k19 : Zst → Int32 → Int32 → Option (Zst × Int32)} (σ : Zst) (v1 : Int32) (v2 : Int32) (v3 : Int32) (v4 : Int32) (Hk19 : ∀ (σ : Zst) (w2 : Int32) (w3 : Int32), k19 σ w2 w3 = some o → G σ [(0, .ref (a 0)), (1, .int v1), (2, .int w2), (3, .int w3)] 19 []) (h : J_X12_feasts_153 k19 σ v1 v2 v3 v4 = some o) : G σ [(0, .ref (a 0)), (1, .int v1), (2, .int v2), (3, .int v3), (4, .int v4)] 153 [] := by
  refine z_aload_n M dt_X12_feasts_5.2.1.2.2 rfl 0 rfl ?_
  refine gf_X12_sorted M u2011 dt_X12_feasts_5.2.2.1.1 ?_
  refine z_iload M dt_X12_feasts_5.2.2.1.2 4 rfl ?_
  refine z_aload_n M dt_X12_feasts_5.2.2.2.1 rfl 0 rfl ?_
  refine gf_X12_inWeek M u2010 dt_X12_feasts_5.2.2.2.2 ?_
  refine z_iload_n M dt_X12_feasts_6.1.1.1.1 rfl 3 rfl ?_
  have ⟨hg, h⟩ := gIx_s h
  refine al_M28 (σ := σ) M (f := (σ.2.1 22)) rfl hg dt_X12_feasts_6.1.1.1.2 ?_
  have ⟨hg, h⟩ := gIx_s h
  refine as_M29 (σ := σ) M (f := (σ.2.1 23)) rfl hg dt_X12_feasts_6.1.1.2.1 ?_
  refine z_iinc (v := (v2 + (1 : Int32))) (lv' := [(2, .int (v2 + (1 : Int32))), (0, .ref (a 0)), (1, .int v1), (3, .int v3), (4, .int v4)]) M dt_X12_feasts_6.1.1.2.2 (k := 2) rfl (congrArg (fun q => v2 + q) ki_1) (by decide) rfl ?_
  refine z_iinc (v := (v3 + (1 : Int32))) (lv' := [(3, .int (v3 + (1 : Int32))), (2, .int (v2 + (1 : Int32))), (0, .ref (a 0)), (1, .int v1), (4, .int v4)]) M dt_X12_feasts_6.1.2.1.1 (k := 3) rfl (congrArg (fun q => v3 + q) ki_1) (by decide) rfl ?_
  refine z_goto (tgt := 19) M dt_X12_feasts_6.1.2.1.2 (by decide) ?_
  refine z_sub M [2, 3, 1, 0] (lv' := [(0, .ref (a 0)), (1, .int v1), (2, .int (v2 + (1 : Int32))), (3, .int (v3 + (1 : Int32)))]) rfl ?_
  exact Hk19 (zA σ 23 (upd (σ.2.1 23) (Int32.toNatClampNeg v4) ((σ.2.1 22) (Int32.toNatClampNeg v3)))) (v2 + (1 : Int32)) (v3 + (1 : Int32)) h
set_option maxHeartbeats 4000000 in
set_option maxRecDepth 100000 in
theorem wJ_X12_feasts_96 {o : (Zst × Int32)} (M : zM l D zcl (zty cy) A ad (zR 3) (mW a cy ad) RX12 cX12_feasts 5 (some .int) o.1 (some (.int o.2)) G) {k19 : Zst → Int32 → Int32 → Option (Zst × Int32)} (σ : Zst) (v1 : Int32) (v2 : Int32) (v3 : Int32) (Hk19 : ∀ (σ : Zst) (w2 : Int32) (w3 : Int32), k19 σ w2 w3 = some o → G σ [(0, .ref (a 0)), (1, .int v1), (2, .int w2), (3, .int w3)] 19 []) (h : J_X12_feasts_96 k19 σ v1 v2 v3 = some o) : G σ [(0, .ref (a 0)), (1, .int v1), (2, .int v2), (3, .int v3)] 96 [] := by
  refine z_aload_n M dt_X12_feasts_3.2.1.2.2 rfl 0 rfl ?_
  refine gf_X12_inWeek M u2010 dt_X12_feasts_3.2.2.1.1 ?_
  refine z_iload_n M dt_X12_feasts_3.2.2.1.2 rfl 3 rfl ?_
  have ⟨hg, h⟩ := gIx_s h
  refine al_M28 (σ := σ) M (f := (σ.2.1 22)) rfl hg dt_X12_feasts_3.2.2.2.1 ?_
  refine z_if_lt (tgt := 169) M dt_X12_feasts_3.2.2.2.2 (by decide) (fun hc => ?_) (fun hc => ?_)
  · have h := gIt hc h
    refine z_iinc (v := (v3 + (1 : Int32))) (lv' := [(3, .int (v3 + (1 : Int32))), (0, .ref (a 0)), (1, .int v1), (2, .int v2)]) M dt_X12_feasts_6.1.2.1.1 (k := 3) rfl (congrArg (fun q => v3 + q) ki_1) (by decide) rfl ?_
    refine z_goto (tgt := 19) M dt_X12_feasts_6.1.2.1.2 (by decide) ?_
    refine z_sub M [1, 2, 3, 0] (lv' := [(0, .ref (a 0)), (1, .int v1), (2, .int v2), (3, .int (v3 + (1 : Int32)))]) rfl ?_
    exact Hk19 σ v2 (v3 + (1 : Int32)) h
  · have h := gIf hc h
    refine z_iload_n M dt_X12_feasts_4.1.1.1.1 rfl 2 rfl ?_
    refine z_istore (lv' := [(4, .int v2), (0, .ref (a 0)), (1, .int v1), (2, .int v2), (3, .int v3)]) M dt_X12_feasts_4.1.1.1.2 (by decide) rfl ?_
    refine z_sub M [1, 2, 3, 4, 0] (lv' := [(0, .ref (a 0)), (1, .int v1), (2, .int v2), (3, .int v3), (4, .int v2)]) rfl ?_
    exact wL_X12_feasts_108 M (k153 := (fun σ4 w3 => J_X12_feasts_153 k19 σ4 v1 v2 v3 w3)) v1 v2 v3 (fun σ4 w3 h => by
        exact wJ_X12_feasts_153 M (k19 := k19) σ4 v1 v2 v3 w3 Hk19 h) zFu σ v2 h
set_option maxHeartbeats 4000000 in
set_option maxRecDepth 100000 in
theorem wL_X12_feasts_19 {o : (Zst × Int32)} (M : zM l D zcl (zty cy) A ad (zR 3) (mW a cy ad) RX12 cX12_feasts 5 (some .int) o.1 (some (.int o.2)) G) {k175 : Zst → Int32 → Option (Zst × Int32)}  (v1 : Int32) (Hk175 : ∀ (σ : Zst) (w2 : Int32), k175 σ w2 = some o → G σ [(0, .ref (a 0)), (2, .int w2)] 175 []) :
    ∀ (n19 : Nat) (σ : Zst) (v2 : Int32) (v3 : Int32), L_X12_feasts_19 k175 v1 n19 σ v2 v3 = some o → G σ [(0, .ref (a 0)), (1, .int v1), (2, .int v2), (3, .int v3)] 19 [] := by
  intro n19
  induction n19 with
  | zero => intro σ v2 v3 h; exact nomatch (show (none : Option (Zst × Int32)) = some _ from h)
  | succ n19 ih =>
    intro σ v2 v3 h
    refine z_iload_n M dt_X12_feasts_0.2.2.1.2 rfl 3 rfl ?_
    refine z_bipush M dt_X12_feasts_0.2.2.2.1 kb_12 ?_
    refine z_icmp_ge (tgt := 175) M dt_X12_feasts_0.2.2.2.2 (by decide) (fun hc => ?_) (fun hc => ?_)
    · have h := gIt hc h
      refine z_sub M [0, 2] (lv' := [(0, .ref (a 0)), (2, .int v2)]) rfl ?_
      exact Hk175 σ v2 h
    · have h := gIf hc h
      refine z_aload_n M dt_X12_feasts_1.1.1.1.1 rfl 0 rfl ?_
      refine gf_X12_inWeek M u2010 dt_X12_feasts_1.1.1.1.2 ?_
      refine z_iload_n M dt_X12_feasts_1.1.1.2.1 rfl 3 rfl ?_
      refine z_iconst M dt_X12_feasts_1.1.1.2.2 ki_m1 ?_
      have ⟨hg, h⟩ := gIx_s h
      refine as_M28 (σ := σ) M (f := (σ.2.1 22)) rfl hg dt_X12_feasts_1.1.2.1.1 ?_
      refine z_iconst M dt_X12_feasts_1.1.2.1.2 ki_0 ?_
      refine z_istore (lv' := [(4, .int (0 : Int32)), (0, .ref (a 0)), (1, .int v1), (2, .int v2), (3, .int v3)]) M dt_X12_feasts_1.1.2.2.1 (by decide) rfl ?_
      refine z_sub M [1, 2, 3, 4, 0] (lv' := [(0, .ref (a 0)), (1, .int v1), (2, .int v2), (3, .int v3), (4, .int (0 : Int32))]) rfl ?_
      exact wL_X12_feasts_35 M (k96 := (fun σ5 => J_X12_feasts_96 (fun σ w2 w3 => L_X12_feasts_19 k175 v1 n19 σ w2 w3) σ5 v1 v2 v3)) v1 v2 v3 (fun σ5 h => by
          exact wJ_X12_feasts_96 M (k19 := (fun σ w2 w3 => L_X12_feasts_19 k175 v1 n19 σ w2 w3)) σ5 v1 v2 v3 ih h) zFu (zA σ 22 (upd (σ.2.1 22) (Int32.toNatClampNeg v3) (-1 : Int32))) (0 : Int32) h
set_option maxHeartbeats 4000000 in
set_option maxRecDepth 100000 in
theorem wL_X12_feasts_180 {o : (Zst × Int32)} (M : zM l D zcl (zty cy) A ad (zR 3) (mW a cy ad) RX12 cX12_feasts 5 (some .int) o.1 (some (.int o.2)) G) (σ : Zst) (v2 : Int32)  :
    ∀ (n180 : Nat) (v3 : Int32) (v4 : Int32), L_X12_feasts_180 σ v2 n180 v3 v4 = some o → G σ [(0, .ref (a 0)), (2, .int v2), (3, .int v3), (4, .int v4)] 180 [] := by
  intro n180
  induction n180 with
  | zero => intro v3 v4 h; exact nomatch (show (none : Option (Zst × Int32)) = some _ from h)
  | succ n180 ih =>
    intro v3 v4 h
    refine z_iload M dt_X12_feasts_6.2.1.2.1 3 rfl ?_
    refine z_bipush M dt_X12_feasts_6.2.1.2.2 kb_12 ?_
    refine z_icmp_ge (tgt := 230) M dt_X12_feasts_6.2.2.1.1 (by decide) (fun hc => ?_) (fun hc => ?_)
    · have h := gIt hc h
      refine z_iload_n M dt_X12_feasts_8.2.2.1 rfl 2 rfl ?_
      obtain rfl := Option.some.inj h
      exact z_iret M dt_X12_feasts_8.2.2.2
    · have h := gIf hc h
      refine z_iload_n M dt_X12_feasts_6.2.2.1.2 rfl 1 rfl ?_
      refine z_if_le (tgt := 230) M dt_X12_feasts_6.2.2.2.1 (by decide) (fun hc => ?_) (fun hc => ?_)
      · have h := gIt hc h
        refine z_iload_n M dt_X12_feasts_8.2.2.1 rfl 2 rfl ?_
        obtain rfl := Option.some.inj h
        exact z_iret M dt_X12_feasts_8.2.2.2
      · have h := gIf hc h
        refine z_iload_n M dt_X12_feasts_6.2.2.2.2 rfl 2 rfl ?_
        refine z_aload_n M dt_X12_feasts_7.1.1.1.1 rfl 0 rfl ?_
        refine gf_X12_inWeek M u2010 dt_X12_feasts_7.1.1.1.2 ?_
        refine z_iload M dt_X12_feasts_7.1.1.2.1 3 rfl ?_
        have ⟨hg, h⟩ := gIx_s h
        refine al_M28 (σ := σ) M (f := (σ.2.1 22)) rfl hg dt_X12_feasts_7.1.1.2.2 ?_
        refine z_iconst M dt_X12_feasts_7.1.2.1.1 ki_2 ?_
        refine z_aload_n M dt_X12_feasts_7.1.2.1.2 rfl 0 rfl ?_
        refine gf_X12_sorted M u2011 dt_X12_feasts_7.1.2.2.1 ?_
        refine z_iload_n M dt_X12_feasts_7.1.2.2.2 rfl 1 rfl ?_
        refine z_iconst M dt_X12_feasts_7.2.1.1.1 ki_1 ?_
        refine z_isub M dt_X12_feasts_7.2.1.1.2 ?_
        refine z_iconst M dt_X12_feasts_7.2.1.2.1 ki_2 ?_
        refine z_idiv M dt_X12_feasts_7.2.1.2.2 (by decide) ?_
        have ⟨hg, h⟩ := gIx_s h
        refine al_M29 (σ := σ) M (f := (σ.2.1 23)) rfl hg dt_X12_feasts_7.2.2.1.1 ?_
        refine z_imul M dt_X12_feasts_7.2.2.1.2 ?_
        have hJ7 : G σ [(0, .ref (a 0)), (2, .int v2), (3, .int v3), (4, .int v4)] 222 [.int (if ((σ.2.1 22) (Int32.toNatClampNeg v4)) ≤ ((2 : Int32) * ((σ.2.1 23) (Int32.toNatClampNeg ((v2 - (1 : Int32)) / (2 : Int32))))) then (0 : Int32) else (jShl (1 : Int32) v4)), .int v3] := by
          refine z_ior M dt_X12_feasts_8.1.2.2 ?_
          refine z_istore_n (lv' := [(3, .int (v3 ||| (if ((σ.2.1 22) (Int32.toNatClampNeg v4)) ≤ ((2 : Int32) * ((σ.2.1 23) (Int32.toNatClampNeg ((v2 - (1 : Int32)) / (2 : Int32))))) then (0 : Int32) else (jShl (1 : Int32) v4)))), (0, .ref (a 0)), (2, .int v2), (4, .int v4)]) M dt_X12_feasts_8.2.1.1.1 rfl (by decide) rfl ?_
          refine z_iinc (v := (v4 + (1 : Int32))) (lv' := [(4, .int (v4 + (1 : Int32))), (3, .int (v3 ||| (if ((σ.2.1 22) (Int32.toNatClampNeg v4)) ≤ ((2 : Int32) * ((σ.2.1 23) (Int32.toNatClampNeg ((v2 - (1 : Int32)) / (2 : Int32))))) then (0 : Int32) else (jShl (1 : Int32) v4)))), (0, .ref (a 0)), (2, .int v2)]) M dt_X12_feasts_8.2.1.1.2 (k := 3) rfl (congrArg (fun q => v4 + q) ki_1) (by decide) rfl ?_
          refine z_goto (tgt := 180) M dt_X12_feasts_8.2.1.2 (by decide) ?_
          refine z_sub M [2, 3, 1, 0] (lv' := [(0, .ref (a 0)), (2, .int v2), (3, .int (v3 ||| (if ((σ.2.1 22) (Int32.toNatClampNeg v4)) ≤ ((2 : Int32) * ((σ.2.1 23) (Int32.toNatClampNeg ((v2 - (1 : Int32)) / (2 : Int32))))) then (0 : Int32) else (jShl (1 : Int32) v4)))), (4, .int (v4 + (1 : Int32)))]) rfl ?_
          exact ih (v3 ||| (if ((σ.2.1 22) (Int32.toNatClampNeg v4)) ≤ ((2 : Int32) * ((σ.2.1 23) (Int32.toNatClampNeg ((v2 - (1 : Int32)) / (2 : Int32))))) then (0 : Int32) else (jShl (1 : Int32) v4))) (v4 + (1 : Int32)) h
        refine z_icmp_le (tgt := 221) M dt_X12_feasts_7.2.2.2.1 (by decide) (fun hc6 => ?_) (fun hc6 => ?_)
        · refine z_iconst M dt_X12_feasts_8.1.2.1 ki_0 ?_
          exact (zTt hc6 hJ7)
        · refine z_iconst M dt_X12_feasts_7.2.2.2.2 ki_1 ?_
          refine z_iload M dt_X12_feasts_8.1.1.1.1 3 rfl ?_
          refine z_ishl M dt_X12_feasts_8.1.1.1.2 ?_
          refine z_goto (tgt := 222) M dt_X12_feasts_8.1.1.2 (by decide) ?_
          exact (zTf hc6 hJ7)
set_option maxHeartbeats 4000000 in
set_option maxRecDepth 100000 in
theorem wJ_X12_feasts_175 {o : (Zst × Int32)} (M : zM l D zcl (zty cy) A ad (zR 3) (mW a cy ad) RX12 cX12_feasts 5 (some .int) o.1 (some (.int o.2)) G) (σ : Zst) (v2 : Int32)  (h : J_X12_feasts_175 σ v2 = some o) : G σ [(0, .ref (a 0)), (2, .int v2)] 175 [] := by
  refine z_iconst M dt_X12_feasts_6.1.2.2.1 ki_0 ?_
  refine z_istore_n (lv' := [(3, .int (0 : Int32)), (0, .ref (a 0)), (2, .int v2)]) M dt_X12_feasts_6.1.2.2.2 rfl (by decide) rfl ?_
  refine z_iconst M dt_X12_feasts_6.2.1.1.1 ki_0 ?_
  refine z_istore (lv' := [(4, .int (0 : Int32)), (3, .int (0 : Int32)), (0, .ref (a 0)), (2, .int v2)]) M dt_X12_feasts_6.2.1.1.2 (by decide) rfl ?_
  refine z_sub M [2, 3, 1, 0] (lv' := [(0, .ref (a 0)), (2, .int v2), (3, .int (0 : Int32)), (4, .int (0 : Int32))]) rfl ?_
  exact wL_X12_feasts_180 M  σ v2 zFu (0 : Int32) (0 : Int32) h
set_option maxHeartbeats 4000000 in
set_option maxRecDepth 100000 in
theorem m_X12_feasts (hD : ∀ σ, va_D A (mW a cy ad σ)) {σ : Zst} {p0 : Int32} {o : (Zst × Int32)} (h : f_X12_feasts σ p0 = some o) : zT l D zcl (zty cy) A ad (mW a cy ad) yX12_feasts cX12_feasts 5 (some .int) 3 [.ref (a 0), .int p0] σ o.1 (some (.int o.2)) := by
  refine z_met pn_X12 hD (Nat.le_of_ble_eq_true rfl) rfl (fun G M => ?_)
  refine z_aload_n M dt_X12_feasts_0.1.1.1.1 rfl 0 rfl ?_
  refine z_iconst M dt_X12_feasts_0.1.1.1.2 ki_0 ?_
  refine pf_X12_thrown M u1960 dt_X12_feasts_0.1.1.2.1 ?_
  refine z_aload_n M dt_X12_feasts_0.1.1.2.2 rfl 0 rfl ?_
  refine z_iload_n M dt_X12_feasts_0.1.2.1.1 rfl 1 rfl ?_
  refine k_X12_isStreet M u1659 (Nat.le_of_ble_eq_true rfl) (Nat.le_of_ble_eq_true rfl) dt_X12_feasts_0.1.2.1.2 ?_
  refine z_if_ne (tgt := 15) M dt_X12_feasts_0.1.2.2.1 (by decide) (fun hc => ?_) (fun hc => ?_)
  · have h := gIf hc h
    refine z_iconst M dt_X12_feasts_0.2.1.1.2 ki_0 ?_
    refine z_istore_n (lv' := [(2, .int (0 : Int32)), (0, .ref (a 0)), (1, .int p0)]) M dt_X12_feasts_0.2.1.2.1 rfl (by decide) rfl ?_
    refine z_iconst M dt_X12_feasts_0.2.1.2.2 ki_0 ?_
    refine z_istore_n (lv' := [(3, .int (0 : Int32)), (2, .int (0 : Int32)), (0, .ref (a 0)), (1, .int p0)]) M dt_X12_feasts_0.2.2.1.1 rfl (by decide) rfl ?_
    refine z_sub M [2, 3, 1, 0] (lv' := [(0, .ref (a 0)), (1, .int p0), (2, .int (0 : Int32)), (3, .int (0 : Int32))]) rfl ?_
    exact wL_X12_feasts_19 M (k175 := (fun σ9 w8 => J_X12_feasts_175 σ9 w8)) p0 (fun σ9 w8 h => by
        exact wJ_X12_feasts_175 M  σ9 w8 h) zFu (zI σ 0 (0 : Int32)) (0 : Int32) (0 : Int32) h
  · have h := gIt hc h
    refine z_iconst M dt_X12_feasts_0.1.2.2.2 ki_m1 ?_
    obtain rfl := Option.some.inj h
    exact z_iret M dt_X12_feasts_0.2.1.1.1
set_option maxHeartbeats 4000000 in
set_option maxRecDepth 100000 in
theorem m_X12_isNeed (hD : ∀ σ, va_D A (mW a cy ad σ)) (σ0 : Zst) (p0 : Int32) (p1 : Int32) (p2 : Int32) (p3 : Int32) : zT l D zcl (zty cy) A ad (mW a cy ad) yX12_isNeed cX12_isNeed 5 (some .boolean) 3 [.ref (a 0), .int p0, .int p1, .int p2, .int p3] σ0 σ0 (some (.int (f_X12_isNeed σ0 p0 p1 p2 p3))) := by
  obtain ⟨o, h⟩ : ∃ o, f_X12_isNeed σ0 p0 p1 p2 p3 = o := ⟨_, rfl⟩
  rw [h]
  refine z_met pn_X12 hD (Nat.le_of_ble_eq_true rfl) rfl (fun G M => ?_)
  refine z_iload_n M dt_X12_isNeed_0.1.1.1.1 rfl 1 rfl ?_
  refine k_X12_isKind M u1547 (Nat.le_of_ble_eq_true rfl) (Nat.le_of_ble_eq_true rfl) dt_X12_isNeed_0.1.1.1.2 ?_
  have hJ5 : G σ0 [(0, .ref (a 0)), (1, .int p0), (2, .int p1), (3, .int p2), (4, .int p3)] 45 [.int (if (f_X12_isKind p0) = (0 : Int32) then (0 : Int32) else (if (f_X12_isSort σ0 p1) = (0 : Int32) then (0 : Int32) else (if (f_X12_in (Int32.toInt64 p2) (0 : Int64) (999 : Int64)) = (0 : Int32) then (0 : Int32) else (if (f_X12_in (Int32.toInt64 p3) (1 : Int64) (100 : Int64)) = (0 : Int32) then (0 : Int32) else (1 : Int32)))))] := by
    subst h
    exact z_zret M (nBo (boIte (Or.inl rfl) (boIte (Or.inl rfl) (boIte (Or.inl rfl) (boIte (Or.inl rfl) (Or.inr rfl)))))) dt_X12_isNeed_1.2.2
  refine z_if_eq (tgt := 44) M dt_X12_isNeed_0.1.1.2.1 (by decide) (fun hc1 => ?_) (fun hc1 => ?_)
  · refine z_iconst M dt_X12_isNeed_1.2.1.2 ki_0 ?_
    exact (zTt hc1 hJ5)
  · refine z_aload_n M dt_X12_isNeed_0.1.1.2.2 rfl 0 rfl ?_
    refine z_iload_n M dt_X12_isNeed_0.1.2.1.1 rfl 2 rfl ?_
    refine k_X12_isSort M u1526 (Nat.le_of_ble_eq_true rfl) (Nat.le_of_ble_eq_true rfl) dt_X12_isNeed_0.1.2.1.2 ?_
    refine z_if_eq (tgt := 44) M dt_X12_isNeed_0.1.2.2.1 (by decide) (fun hc2 => ?_) (fun hc2 => ?_)
    · refine z_iconst M dt_X12_isNeed_1.2.1.2 ki_0 ?_
      exact (zTt hc2 (zTf hc1 hJ5))
    · refine z_iload_n M dt_X12_isNeed_0.1.2.2.2 rfl 3 rfl ?_
      refine z_i2l M dt_X12_isNeed_0.2.1.1.1 ?_
      refine z_lconst (v := 0) M dt_X12_isNeed_0.2.1.1.2 (by decide) ?_
      refine z_ldc2 M dt_X12_isNeed_0.2.1.2.1 u1555 ?_
      refine k_X12_in M u1517 (Nat.le_of_ble_eq_true rfl) (Nat.le_of_ble_eq_true rfl) dt_X12_isNeed_0.2.1.2.2 ?_
      refine z_if_eq (tgt := 44) M dt_X12_isNeed_0.2.2.1.1 (by decide) (fun hc3 => ?_) (fun hc3 => ?_)
      · refine z_iconst M dt_X12_isNeed_1.2.1.2 ki_0 ?_
        exact (zTt hc3 (zTf hc2 (zTf hc1 hJ5)))
      · refine z_iload M dt_X12_isNeed_0.2.2.1.2 4 rfl ?_
        refine z_i2l M dt_X12_isNeed_0.2.2.2.1 ?_
        refine z_lconst (v := 1) M dt_X12_isNeed_0.2.2.2.2 (by decide) ?_
        refine z_ldc2 M dt_X12_isNeed_1.1.1.1 u1516 ?_
        refine k_X12_in M u1517 (Nat.le_of_ble_eq_true rfl) (Nat.le_of_ble_eq_true rfl) dt_X12_isNeed_1.1.1.2 ?_
        refine z_if_eq (tgt := 44) M dt_X12_isNeed_1.1.2.1 (by decide) (fun hc4 => ?_) (fun hc4 => ?_)
        · refine z_iconst M dt_X12_isNeed_1.2.1.2 ki_0 ?_
          exact (zTt hc4 (zTf hc3 (zTf hc2 (zTf hc1 hJ5))))
        · refine z_iconst M dt_X12_isNeed_1.1.2.2 ki_1 ?_
          refine z_goto (tgt := 45) M dt_X12_isNeed_1.2.1.1 (by decide) ?_
          exact (zTf hc4 (zTf hc3 (zTf hc2 (zTf hc1 hJ5))))
theorem k_X12_isNeed {n : Nat} (M : zM l D zcl (zty cy) A ad (zR n) (mW a cy ad) own cc nL rt σo ov G) {p0 : Int32} {p1 : Int32} {p2 : Int32} {p3 : Int32} {index : Nat} (hl : Cond.methodLink own index yX12_isNeed ∈ uw) (hR : 4 ≤ n) (hW : (st.map fun v => v.category).sum ≤ 8) (d : decode cc pc = .ok (.invokevirtual index, 3)) (kk : G σ lv (pc + 3) (.int (f_X12_isNeed σ p0 p1 p2 p3) :: st)) : G σ lv pc (.int p3 :: .int p2 :: .int p1 :: .int p0 :: .ref (a 0) :: st) := z_callV M [.int p0, .int p1, .int p2, .int p3] (m_X12_isNeed (zM_hD M) σ p0 p1 p2 p3) (hM0 σ) rfl hl u99 u1878 u1877 u79 hd_X12_isNeed hR (by decide) rfl hW d kk
set_option maxHeartbeats 4000000 in
set_option maxRecDepth 100000 in
theorem wL_X12_fewest_15 {o : (Zst × Int32)} (M : zM l D zcl (zty cy) A ad (zR 2) (mW a cy ad) RX12 cX12_fewest 12 (some .int) o.1 (some (.int o.2)) G) {k40 : Int64 → Option (Zst × Int32)} (σ : Zst) (v1 : Int32) (v2 : Int32) (Hk40 : ∀ (w3 : Int64), k40 w3 = some o → G σ [(0, .ref (a 0)), (1, .int v1), (2, .int v2), (3, .long w3)] 40 []) :
    ∀ (n15 : Nat) (v3 : Int64) (v5 : Int32), L_X12_fewest_15 k40 σ v1 v2 n15 v3 v5 = some o → G σ [(0, .ref (a 0)), (1, .int v1), (2, .int v2), (3, .long v3), (5, .int v5)] 15 [] := by
  intro n15
  induction n15 with
  | zero => intro v3 v5 h; exact nomatch (show (none : Option (Zst × Int32)) = some _ from h)
  | succ n15 ih =>
    intro v3 v5 h
    refine z_iload M dt_X12_fewest_0.2.1.1.2 4 rfl ?_
    refine z_aload_n M dt_X12_fewest_0.2.1.2.1 rfl 0 rfl ?_
    refine gf_X12_meanMany (σ := σ) M u2013 dt_X12_fewest_0.2.1.2.2 (v := (σ.1 22)) rfl ?_
    refine z_icmp_ge (tgt := 40) M dt_X12_fewest_0.2.2.1.1 (by decide) (fun hc => ?_) (fun hc => ?_)
    · have h := gIt hc h
      refine z_sub M [0, 1, 2, 3] (lv' := [(0, .ref (a 0)), (1, .int v1), (2, .int v2), (3, .long v3)]) rfl ?_
      exact Hk40 v3 h
    · have h := gIf hc h
      refine z_lload_n M dt_X12_fewest_0.2.2.1.2 rfl 3 rfl ?_
      refine z_aload_n M dt_X12_fewest_0.2.2.2.1 rfl 0 rfl ?_
      refine gf_X12_meanOf M u2012 dt_X12_fewest_0.2.2.2.2 ?_
      refine z_iload M dt_X12_fewest_1.1.1.1.1 4 rfl ?_
      have ⟨hg, h⟩ := gIx_s h
      refine al_M30 (σ := σ) M (f := (σ.2.2.1 5)) rfl hg dt_X12_fewest_1.1.1.1.2 ?_
      refine z_ladd M dt_X12_fewest_1.1.1.2.1 ?_
      refine z_lstore_n (lv' := [(3, .long (v3 + ((σ.2.2.1 5) (Int32.toNatClampNeg v5)))), (0, .ref (a 0)), (1, .int v1), (2, .int v2), (5, .int v5)]) M dt_X12_fewest_1.1.1.2.2 rfl (by decide) rfl ?_
      refine z_iinc (v := (v5 + (1 : Int32))) (lv' := [(5, .int (v5 + (1 : Int32))), (3, .long (v3 + ((σ.2.2.1 5) (Int32.toNatClampNeg v5)))), (0, .ref (a 0)), (1, .int v1), (2, .int v2)]) M dt_X12_fewest_1.1.2.1.1 (k := 4) rfl (congrArg (fun q => v5 + q) ki_1) (by decide) rfl ?_
      refine z_goto (tgt := 15) M dt_X12_fewest_1.1.2.1.2 (by decide) ?_
      refine z_sub M [2, 3, 4, 1, 0] (lv' := [(0, .ref (a 0)), (1, .int v1), (2, .int v2), (3, .long (v3 + ((σ.2.2.1 5) (Int32.toNatClampNeg v5)))), (5, .int (v5 + (1 : Int32)))]) rfl ?_
      exact ih (v3 + ((σ.2.2.1 5) (Int32.toNatClampNeg v5))) (v5 + (1 : Int32)) h
set_option maxHeartbeats 4000000 in
set_option maxRecDepth 100000 in
theorem wL_X12_fewest_91 {o : (Zst × Int32)} (M : zM l D zcl (zty cy) A ad (zR 2) (mW a cy ad) RX12 cX12_fewest 12 (some .int) o.1 (some (.int o.2)) G) {k132 : Int64 → Option (Zst × Int32)} (σ : Zst) (v1 : Int32) (v2 : Int32) (v3 : Int64) (v5 : Int32) (v6 : Int32) (v7 : Int32) (v8 : Int32) (Hk132 : ∀ (w9 : Int64), k132 w9 = some o → G σ [(0, .ref (a 0)), (1, .int v1), (2, .int v2), (3, .long v3), (5, .int v5), (6, .int v6), (7, .int v7), (8, .int v8), (9, .long w9)] 132 []) :
    ∀ (n91 : Nat) (v9 : Int64) (v11 : Int32), L_X12_fewest_91 k132 σ v1 v2 v3 v5 v6 v7 v8 n91 v9 v11 = some o → G σ [(0, .ref (a 0)), (1, .int v1), (2, .int v2), (3, .long v3), (5, .int v5), (6, .int v6), (7, .int v7), (8, .int v8), (9, .long v9), (11, .int v11)] 91 [] := by
  intro n91
  induction n91 with
  | zero => intro v9 v11 h; exact nomatch (show (none : Option (Zst × Int32)) = some _ from h)
  | succ n91 ih =>
    intro v9 v11 h
    refine z_iload M dt_X12_fewest_3.1.1.1.2 9 rfl ?_
    refine z_aload_n M dt_X12_fewest_3.1.1.2.1 rfl 0 rfl ?_
    refine gf_X12_meanMany (σ := σ) M u2013 dt_X12_fewest_3.1.1.2.2 (v := (σ.1 22)) rfl ?_
    refine z_icmp_ge (tgt := 132) M dt_X12_fewest_3.1.2.1.1 (by decide) (fun hc => ?_) (fun hc => ?_)
    · have h := gIt hc h
      refine z_sub M [0, 1, 2, 3, 4, 5, 6, 7, 8] (lv' := [(0, .ref (a 0)), (1, .int v1), (2, .int v2), (3, .long v3), (5, .int v5), (6, .int v6), (7, .int v7), (8, .int v8), (9, .long v9)]) rfl ?_
      exact Hk132 v9 h
    · have h := gIf hc h
      refine z_lload M dt_X12_fewest_3.1.2.1.2 8 rfl ?_
      refine z_iload M dt_X12_fewest_3.1.2.2.1 7 rfl ?_
      refine z_iload M dt_X12_fewest_3.1.2.2.2 9 rfl ?_
      refine k_X12_has M u1701 (Nat.le_of_ble_eq_true rfl) (Nat.le_of_ble_eq_true rfl) dt_X12_fewest_3.2.1.1.1 ?_
      refine z_if_eq (tgt := 122) M dt_X12_fewest_3.2.1.1.2 (by decide) (fun hc => ?_) (fun hc => ?_)
      · have h := gIt hc h
        refine z_lconst (v := 0) M dt_X12_fewest_3.2.2.2.2 (by decide) ?_
        refine z_ladd M dt_X12_fewest_4.1.1.1.1 ?_
        refine z_lstore (lv' := [(9, .long (v9 + (0 : Int64))), (0, .ref (a 0)), (1, .int v1), (2, .int v2), (3, .long v3), (5, .int v5), (6, .int v6), (7, .int v7), (8, .int v8), (11, .int v11)]) M dt_X12_fewest_4.1.1.1.2 (by decide) rfl ?_
        refine z_iinc (v := (v11 + (1 : Int32))) (lv' := [(11, .int (v11 + (1 : Int32))), (9, .long (v9 + (0 : Int64))), (0, .ref (a 0)), (1, .int v1), (2, .int v2), (3, .long v3), (5, .int v5), (6, .int v6), (7, .int v7), (8, .int v8)]) M dt_X12_fewest_4.1.1.2.1 (k := 9) rfl (congrArg (fun q => v11 + q) ki_1) (by decide) rfl ?_
        refine z_goto (tgt := 91) M dt_X12_fewest_4.1.1.2.2 (by decide) ?_
        refine z_sub M [2, 3, 4, 5, 6, 7, 8, 9, 1, 0] (lv' := [(0, .ref (a 0)), (1, .int v1), (2, .int v2), (3, .long v3), (5, .int v5), (6, .int v6), (7, .int v7), (8, .int v8), (9, .long (v9 + (0 : Int64))), (11, .int (v11 + (1 : Int32)))]) rfl ?_
        exact ih (v9 + (0 : Int64)) (v11 + (1 : Int32)) h
      · have h := gIf hc h
        refine z_aload_n M dt_X12_fewest_3.2.1.2.1 rfl 0 rfl ?_
        refine gf_X12_meanOf M u2012 dt_X12_fewest_3.2.1.2.2 ?_
        refine z_iload M dt_X12_fewest_3.2.2.1.1 9 rfl ?_
        have ⟨hg, h⟩ := gIx_s h
        refine al_M30 (σ := σ) M (f := (σ.2.2.1 5)) rfl hg dt_X12_fewest_3.2.2.1.2 ?_
        refine z_goto (tgt := 123) M dt_X12_fewest_3.2.2.2.1 (by decide) ?_
        refine z_ladd M dt_X12_fewest_4.1.1.1.1 ?_
        refine z_lstore (lv' := [(9, .long (v9 + ((σ.2.2.1 5) (Int32.toNatClampNeg v11)))), (0, .ref (a 0)), (1, .int v1), (2, .int v2), (3, .long v3), (5, .int v5), (6, .int v6), (7, .int v7), (8, .int v8), (11, .int v11)]) M dt_X12_fewest_4.1.1.1.2 (by decide) rfl ?_
        refine z_iinc (v := (v11 + (1 : Int32))) (lv' := [(11, .int (v11 + (1 : Int32))), (9, .long (v9 + ((σ.2.2.1 5) (Int32.toNatClampNeg v11)))), (0, .ref (a 0)), (1, .int v1), (2, .int v2), (3, .long v3), (5, .int v5), (6, .int v6), (7, .int v7), (8, .int v8)]) M dt_X12_fewest_4.1.1.2.1 (k := 9) rfl (congrArg (fun q => v11 + q) ki_1) (by decide) rfl ?_
        refine z_goto (tgt := 91) M dt_X12_fewest_4.1.1.2.2 (by decide) ?_
        refine z_sub M [2, 3, 4, 5, 6, 7, 8, 9, 1, 0] (lv' := [(0, .ref (a 0)), (1, .int v1), (2, .int v2), (3, .long v3), (5, .int v5), (6, .int v6), (7, .int v7), (8, .int v8), (9, .long (v9 + ((σ.2.2.1 5) (Int32.toNatClampNeg v11)))), (11, .int (v11 + (1 : Int32)))]) rfl ?_
        exact ih (v9 + ((σ.2.2.1 5) (Int32.toNatClampNeg v11))) (v11 + (1 : Int32)) h
set_option maxHeartbeats 4000000 in
set_option maxRecDepth 100000 in
theorem wJ_X12_fewest_132 {o : (Zst × Int32)} (M : zM l D zcl (zty cy) A ad (zR 2) (mW a cy ad) RX12 cX12_fewest 12 (some .int) o.1 (some (.int o.2)) G) {k61 : Int32 → Int32 → Int32 → Option (Zst × Int32)} (σ : Zst) (v1 : Int32) (v2 : Int32) (v3 : Int64) (v5 : Int32) (v6 : Int32) (v7 : Int32) (v8 : Int32) (v9 : Int64) (Hk61 : ∀ (w6 : Int32) (w7 : Int32) (w8 : Int32), k61 w6 w7 w8 = some o → G σ [(0, .ref (a 0)), (1, .int v1), (2, .int v2), (3, .long v3), (5, .int v5), (6, .int w6), (7, .int w7), (8, .int w8)] 61 []) (h : J_X12_fewest_132 k61 σ v1 v2 v3 v5 v6 v7 v8 v9 = some o) : G σ [(0, .ref (a 0)), (1, .int v1), (2, .int v2), (3, .long v3), (5, .int v5), (6, .int v6), (7, .int v7), (8, .int v8), (9, .long v9)] 132 [] := by
  refine z_iinc (v := (v6 + (1 : Int32))) (lv' := [(6, .int (v6 + (1 : Int32))), (0, .ref (a 0)), (1, .int v1), (2, .int v2), (3, .long v3), (5, .int v5), (7, .int v7), (8, .int v8), (9, .long v9)]) M dt_X12_fewest_4.1.2.1.1 (k := 5) rfl (congrArg (fun q => v6 + q) ki_1) (by decide) rfl ?_
  refine z_iload M dt_X12_fewest_4.1.2.1.2 6 rfl ?_
  refine z_lload M dt_X12_fewest_4.1.2.2.1 8 rfl ?_
  refine z_aload_n M dt_X12_fewest_4.1.2.2.2 rfl 1 rfl ?_
  refine gf_X12_meanMany (σ := σ) M u2013 dt_X12_fewest_4.2.1.1.1 (v := (σ.1 22)) rfl ?_
  refine z_i2l M dt_X12_fewest_4.2.1.1.2 ?_
  refine z_lmul M dt_X12_fewest_4.2.1.2.1 ?_
  refine z_lload_n M dt_X12_fewest_4.2.1.2.2 rfl 4 rfl ?_
  refine z_iload M dt_X12_fewest_4.2.2.1.1 5 rfl ?_
  refine z_i2l M dt_X12_fewest_4.2.2.1.2 ?_
  refine z_lmul M dt_X12_fewest_4.2.2.2.1 ?_
  refine z_lsub M dt_X12_fewest_4.2.2.2.2 ?_
  refine z_mabsL M u1888 u899 u100 u900 (Nat.le_of_ble_eq_true rfl) (Nat.le_of_ble_eq_true rfl) dt_X12_fewest_5.1.1.1.1 ?_
  refine z_iload_n M dt_X12_fewest_5.1.1.1.2 rfl 2 rfl ?_
  refine z_i2l M dt_X12_fewest_5.1.1.2.1 ?_
  refine z_ldc2 M dt_X12_fewest_5.1.1.2.2 u1883 ?_
  refine z_lmul M dt_X12_fewest_5.1.2.1.1 ?_
  refine z_iload M dt_X12_fewest_5.1.2.1.2 5 rfl ?_
  refine z_i2l M dt_X12_fewest_5.1.2.2.1 ?_
  refine z_lmul M dt_X12_fewest_5.1.2.2.2 ?_
  refine z_aload_n M dt_X12_fewest_5.2.1.1.1 rfl 1 rfl ?_
  refine gf_X12_meanMany (σ := σ) M u2013 dt_X12_fewest_5.2.1.1.2 (v := (σ.1 22)) rfl ?_
  refine z_i2l M dt_X12_fewest_5.2.1.2.1 ?_
  refine z_lmul M dt_X12_fewest_5.2.1.2.2 ?_
  have hJ2 : G σ [(6, .int (v6 + (1 : Int32))), (0, .ref (a 0)), (1, .int v1), (2, .int v2), (3, .long v3), (5, .int v5), (7, .int v7), (8, .int v8), (9, .long v9)] 179 [.int (if ((((Int32.toInt64 v1) * (27720 : Int64)) * (Int32.toInt64 v5)) * (Int32.toInt64 (σ.1 22))) < (jAbsL ((v9 * (Int32.toInt64 (σ.1 22))) - (v3 * (Int32.toInt64 v5)))) then (0 : Int32) else (1 : Int32)), .int v7] := by
    refine k_X12_flag M u1675 (Nat.le_of_ble_eq_true rfl) (Nat.le_of_ble_eq_true rfl) dt_X12_fewest_6.1.1.1.2 ?_
    refine z_iadd M dt_X12_fewest_6.1.1.2.1 ?_
    refine z_istore (lv' := [(7, .int (v7 + (f_X12_flag (if ((((Int32.toInt64 v1) * (27720 : Int64)) * (Int32.toInt64 v5)) * (Int32.toInt64 (σ.1 22))) < (jAbsL ((v9 * (Int32.toInt64 (σ.1 22))) - (v3 * (Int32.toInt64 v5)))) then (0 : Int32) else (1 : Int32))))), (6, .int (v6 + (1 : Int32))), (0, .ref (a 0)), (1, .int v1), (2, .int v2), (3, .long v3), (5, .int v5), (8, .int v8), (9, .long v9)]) M dt_X12_fewest_6.1.1.2.2 (by decide) rfl ?_
    refine z_iinc (v := (v8 + (1 : Int32))) (lv' := [(8, .int (v8 + (1 : Int32))), (7, .int (v7 + (f_X12_flag (if ((((Int32.toInt64 v1) * (27720 : Int64)) * (Int32.toInt64 v5)) * (Int32.toInt64 (σ.1 22))) < (jAbsL ((v9 * (Int32.toInt64 (σ.1 22))) - (v3 * (Int32.toInt64 v5)))) then (0 : Int32) else (1 : Int32))))), (6, .int (v6 + (1 : Int32))), (0, .ref (a 0)), (1, .int v1), (2, .int v2), (3, .long v3), (5, .int v5), (9, .long v9)]) M dt_X12_fewest_6.1.2.1.1 (k := 7) rfl (congrArg (fun q => v8 + q) ki_1) (by decide) rfl ?_
    refine z_goto (tgt := 61) M dt_X12_fewest_6.1.2.1.2 (by decide) ?_
    refine z_sub M [3, 4, 5, 6, 7, 2, 1, 0] (lv' := [(0, .ref (a 0)), (1, .int v1), (2, .int v2), (3, .long v3), (5, .int v5), (6, .int (v6 + (1 : Int32))), (7, .int (v7 + (f_X12_flag (if ((((Int32.toInt64 v1) * (27720 : Int64)) * (Int32.toInt64 v5)) * (Int32.toInt64 (σ.1 22))) < (jAbsL ((v9 * (Int32.toInt64 (σ.1 22))) - (v3 * (Int32.toInt64 v5)))) then (0 : Int32) else (1 : Int32))))), (8, .int (v8 + (1 : Int32)))]) rfl ?_
    exact Hk61 (v6 + (1 : Int32)) (v7 + (f_X12_flag (if ((((Int32.toInt64 v1) * (27720 : Int64)) * (Int32.toInt64 v5)) * (Int32.toInt64 (σ.1 22))) < (jAbsL ((v9 * (Int32.toInt64 (σ.1 22))) - (v3 * (Int32.toInt64 v5)))) then (0 : Int32) else (1 : Int32)))) (v8 + (1 : Int32)) h
  refine z_lcmp_gt (tgt := 178) M dt_X12_fewest_5.2.2.1.1 dt_X12_fewest_5.2.2.1.2 (by decide) (fun hc1 => ?_) (fun hc1 => ?_)
  · refine z_iconst M dt_X12_fewest_6.1.1.1.1 ki_0 ?_
    exact (zTt hc1 hJ2)
  · refine z_iconst M dt_X12_fewest_5.2.2.2.1 ki_1 ?_
    refine z_goto (tgt := 179) M dt_X12_fewest_5.2.2.2.2 (by decide) ?_
    exact (zTf hc1 hJ2)
set_option maxHeartbeats 4000000 in
set_option maxRecDepth 100000 in
theorem wL_X12_fewest_61 {o : (Zst × Int32)} (M : zM l D zcl (zty cy) A ad (zR 2) (mW a cy ad) RX12 cX12_fewest 12 (some .int) o.1 (some (.int o.2)) G) {k191 : Int32 → Int32 → Option (Zst × Int32)} (σ : Zst) (v1 : Int32) (v2 : Int32) (v3 : Int64) (v5 : Int32) (Hk191 : ∀ (w6 : Int32) (w7 : Int32), k191 w6 w7 = some o → G σ [(0, .ref (a 0)), (1, .int v1), (2, .int v2), (3, .long v3), (5, .int v5), (6, .int w6), (7, .int w7)] 191 []) :
    ∀ (n61 : Nat) (v6 : Int32) (v7 : Int32) (v8 : Int32), L_X12_fewest_61 k191 σ v1 v2 v3 v5 n61 v6 v7 v8 = some o → G σ [(0, .ref (a 0)), (1, .int v1), (2, .int v2), (3, .long v3), (5, .int v5), (6, .int v6), (7, .int v7), (8, .int v8)] 61 [] := by
  intro n61
  induction n61 with
  | zero => intro v6 v7 v8 h; exact nomatch (show (none : Option (Zst × Int32)) = some _ from h)
  | succ n61 ih =>
    intro v6 v7 v8 h
    refine z_iload M dt_X12_fewest_2.1.1.2.1 7 rfl ?_
    refine z_iconst M dt_X12_fewest_2.1.1.2.2 ki_1 ?_
    refine z_aload_n M dt_X12_fewest_2.1.2.1.1 rfl 0 rfl ?_
    refine gf_X12_meanMany (σ := σ) M u2013 dt_X12_fewest_2.1.2.1.2 (v := (σ.1 22)) rfl ?_
    refine z_ishl M dt_X12_fewest_2.1.2.2.1 ?_
    refine z_icmp_ge (tgt := 191) M dt_X12_fewest_2.1.2.2.2 (by decide) (fun hc => ?_) (fun hc => ?_)
    · have h := gIt hc h
      refine z_sub M [0, 1, 2, 3, 4, 5, 6] (lv' := [(0, .ref (a 0)), (1, .int v1), (2, .int v2), (3, .long v3), (5, .int v5), (6, .int v6), (7, .int v7)]) rfl ?_
      exact Hk191 v6 v7 h
    · have h := gIf hc h
      refine z_iload M dt_X12_fewest_2.2.1.1.1 7 rfl ?_
      refine k_J6_bitCount_0f7a4 M u1837 (Nat.le_of_ble_eq_true rfl) (Nat.le_of_ble_eq_true rfl) dt_X12_fewest_2.2.1.1.2 ?_
      refine z_iload M dt_X12_fewest_2.2.1.2.1 4 rfl ?_
      refine z_icmp_eq (tgt := 85) M dt_X12_fewest_2.2.1.2.2 (by decide) (fun hc => ?_) (fun hc => ?_)
      · have h := gIt hc h
        refine z_lconst (v := 0) M dt_X12_fewest_2.2.2.1.2 (by decide) ?_
        refine z_lstore (lv' := [(9, .long (0 : Int64)), (0, .ref (a 0)), (1, .int v1), (2, .int v2), (3, .long v3), (5, .int v5), (6, .int v6), (7, .int v7), (8, .int v8)]) M dt_X12_fewest_2.2.2.2.1 (by decide) rfl ?_
        refine z_iconst M dt_X12_fewest_2.2.2.2.2 ki_0 ?_
        refine z_istore (lv' := [(11, .int (0 : Int32)), (9, .long (0 : Int64)), (0, .ref (a 0)), (1, .int v1), (2, .int v2), (3, .long v3), (5, .int v5), (6, .int v6), (7, .int v7), (8, .int v8)]) M dt_X12_fewest_3.1.1.1.1 (by decide) rfl ?_
        refine z_sub M [2, 3, 4, 5, 6, 7, 8, 9, 1, 0] (lv' := [(0, .ref (a 0)), (1, .int v1), (2, .int v2), (3, .long v3), (5, .int v5), (6, .int v6), (7, .int v7), (8, .int v8), (9, .long (0 : Int64)), (11, .int (0 : Int32))]) rfl ?_
        exact wL_X12_fewest_91 M (k132 := (fun w3 => J_X12_fewest_132 (fun w6 w7 w8 => L_X12_fewest_61 k191 σ v1 v2 v3 v5 n61 w6 w7 w8) σ v1 v2 v3 v5 v6 v7 v8 w3)) σ v1 v2 v3 v5 v6 v7 v8 (fun w3 h => by
            exact wJ_X12_fewest_132 M (k61 := (fun w6 w7 w8 => L_X12_fewest_61 k191 σ v1 v2 v3 v5 n61 w6 w7 w8)) σ v1 v2 v3 v5 v6 v7 v8 w3 ih h) zFu (0 : Int64) (0 : Int32) h
      · have h := gIf hc h
        refine z_goto (tgt := 185) M dt_X12_fewest_2.2.2.1.1 (by decide) ?_
        refine z_iinc (v := (v8 + (1 : Int32))) (lv' := [(8, .int (v8 + (1 : Int32))), (0, .ref (a 0)), (1, .int v1), (2, .int v2), (3, .long v3), (5, .int v5), (6, .int v6), (7, .int v7)]) M dt_X12_fewest_6.1.2.1.1 (k := 7) rfl (congrArg (fun q => v8 + q) ki_1) (by decide) rfl ?_
        refine z_goto (tgt := 61) M dt_X12_fewest_6.1.2.1.2 (by decide) ?_
        refine z_sub M [1, 2, 3, 4, 5, 6, 7, 0] (lv' := [(0, .ref (a 0)), (1, .int v1), (2, .int v2), (3, .long v3), (5, .int v5), (6, .int v6), (7, .int v7), (8, .int (v8 + (1 : Int32)))]) rfl ?_
        exact ih v6 v7 (v8 + (1 : Int32)) h
set_option maxHeartbeats 4000000 in
set_option maxRecDepth 100000 in
theorem wJ_X12_fewest_191 {o : (Zst × Int32)} (M : zM l D zcl (zty cy) A ad (zR 2) (mW a cy ad) RX12 cX12_fewest 12 (some .int) o.1 (some (.int o.2)) G) {k43 : Int32 → Option (Zst × Int32)} {k203 : Int32 → Int32 → Int32 → Option (Zst × Int32)} (σ : Zst) (v1 : Int32) (v2 : Int32) (v3 : Int64) (v5 : Int32) (v6 : Int32) (v7 : Int32) (Hk43 : ∀ (w5 : Int32), k43 w5 = some o → G σ [(0, .ref (a 0)), (1, .int v1), (2, .int v2), (3, .long v3), (5, .int w5)] 43 []) (Hk203 : ∀ (w5 : Int32) (w6 : Int32) (w7 : Int32), k203 w5 w6 w7 = some o → G σ [(0, .ref (a 0)), (5, .int w5), (6, .int w6), (7, .int w7)] 203 []) (h : J_X12_fewest_191 k43 k203 σ v1 v2 v3 v5 v6 v7 = some o) : G σ [(0, .ref (a 0)), (1, .int v1), (2, .int v2), (3, .long v3), (5, .int v5), (6, .int v6), (7, .int v7)] 191 [] := by
  refine z_iload M dt_X12_fewest_6.1.2.2.1 6 rfl ?_
  refine z_bipush M dt_X12_fewest_6.1.2.2.2 kb_100 ?_
  refine z_imul M dt_X12_fewest_6.2.1.1.1 ?_
  refine z_iload_n M dt_X12_fewest_6.2.1.1.2 rfl 2 rfl ?_
  refine z_iload M dt_X12_fewest_6.2.1.2.1 5 rfl ?_
  refine z_imul M dt_X12_fewest_6.2.1.2.2 ?_
  refine z_icmp_lt (tgt := 225) M dt_X12_fewest_6.2.2.1.1 (by decide) (fun hc => ?_) (fun hc => ?_)
  · have h := gIt hc h
    refine z_iinc (v := (v5 + (1 : Int32))) (lv' := [(5, .int (v5 + (1 : Int32))), (0, .ref (a 0)), (1, .int v1), (2, .int v2), (3, .long v3), (6, .int v6), (7, .int v7)]) M dt_X12_fewest_7.2.1.2.2 (k := 4) rfl (congrArg (fun q => v5 + q) ki_1) (by decide) rfl ?_
    refine z_goto (tgt := 43) M dt_X12_fewest_7.2.2.1.1 (by decide) ?_
    refine z_sub M [1, 2, 3, 4, 0] (lv' := [(0, .ref (a 0)), (1, .int v1), (2, .int v2), (3, .long v3), (5, .int (v5 + (1 : Int32)))]) rfl ?_
    exact Hk43 (v5 + (1 : Int32)) h
  · have h := gIf hc h
    refine z_sub M [0, 4, 5, 6] (lv' := [(0, .ref (a 0)), (5, .int v5), (6, .int v6), (7, .int v7)]) rfl ?_
    exact Hk203 v5 v6 v7 h
set_option maxHeartbeats 4000000 in
set_option maxRecDepth 100000 in
theorem wL_X12_fewest_43 {o : (Zst × Int32)} (M : zM l D zcl (zty cy) A ad (zR 2) (mW a cy ad) RX12 cX12_fewest 12 (some .int) o.1 (some (.int o.2)) G) {k203 : Int32 → Int32 → Int32 → Option (Zst × Int32)} (σ : Zst) (v1 : Int32) (v2 : Int32) (v3 : Int64) (Hk203 : ∀ (w5 : Int32) (w6 : Int32) (w7 : Int32), k203 w5 w6 w7 = some o → G σ [(0, .ref (a 0)), (5, .int w5), (6, .int w6), (7, .int w7)] 203 []) :
    ∀ (n43 : Nat) (v5 : Int32), L_X12_fewest_43 k203 σ v1 v2 v3 n43 v5 = some o → G σ [(0, .ref (a 0)), (1, .int v1), (2, .int v2), (3, .long v3), (5, .int v5)] 43 [] := by
  intro n43
  induction n43 with
  | zero => intro v5 h; exact nomatch (show (none : Option (Zst × Int32)) = some _ from h)
  | succ n43 ih =>
    intro v5 h
    refine z_iload M dt_X12_fewest_1.2.1.1.1 4 rfl ?_
    refine z_aload_n M dt_X12_fewest_1.2.1.1.2 rfl 0 rfl ?_
    refine gf_X12_meanMany (σ := σ) M u2013 dt_X12_fewest_1.2.1.2.1 (v := (σ.1 22)) rfl ?_
    refine z_icmp_gt (tgt := 231) M dt_X12_fewest_1.2.1.2.2 (by decide) (fun hc => ?_) (fun hc => ?_)
    · have h := gIt hc h
      refine z_bipush M dt_X12_fewest_7.2.2.1.2 kb_m2 ?_
      obtain rfl := Option.some.inj h
      exact z_iret M dt_X12_fewest_7.2.2.2
    · have h := gIf hc h
      refine z_iconst M dt_X12_fewest_1.2.2.1.1 ki_0 ?_
      refine z_istore (lv' := [(6, .int (0 : Int32)), (0, .ref (a 0)), (1, .int v1), (2, .int v2), (3, .long v3), (5, .int v5)]) M dt_X12_fewest_1.2.2.1.2 (by decide) rfl ?_
      refine z_iconst M dt_X12_fewest_1.2.2.2.1 ki_0 ?_
      refine z_istore (lv' := [(7, .int (0 : Int32)), (6, .int (0 : Int32)), (0, .ref (a 0)), (1, .int v1), (2, .int v2), (3, .long v3), (5, .int v5)]) M dt_X12_fewest_1.2.2.2.2 (by decide) rfl ?_
      refine z_iconst M dt_X12_fewest_2.1.1.1.1 ki_0 ?_
      refine z_istore (lv' := [(8, .int (0 : Int32)), (7, .int (0 : Int32)), (6, .int (0 : Int32)), (0, .ref (a 0)), (1, .int v1), (2, .int v2), (3, .long v3), (5, .int v5)]) M dt_X12_fewest_2.1.1.1.2 (by decide) rfl ?_
      refine z_sub M [3, 4, 5, 6, 7, 2, 1, 0] (lv' := [(0, .ref (a 0)), (1, .int v1), (2, .int v2), (3, .long v3), (5, .int v5), (6, .int (0 : Int32)), (7, .int (0 : Int32)), (8, .int (0 : Int32))]) rfl ?_
      exact wL_X12_fewest_61 M (k191 := (fun w4 w5 => J_X12_fewest_191 (fun w5 => L_X12_fewest_43 k203 σ v1 v2 v3 n43 w5) k203 σ v1 v2 v3 v5 w4 w5)) σ v1 v2 v3 v5 (fun w4 w5 h => by
          exact wJ_X12_fewest_191 M (k43 := (fun w5 => L_X12_fewest_43 k203 σ v1 v2 v3 n43 w5)) (k203 := k203) σ v1 v2 v3 v5 w4 w5 ih Hk203 h) zFu (0 : Int32) (0 : Int32) (0 : Int32) h
set_option maxHeartbeats 4000000 in
set_option maxRecDepth 100000 in
theorem wJ_X12_fewest_203 {o : (Zst × Int32)} (M : zM l D zcl (zty cy) A ad (zR 2) (mW a cy ad) RX12 cX12_fewest 12 (some .int) o.1 (some (.int o.2)) G) (σ : Zst) (v5 : Int32) (v6 : Int32) (v7 : Int32)  (h : J_X12_fewest_203 σ v5 v6 v7 = some o) : G σ [(0, .ref (a 0)), (5, .int v5), (6, .int v6), (7, .int v7)] 203 [] := by
  refine z_aload_n M dt_X12_fewest_6.2.2.1.2 rfl 0 rfl ?_
  refine z_iconst M dt_X12_fewest_6.2.2.2.1 ki_0 ?_
  refine pf_X12_rows M u1961 dt_X12_fewest_6.2.2.2.2 ?_
  refine z_aload_n M dt_X12_fewest_7.1.1.1.1 rfl 0 rfl ?_
  refine z_iload M dt_X12_fewest_7.1.1.1.2 3 rfl ?_
  refine z_i2l M dt_X12_fewest_7.1.1.2.1 ?_
  obtain ⟨t6, hc, h⟩ := gBd h
  refine k_X12_enters M hc u1708 (Nat.le_of_ble_eq_true rfl) (Nat.le_of_ble_eq_true rfl) dt_X12_fewest_7.1.1.2.2 ?_
  refine z_aload_n M dt_X12_fewest_7.1.2.1.1 rfl 0 rfl ?_
  refine z_iload M dt_X12_fewest_7.1.2.1.2 2 rfl ?_
  refine z_i2l M dt_X12_fewest_7.1.2.2 ?_
  obtain ⟨t7, hc, h⟩ := gBd h
  refine k_X12_enters M hc u1708 (Nat.le_of_ble_eq_true rfl) (Nat.le_of_ble_eq_true rfl) dt_X12_fewest_7.2.1.1.1 ?_
  refine z_iload M dt_X12_fewest_7.2.1.1.2 1 rfl ?_
  obtain rfl := Option.some.inj h
  exact z_iret M dt_X12_fewest_7.2.1.2.1
set_option maxHeartbeats 4000000 in
set_option maxRecDepth 100000 in
theorem wJ_X12_fewest_40 {o : (Zst × Int32)} (M : zM l D zcl (zty cy) A ad (zR 2) (mW a cy ad) RX12 cX12_fewest 12 (some .int) o.1 (some (.int o.2)) G) (σ : Zst) (v1 : Int32) (v2 : Int32) (v3 : Int64)  (h : J_X12_fewest_40 σ v1 v2 v3 = some o) : G σ [(0, .ref (a 0)), (1, .int v1), (2, .int v2), (3, .long v3)] 40 [] := by
  refine z_iconst M dt_X12_fewest_1.1.2.2.1 ki_1 ?_
  refine z_istore (lv' := [(5, .int (1 : Int32)), (0, .ref (a 0)), (1, .int v1), (2, .int v2), (3, .long v3)]) M dt_X12_fewest_1.1.2.2.2 (by decide) rfl ?_
  refine z_sub M [1, 2, 3, 4, 0] (lv' := [(0, .ref (a 0)), (1, .int v1), (2, .int v2), (3, .long v3), (5, .int (1 : Int32))]) rfl ?_
  exact wL_X12_fewest_43 M (k203 := (fun w8 w9 w10 => J_X12_fewest_203 σ w8 w9 w10)) σ v1 v2 v3 (fun w8 w9 w10 h => by
      exact wJ_X12_fewest_203 M  σ w8 w9 w10 h) zFu (1 : Int32) h
set_option maxHeartbeats 4000000 in
set_option maxRecDepth 100000 in
theorem m_X12_fewest (hD : ∀ σ, va_D A (mW a cy ad σ)) {σ : Zst} {p0 : Int32} {p1 : Int32} {o : (Zst × Int32)} (h : f_X12_fewest σ p0 p1 = some o) : zT l D zcl (zty cy) A ad (mW a cy ad) yX12_fewest cX12_fewest 12 (some .int) 2 [.ref (a 0), .int p0, .int p1] σ o.1 (some (.int o.2)) := by
  refine z_met pn_X12 hD (Nat.le_of_ble_eq_true rfl) rfl (fun G M => ?_)
  refine z_aload_n M dt_X12_fewest_0.1.1.1.1 rfl 0 rfl ?_
  refine gf_X12_meanMany (σ := σ) M u2013 dt_X12_fewest_0.1.1.1.2 (v := (σ.1 22)) rfl ?_
  refine z_if_ne (tgt := 10) M dt_X12_fewest_0.1.1.2.1 (by decide) (fun hc => ?_) (fun hc => ?_)
  · have h := gIf hc h
    refine z_lconst (v := 0) M dt_X12_fewest_0.1.2.1.2 (by decide) ?_
    refine z_lstore_n (lv' := [(3, .long (0 : Int64)), (0, .ref (a 0)), (1, .int p0), (2, .int p1)]) M dt_X12_fewest_0.1.2.2.1 rfl (by decide) rfl ?_
    refine z_iconst M dt_X12_fewest_0.1.2.2.2 ki_0 ?_
    refine z_istore (lv' := [(5, .int (0 : Int32)), (3, .long (0 : Int64)), (0, .ref (a 0)), (1, .int p0), (2, .int p1)]) M dt_X12_fewest_0.2.1.1.1 (by decide) rfl ?_
    refine z_sub M [2, 3, 4, 1, 0] (lv' := [(0, .ref (a 0)), (1, .int p0), (2, .int p1), (3, .long (0 : Int64)), (5, .int (0 : Int32))]) rfl ?_
    exact wL_X12_fewest_15 M (k40 := (fun w11 => J_X12_fewest_40 σ p0 p1 w11)) σ p0 p1 (fun w11 h => by
        exact wJ_X12_fewest_40 M  σ p0 p1 w11 h) zFu (0 : Int64) (0 : Int32) h
  · have h := gIt hc h
    refine z_bipush M dt_X12_fewest_0.1.1.2.2 kb_m2 ?_
    obtain rfl := Option.some.inj h
    exact z_iret M dt_X12_fewest_0.1.2.1.1
theorem k_X12_fewest {n : Nat} (M : zM l D zcl (zty cy) A ad (zR n) (mW a cy ad) own cc nL rt σo ov G) {p0 : Int32} {p1 : Int32} {o : (Zst × Int32)} (h : f_X12_fewest σ p0 p1 = some o) {index : Nat} (hl : Cond.methodLink own index yX12_fewest ∈ uw) (hR : 3 ≤ n) (hW : (st.map fun v => v.category).sum ≤ 8) (d : decode cc pc = .ok (.invokevirtual index, 3)) (kk : G o.1 lv (pc + 3) (.int o.2 :: st)) : G σ lv pc (.int p1 :: .int p0 :: .ref (a 0) :: st) := z_callV M [.int p0, .int p1] (m_X12_fewest (zM_hD M) h) (hM0 σ) rfl hl u99 u1887 u1886 u81 hd_X12_fewest hR (by decide) rfl hW d kk
set_option maxHeartbeats 4000000 in
set_option maxRecDepth 100000 in
theorem wL_X12_takesMean_9 {o : Zst} (M : zM l D zcl (zty cy) A ad (zR 3) (mW a cy ad) RX12 cX12_takesMean 10 none o none G) {k60 : Int64 → Int32 → Option Zst} (σ : Zst) (v1 : Int32) (v2 : Int32) (v3 : Int32) (v4 : Int32) (v5 : Int32) (Hk60 : ∀ (w6 : Int64) (w8 : Int32), k60 w6 w8 = some o → G σ [(0, .ref (a 0)), (6, .long w6), (8, .int w8)] 60 []) :
    ∀ (n9 : Nat) (v6 : Int64) (v8 : Int32) (v9 : Int32), L_X12_takesMean_9 k60 σ v1 v2 v3 v4 v5 n9 v6 v8 v9 = some o → G σ [(0, .ref (a 0)), (1, .int v1), (2, .int v2), (3, .int v3), (4, .int v4), (5, .int v5), (6, .long v6), (8, .int v8), (9, .int v9)] 9 [] := by
  intro n9
  induction n9 with
  | zero => intro v6 v8 v9 h; exact nomatch (show (none : Option Zst) = some _ from h)
  | succ n9 ih =>
    intro v6 v8 v9 h
    refine z_iload M dt_X12_takesMean_0.1.2.2.1 8 rfl ?_
    refine z_iload M dt_X12_takesMean_0.1.2.2.2 5 rfl ?_
    refine z_icmp_ge (tgt := 60) M dt_X12_takesMean_0.2.1.1.1 (by decide) (fun hc => ?_) (fun hc => ?_)
    · have h := gIt hc h
      refine z_sub M [0, 6, 7] (lv' := [(0, .ref (a 0)), (6, .long v6), (8, .int v8)]) rfl ?_
      exact Hk60 v6 v8 h
    · have h := gIf hc h
      refine z_aload_n M dt_X12_takesMean_0.2.1.1.2 rfl 0 rfl ?_
      refine z_iload_n M dt_X12_takesMean_0.2.1.2.1 rfl 1 rfl ?_
      refine z_iload_n M dt_X12_takesMean_0.2.1.2.2 rfl 3 rfl ?_
      refine z_iload M dt_X12_takesMean_0.2.2.1.1 8 rfl ?_
      refine z_iload M dt_X12_takesMean_0.2.2.1.2 4 rfl ?_
      refine z_imul M dt_X12_takesMean_0.2.2.2.1 ?_
      refine z_iadd M dt_X12_takesMean_0.2.2.2.2 ?_
      refine z_iload_n M dt_X12_takesMean_1.1.1.1.1 rfl 2 rfl ?_
      obtain ⟨t1, hc, h⟩ := gBd h
      refine k_X12_isTold M hc u1704 (Nat.le_of_ble_eq_true rfl) (Nat.le_of_ble_eq_true rfl) dt_X12_takesMean_1.1.1.1.2 ?_
      refine z_if_eq (tgt := 54) M dt_X12_takesMean_1.1.1.2.1 (by decide) (fun hc => ?_) (fun hc => ?_)
      · have h := gIt hc h
        refine z_iinc (v := (v9 + (1 : Int32))) (lv' := [(9, .int (v9 + (1 : Int32))), (0, .ref (a 0)), (1, .int v1), (2, .int v2), (3, .int v3), (4, .int v4), (5, .int v5), (6, .long v6), (8, .int v8)]) M dt_X12_takesMean_2.1.1.1.2 (k := 8) rfl (congrArg (fun q => v9 + q) ki_1) (by decide) rfl ?_
        refine z_goto (tgt := 9) M dt_X12_takesMean_2.1.1.2.1 (by decide) ?_
        refine z_sub M [1, 2, 3, 4, 5, 6, 7, 8, 0] (lv' := [(0, .ref (a 0)), (1, .int v1), (2, .int v2), (3, .int v3), (4, .int v4), (5, .int v5), (6, .long v6), (8, .int v8), (9, .int (v9 + (1 : Int32)))]) rfl ?_
        exact ih v6 v8 (v9 + (1 : Int32)) h
      · have h := gIf hc h
        refine z_lload M dt_X12_takesMean_1.1.1.2.2 6 rfl ?_
        refine z_aload_n M dt_X12_takesMean_1.1.2.1.1 rfl 0 rfl ?_
        refine z_iload_n M dt_X12_takesMean_1.1.2.1.2 rfl 1 rfl ?_
        refine z_iload_n M dt_X12_takesMean_1.1.2.2.1 rfl 3 rfl ?_
        refine z_iload M dt_X12_takesMean_1.1.2.2.2 8 rfl ?_
        refine z_iload M dt_X12_takesMean_1.2.1.1.1 4 rfl ?_
        refine z_imul M dt_X12_takesMean_1.2.1.1.2 ?_
        refine z_iadd M dt_X12_takesMean_1.2.1.2.1 ?_
        refine z_iload_n M dt_X12_takesMean_1.2.1.2.2 rfl 2 rfl ?_
        obtain ⟨t2, hc, h⟩ := gBd h
        refine k_X12_at M hc u1556 (Nat.le_of_ble_eq_true rfl) (Nat.le_of_ble_eq_true rfl) dt_X12_takesMean_1.2.2.1.1 ?_
        refine z_i2l M dt_X12_takesMean_1.2.2.1.2 ?_
        refine z_ladd M dt_X12_takesMean_1.2.2.2.1 ?_
        refine z_lstore (lv' := [(6, .long (v6 + (Int32.toInt64 t2))), (0, .ref (a 0)), (1, .int v1), (2, .int v2), (3, .int v3), (4, .int v4), (5, .int v5), (8, .int v8), (9, .int v9)]) M dt_X12_takesMean_1.2.2.2.2 (by decide) rfl ?_
        refine z_iinc (v := (v8 + (1 : Int32))) (lv' := [(8, .int (v8 + (1 : Int32))), (6, .long (v6 + (Int32.toInt64 t2))), (0, .ref (a 0)), (1, .int v1), (2, .int v2), (3, .int v3), (4, .int v4), (5, .int v5), (9, .int v9)]) M dt_X12_takesMean_2.1.1.1.1 (k := 7) rfl (congrArg (fun q => v8 + q) ki_1) (by decide) rfl ?_
        refine z_iinc (v := (v9 + (1 : Int32))) (lv' := [(9, .int (v9 + (1 : Int32))), (8, .int (v8 + (1 : Int32))), (6, .long (v6 + (Int32.toInt64 t2))), (0, .ref (a 0)), (1, .int v1), (2, .int v2), (3, .int v3), (4, .int v4), (5, .int v5)]) M dt_X12_takesMean_2.1.1.1.2 (k := 8) rfl (congrArg (fun q => v9 + q) ki_1) (by decide) rfl ?_
        refine z_goto (tgt := 9) M dt_X12_takesMean_2.1.1.2.1 (by decide) ?_
        refine z_sub M [3, 4, 5, 6, 7, 8, 2, 1, 0] (lv' := [(0, .ref (a 0)), (1, .int v1), (2, .int v2), (3, .int v3), (4, .int v4), (5, .int v5), (6, .long (v6 + (Int32.toInt64 t2))), (8, .int (v8 + (1 : Int32))), (9, .int (v9 + (1 : Int32)))]) rfl ?_
        exact ih (v6 + (Int32.toInt64 t2)) (v8 + (1 : Int32)) (v9 + (1 : Int32)) h
set_option maxHeartbeats 4000000 in
set_option maxRecDepth 100000 in
theorem wJ_X12_takesMean_60 {o : Zst} (M : zM l D zcl (zty cy) A ad (zR 3) (mW a cy ad) RX12 cX12_takesMean 10 none o none G) (σ : Zst) (v6 : Int64) (v8 : Int32)  (h : J_X12_takesMean_60 σ v6 v8 = some o) : G σ [(0, .ref (a 0)), (6, .long v6), (8, .int v8)] 60 [] := by
  refine z_iload M dt_X12_takesMean_2.1.1.2.2 2 rfl ?_
  refine z_if_le (tgt := 94) M dt_X12_takesMean_2.1.2.1.1 (by decide) (fun hc => ?_) (fun hc => ?_)
  · have h := gIt hc h
    obtain rfl := Option.some.inj h
    exact z_vret M dt_X12_takesMean_3.2.2
  · have h := gIf hc h
    refine z_aload_n M dt_X12_takesMean_2.1.2.1.2 rfl 0 rfl ?_
    refine gf_X12_meanOf M u2012 dt_X12_takesMean_2.1.2.2.1 ?_
    refine z_aload_n M dt_X12_takesMean_2.1.2.2.2 rfl 0 rfl ?_
    refine gf_X12_meanMany (σ := σ) M u2013 dt_X12_takesMean_2.2.1.1.1 (v := (σ.1 22)) rfl ?_
    refine z_lload M dt_X12_takesMean_2.2.1.1.2 1 rfl ?_
    refine z_ldc2 M dt_X12_takesMean_2.2.1.2.1 u1883 ?_
    refine z_iload M dt_X12_takesMean_2.2.1.2.2 2 rfl ?_
    refine z_i2l M dt_X12_takesMean_2.2.2.1.1 ?_
    have ⟨hg, h⟩ := gNzL_s h
    refine z_ldiv M dt_X12_takesMean_2.2.2.1.2 hg ?_
    refine z_lmul M dt_X12_takesMean_2.2.2.2.1 ?_
    have ⟨hg, h⟩ := gIx_s h
    refine as_M30 (σ := σ) M (f := (σ.2.2.1 5)) rfl hg dt_X12_takesMean_2.2.2.2.2 ?_
    refine z_aload_n M dt_X12_takesMean_3.1.1.1 rfl 0 rfl ?_
    refine z_dup M dt_X12_takesMean_3.1.1.2 rfl ?_
    refine gf_X12_meanMany (σ := (zL σ 5 (vp_updL (σ.2.2.1 5) (Int32.toNatClampNeg (σ.1 22)) (v6 * ((27720 : Int64) / (Int32.toInt64 v8)))))) M u2013 dt_X12_takesMean_3.1.2.1 (v := (σ.1 22)) rfl ?_
    refine z_iconst M dt_X12_takesMean_3.1.2.2 ki_1 ?_
    refine z_iadd M dt_X12_takesMean_3.2.1.1 ?_
    refine pf_X12_meanMany M u2013 dt_X12_takesMean_3.2.1.2 ?_
    obtain rfl := Option.some.inj h
    exact z_vret M dt_X12_takesMean_3.2.2
set_option maxHeartbeats 4000000 in
set_option maxRecDepth 100000 in
theorem m_X12_takesMean (hD : ∀ σ, va_D A (mW a cy ad σ)) {σ : Zst} {p0 : Int32} {p1 : Int32} {p2 : Int32} {p3 : Int32} {p4 : Int32} {o : Zst} (h : f_X12_takesMean σ p0 p1 p2 p3 p4 = some o) : zT l D zcl (zty cy) A ad (mW a cy ad) yX12_takesMean cX12_takesMean 10 none 3 [.ref (a 0), .int p0, .int p1, .int p2, .int p3, .int p4] σ o none := by
  refine z_met pn_X12 hD (Nat.le_of_ble_eq_true rfl) rfl (fun G M => ?_)
  refine z_lconst (v := 0) M dt_X12_takesMean_0.1.1.1.1 (by decide) ?_
  refine z_lstore (lv' := [(6, .long (0 : Int64)), (0, .ref (a 0)), (1, .int p0), (2, .int p1), (3, .int p2), (4, .int p3), (5, .int p4)]) M dt_X12_takesMean_0.1.1.1.2 (by decide) rfl ?_
  refine z_iconst M dt_X12_takesMean_0.1.1.2.1 ki_0 ?_
  refine z_istore (lv' := [(8, .int (0 : Int32)), (6, .long (0 : Int64)), (0, .ref (a 0)), (1, .int p0), (2, .int p1), (3, .int p2), (4, .int p3), (5, .int p4)]) M dt_X12_takesMean_0.1.1.2.2 (by decide) rfl ?_
  refine z_iconst M dt_X12_takesMean_0.1.2.1.1 ki_0 ?_
  refine z_istore (lv' := [(9, .int (0 : Int32)), (8, .int (0 : Int32)), (6, .long (0 : Int64)), (0, .ref (a 0)), (1, .int p0), (2, .int p1), (3, .int p2), (4, .int p3), (5, .int p4)]) M dt_X12_takesMean_0.1.2.1.2 (by decide) rfl ?_
  refine z_sub M [3, 4, 5, 6, 7, 8, 2, 1, 0] (lv' := [(0, .ref (a 0)), (1, .int p0), (2, .int p1), (3, .int p2), (4, .int p3), (5, .int p4), (6, .long (0 : Int64)), (8, .int (0 : Int32)), (9, .int (0 : Int32))]) rfl ?_
  exact wL_X12_takesMean_9 M (k60 := (fun w3 w4 => J_X12_takesMean_60 σ w3 w4)) σ p0 p1 p2 p3 p4 (fun w3 w4 h => by
      exact wJ_X12_takesMean_60 M  σ w3 w4 h) zFu (0 : Int64) (0 : Int32) (0 : Int32) h
theorem k_X12_takesMean {n : Nat} (M : zM l D zcl (zty cy) A ad (zR n) (mW a cy ad) own cc nL rt σo ov G) {p0 : Int32} {p1 : Int32} {p2 : Int32} {p3 : Int32} {p4 : Int32} {o : Zst} (h : f_X12_takesMean σ p0 p1 p2 p3 p4 = some o) {index : Nat} (hl : Cond.methodLink own index yX12_takesMean ∈ uw) (hR : 4 ≤ n) (hW : (st.map fun v => v.category).sum ≤ 8) (d : decode cc pc = .ok (.invokevirtual index, 3)) (kk : G o lv (pc + 3) (st)) : G σ lv pc (.int p4 :: .int p3 :: .int p2 :: .int p1 :: .int p0 :: .ref (a 0) :: st) := z_callV M [.int p0, .int p1, .int p2, .int p3, .int p4] (m_X12_takesMean (zM_hD M) h) (hM0 σ) rfl hl u99 u1882 u1881 u80 hd_X12_takesMean hR (by decide) rfl hW d kk
set_option maxHeartbeats 4000000 in
set_option maxRecDepth 100000 in
theorem wL_X12_need_27 {o : (Zst × Int32)} (M : zM l D zcl (zty cy) A ad (zR 4) (mW a cy ad) RX12 cX12_need 6 (some .int) o.1 (some (.int o.2)) G) {k56 : Zst → Option (Zst × Int32)}  (v1 : Int32) (v2 : Int32) (v3 : Int32) (v4 : Int32) (Hk56 : ∀ (σ : Zst), k56 σ = some o → G σ [(0, .ref (a 0)), (3, .int v3), (4, .int v4)] 56 []) :
    ∀ (n27 : Nat) (σ : Zst) (v5 : Int32), L_X12_need_27 k56 v1 v2 v3 v4 n27 σ v5 = some o → G σ [(0, .ref (a 0)), (1, .int v1), (2, .int v2), (3, .int v3), (4, .int v4), (5, .int v5)] 27 [] := by
  intro n27
  induction n27 with
  | zero => intro σ v5 h; exact nomatch (show (none : Option (Zst × Int32)) = some _ from h)
  | succ n27 ih =>
    intro σ v5 h
    refine z_iload M dt_X12_need_1.1.1.1.2 5 rfl ?_
    refine z_aload_n M dt_X12_need_1.1.1.2.1 rfl 0 rfl ?_
    refine gf_X12_streets (σ := σ) M u1970 dt_X12_need_1.1.1.2.2 (v := (σ.1 3)) rfl ?_
    refine z_icmp_ge (tgt := 56) M dt_X12_need_1.1.2.1.1 (by decide) (fun hc => ?_) (fun hc => ?_)
    · have h := gIt hc h
      refine z_sub M [0, 3, 4] (lv' := [(0, .ref (a 0)), (3, .int v3), (4, .int v4)]) rfl ?_
      exact Hk56 σ h
    · have h := gIf hc h
      refine z_aload_n M dt_X12_need_1.1.2.1.2 rfl 0 rfl ?_
      refine z_iload_n M dt_X12_need_1.1.2.2.1 rfl 1 rfl ?_
      refine z_iload_n M dt_X12_need_1.1.2.2.2 rfl 2 rfl ?_
      refine z_bipush M dt_X12_need_1.2.1.1.1 kb_12 ?_
      refine z_iload M dt_X12_need_1.2.1.1.2 5 rfl ?_
      refine z_imul M dt_X12_need_1.2.1.2.1 ?_
      refine z_iconst M dt_X12_need_1.2.1.2.2 ki_1 ?_
      refine z_bipush M dt_X12_need_1.2.2.1.1 kb_12 ?_
      obtain ⟨t1, hc, h⟩ := gBd h
      refine k_X12_takesMean M hc u1879 (Nat.le_of_ble_eq_true rfl) (Nat.le_of_ble_eq_true rfl) dt_X12_need_1.2.2.1.2 ?_
      refine z_iinc (v := (v5 + (1 : Int32))) (lv' := [(5, .int (v5 + (1 : Int32))), (0, .ref (a 0)), (1, .int v1), (2, .int v2), (3, .int v3), (4, .int v4)]) M dt_X12_need_1.2.2.2.1 (k := 5) rfl (congrArg (fun q => v5 + q) ki_1) (by decide) rfl ?_
      refine z_goto (tgt := 27) M dt_X12_need_1.2.2.2.2 (by decide) ?_
      refine z_sub M [1, 2, 3, 4, 5, 0] (lv' := [(0, .ref (a 0)), (1, .int v1), (2, .int v2), (3, .int v3), (4, .int v4), (5, .int (v5 + (1 : Int32)))]) rfl ?_
      exact ih t1 (v5 + (1 : Int32)) h
set_option maxHeartbeats 4000000 in
set_option maxRecDepth 100000 in
theorem wJ_X12_need_56 {o : (Zst × Int32)} (M : zM l D zcl (zty cy) A ad (zR 4) (mW a cy ad) RX12 cX12_need 6 (some .int) o.1 (some (.int o.2)) G) (σ : Zst) (v3 : Int32) (v4 : Int32)  (h : J_X12_need_56 σ v3 v4 = some o) : G σ [(0, .ref (a 0)), (3, .int v3), (4, .int v4)] 56 [] := by
  refine z_aload_n M dt_X12_need_2.1.1.1 rfl 0 rfl ?_
  refine z_iload_n M dt_X12_need_2.1.1.2 rfl 1 rfl ?_
  refine z_iload M dt_X12_need_2.1.2 2 rfl ?_
  obtain ⟨t2, hc, h⟩ := gBd h
  refine k_X12_fewest M hc u1884 (Nat.le_of_ble_eq_true rfl) (Nat.le_of_ble_eq_true rfl) dt_X12_need_2.2.1 ?_
  obtain rfl := Option.some.inj h
  exact z_iret M dt_X12_need_2.2.2
set_option maxHeartbeats 4000000 in
set_option maxRecDepth 100000 in
theorem m_X12_need (hD : ∀ σ, va_D A (mW a cy ad σ)) {σ : Zst} {p0 : Int32} {p1 : Int32} {p2 : Int32} {p3 : Int32} {o : (Zst × Int32)} (h : f_X12_need σ p0 p1 p2 p3 = some o) : zT l D zcl (zty cy) A ad (mW a cy ad) yX12_need cX12_need 6 (some .int) 4 [.ref (a 0), .int p0, .int p1, .int p2, .int p3] σ o.1 (some (.int o.2)) := by
  refine z_met pn_X12 hD (Nat.le_of_ble_eq_true rfl) rfl (fun G M => ?_)
  refine z_aload_n M dt_X12_need_0.1.1.1.1 rfl 0 rfl ?_
  refine z_iconst M dt_X12_need_0.1.1.1.2 ki_0 ?_
  refine pf_X12_thrown M u1960 dt_X12_need_0.1.1.2.1 ?_
  refine z_aload_n M dt_X12_need_0.1.1.2.2 rfl 0 rfl ?_
  refine z_iload_n M dt_X12_need_0.1.2.1.1 rfl 1 rfl ?_
  refine z_iload_n M dt_X12_need_0.1.2.1.2 rfl 2 rfl ?_
  refine z_iload_n M dt_X12_need_0.1.2.2.1 rfl 3 rfl ?_
  refine z_iload M dt_X12_need_0.1.2.2.2 4 rfl ?_
  refine k_X12_isNeed M u1875 (Nat.le_of_ble_eq_true rfl) (Nat.le_of_ble_eq_true rfl) dt_X12_need_0.2.1.1.1 ?_
  refine z_if_ne (tgt := 19) M dt_X12_need_0.2.1.1.2 (by decide) (fun hc => ?_) (fun hc => ?_)
  · have h := gIf hc h
    refine z_aload_n M dt_X12_need_0.2.2.1.1 rfl 0 rfl ?_
    refine z_iconst M dt_X12_need_0.2.2.1.2 ki_0 ?_
    refine pf_X12_meanMany M u2013 dt_X12_need_0.2.2.2.1 ?_
    refine z_iconst M dt_X12_need_0.2.2.2.2 ki_0 ?_
    refine z_istore (lv' := [(5, .int (0 : Int32)), (0, .ref (a 0)), (1, .int p0), (2, .int p1), (3, .int p2), (4, .int p3)]) M dt_X12_need_1.1.1.1.1 (by decide) rfl ?_
    refine z_sub M [1, 2, 3, 4, 5, 0] (lv' := [(0, .ref (a 0)), (1, .int p0), (2, .int p1), (3, .int p2), (4, .int p3), (5, .int (0 : Int32))]) rfl ?_
    exact wL_X12_need_27 M (k56 := (fun σ3 => J_X12_need_56 σ3 p2 p3)) p0 p1 p2 p3 (fun σ3 h => by
        exact wJ_X12_need_56 M  σ3 p2 p3 h) zFu (zI (zI σ 0 (0 : Int32)) 22 (0 : Int32)) (0 : Int32) h
  · have h := gIt hc h
    refine z_iconst M dt_X12_need_0.2.1.2.1 ki_m1 ?_
    obtain rfl := Option.some.inj h
    exact z_iret M dt_X12_need_0.2.1.2.2
set_option maxHeartbeats 4000000 in
set_option maxRecDepth 100000 in
theorem wL_X12_weeks_27 {o : (Zst × Int32)} (M : zM l D zcl (zty cy) A ad (zR 4) (mW a cy ad) RX12 cX12_weeks 6 (some .int) o.1 (some (.int o.2)) G) {k54 : Zst → Option (Zst × Int32)}  (v1 : Int32) (v2 : Int32) (v3 : Int32) (v4 : Int32) (Hk54 : ∀ (σ : Zst), k54 σ = some o → G σ [(0, .ref (a 0)), (3, .int v3), (4, .int v4)] 54 []) :
    ∀ (n27 : Nat) (σ : Zst) (v5 : Int32), L_X12_weeks_27 k54 v1 v2 v3 v4 n27 σ v5 = some o → G σ [(0, .ref (a 0)), (1, .int v1), (2, .int v2), (3, .int v3), (4, .int v4), (5, .int v5)] 27 [] := by
  intro n27
  induction n27 with
  | zero => intro σ v5 h; exact nomatch (show (none : Option (Zst × Int32)) = some _ from h)
  | succ n27 ih =>
    intro σ v5 h
    refine z_iload M dt_X12_weeks_1.1.1.1.2 5 rfl ?_
    refine z_bipush M dt_X12_weeks_1.1.1.2.1 kb_12 ?_
    refine z_icmp_ge (tgt := 54) M dt_X12_weeks_1.1.1.2.2 (by decide) (fun hc => ?_) (fun hc => ?_)
    · have h := gIt hc h
      refine z_sub M [0, 3, 4] (lv' := [(0, .ref (a 0)), (3, .int v3), (4, .int v4)]) rfl ?_
      exact Hk54 σ h
    · have h := gIf hc h
      refine z_aload_n M dt_X12_weeks_1.1.2.1.1 rfl 0 rfl ?_
      refine z_iload_n M dt_X12_weeks_1.1.2.1.2 rfl 1 rfl ?_
      refine z_iload_n M dt_X12_weeks_1.1.2.2.1 rfl 2 rfl ?_
      refine z_iload M dt_X12_weeks_1.1.2.2.2 5 rfl ?_
      refine z_bipush M dt_X12_weeks_1.2.1.1.1 kb_12 ?_
      refine z_aload_n M dt_X12_weeks_1.2.1.1.2 rfl 0 rfl ?_
      refine gf_X12_streets (σ := σ) M u1970 dt_X12_weeks_1.2.1.2.1 (v := (σ.1 3)) rfl ?_
      obtain ⟨t1, hc, h⟩ := gBd h
      refine k_X12_takesMean M hc u1879 (Nat.le_of_ble_eq_true rfl) (Nat.le_of_ble_eq_true rfl) dt_X12_weeks_1.2.1.2.2 ?_
      refine z_iinc (v := (v5 + (1 : Int32))) (lv' := [(5, .int (v5 + (1 : Int32))), (0, .ref (a 0)), (1, .int v1), (2, .int v2), (3, .int v3), (4, .int v4)]) M dt_X12_weeks_1.2.2.1.1 (k := 5) rfl (congrArg (fun q => v5 + q) ki_1) (by decide) rfl ?_
      refine z_goto (tgt := 27) M dt_X12_weeks_1.2.2.1.2 (by decide) ?_
      refine z_sub M [1, 2, 3, 4, 5, 0] (lv' := [(0, .ref (a 0)), (1, .int v1), (2, .int v2), (3, .int v3), (4, .int v4), (5, .int (v5 + (1 : Int32)))]) rfl ?_
      exact ih t1 (v5 + (1 : Int32)) h
set_option maxHeartbeats 4000000 in
set_option maxRecDepth 100000 in
theorem wJ_X12_weeks_54 {o : (Zst × Int32)} (M : zM l D zcl (zty cy) A ad (zR 4) (mW a cy ad) RX12 cX12_weeks 6 (some .int) o.1 (some (.int o.2)) G) (σ : Zst) (v3 : Int32) (v4 : Int32)  (h : J_X12_weeks_54 σ v3 v4 = some o) : G σ [(0, .ref (a 0)), (3, .int v3), (4, .int v4)] 54 [] := by
  refine z_aload_n M dt_X12_weeks_1.2.2.2.1 rfl 0 rfl ?_
  refine z_iload_n M dt_X12_weeks_1.2.2.2.2 rfl 1 rfl ?_
  refine z_iload M dt_X12_weeks_2.1.1 2 rfl ?_
  obtain ⟨t2, hc, h⟩ := gBd h
  refine k_X12_fewest M hc u1884 (Nat.le_of_ble_eq_true rfl) (Nat.le_of_ble_eq_true rfl) dt_X12_weeks_2.1.2 ?_
  obtain rfl := Option.some.inj h
  exact z_iret M dt_X12_weeks_2.2
set_option maxHeartbeats 4000000 in
set_option maxRecDepth 100000 in
theorem m_X12_weeks (hD : ∀ σ, va_D A (mW a cy ad σ)) {σ : Zst} {p0 : Int32} {p1 : Int32} {p2 : Int32} {p3 : Int32} {o : (Zst × Int32)} (h : f_X12_weeks σ p0 p1 p2 p3 = some o) : zT l D zcl (zty cy) A ad (mW a cy ad) yX12_weeks cX12_weeks 6 (some .int) 4 [.ref (a 0), .int p0, .int p1, .int p2, .int p3] σ o.1 (some (.int o.2)) := by
  refine z_met pn_X12 hD (Nat.le_of_ble_eq_true rfl) rfl (fun G M => ?_)
  refine z_aload_n M dt_X12_weeks_0.1.1.1.1 rfl 0 rfl ?_
  refine z_iconst M dt_X12_weeks_0.1.1.1.2 ki_0 ?_
  refine pf_X12_thrown M u1960 dt_X12_weeks_0.1.1.2.1 ?_
  refine z_aload_n M dt_X12_weeks_0.1.1.2.2 rfl 0 rfl ?_
  refine z_iload_n M dt_X12_weeks_0.1.2.1.1 rfl 1 rfl ?_
  refine z_iload_n M dt_X12_weeks_0.1.2.1.2 rfl 2 rfl ?_
  refine z_iload_n M dt_X12_weeks_0.1.2.2.1 rfl 3 rfl ?_
  refine z_iload M dt_X12_weeks_0.1.2.2.2 4 rfl ?_
  refine k_X12_isNeed M u1875 (Nat.le_of_ble_eq_true rfl) (Nat.le_of_ble_eq_true rfl) dt_X12_weeks_0.2.1.1.1 ?_
  refine z_if_ne (tgt := 19) M dt_X12_weeks_0.2.1.1.2 (by decide) (fun hc => ?_) (fun hc => ?_)
  · have h := gIf hc h
    refine z_aload_n M dt_X12_weeks_0.2.2.1.1 rfl 0 rfl ?_
    refine z_iconst M dt_X12_weeks_0.2.2.1.2 ki_0 ?_
    refine pf_X12_meanMany M u2013 dt_X12_weeks_0.2.2.2.1 ?_
    refine z_iconst M dt_X12_weeks_0.2.2.2.2 ki_0 ?_
    refine z_istore (lv' := [(5, .int (0 : Int32)), (0, .ref (a 0)), (1, .int p0), (2, .int p1), (3, .int p2), (4, .int p3)]) M dt_X12_weeks_1.1.1.1.1 (by decide) rfl ?_
    refine z_sub M [1, 2, 3, 4, 5, 0] (lv' := [(0, .ref (a 0)), (1, .int p0), (2, .int p1), (3, .int p2), (4, .int p3), (5, .int (0 : Int32))]) rfl ?_
    exact wL_X12_weeks_27 M (k54 := (fun σ3 => J_X12_weeks_54 σ3 p2 p3)) p0 p1 p2 p3 (fun σ3 h => by
        exact wJ_X12_weeks_54 M  σ3 p2 p3 h) zFu (zI (zI σ 0 (0 : Int32)) 22 (0 : Int32)) (0 : Int32) h
  · have h := gIt hc h
    refine z_iconst M dt_X12_weeks_0.2.1.2.1 ki_m1 ?_
    obtain rfl := Option.some.inj h
    exact z_iret M dt_X12_weeks_0.2.1.2.2
set_option maxHeartbeats 4000000 in
set_option maxRecDepth 100000 in
theorem m_X12_isYear (hD : ∀ σ, va_D A (wf σ)) (σ0 : Zst) (p0 : Int32) : zT l D zcl0 tys A ad wf yX12_isYear cX12_isYear 1 (some .boolean) 2 [.int p0] σ0 σ0 (some (.int (f_X12_isYear p0))) := by
  obtain ⟨o, h⟩ : ∃ o, f_X12_isYear p0 = o := ⟨_, rfl⟩
  rw [h]
  refine z_met pn_X12 hD (Nat.le_of_ble_eq_true rfl) rfl (fun G M => ?_)
  refine z_iload_n M dt_X12_isYear_0.1.1.1 rfl 0 rfl ?_
  refine z_i2l M dt_X12_isYear_0.1.1.2 ?_
  refine z_ldc2 M dt_X12_isYear_0.1.2 u1901 ?_
  refine z_ldc2 M dt_X12_isYear_0.2.1.1 u1902 ?_
  refine k_X12_in M u1517 (Nat.le_of_ble_eq_true rfl) (Nat.le_of_ble_eq_true rfl) dt_X12_isYear_0.2.1.2 ?_
  subst h
  exact z_zret M (nBo (bo_X12_in (Int32.toInt64 p0) (1900 : Int64) (2100 : Int64))) dt_X12_isYear_0.2.2
theorem k_X12_isYear {n : Nat} (M : zM l D zcl0 tys A ad (zR n) wf own cc nL rt σo ov G) {p0 : Int32} {index : Nat} (hl : Cond.methodLink own index yX12_isYear ∈ uw) (hR : 3 ≤ n) (hW : (st.map fun v => v.category).sum ≤ 8) (d : decode cc pc = .ok (.invokestatic index, 3)) (kk : G σ lv (pc + 3) (.int (f_X12_isYear p0) :: st)) : G σ lv pc (.int p0 :: st) := z_callS M [.int p0] (m_X12_isYear (zM_hD M) σ p0) hl u99 u1900 u1899 hd_X12_isYear hR (by decide) rfl hW d kk
set_option maxHeartbeats 4000000 in
set_option maxRecDepth 100000 in
theorem m_X12_paper (hD : ∀ σ, va_D A (mW a cy ad σ)) {σ : Zst} {p0 : Int32} {p1 : Int32} {p2 : Int32} {o : (Zst × Int32)} (h : f_X12_paper σ p0 p1 p2 = some o) : zT l D zcl (zty cy) A ad (mW a cy ad) yX12_paper cX12_paper 4 (some .int) 3 [.ref (a 0), .int p0, .int p1, .int p2] σ o.1 (some (.int o.2)) := by
  refine z_met pn_X12 hD (Nat.le_of_ble_eq_true rfl) rfl (fun G M => ?_)
  refine z_aload_n M dt_X12_paper_0.1.1.1.1 rfl 0 rfl ?_
  refine z_iconst M dt_X12_paper_0.1.1.1.2 ki_0 ?_
  refine pf_X12_thrown M u1960 dt_X12_paper_0.1.1.2.1 ?_
  refine z_iload_n M dt_X12_paper_0.1.1.2.2 rfl 1 rfl ?_
  refine z_i2l M dt_X12_paper_0.1.2.1.1 ?_
  refine z_lconst (v := 0) M dt_X12_paper_0.1.2.1.2 (by decide) ?_
  refine z_ldc2 M dt_X12_paper_0.1.2.2.1 u1897 ?_
  refine k_X12_in M u1517 (Nat.le_of_ble_eq_true rfl) (Nat.le_of_ble_eq_true rfl) dt_X12_paper_0.1.2.2.2 ?_
  refine z_if_eq (tgt := 45) M dt_X12_paper_0.2.1.1.1 (by decide) (fun hc => ?_) (fun hc => ?_)
  · have h := gIt hc h
    refine z_iconst M dt_X12_paper_1.1.2.2.1 ki_m1 ?_
    obtain rfl := Option.some.inj h
    exact z_iret M dt_X12_paper_1.1.2.2.2
  · have h := gIf hc h
    refine z_iload_n M dt_X12_paper_0.2.1.1.2 rfl 2 rfl ?_
    refine k_X12_isYear M u1898 (Nat.le_of_ble_eq_true rfl) (Nat.le_of_ble_eq_true rfl) dt_X12_paper_0.2.1.2.1 ?_
    refine z_if_eq (tgt := 45) M dt_X12_paper_0.2.1.2.2 (by decide) (fun hc => ?_) (fun hc => ?_)
    · have h := gIt hc h
      refine z_iconst M dt_X12_paper_1.1.2.2.1 ki_m1 ?_
      obtain rfl := Option.some.inj h
      exact z_iret M dt_X12_paper_1.1.2.2.2
    · have h := gIf hc h
      refine z_iload_n M dt_X12_paper_0.2.2.1.1 rfl 3 rfl ?_
      refine k_X12_isYear M u1898 (Nat.le_of_ble_eq_true rfl) (Nat.le_of_ble_eq_true rfl) dt_X12_paper_0.2.2.1.2 ?_
      refine z_if_eq (tgt := 45) M dt_X12_paper_0.2.2.2.1 (by decide) (fun hc => ?_) (fun hc => ?_)
      · have h := gIt hc h
        refine z_iconst M dt_X12_paper_1.1.2.2.1 ki_m1 ?_
        obtain rfl := Option.some.inj h
        exact z_iret M dt_X12_paper_1.1.2.2.2
      · have h := gIf hc h
        refine z_iload_n M dt_X12_paper_0.2.2.2.2 rfl 3 rfl ?_
        refine z_iload_n M dt_X12_paper_1.1.1.1.1 rfl 2 rfl ?_
        refine z_icmp_lt (tgt := 45) M dt_X12_paper_1.1.1.1.2 (by decide) (fun hc => ?_) (fun hc => ?_)
        · have h := gIt hc h
          refine z_iconst M dt_X12_paper_1.1.2.2.1 ki_m1 ?_
          obtain rfl := Option.some.inj h
          exact z_iret M dt_X12_paper_1.1.2.2.2
        · have h := gIf hc h
          refine z_aload_n M dt_X12_paper_1.1.1.2.1 rfl 0 rfl ?_
          refine gf_X12_papers (σ := (zI σ 0 (0 : Int32))) M u2014 dt_X12_paper_1.1.1.2.2 (v := (σ.1 23)) rfl ?_
          refine z_bipush M dt_X12_paper_1.1.2.1.1 kb_12 ?_
          refine z_icmp_ne (tgt := 47) M dt_X12_paper_1.1.2.1.2 (by decide) (fun hc => ?_) (fun hc => ?_)
          · have h := gIf hc h
            refine z_aload_n M dt_X12_paper_1.2.1.1.1 rfl 0 rfl ?_
            refine gf_X12_paperLayer M u2015 dt_X12_paper_1.2.1.1.2 ?_
            refine z_aload_n M dt_X12_paper_1.2.1.2.1 rfl 0 rfl ?_
            refine gf_X12_papers (σ := (zI σ 0 (0 : Int32))) M u2014 dt_X12_paper_1.2.1.2.2 (v := (σ.1 23)) rfl ?_
            refine z_iload_n M dt_X12_paper_1.2.2.1.1 rfl 1 rfl ?_
            have ⟨hg, h⟩ := gIx_s h
            refine as_M31 (σ := (zI σ 0 (0 : Int32))) M (f := (σ.2.1 24)) rfl hg dt_X12_paper_1.2.2.1.2 ?_
            refine z_aload_n M dt_X12_paper_1.2.2.2.1 rfl 0 rfl ?_
            refine gf_X12_paperFrom M u2016 dt_X12_paper_1.2.2.2.2 ?_
            refine z_aload_n M dt_X12_paper_2.1.1.1.1 rfl 0 rfl ?_
            refine gf_X12_papers (σ := (zA (zI σ 0 (0 : Int32)) 24 (upd (σ.2.1 24) (Int32.toNatClampNeg (σ.1 23)) p0))) M u2014 dt_X12_paper_2.1.1.1.2 (v := (σ.1 23)) rfl ?_
            refine z_iload_n M dt_X12_paper_2.1.1.2.1 rfl 2 rfl ?_
            have ⟨hg, h⟩ := gIx_s h
            refine as_M32 (σ := (zA (zI σ 0 (0 : Int32)) 24 (upd (σ.2.1 24) (Int32.toNatClampNeg (σ.1 23)) p0))) M (f := (σ.2.1 25)) rfl hg dt_X12_paper_2.1.1.2.2 ?_
            refine z_aload_n M dt_X12_paper_2.1.2.1.1 rfl 0 rfl ?_
            refine gf_X12_paperTo M u2017 dt_X12_paper_2.1.2.1.2 ?_
            refine z_aload_n M dt_X12_paper_2.1.2.2.1 rfl 0 rfl ?_
            refine gf_X12_papers (σ := (zA (zA (zI σ 0 (0 : Int32)) 24 (upd (σ.2.1 24) (Int32.toNatClampNeg (σ.1 23)) p0)) 25 (upd (σ.2.1 25) (Int32.toNatClampNeg (σ.1 23)) p1))) M u2014 dt_X12_paper_2.1.2.2.2 (v := (σ.1 23)) rfl ?_
            refine z_iload_n M dt_X12_paper_2.2.1.1.1 rfl 3 rfl ?_
            have ⟨hg, h⟩ := gIx_s h
            refine as_M33 (σ := (zA (zA (zI σ 0 (0 : Int32)) 24 (upd (σ.2.1 24) (Int32.toNatClampNeg (σ.1 23)) p0)) 25 (upd (σ.2.1 25) (Int32.toNatClampNeg (σ.1 23)) p1))) M (f := (σ.2.1 26)) rfl hg dt_X12_paper_2.2.1.1.2 ?_
            refine z_aload_n M dt_X12_paper_2.2.1.2.1 rfl 0 rfl ?_
            refine z_dup M dt_X12_paper_2.2.1.2.2 rfl ?_
            refine gf_X12_papers (σ := (zA (zA (zA (zI σ 0 (0 : Int32)) 24 (upd (σ.2.1 24) (Int32.toNatClampNeg (σ.1 23)) p0)) 25 (upd (σ.2.1 25) (Int32.toNatClampNeg (σ.1 23)) p1)) 26 (upd (σ.2.1 26) (Int32.toNatClampNeg (σ.1 23)) p2))) M u2014 dt_X12_paper_2.2.2.1.1 (v := (σ.1 23)) rfl ?_
            refine z_iconst M dt_X12_paper_2.2.2.1.2 ki_1 ?_
            refine z_iadd M dt_X12_paper_2.2.2.2.1 ?_
            refine pf_X12_papers M u2014 dt_X12_paper_2.2.2.2.2 ?_
            refine z_aload_n M dt_X12_paper_3.1.1 rfl 0 rfl ?_
            refine gf_X12_papers (σ := (zI (zA (zA (zA (zI σ 0 (0 : Int32)) 24 (upd (σ.2.1 24) (Int32.toNatClampNeg (σ.1 23)) p0)) 25 (upd (σ.2.1 25) (Int32.toNatClampNeg (σ.1 23)) p1)) 26 (upd (σ.2.1 26) (Int32.toNatClampNeg (σ.1 23)) p2)) 23 ((σ.1 23) + (1 : Int32)))) M u2014 dt_X12_paper_3.1.2 (v := ((σ.1 23) + (1 : Int32))) rfl ?_
            obtain rfl := Option.some.inj h
            exact z_iret M dt_X12_paper_3.2
          · have h := gIt hc h
            refine z_iconst M dt_X12_paper_1.1.2.2.1 ki_m1 ?_
            obtain rfl := Option.some.inj h
            exact z_iret M dt_X12_paper_1.1.2.2.2
set_option maxHeartbeats 4000000 in
set_option maxRecDepth 100000 in
theorem wL_X12_dates_2 {o : (Zst × Int32)} (M : zM l D zcl (zty cy) A ad (zR 2) (mW a cy ad) RX12 cX12_dates 4 (some .boolean) o.1 (some (.int o.2)) G) {k32 : Zst → Option (Zst × Int32)}  (v1 : Int32) (Hk32 : ∀ (σ : Zst), k32 σ = some o → G σ [(0, .ref (a 0)), (1, .int v1)] 32 []) :
    ∀ (n2 : Nat) (σ : Zst) (v2 : Int32), L_X12_dates_2 k32 v1 n2 σ v2 = some o → G σ [(0, .ref (a 0)), (1, .int v1), (2, .int v2)] 2 [] := by
  intro n2
  induction n2 with
  | zero => intro σ v2 h; exact nomatch (show (none : Option (Zst × Int32)) = some _ from h)
  | succ n2 ih =>
    intro σ v2 h
    refine z_iload_n M dt_X12_dates_0.1.1.2.1 rfl 2 rfl ?_
    refine z_bipush M dt_X12_dates_0.1.1.2.2 kb_10 ?_
    refine z_icmp_ge (tgt := 32) M dt_X12_dates_0.1.2.1.1 (by decide) (fun hc => ?_) (fun hc => ?_)
    · have h := gIt hc h
      refine z_sub M [0, 1] (lv' := [(0, .ref (a 0)), (1, .int v1)]) rfl ?_
      exact Hk32 σ h
    · have h := gIf hc h
      refine z_aload_n M dt_X12_dates_0.1.2.1.2 rfl 0 rfl ?_
      refine gf_X12_firstYear M u2018 dt_X12_dates_0.1.2.2.1 ?_
      refine z_iload_n M dt_X12_dates_0.1.2.2.2 rfl 2 rfl ?_
      refine z_sipush M dt_X12_dates_0.2.1.1.1 ks_1900 ?_
      have ⟨hg, h⟩ := gIx_s h
      refine as_M34 (σ := σ) M (f := (σ.2.1 27)) rfl hg dt_X12_dates_0.2.1.1.2 ?_
      refine z_aload_n M dt_X12_dates_0.2.1.2.1 rfl 0 rfl ?_
      refine gf_X12_lastYear M u2019 dt_X12_dates_0.2.1.2.2 ?_
      refine z_iload_n M dt_X12_dates_0.2.2.1.1 rfl 2 rfl ?_
      refine z_sipush M dt_X12_dates_0.2.2.1.2 ks_2100 ?_
      have ⟨hg, h⟩ := gIx_s h
      refine as_M35 (σ := (zA σ 27 (upd (σ.2.1 27) (Int32.toNatClampNeg v2) (1900 : Int32)))) M (f := (σ.2.1 28)) rfl hg dt_X12_dates_0.2.2.2.1 ?_
      refine z_iinc (v := (v2 + (1 : Int32))) (lv' := [(2, .int (v2 + (1 : Int32))), (0, .ref (a 0)), (1, .int v1)]) M dt_X12_dates_0.2.2.2.2 (k := 2) rfl (congrArg (fun q => v2 + q) ki_1) (by decide) rfl ?_
      refine z_goto (tgt := 2) M dt_X12_dates_1.1.1.1.1 (by decide) ?_
      refine z_sub M [1, 2, 0] (lv' := [(0, .ref (a 0)), (1, .int v1), (2, .int (v2 + (1 : Int32)))]) rfl ?_
      exact ih (zA (zA σ 27 (upd (σ.2.1 27) (Int32.toNatClampNeg v2) (1900 : Int32))) 28 (upd (σ.2.1 28) (Int32.toNatClampNeg v2) (2100 : Int32))) (v2 + (1 : Int32)) h
set_option maxHeartbeats 4000000 in
set_option maxRecDepth 100000 in
theorem wL_X12_dates_34 {o : (Zst × Int32)} (M : zM l D zcl (zty cy) A ad (zR 2) (mW a cy ad) RX12 cX12_dates 4 (some .boolean) o.1 (some (.int o.2)) G) {k105 : Zst → Option (Zst × Int32)}  (v1 : Int32) (Hk105 : ∀ (σ : Zst), k105 σ = some o → G σ [(0, .ref (a 0))] 105 []) :
    ∀ (n34 : Nat) (σ : Zst) (v2 : Int32), L_X12_dates_34 k105 v1 n34 σ v2 = some o → G σ [(0, .ref (a 0)), (1, .int v1), (2, .int v2)] 34 [] := by
  intro n34
  induction n34 with
  | zero => intro σ v2 h; exact nomatch (show (none : Option (Zst × Int32)) = some _ from h)
  | succ n34 ih =>
    intro σ v2 h
    refine z_iload_n M dt_X12_dates_1.1.1.2.2 rfl 2 rfl ?_
    refine z_aload_n M dt_X12_dates_1.1.2.1.1 rfl 0 rfl ?_
    refine gf_X12_papers (σ := σ) M u2014 dt_X12_dates_1.1.2.1.2 (v := (σ.1 23)) rfl ?_
    refine z_icmp_ge (tgt := 105) M dt_X12_dates_1.1.2.2.1 (by decide) (fun hc => ?_) (fun hc => ?_)
    · have h := gIt hc h
      refine z_sub M [0] (lv' := [(0, .ref (a 0))]) rfl ?_
      exact Hk105 σ h
    · have h := gIf hc h
      refine z_iload_n M dt_X12_dates_1.1.2.2.2 rfl 1 rfl ?_
      refine z_iload_n M dt_X12_dates_1.2.1.1.1 rfl 2 rfl ?_
      refine k_X12_has M u1701 (Nat.le_of_ble_eq_true rfl) (Nat.le_of_ble_eq_true rfl) dt_X12_dates_1.2.1.1.2 ?_
      refine z_if_ne (tgt := 99) M dt_X12_dates_1.2.1.2.1 (by decide) (fun hc => ?_) (fun hc => ?_)
      · have h := gIf hc h
        refine z_iinc (v := (v2 + (1 : Int32))) (lv' := [(2, .int (v2 + (1 : Int32))), (0, .ref (a 0)), (1, .int v1)]) M dt_X12_dates_3.2.1.2.1 (k := 2) rfl (congrArg (fun q => v2 + q) ki_1) (by decide) rfl ?_
        refine z_goto (tgt := 34) M dt_X12_dates_3.2.1.2.2 (by decide) ?_
        refine z_sub M [1, 2, 0] (lv' := [(0, .ref (a 0)), (1, .int v1), (2, .int (v2 + (1 : Int32)))]) rfl ?_
        exact ih σ (v2 + (1 : Int32)) h
      · have h := gIt hc h
        refine z_aload_n M dt_X12_dates_1.2.1.2.2 rfl 0 rfl ?_
        refine gf_X12_paperLayer M u2015 dt_X12_dates_1.2.2.1.1 ?_
        refine z_iload_n M dt_X12_dates_1.2.2.1.2 rfl 2 rfl ?_
        have ⟨hg, h⟩ := gIx_s h
        refine al_M31 (σ := σ) M (f := (σ.2.1 24)) rfl hg dt_X12_dates_1.2.2.2.1 ?_
        refine z_istore_n (lv' := [(3, .int ((σ.2.1 24) (Int32.toNatClampNeg v2))), (0, .ref (a 0)), (1, .int v1), (2, .int v2)]) M dt_X12_dates_1.2.2.2.2 rfl (by decide) rfl ?_
        refine z_aload_n M dt_X12_dates_2.1.1.1.1 rfl 1 rfl ?_
        refine gf_X12_firstYear M u2018 dt_X12_dates_2.1.1.1.2 ?_
        refine z_iload_n M dt_X12_dates_2.1.1.2.1 rfl 0 rfl ?_
        refine z_aload_n M dt_X12_dates_2.1.1.2.2 rfl 1 rfl ?_
        refine gf_X12_firstYear M u2018 dt_X12_dates_2.1.2.1.1 ?_
        refine z_iload_n M dt_X12_dates_2.1.2.1.2 rfl 0 rfl ?_
        have ⟨hg, h⟩ := gIx_s h
        refine al_M34 (σ := σ) M (f := (σ.2.1 27)) rfl hg dt_X12_dates_2.1.2.2.1 ?_
        refine z_aload_n M dt_X12_dates_2.1.2.2.2 rfl 1 rfl ?_
        refine gf_X12_paperFrom M u2016 dt_X12_dates_2.2.1.1.1 ?_
        refine z_iload_n M dt_X12_dates_2.2.1.1.2 rfl 3 rfl ?_
        have ⟨hg, h⟩ := gIx_s h
        refine al_M32 (σ := σ) M (f := (σ.2.1 25)) rfl hg dt_X12_dates_2.2.1.2.1 ?_
        refine z_mmax M u1686 u677 u100 u678 (Nat.le_of_ble_eq_true rfl) (Nat.le_of_ble_eq_true rfl) dt_X12_dates_2.2.1.2.2 ?_
        have ⟨hg, h⟩ := gIx_s h
        refine as_M34 (σ := σ) M (f := (σ.2.1 27)) rfl hg dt_X12_dates_2.2.2.1.1 ?_
        refine z_aload_n M dt_X12_dates_2.2.2.1.2 rfl 1 rfl ?_
        refine gf_X12_lastYear M u2019 dt_X12_dates_2.2.2.2.1 ?_
        refine z_iload_n M dt_X12_dates_2.2.2.2.2 rfl 0 rfl ?_
        refine z_aload_n M dt_X12_dates_3.1.1.1.1 rfl 1 rfl ?_
        refine gf_X12_lastYear M u2019 dt_X12_dates_3.1.1.1.2 ?_
        refine z_iload_n M dt_X12_dates_3.1.1.2.1 rfl 0 rfl ?_
        have ⟨hg, h⟩ := gIx_s h
        refine al_M35 (σ := (zA σ 27 (upd (σ.2.1 27) (Int32.toNatClampNeg ((σ.2.1 24) (Int32.toNatClampNeg v2))) (jMax ((σ.2.1 27) (Int32.toNatClampNeg ((σ.2.1 24) (Int32.toNatClampNeg v2)))) ((σ.2.1 25) (Int32.toNatClampNeg v2)))))) M (f := (σ.2.1 28)) rfl hg dt_X12_dates_3.1.1.2.2 ?_
        refine z_aload_n M dt_X12_dates_3.1.2.1.1 rfl 1 rfl ?_
        refine gf_X12_paperTo M u2017 dt_X12_dates_3.1.2.1.2 ?_
        refine z_iload_n M dt_X12_dates_3.1.2.2.1 rfl 3 rfl ?_
        have ⟨hg, h⟩ := gIx_s h
        refine al_M33 (σ := (zA σ 27 (upd (σ.2.1 27) (Int32.toNatClampNeg ((σ.2.1 24) (Int32.toNatClampNeg v2))) (jMax ((σ.2.1 27) (Int32.toNatClampNeg ((σ.2.1 24) (Int32.toNatClampNeg v2)))) ((σ.2.1 25) (Int32.toNatClampNeg v2)))))) M (f := (σ.2.1 26)) rfl hg dt_X12_dates_3.1.2.2.2 ?_
        refine z_mmin M u1576 u680 u100 u681 (Nat.le_of_ble_eq_true rfl) (Nat.le_of_ble_eq_true rfl) dt_X12_dates_3.2.1.1.1 ?_
        have ⟨hg, h⟩ := gIx_s h
        refine as_M35 (σ := (zA σ 27 (upd (σ.2.1 27) (Int32.toNatClampNeg ((σ.2.1 24) (Int32.toNatClampNeg v2))) (jMax ((σ.2.1 27) (Int32.toNatClampNeg ((σ.2.1 24) (Int32.toNatClampNeg v2)))) ((σ.2.1 25) (Int32.toNatClampNeg v2)))))) M (f := (σ.2.1 28)) rfl hg dt_X12_dates_3.2.1.1.2 ?_
        refine z_iinc (v := (v2 + (1 : Int32))) (lv' := [(2, .int (v2 + (1 : Int32))), (3, .int ((σ.2.1 24) (Int32.toNatClampNeg v2))), (0, .ref (a 0)), (1, .int v1)]) M dt_X12_dates_3.2.1.2.1 (k := 3) rfl (congrArg (fun q => v2 + q) ki_1) (by decide) rfl ?_
        refine z_goto (tgt := 34) M dt_X12_dates_3.2.1.2.2 (by decide) ?_
        refine z_sub M [2, 3, 0] (lv' := [(0, .ref (a 0)), (1, .int v1), (2, .int (v2 + (1 : Int32)))]) rfl ?_
        exact ih (zA (zA σ 27 (upd (σ.2.1 27) (Int32.toNatClampNeg ((σ.2.1 24) (Int32.toNatClampNeg v2))) (jMax ((σ.2.1 27) (Int32.toNatClampNeg ((σ.2.1 24) (Int32.toNatClampNeg v2)))) ((σ.2.1 25) (Int32.toNatClampNeg v2))))) 28 (upd (σ.2.1 28) (Int32.toNatClampNeg ((σ.2.1 24) (Int32.toNatClampNeg v2))) (jMin ((σ.2.1 28) (Int32.toNatClampNeg ((σ.2.1 24) (Int32.toNatClampNeg v2)))) ((σ.2.1 26) (Int32.toNatClampNeg v2))))) (v2 + (1 : Int32)) h
set_option maxHeartbeats 4000000 in
set_option maxRecDepth 100000 in
theorem wL_X12_dates_107 {o : (Zst × Int32)} (M : zM l D zcl (zty cy) A ad (zR 2) (mW a cy ad) RX12 cX12_dates 4 (some .boolean) o.1 (some (.int o.2)) G) {k142 : Zst → Option (Zst × Int32)}   (Hk142 : ∀ (σ : Zst), k142 σ = some o → G σ [(0, .ref (a 0))] 142 []) :
    ∀ (n107 : Nat) (σ : Zst) (v2 : Int32), L_X12_dates_107 k142 n107 σ v2 = some o → G σ [(0, .ref (a 0)), (2, .int v2)] 107 [] := by
  intro n107
  induction n107 with
  | zero => intro σ v2 h; exact nomatch (show (none : Option (Zst × Int32)) = some _ from h)
  | succ n107 ih =>
    intro σ v2 h
    refine z_iload_n M dt_X12_dates_3.2.2.2.1 rfl 1 rfl ?_
    refine z_bipush M dt_X12_dates_3.2.2.2.2 kb_10 ?_
    refine z_icmp_ge (tgt := 142) M dt_X12_dates_4.1.1.1.1 (by decide) (fun hc => ?_) (fun hc => ?_)
    · have h := gIt hc h
      refine z_sub M [0] (lv' := [(0, .ref (a 0))]) rfl ?_
      exact Hk142 σ h
    · have h := gIf hc h
      refine z_aload_n M dt_X12_dates_4.1.1.1.2 rfl 0 rfl ?_
      refine gf_X12_lastYear M u2019 dt_X12_dates_4.1.1.2.1 ?_
      refine z_iload_n M dt_X12_dates_4.1.1.2.2 rfl 1 rfl ?_
      refine z_aload_n M dt_X12_dates_4.1.2.1.1 rfl 0 rfl ?_
      refine gf_X12_lastYear M u2019 dt_X12_dates_4.1.2.1.2 ?_
      refine z_iload_n M dt_X12_dates_4.1.2.2.1 rfl 1 rfl ?_
      have ⟨hg, h⟩ := gIx_s h
      refine al_M35 (σ := σ) M (f := (σ.2.1 28)) rfl hg dt_X12_dates_4.1.2.2.2 ?_
      refine z_aload_n M dt_X12_dates_4.2.1.1.1 rfl 0 rfl ?_
      refine gf_X12_lastYear M u2019 dt_X12_dates_4.2.1.1.2 ?_
      refine z_iload_n M dt_X12_dates_4.2.1.2.1 rfl 1 rfl ?_
      refine z_iconst M dt_X12_dates_4.2.1.2.2 ki_1 ?_
      refine z_isub M dt_X12_dates_4.2.2.1.1 ?_
      have ⟨hg, h⟩ := gIx_s h
      refine al_M35 (σ := σ) M (f := (σ.2.1 28)) rfl hg dt_X12_dates_4.2.2.1.2 ?_
      refine z_mmin M u1576 u680 u100 u681 (Nat.le_of_ble_eq_true rfl) (Nat.le_of_ble_eq_true rfl) dt_X12_dates_4.2.2.2.1 ?_
      have ⟨hg, h⟩ := gIx_s h
      refine as_M35 (σ := σ) M (f := (σ.2.1 28)) rfl hg dt_X12_dates_4.2.2.2.2 ?_
      refine z_iinc (v := (v2 + (1 : Int32))) (lv' := [(2, .int (v2 + (1 : Int32))), (0, .ref (a 0))]) M dt_X12_dates_5.1.1.1.1 (k := 1) rfl (congrArg (fun q => v2 + q) ki_1) (by decide) rfl ?_
      refine z_goto (tgt := 107) M dt_X12_dates_5.1.1.1.2 (by decide) ?_
      refine z_sub M [1, 0] (lv' := [(0, .ref (a 0)), (2, .int (v2 + (1 : Int32)))]) rfl ?_
      exact ih (zA σ 28 (upd (σ.2.1 28) (Int32.toNatClampNeg v2) (jMin ((σ.2.1 28) (Int32.toNatClampNeg v2)) ((σ.2.1 28) (Int32.toNatClampNeg (v2 - (1 : Int32))))))) (v2 + (1 : Int32)) h
set_option maxHeartbeats 4000000 in
set_option maxRecDepth 100000 in
theorem wJ_X12_dates_190 {o : (Zst × Int32)} (M : zM l D zcl (zty cy) A ad (zR 2) (mW a cy ad) RX12 cX12_dates 4 (some .boolean) o.1 (some (.int o.2)) G) {k147 : Zst → Int32 → Int32 → Option (Zst × Int32)} (σ : Zst) (v2 : Int32) (v3 : Int32) (s0 : Int32) (s1 : Int32) (Hk147 : ∀ (σ : Zst) (w2 : Int32) (w3 : Int32), k147 σ w2 w3 = some o → G σ [(0, .ref (a 0)), (2, .int w2), (3, .int w3)] 147 []) (h : J_X12_dates_190 k147 σ v2 v3 s0 s1 = some o) : G σ [(0, .ref (a 0)), (2, .int v2), (3, .int v3)] 190 [.int s0, .int s1, .ref (a 34)] := by
  have ⟨hg, h⟩ := gIx_s h
  refine as_M34 (σ := σ) M (f := (σ.2.1 27)) rfl hg dt_X12_dates_7.1.1.1.1 ?_
  refine z_iload_n M dt_X12_dates_7.1.1.1.2 rfl 1 rfl ?_
  refine z_if_eq (tgt := 214) M dt_X12_dates_7.1.1.2.1 (by decide) (fun hc => ?_) (fun hc => ?_)
  · have h := gIt hc h
    refine z_iconst M dt_X12_dates_7.2.2.2.1 ki_0 ?_
    refine z_istore_n (lv' := [(2, .int (0 : Int32)), (0, .ref (a 0)), (3, .int v3)]) M dt_X12_dates_7.2.2.2.2 rfl (by decide) rfl ?_
    refine z_iinc (v := (v3 + (-1 : Int32))) (lv' := [(3, .int (v3 + (-1 : Int32))), (2, .int (0 : Int32)), (0, .ref (a 0))]) M dt_X12_dates_8.1.1 (k := 2) rfl (congrArg (fun q => v3 + q) ki_m1) (by decide) rfl ?_
    refine z_goto (tgt := 147) M dt_X12_dates_8.1.2 (by decide) ?_
    refine z_sub M [2, 1, 0] (lv' := [(0, .ref (a 0)), (2, .int (0 : Int32)), (3, .int (v3 + (-1 : Int32)))]) rfl ?_
    exact Hk147 (zA σ 27 (upd (σ.2.1 27) (Int32.toNatClampNeg s1) s0)) (0 : Int32) (v3 + (-1 : Int32)) h
  · have h := gIf hc h
    refine z_aload_n M dt_X12_dates_7.1.1.2.2 rfl 0 rfl ?_
    refine gf_X12_firstYear M u2018 dt_X12_dates_7.1.2.1.1 ?_
    refine z_iload_n M dt_X12_dates_7.1.2.1.2 rfl 2 rfl ?_
    have ⟨hg, h⟩ := gIx_s h
    refine al_M34 (σ := (zA σ 27 (upd (σ.2.1 27) (Int32.toNatClampNeg s1) s0))) M (f := (upd (σ.2.1 27) (Int32.toNatClampNeg s1) s0)) rfl hg dt_X12_dates_7.1.2.2.1 ?_
    refine z_aload_n M dt_X12_dates_7.1.2.2.2 rfl 0 rfl ?_
    refine gf_X12_lastYear M u2019 dt_X12_dates_7.2.1.1.1 ?_
    refine z_iload_n M dt_X12_dates_7.2.1.1.2 rfl 2 rfl ?_
    have ⟨hg, h⟩ := gIx_s h
    refine al_M35 (σ := (zA σ 27 (upd (σ.2.1 27) (Int32.toNatClampNeg s1) s0))) M (f := (σ.2.1 28)) rfl hg dt_X12_dates_7.2.1.2.1 ?_
    have hJ2 : G (zA σ 27 (upd (σ.2.1 27) (Int32.toNatClampNeg s1) s0)) [(0, .ref (a 0)), (2, .int v2), (3, .int v3)] 215 [.int (if ((σ.2.1 28) (Int32.toNatClampNeg v3)) < ((upd (σ.2.1 27) (Int32.toNatClampNeg s1) s0) (Int32.toNatClampNeg v3)) then (0 : Int32) else (1 : Int32))] := by
      refine z_istore_n (lv' := [(2, .int (if ((σ.2.1 28) (Int32.toNatClampNeg v3)) < ((upd (σ.2.1 27) (Int32.toNatClampNeg s1) s0) (Int32.toNatClampNeg v3)) then (0 : Int32) else (1 : Int32))), (0, .ref (a 0)), (3, .int v3)]) M dt_X12_dates_7.2.2.2.2 rfl (by decide) rfl ?_
      refine z_iinc (v := (v3 + (-1 : Int32))) (lv' := [(3, .int (v3 + (-1 : Int32))), (2, .int (if ((σ.2.1 28) (Int32.toNatClampNeg v3)) < ((upd (σ.2.1 27) (Int32.toNatClampNeg s1) s0) (Int32.toNatClampNeg v3)) then (0 : Int32) else (1 : Int32))), (0, .ref (a 0))]) M dt_X12_dates_8.1.1 (k := 2) rfl (congrArg (fun q => v3 + q) ki_m1) (by decide) rfl ?_
      refine z_goto (tgt := 147) M dt_X12_dates_8.1.2 (by decide) ?_
      refine z_sub M [2, 1, 0] (lv' := [(0, .ref (a 0)), (2, .int (if ((σ.2.1 28) (Int32.toNatClampNeg v3)) < ((upd (σ.2.1 27) (Int32.toNatClampNeg s1) s0) (Int32.toNatClampNeg v3)) then (0 : Int32) else (1 : Int32))), (3, .int (v3 + (-1 : Int32)))]) rfl ?_
      exact Hk147 (zA σ 27 (upd (σ.2.1 27) (Int32.toNatClampNeg s1) s0)) (if ((σ.2.1 28) (Int32.toNatClampNeg v3)) < ((upd (σ.2.1 27) (Int32.toNatClampNeg s1) s0) (Int32.toNatClampNeg v3)) then (0 : Int32) else (1 : Int32)) (v3 + (-1 : Int32)) h
    refine z_icmp_gt (tgt := 214) M dt_X12_dates_7.2.1.2.2 (by decide) (fun hc1 => ?_) (fun hc1 => ?_)
    · refine z_iconst M dt_X12_dates_7.2.2.2.1 ki_0 ?_
      exact (zTt hc1 hJ2)
    · refine z_iconst M dt_X12_dates_7.2.2.1.1 ki_1 ?_
      refine z_goto (tgt := 215) M dt_X12_dates_7.2.2.1.2 (by decide) ?_
      exact (zTf hc1 hJ2)
set_option maxHeartbeats 4000000 in
set_option maxRecDepth 100000 in
theorem wL_X12_dates_147 {o : (Zst × Int32)} (M : zM l D zcl (zty cy) A ad (zR 2) (mW a cy ad) RX12 cX12_dates 4 (some .boolean) o.1 (some (.int o.2)) G)    :
    ∀ (n147 : Nat) (σ : Zst) (v2 : Int32) (v3 : Int32), L_X12_dates_147  n147 σ v2 v3 = some o → G σ [(0, .ref (a 0)), (2, .int v2), (3, .int v3)] 147 [] := by
  intro n147
  induction n147 with
  | zero => intro σ v2 v3 h; exact nomatch (show (none : Option (Zst × Int32)) = some _ from h)
  | succ n147 ih =>
    intro σ v2 v3 h
    refine z_iload_n M dt_X12_dates_5.1.2.2.1 rfl 2 rfl ?_
    refine z_if_lt (tgt := 222) M dt_X12_dates_5.1.2.2.2 (by decide) (fun hc => ?_) (fun hc => ?_)
    · have h := gIt hc h
      refine z_iload_n M dt_X12_dates_8.2.1 rfl 1 rfl ?_
      have ⟨hg, h⟩ := gBo_s h
      obtain rfl := Option.some.inj h
      exact z_zret M (nBo hg) dt_X12_dates_8.2.2
    · have h := gIf hc h
      refine z_aload_n M dt_X12_dates_5.2.1.1.1 rfl 0 rfl ?_
      refine gf_X12_firstYear M u2018 dt_X12_dates_5.2.1.1.2 ?_
      refine z_iload_n M dt_X12_dates_5.2.1.2.1 rfl 2 rfl ?_
      refine z_iload_n M dt_X12_dates_5.2.1.2.2 rfl 2 rfl ?_
      refine z_iconst M dt_X12_dates_5.2.2.1.1 ki_1 ?_
      refine z_iadd M dt_X12_dates_5.2.2.1.2 ?_
      refine z_bipush M dt_X12_dates_5.2.2.2.1 kb_10 ?_
      refine z_icmp_ge (tgt := 184) M dt_X12_dates_5.2.2.2.2 (by decide) (fun hc => ?_) (fun hc => ?_)
      · have h := gIt hc h
        refine z_aload_n M dt_X12_dates_6.2.2.1.1 rfl 0 rfl ?_
        refine gf_X12_firstYear M u2018 dt_X12_dates_6.2.2.1.2 ?_
        refine z_iload_n M dt_X12_dates_6.2.2.2.1 rfl 2 rfl ?_
        have ⟨hg, h⟩ := gIx_s h
        refine al_M34 (σ := σ) M (f := (σ.2.1 27)) rfl hg dt_X12_dates_6.2.2.2.2 ?_
        exact wJ_X12_dates_190 M (k147 := (fun σ w2 w3 => L_X12_dates_147  n147 σ w2 w3)) σ v2 v3 ((σ.2.1 27) (Int32.toNatClampNeg v3)) v3 ih h
      · have h := gIf hc h
        refine z_aload_n M dt_X12_dates_6.1.1.1.1 rfl 0 rfl ?_
        refine gf_X12_firstYear M u2018 dt_X12_dates_6.1.1.1.2 ?_
        refine z_iload_n M dt_X12_dates_6.1.1.2.1 rfl 2 rfl ?_
        have ⟨hg, h⟩ := gIx_s h
        refine al_M34 (σ := σ) M (f := (σ.2.1 27)) rfl hg dt_X12_dates_6.1.1.2.2 ?_
        refine z_aload_n M dt_X12_dates_6.1.2.1.1 rfl 0 rfl ?_
        refine gf_X12_firstYear M u2018 dt_X12_dates_6.1.2.1.2 ?_
        refine z_iload_n M dt_X12_dates_6.1.2.2.1 rfl 2 rfl ?_
        refine z_iconst M dt_X12_dates_6.1.2.2.2 ki_1 ?_
        refine z_iadd M dt_X12_dates_6.2.1.1.1 ?_
        have ⟨hg, h⟩ := gIx_s h
        refine al_M34 (σ := σ) M (f := (σ.2.1 27)) rfl hg dt_X12_dates_6.2.1.1.2 ?_
        refine z_mmax M u1686 u677 u100 u678 (Nat.le_of_ble_eq_true rfl) (Nat.le_of_ble_eq_true rfl) dt_X12_dates_6.2.1.2.1 ?_
        refine z_goto (tgt := 190) M dt_X12_dates_6.2.1.2.2 (by decide) ?_
        exact wJ_X12_dates_190 M (k147 := (fun σ w2 w3 => L_X12_dates_147  n147 σ w2 w3)) σ v2 v3 (jMax ((σ.2.1 27) (Int32.toNatClampNeg v3)) ((σ.2.1 27) (Int32.toNatClampNeg (v3 + (1 : Int32))))) v3 ih h
set_option maxHeartbeats 4000000 in
set_option maxRecDepth 100000 in
theorem wJ_X12_dates_142 {o : (Zst × Int32)} (M : zM l D zcl (zty cy) A ad (zR 2) (mW a cy ad) RX12 cX12_dates 4 (some .boolean) o.1 (some (.int o.2)) G) (σ : Zst)   (h : J_X12_dates_142 σ = some o) : G σ [(0, .ref (a 0))] 142 [] := by
  refine z_iconst M dt_X12_dates_5.1.1.2.1 ki_1 ?_
  refine z_istore_n (lv' := [(2, .int (1 : Int32)), (0, .ref (a 0))]) M dt_X12_dates_5.1.1.2.2 rfl (by decide) rfl ?_
  refine z_bipush M dt_X12_dates_5.1.2.1.1 kb_9 ?_
  refine z_istore_n (lv' := [(3, .int (9 : Int32)), (2, .int (1 : Int32)), (0, .ref (a 0))]) M dt_X12_dates_5.1.2.1.2 rfl (by decide) rfl ?_
  refine z_sub M [2, 1, 0] (lv' := [(0, .ref (a 0)), (2, .int (1 : Int32)), (3, .int (9 : Int32))]) rfl ?_
  exact wL_X12_dates_147 M   zFu σ (1 : Int32) (9 : Int32) h
set_option maxHeartbeats 4000000 in
set_option maxRecDepth 100000 in
theorem wJ_X12_dates_105 {o : (Zst × Int32)} (M : zM l D zcl (zty cy) A ad (zR 2) (mW a cy ad) RX12 cX12_dates 4 (some .boolean) o.1 (some (.int o.2)) G) (σ : Zst)   (h : J_X12_dates_105 σ = some o) : G σ [(0, .ref (a 0))] 105 [] := by
  refine z_iconst M dt_X12_dates_3.2.2.1.1 ki_1 ?_
  refine z_istore_n (lv' := [(2, .int (1 : Int32)), (0, .ref (a 0))]) M dt_X12_dates_3.2.2.1.2 rfl (by decide) rfl ?_
  refine z_sub M [1, 0] (lv' := [(0, .ref (a 0)), (2, .int (1 : Int32))]) rfl ?_
  exact wL_X12_dates_107 M (k142 := (fun σ3 => J_X12_dates_142 σ3)) (fun σ3 h => by
      exact wJ_X12_dates_142 M  σ3 h) zFu σ (1 : Int32) h
set_option maxHeartbeats 4000000 in
set_option maxRecDepth 100000 in
theorem wJ_X12_dates_32 {o : (Zst × Int32)} (M : zM l D zcl (zty cy) A ad (zR 2) (mW a cy ad) RX12 cX12_dates 4 (some .boolean) o.1 (some (.int o.2)) G) (σ : Zst) (v1 : Int32)  (h : J_X12_dates_32 σ v1 = some o) : G σ [(0, .ref (a 0)), (1, .int v1)] 32 [] := by
  refine z_iconst M dt_X12_dates_1.1.1.1.2 ki_0 ?_
  refine z_istore_n (lv' := [(2, .int (0 : Int32)), (0, .ref (a 0)), (1, .int v1)]) M dt_X12_dates_1.1.1.2.1 rfl (by decide) rfl ?_
  refine z_sub M [1, 2, 0] (lv' := [(0, .ref (a 0)), (1, .int v1), (2, .int (0 : Int32))]) rfl ?_
  exact wL_X12_dates_34 M (k105 := (fun σ4 => J_X12_dates_105 σ4)) v1 (fun σ4 h => by
      exact wJ_X12_dates_105 M  σ4 h) zFu σ (0 : Int32) h
set_option maxHeartbeats 4000000 in
set_option maxRecDepth 100000 in
theorem m_X12_dates (hD : ∀ σ, va_D A (mW a cy ad σ)) {σ : Zst} {p0 : Int32} {o : (Zst × Int32)} (h : f_X12_dates σ p0 = some o) : zT l D zcl (zty cy) A ad (mW a cy ad) yX12_dates cX12_dates 4 (some .boolean) 2 [.ref (a 0), .int p0] σ o.1 (some (.int o.2)) := by
  refine z_met pn_X12 hD (Nat.le_of_ble_eq_true rfl) rfl (fun G M => ?_)
  refine z_iconst M dt_X12_dates_0.1.1.1.1 ki_0 ?_
  refine z_istore_n (lv' := [(2, .int (0 : Int32)), (0, .ref (a 0)), (1, .int p0)]) M dt_X12_dates_0.1.1.1.2 rfl (by decide) rfl ?_
  refine z_sub M [1, 2, 0] (lv' := [(0, .ref (a 0)), (1, .int p0), (2, .int (0 : Int32))]) rfl ?_
  exact wL_X12_dates_2 M (k32 := (fun σ5 => J_X12_dates_32 σ5 p0)) p0 (fun σ5 h => by
      exact wJ_X12_dates_32 M  σ5 p0 h) zFu σ (0 : Int32) h
theorem k_X12_dates {n : Nat} (M : zM l D zcl (zty cy) A ad (zR n) (mW a cy ad) own cc nL rt σo ov G) {p0 : Int32} {o : (Zst × Int32)} (h : f_X12_dates σ p0 = some o) {index : Nat} (hl : Cond.methodLink own index yX12_dates ∈ uw) (hR : 3 ≤ n) (hW : (st.map fun v => v.category).sum ≤ 8) (d : decode cc pc = .ok (.invokevirtual index, 3)) (kk : G o.1 lv (pc + 3) (.int o.2 :: st)) : G σ lv pc (.int p0 :: .ref (a 0) :: st) := z_callV M [.int p0] (m_X12_dates (zM_hD M) h) (hM0 σ) rfl hl u99 u1910 u1909 u82 hd_X12_dates hR (by decide) rfl hW d kk
end ZWK
