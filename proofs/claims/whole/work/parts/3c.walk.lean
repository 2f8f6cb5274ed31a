section ZWK
variable {l : Launch} {D : va_G} {A : Nat → Prop} {ad : (Nat → Nat) × (Nat → Nat)} {a : Nat → Nat} {cy : ClassId × (ClassId × (ClassId × ClassId))} {own : String} {cc : ByteArray} {nL : Nat} {rt : Option FieldType} {σo : Zst} {ov : Option Value} {G : Zst → List (Nat × Value) → Nat → List Value → Prop}
variable {σ σ0 : Zst} {lv : List (Nat × Value)} {pc : Nat} {st : List Value} {zcl0 : List vw_C} {tys : List (ClassId × FieldType)} {wf : Zst → va_W}
set_option maxHeartbeats 4000000 in
set_option maxRecDepth 100000 in
theorem m_X11_line (hD : ∀ σ, va_D A (cW a cy σ)) {σ : Zst} {p0 : Int32} {p1 : Int32} {p2 : Int32} {o : (Zst × Int32)} (h : f_X11_line σ p0 p1 p2 = some o) : zT l D zcl (zty cy) A ad (cW a cy) yX11_line cX11_line 4 (some .int) 5 [.ref (a 0), .int p0, .int p1, .int p2] σ o.1 (some (.int o.2)) := by
  refine z_met pn_X11 hD (Nat.le_of_ble_eq_true rfl) rfl (fun G M => ?_)
  refine z_aload_n M dt_X11_line_0.1.1.1 rfl 0 rfl ?_
  refine gf_X11_answers M u435 dt_X11_line_0.1.1.2 ?_
  refine z_iload_n M dt_X11_line_0.1.2.1 rfl 1 rfl ?_
  refine z_iload_n M dt_X11_line_0.1.2.2 rfl 2 rfl ?_
  refine z_iload_n M dt_X11_line_0.2.1.1 rfl 3 rfl ?_
  obtain ⟨t1, hc, h⟩ := gBd h
  refine k_X0_surely M hc u907 (Nat.le_of_ble_eq_true rfl) (Nat.le_of_ble_eq_true rfl) dt_X11_line_0.2.1.2 ?_
  obtain rfl := Option.some.inj h
  exact z_iret M dt_X11_line_0.2.2
set_option maxHeartbeats 4000000 in
set_option maxRecDepth 100000 in
theorem m_X0_measureOne (hD : ∀ σ, va_D A (cW a cy σ)) {σ : Zst} {p0 : Int32} {o : Zst} (h : f_X0_measureOne σ p0 = some o) : zT l D zcl (zty cy) A ad (cW a cy) yX0_measureOne cX0_measureOne 2 none 1 [.ref (a 27), .int p0] σ o none := by
  refine z_met pn_X0 hD (Nat.le_of_ble_eq_true rfl) rfl (fun G M => ?_)
  refine z_aload_n M dt_X0_measureOne_0.1.1.1.1 rfl 0 rfl ?_
  refine z_aload_n M dt_X0_measureOne_0.1.1.1.2 rfl 0 rfl ?_
  refine gf_X0_cells (σ := σ) M u273 dt_X0_measureOne_0.1.1.2.1 (v := (σ.1 12)) rfl ?_
  have hJ3 : G σ [(0, .ref (a 27)), (1, .int p0)] 24 [.int (if (σ.1 12) = (0 : Int32) then p0 else (if (σ.1 14) ≤ p0 then (σ.1 14) else p0)), .ref (a 27)] := by
    refine pf_X0_least M u275 dt_X0_measureOne_0.2.2.1.1 ?_
    refine z_aload_n M dt_X0_measureOne_0.2.2.1.2 rfl 0 rfl ?_
    refine z_aload_n M dt_X0_measureOne_0.2.2.2.1 rfl 0 rfl ?_
    refine gf_X0_cells (σ := (zI σ 14 (if (σ.1 12) = (0 : Int32) then p0 else (if (σ.1 14) ≤ p0 then (σ.1 14) else p0)))) M u273 dt_X0_measureOne_0.2.2.2.2 (v := (σ.1 12)) rfl ?_
    have hJ6 : G (zI σ 14 (if (σ.1 12) = (0 : Int32) then p0 else (if (σ.1 14) ≤ p0 then (σ.1 14) else p0))) [(0, .ref (a 27)), (1, .int p0)] 51 [.int (if (σ.1 12) = (0 : Int32) then p0 else (if p0 ≤ (σ.1 15) then (σ.1 15) else p0)), .ref (a 27)] := by
      refine pf_X0_greatest M u276 dt_X0_measureOne_1.2.1.1.2 ?_
      refine z_aload_n M dt_X0_measureOne_1.2.1.2.1 rfl 0 rfl ?_
      refine z_dup M dt_X0_measureOne_1.2.1.2.2 rfl ?_
      refine gf_X0_tooMuch (σ := (zI (zI σ 14 (if (σ.1 12) = (0 : Int32) then p0 else (if (σ.1 14) ≤ p0 then (σ.1 14) else p0))) 15 (if (σ.1 12) = (0 : Int32) then p0 else (if p0 ≤ (σ.1 15) then (σ.1 15) else p0)))) M u277 dt_X0_measureOne_1.2.2.1.1 (v := (σ.1 16)) rfl ?_
      refine z_iload_n M dt_X0_measureOne_1.2.2.1.2 rfl 1 rfl ?_
      have hJ8 : G (zI (zI σ 14 (if (σ.1 12) = (0 : Int32) then p0 else (if (σ.1 14) ≤ p0 then (σ.1 14) else p0))) 15 (if (σ.1 12) = (0 : Int32) then p0 else (if p0 ≤ (σ.1 15) then (σ.1 15) else p0))) [(0, .ref (a 27)), (1, .int p0)] 68 [.int (if p0 ≤ (0 : Int32) then (0 : Int32) else (1 : Int32)), .int (σ.1 16), .ref (a 27)] := by
        refine z_iadd M dt_X0_measureOne_2.1.1.2.1 ?_
        refine pf_X0_tooMuch M u277 dt_X0_measureOne_2.1.1.2.2 ?_
        refine z_aload_n M dt_X0_measureOne_2.1.2.1.1 rfl 0 rfl ?_
        refine z_dup M dt_X0_measureOne_2.1.2.1.2 rfl ?_
        refine gf_X0_tooLittle (σ := (zI (zI (zI σ 14 (if (σ.1 12) = (0 : Int32) then p0 else (if (σ.1 14) ≤ p0 then (σ.1 14) else p0))) 15 (if (σ.1 12) = (0 : Int32) then p0 else (if p0 ≤ (σ.1 15) then (σ.1 15) else p0))) 16 ((σ.1 16) + (if p0 ≤ (0 : Int32) then (0 : Int32) else (1 : Int32))))) M u278 dt_X0_measureOne_2.1.2.2.1 (v := (σ.1 17)) rfl ?_
        refine z_iload_n M dt_X0_measureOne_2.1.2.2.2 rfl 1 rfl ?_
        have hJ10 : G (zI (zI (zI σ 14 (if (σ.1 12) = (0 : Int32) then p0 else (if (σ.1 14) ≤ p0 then (σ.1 14) else p0))) 15 (if (σ.1 12) = (0 : Int32) then p0 else (if p0 ≤ (σ.1 15) then (σ.1 15) else p0))) 16 ((σ.1 16) + (if p0 ≤ (0 : Int32) then (0 : Int32) else (1 : Int32)))) [(0, .ref (a 27)), (1, .int p0)] 86 [.int (if (0 : Int32) ≤ p0 then (0 : Int32) else (1 : Int32)), .int (σ.1 17), .ref (a 27)] := by
          refine z_iadd M dt_X0_measureOne_2.2.2.1.1 ?_
          refine pf_X0_tooLittle M u278 dt_X0_measureOne_2.2.2.1.2 ?_
          refine z_aload_n M dt_X0_measureOne_2.2.2.2.1 rfl 0 rfl ?_
          refine z_dup M dt_X0_measureOne_2.2.2.2.2 rfl ?_
          refine gf_X0_sum (σ := (zI (zI (zI (zI σ 14 (if (σ.1 12) = (0 : Int32) then p0 else (if (σ.1 14) ≤ p0 then (σ.1 14) else p0))) 15 (if (σ.1 12) = (0 : Int32) then p0 else (if p0 ≤ (σ.1 15) then (σ.1 15) else p0))) 16 ((σ.1 16) + (if p0 ≤ (0 : Int32) then (0 : Int32) else (1 : Int32)))) 17 ((σ.1 17) + (if (0 : Int32) ≤ p0 then (0 : Int32) else (1 : Int32))))) M u274 dt_X0_measureOne_3.1.1.1.1 (v := (σ.1 13)) rfl ?_
          refine z_iload_n M dt_X0_measureOne_3.1.1.1.2 rfl 1 rfl ?_
          refine z_iadd M dt_X0_measureOne_3.1.1.2 ?_
          refine pf_X0_sum M u274 dt_X0_measureOne_3.1.2.1.1 ?_
          refine z_aload_n M dt_X0_measureOne_3.1.2.1.2 rfl 0 rfl ?_
          refine z_dup M dt_X0_measureOne_3.1.2.2 rfl ?_
          refine gf_X0_cells (σ := (zI (zI (zI (zI (zI σ 14 (if (σ.1 12) = (0 : Int32) then p0 else (if (σ.1 14) ≤ p0 then (σ.1 14) else p0))) 15 (if (σ.1 12) = (0 : Int32) then p0 else (if p0 ≤ (σ.1 15) then (σ.1 15) else p0))) 16 ((σ.1 16) + (if p0 ≤ (0 : Int32) then (0 : Int32) else (1 : Int32)))) 17 ((σ.1 17) + (if (0 : Int32) ≤ p0 then (0 : Int32) else (1 : Int32)))) 13 ((σ.1 13) + p0))) M u273 dt_X0_measureOne_3.2.1.1.1 (v := (σ.1 12)) rfl ?_
          refine z_iconst M dt_X0_measureOne_3.2.1.1.2 ki_1 ?_
          refine z_iadd M dt_X0_measureOne_3.2.1.2 ?_
          refine pf_X0_cells M u273 dt_X0_measureOne_3.2.2.1 ?_
          obtain rfl := Option.some.inj h
          exact z_vret M dt_X0_measureOne_3.2.2.2
        refine z_if_ge (tgt := 85) M dt_X0_measureOne_2.2.1.1.1 (by decide) (fun hc9 => ?_) (fun hc9 => ?_)
        · refine z_iconst M dt_X0_measureOne_2.2.1.2.2 ki_0 ?_
          exact (zTt hc9 hJ10)
        · refine z_iconst M dt_X0_measureOne_2.2.1.1.2 ki_1 ?_
          refine z_goto (tgt := 86) M dt_X0_measureOne_2.2.1.2.1 (by decide) ?_
          exact (zTf hc9 hJ10)
      refine z_if_le (tgt := 67) M dt_X0_measureOne_1.2.2.2.1 (by decide) (fun hc7 => ?_) (fun hc7 => ?_)
      · refine z_iconst M dt_X0_measureOne_2.1.1.1.2 ki_0 ?_
        exact (zTt hc7 hJ8)
      · refine z_iconst M dt_X0_measureOne_1.2.2.2.2 ki_1 ?_
        refine z_goto (tgt := 68) M dt_X0_measureOne_2.1.1.1.1 (by decide) ?_
        exact (zTf hc7 hJ8)
    refine z_if_eq (tgt := 43) M dt_X0_measureOne_1.1.1.1.1 (by decide) (fun hc4 => ?_) (fun hc4 => ?_)
    · refine z_iload_n M dt_X0_measureOne_1.1.2.1.2 rfl 1 rfl ?_
      refine z_goto (tgt := 51) M dt_X0_measureOne_1.1.2.2.1 (by decide) ?_
      exact (zTt hc4 hJ6)
    · refine z_iload_n M dt_X0_measureOne_1.1.1.1.2 rfl 1 rfl ?_
      refine z_aload_n M dt_X0_measureOne_1.1.1.2.1 rfl 0 rfl ?_
      refine gf_X0_greatest (σ := (zI σ 14 (if (σ.1 12) = (0 : Int32) then p0 else (if (σ.1 14) ≤ p0 then (σ.1 14) else p0)))) M u276 dt_X0_measureOne_1.1.1.2.2 (v := (σ.1 15)) rfl ?_
      refine z_icmp_le (tgt := 47) M dt_X0_measureOne_1.1.2.1.1 (by decide) (fun hc5 => ?_) (fun hc5 => ?_)
      · refine z_aload_n M dt_X0_measureOne_1.1.2.2.2 rfl 0 rfl ?_
        refine gf_X0_greatest (σ := (zI σ 14 (if (σ.1 12) = (0 : Int32) then p0 else (if (σ.1 14) ≤ p0 then (σ.1 14) else p0)))) M u276 dt_X0_measureOne_1.2.1.1.1 (v := (σ.1 15)) rfl ?_
        exact (zTt hc5 (zTf hc4 hJ6))
      · refine z_iload_n M dt_X0_measureOne_1.1.2.1.2 rfl 1 rfl ?_
        refine z_goto (tgt := 51) M dt_X0_measureOne_1.1.2.2.1 (by decide) ?_
        exact (zTf hc5 (zTf hc4 hJ6))
  refine z_if_eq (tgt := 16) M dt_X0_measureOne_0.1.1.2.2 (by decide) (fun hc1 => ?_) (fun hc1 => ?_)
  · refine z_iload_n M dt_X0_measureOne_0.2.1.1.1 rfl 1 rfl ?_
    refine z_goto (tgt := 24) M dt_X0_measureOne_0.2.1.1.2 (by decide) ?_
    exact (zTt hc1 hJ3)
  · refine z_iload_n M dt_X0_measureOne_0.1.2.1.1 rfl 1 rfl ?_
    refine z_aload_n M dt_X0_measureOne_0.1.2.1.2 rfl 0 rfl ?_
    refine gf_X0_least (σ := σ) M u275 dt_X0_measureOne_0.1.2.2.1 (v := (σ.1 14)) rfl ?_
    refine z_icmp_ge (tgt := 20) M dt_X0_measureOne_0.1.2.2.2 (by decide) (fun hc2 => ?_) (fun hc2 => ?_)
    · refine z_aload_n M dt_X0_measureOne_0.2.1.2.1 rfl 0 rfl ?_
      refine gf_X0_least (σ := σ) M u275 dt_X0_measureOne_0.2.1.2.2 (v := (σ.1 14)) rfl ?_
      exact (zTt hc2 (zTf hc1 hJ3))
    · refine z_iload_n M dt_X0_measureOne_0.2.1.1.1 rfl 1 rfl ?_
      refine z_goto (tgt := 24) M dt_X0_measureOne_0.2.1.1.2 (by decide) ?_
      exact (zTf hc2 (zTf hc1 hJ3))
theorem k_X0_measureOne {n : Nat} (M : zM l D zcl (zty cy) A ad (zR n) (cW a cy) own cc nL rt σo ov G) {p0 : Int32} {o : Zst} (h : f_X0_measureOne σ p0 = some o) {index : Nat} (hl : Cond.methodLink own index yX0_measureOne ∈ uw) (hR : 2 ≤ n) (hW : (st.map fun v => v.category).sum ≤ 8) (d : decode cc pc = .ok (.invokevirtual index, 3)) (kk : G o lv (pc + 3) (st)) : G σ lv pc (.int p0 :: .ref (a 27) :: st) := z_callV M [.int p0] (m_X0_measureOne (zM_hD M) h) (hC27 σ) rfl hl u94 u929 u928 u14 hd_X0_measureOne hR (by decide) rfl hW d kk
set_option maxHeartbeats 4000000 in
set_option maxRecDepth 100000 in
theorem wL_X0_measure_32 {o : Zst} (M : zM l D zcl (zty cy) A ad (zR 4) (cW a cy) RX0 cX0_measure 4 none o none G)  (v1 : Int32) (v2 : Int32)  :
    ∀ (n32 : Nat) (σ : Zst) (v3 : Int32), L_X0_measure_32 v1 v2 n32 σ v3 = some o → G σ [(0, .ref (a 27)), (1, .int v1), (2, .int v2), (3, .int v3)] 32 [] := by
  intro n32
  induction n32 with
  | zero => intro σ v3 h; exact nomatch (show (none : Option Zst) = some _ from h)
  | succ n32 ih =>
    intro σ v3 h
    refine z_iload_n M dt_X0_measure_1.1.2.1.1 rfl 3 rfl ?_
    refine z_aload_n M dt_X0_measure_1.1.2.1.2 rfl 0 rfl ?_
    refine gf_X0_town M u270 dt_X0_measure_1.1.2.2.1 ?_
    refine k_X10_cellCount M u862 (Nat.le_of_ble_eq_true rfl) (Nat.le_of_ble_eq_true rfl) dt_X0_measure_1.1.2.2.2 ?_
    refine z_icmp_ge (tgt := 104) M dt_X0_measure_1.2.1.1.1 (by decide) (fun hc => ?_) (fun hc => ?_)
    · have h := gIt hc h
      obtain rfl := Option.some.inj h
      exact z_vret M dt_X0_measure_3.2.2.2
    · have h := gIf hc h
      refine z_aload_n M dt_X0_measure_1.2.1.1.2 rfl 0 rfl ?_
      refine gf_X0_numbers M u271 dt_X0_measure_1.2.1.2.1 ?_
      refine z_iconst M dt_X0_measure_1.2.1.2.2 ki_1 ?_
      refine z_iload_n M dt_X0_measure_1.2.2.1.1 rfl 3 rfl ?_
      refine z_iload_n M dt_X0_measure_1.2.2.1.2 rfl 1 rfl ?_
      obtain ⟨t1, hc, h⟩ := gBd h
      refine k_X4_has M hc u864 (Nat.le_of_ble_eq_true rfl) (Nat.le_of_ble_eq_true rfl) dt_X0_measure_1.2.2.2.1 ?_
      refine z_if_eq (tgt := 98) M dt_X0_measure_1.2.2.2.2 (by decide) (fun hc => ?_) (fun hc => ?_)
      · have h := gIt hc h
        refine z_iinc (v := (v3 + (1 : Int32))) (lv' := [(3, .int (v3 + (1 : Int32))), (0, .ref (a 27)), (1, .int v1), (2, .int v2)]) M dt_X0_measure_3.2.2.1.1 (k := 3) rfl (congrArg (fun q => v3 + q) ki_1) (by decide) rfl ?_
        refine z_goto (tgt := 32) M dt_X0_measure_3.2.2.1.2 (by decide) ?_
        refine z_sub M [1, 2, 3, 0] (lv' := [(0, .ref (a 27)), (1, .int v1), (2, .int v2), (3, .int (v3 + (1 : Int32)))]) rfl ?_
        exact ih σ (v3 + (1 : Int32)) h
      · have h := gIf hc h
        refine z_aload_n M dt_X0_measure_2.1.1.1.1 rfl 0 rfl ?_
        refine gf_X0_numbers M u271 dt_X0_measure_2.1.1.1.2 ?_
        refine z_iconst M dt_X0_measure_2.1.1.2.1 ki_2 ?_
        refine z_iload_n M dt_X0_measure_2.1.1.2.2 rfl 2 rfl ?_
        refine z_iadd M dt_X0_measure_2.1.2.1.1 ?_
        refine z_iload_n M dt_X0_measure_2.1.2.1.2 rfl 3 rfl ?_
        refine z_iload_n M dt_X0_measure_2.1.2.2.1 rfl 1 rfl ?_
        obtain ⟨t2, hc, h⟩ := gBd h
        refine k_X4_has M hc u864 (Nat.le_of_ble_eq_true rfl) (Nat.le_of_ble_eq_true rfl) dt_X0_measure_2.1.2.2.2 ?_
        refine z_if_eq (tgt := 98) M dt_X0_measure_2.2.1.1.1 (by decide) (fun hc => ?_) (fun hc => ?_)
        · have h := gIt hc h
          refine z_iinc (v := (v3 + (1 : Int32))) (lv' := [(3, .int (v3 + (1 : Int32))), (0, .ref (a 27)), (1, .int v1), (2, .int v2)]) M dt_X0_measure_3.2.2.1.1 (k := 3) rfl (congrArg (fun q => v3 + q) ki_1) (by decide) rfl ?_
          refine z_goto (tgt := 32) M dt_X0_measure_3.2.2.1.2 (by decide) ?_
          refine z_sub M [1, 2, 3, 0] (lv' := [(0, .ref (a 27)), (1, .int v1), (2, .int v2), (3, .int (v3 + (1 : Int32)))]) rfl ?_
          exact ih σ (v3 + (1 : Int32)) h
        · have h := gIf hc h
          refine z_aload_n M dt_X0_measure_2.2.1.1.2 rfl 0 rfl ?_
          refine z_aload_n M dt_X0_measure_2.2.1.2.1 rfl 0 rfl ?_
          refine gf_X0_numbers M u271 dt_X0_measure_2.2.1.2.2 ?_
          refine z_iconst M dt_X0_measure_2.2.2.1.1 ki_2 ?_
          refine z_iload_n M dt_X0_measure_2.2.2.1.2 rfl 2 rfl ?_
          refine z_iadd M dt_X0_measure_2.2.2.2.1 ?_
          refine z_iload_n M dt_X0_measure_2.2.2.2.2 rfl 3 rfl ?_
          refine z_iload_n M dt_X0_measure_3.1.1.1.1 rfl 1 rfl ?_
          obtain ⟨t3, hc, h⟩ := gBd h
          refine k_X4_of M hc u868 (Nat.le_of_ble_eq_true rfl) (Nat.le_of_ble_eq_true rfl) dt_X0_measure_3.1.1.1.2 ?_
          refine z_aload_n M dt_X0_measure_3.1.1.2.1 rfl 0 rfl ?_
          refine gf_X0_numbers M u271 dt_X0_measure_3.1.1.2.2 ?_
          refine z_iconst M dt_X0_measure_3.1.2.1.1 ki_1 ?_
          refine z_iload_n M dt_X0_measure_3.1.2.1.2 rfl 3 rfl ?_
          refine z_iload_n M dt_X0_measure_3.1.2.2 rfl 1 rfl ?_
          obtain ⟨t4, hc, h⟩ := gBd h
          refine k_X4_of M hc u868 (Nat.le_of_ble_eq_true rfl) (Nat.le_of_ble_eq_true rfl) dt_X0_measure_3.2.1.1.1 ?_
          refine z_isub M dt_X0_measure_3.2.1.1.2 ?_
          obtain ⟨t5, hc, h⟩ := gBd h
          refine k_X0_measureOne M hc u926 (Nat.le_of_ble_eq_true rfl) (Nat.le_of_ble_eq_true rfl) dt_X0_measure_3.2.1.2 ?_
          refine z_iinc (v := (v3 + (1 : Int32))) (lv' := [(3, .int (v3 + (1 : Int32))), (0, .ref (a 27)), (1, .int v1), (2, .int v2)]) M dt_X0_measure_3.2.2.1.1 (k := 3) rfl (congrArg (fun q => v3 + q) ki_1) (by decide) rfl ?_
          refine z_goto (tgt := 32) M dt_X0_measure_3.2.2.1.2 (by decide) ?_
          refine z_sub M [1, 2, 3, 0] (lv' := [(0, .ref (a 27)), (1, .int v1), (2, .int v2), (3, .int (v3 + (1 : Int32)))]) rfl ?_
          exact ih t5 (v3 + (1 : Int32)) h
set_option maxHeartbeats 4000000 in
set_option maxRecDepth 100000 in
theorem m_X0_measure (hD : ∀ σ, va_D A (cW a cy σ)) {σ : Zst} {p0 : Int32} {p1 : Int32} {o : Zst} (h : f_X0_measure σ p0 p1 = some o) : zT l D zcl (zty cy) A ad (cW a cy) yX0_measure cX0_measure 4 none 4 [.ref (a 27), .int p0, .int p1] σ o none := by
  refine z_met pn_X0 hD (Nat.le_of_ble_eq_true rfl) rfl (fun G M => ?_)
  refine z_aload_n M dt_X0_measure_0.1.1.1.1 rfl 0 rfl ?_
  refine z_iconst M dt_X0_measure_0.1.1.1.2 ki_0 ?_
  refine pf_X0_cells M u273 dt_X0_measure_0.1.1.2.1 ?_
  refine z_aload_n M dt_X0_measure_0.1.1.2.2 rfl 0 rfl ?_
  refine z_iconst M dt_X0_measure_0.1.2.1.1 ki_0 ?_
  refine pf_X0_sum M u274 dt_X0_measure_0.1.2.1.2 ?_
  refine z_aload_n M dt_X0_measure_0.1.2.2.1 rfl 0 rfl ?_
  refine z_iconst M dt_X0_measure_0.1.2.2.2 ki_0 ?_
  refine pf_X0_least M u275 dt_X0_measure_0.2.1.1.1 ?_
  refine z_aload_n M dt_X0_measure_0.2.1.1.2 rfl 0 rfl ?_
  refine z_iconst M dt_X0_measure_0.2.1.2.1 ki_0 ?_
  refine pf_X0_greatest M u276 dt_X0_measure_0.2.1.2.2 ?_
  refine z_aload_n M dt_X0_measure_0.2.2.1.1 rfl 0 rfl ?_
  refine z_iconst M dt_X0_measure_0.2.2.1.2 ki_0 ?_
  refine pf_X0_tooMuch M u277 dt_X0_measure_0.2.2.2.1 ?_
  refine z_aload_n M dt_X0_measure_0.2.2.2.2 rfl 0 rfl ?_
  refine z_iconst M dt_X0_measure_1.1.1.1.1 ki_0 ?_
  refine pf_X0_tooLittle M u278 dt_X0_measure_1.1.1.1.2 ?_
  refine z_iconst M dt_X0_measure_1.1.1.2.1 ki_0 ?_
  refine z_istore_n (lv' := [(3, .int (0 : Int32)), (0, .ref (a 27)), (1, .int p0), (2, .int p1)]) M dt_X0_measure_1.1.1.2.2 rfl (by decide) rfl ?_
  refine z_sub M [1, 2, 3, 0] (lv' := [(0, .ref (a 27)), (1, .int p0), (2, .int p1), (3, .int (0 : Int32))]) rfl ?_
  exact wL_X0_measure_32 M  p0 p1 zFu (zI (zI (zI (zI (zI (zI σ 12 (0 : Int32)) 13 (0 : Int32)) 14 (0 : Int32)) 15 (0 : Int32)) 16 (0 : Int32)) 17 (0 : Int32)) (0 : Int32) h
theorem k_X0_measure {n : Nat} (M : zM l D zcl (zty cy) A ad (zR n) (cW a cy) own cc nL rt σo ov G) {p0 : Int32} {p1 : Int32} {o : Zst} (h : f_X0_measure σ p0 p1 = some o) {index : Nat} (hl : Cond.methodLink own index yX0_measure ∈ uw) (hR : 5 ≤ n) (hW : (st.map fun v => v.category).sum ≤ 8) (d : decode cc pc = .ok (.invokevirtual index, 3)) (kk : G o lv (pc + 3) (st)) : G σ lv pc (.int p1 :: .int p0 :: .ref (a 27) :: st) := z_callV M [.int p0, .int p1] (m_X0_measure (zM_hD M) h) (hC27 σ) rfl hl u94 u925 u924 u13 hd_X0_measure hR (by decide) rfl hW d kk
set_option maxHeartbeats 4000000 in
set_option maxRecDepth 100000 in
theorem m_X0_offBy (hD : ∀ σ, va_D A (cW a cy σ)) {σ : Zst} {p0 : Int32} {p1 : Int32} {o : (Zst × Int32)} (h : f_X0_offBy σ p0 p1 = some o) : zT l D zcl (zty cy) A ad (cW a cy) yX0_offBy cX0_offBy 3 (some .int) 5 [.ref (a 27), .int p0, .int p1] σ o.1 (some (.int o.2)) := by
  refine z_met pn_X0 hD (Nat.le_of_ble_eq_true rfl) rfl (fun G M => ?_)
  refine z_aload_n M dt_X0_offBy_0.1.1.1.1 rfl 0 rfl ?_
  refine gf_X0_town M u270 dt_X0_offBy_0.1.1.1.2 ?_
  refine z_iload_n M dt_X0_offBy_0.1.1.2.1 rfl 1 rfl ?_
  refine k_X10_hasSort M u861 (Nat.le_of_ble_eq_true rfl) (Nat.le_of_ble_eq_true rfl) dt_X0_offBy_0.1.1.2.2 ?_
  refine z_if_eq (tgt := 18) M dt_X0_offBy_0.1.2.1.1 (by decide) (fun hc => ?_) (fun hc => ?_)
  · have h := gIt hc h
    refine z_iconst M dt_X0_offBy_0.2.1.1.1 ki_m1 ?_
    obtain rfl := Option.some.inj h
    exact z_iret M dt_X0_offBy_0.2.1.1.2
  · have h := gIf hc h
    refine z_iload_n M dt_X0_offBy_0.1.2.1.2 rfl 2 rfl ?_
    refine kn_X11_isWay M u911 (Nat.le_of_ble_eq_true rfl) (Nat.le_of_ble_eq_true rfl) dt_X0_offBy_0.1.2.2.1 ?_
    refine z_if_ne (tgt := 20) M dt_X0_offBy_0.1.2.2.2 (by decide) (fun hc => ?_) (fun hc => ?_)
    · have h := gIf hc h
      refine z_aload_n M dt_X0_offBy_0.2.1.2.1 rfl 0 rfl ?_
      refine z_iload_n M dt_X0_offBy_0.2.1.2.2 rfl 1 rfl ?_
      refine z_iload_n M dt_X0_offBy_0.2.2.1.1 rfl 2 rfl ?_
      obtain ⟨t1, hc, h⟩ := gBd h
      refine k_X0_measure M hc u922 (Nat.le_of_ble_eq_true rfl) (Nat.le_of_ble_eq_true rfl) dt_X0_offBy_0.2.2.1.2 ?_
      refine z_aload_n M dt_X0_offBy_0.2.2.2.1 rfl 0 rfl ?_
      refine gf_X0_cells (σ := t1) M u273 dt_X0_offBy_0.2.2.2.2 (v := (t1.1 12)) rfl ?_
      refine z_if_le (tgt := 70) M dt_X0_offBy_1.1.1.1.1 (by decide) (fun hc => ?_) (fun hc => ?_)
      · have h := gIt hc h
        refine z_aload_n M dt_X0_offBy_2.2.1.1 rfl 0 rfl ?_
        refine gf_X0_cells (σ := t1) M u273 dt_X0_offBy_2.2.1.2 (v := (t1.1 12)) rfl ?_
        obtain rfl := Option.some.inj h
        exact z_iret M dt_X0_offBy_2.2.2
      · have h := gIf hc h
        refine z_aload_n M dt_X0_offBy_1.1.1.1.2 rfl 0 rfl ?_
        refine gf_X0_row M u272 dt_X0_offBy_1.1.1.2.1 ?_
        obtain ⟨t2, hc, h⟩ := gBd h
        refine k_X5_clear M hc u869 (Nat.le_of_ble_eq_true rfl) (Nat.le_of_ble_eq_true rfl) dt_X0_offBy_1.1.1.2.2 ?_
        refine z_aload_n M dt_X0_offBy_1.1.2.1.1 rfl 0 rfl ?_
        refine gf_X0_sum (σ := t2) M u274 dt_X0_offBy_1.1.2.1.2 (v := (t2.1 13)) rfl ?_
        refine z_i2l M dt_X0_offBy_1.1.2.2.1 ?_
        refine z_aload_n M dt_X0_offBy_1.1.2.2.2 rfl 0 rfl ?_
        refine gf_X0_cells (σ := t2) M u273 dt_X0_offBy_1.2.1.1.1 (v := (t2.1 12)) rfl ?_
        refine z_i2l M dt_X0_offBy_1.2.1.1.2 ?_
        obtain ⟨t3, hc, h⟩ := gBd h
        refine k_X5_addFraction M hc u891 (Nat.le_of_ble_eq_true rfl) (Nat.le_of_ble_eq_true rfl) dt_X0_offBy_1.2.1.2.1 ?_
        refine z_aload_n M dt_X0_offBy_1.2.1.2.2 rfl 0 rfl ?_
        refine gf_X0_least (σ := t3) M u275 dt_X0_offBy_1.2.2.1.1 (v := (t3.1 14)) rfl ?_
        refine z_i2l M dt_X0_offBy_1.2.2.1.2 ?_
        obtain ⟨t4, hc, h⟩ := gBd h
        refine k_X5_add M hc u873 (Nat.le_of_ble_eq_true rfl) (Nat.le_of_ble_eq_true rfl) dt_X0_offBy_1.2.2.2.1 ?_
        refine z_aload_n M dt_X0_offBy_1.2.2.2.2 rfl 0 rfl ?_
        refine gf_X0_greatest (σ := t4) M u276 dt_X0_offBy_2.1.1.1 (v := (t4.1 15)) rfl ?_
        refine z_i2l M dt_X0_offBy_2.1.1.2 ?_
        obtain ⟨t5, hc, h⟩ := gBd h
        refine k_X5_add M hc u873 (Nat.le_of_ble_eq_true rfl) (Nat.le_of_ble_eq_true rfl) dt_X0_offBy_2.1.2.1 ?_
        refine z_pop M dt_X0_offBy_2.1.2.2 rfl ?_
        refine z_aload_n M dt_X0_offBy_2.2.1.1 rfl 0 rfl ?_
        refine gf_X0_cells (σ := t5) M u273 dt_X0_offBy_2.2.1.2 (v := (t5.1 12)) rfl ?_
        obtain rfl := Option.some.inj h
        exact z_iret M dt_X0_offBy_2.2.2
    · have h := gIt hc h
      refine z_iconst M dt_X0_offBy_0.2.1.1.1 ki_m1 ?_
      obtain rfl := Option.some.inj h
      exact z_iret M dt_X0_offBy_0.2.1.1.2
theorem k_X0_offBy {n : Nat} (M : zM l D zcl (zty cy) A ad (zR n) (cW a cy) own cc nL rt σo ov G) {p0 : Int32} {p1 : Int32} {o : (Zst × Int32)} (h : f_X0_offBy σ p0 p1 = some o) {index : Nat} (hl : Cond.methodLink own index yX0_offBy ∈ uw) (hR : 6 ≤ n) (hW : (st.map fun v => v.category).sum ≤ 8) (d : decode cc pc = .ok (.invokevirtual index, 3)) (kk : G o.1 lv (pc + 3) (.int o.2 :: st)) : G σ lv pc (.int p1 :: .int p0 :: .ref (a 27) :: st) := z_callV M [.int p0, .int p1] (m_X0_offBy (zM_hD M) h) (hC27 σ) rfl hl u94 u921 u919 u920 hd_X0_offBy hR (by decide) rfl hW d kk
set_option maxHeartbeats 4000000 in
set_option maxRecDepth 100000 in
theorem m_X11_off (hD : ∀ σ, va_D A (cW a cy σ)) {σ : Zst} {p0 : Int32} {p1 : Int32} {o : (Zst × Int32)} (h : f_X11_off σ p0 p1 = some o) : zT l D zcl (zty cy) A ad (cW a cy) yX11_off cX11_off 3 (some .int) 6 [.ref (a 0), .int p0, .int p1] σ o.1 (some (.int o.2)) := by
  refine z_met pn_X11 hD (Nat.le_of_ble_eq_true rfl) rfl (fun G M => ?_)
  refine z_aload_n M dt_X11_off_0.1.1.1 rfl 0 rfl ?_
  refine gf_X11_answers M u435 dt_X11_off_0.1.1.2 ?_
  refine z_iload_n M dt_X11_off_0.1.2 rfl 1 rfl ?_
  refine z_iload_n M dt_X11_off_0.2.1.1 rfl 2 rfl ?_
  obtain ⟨t1, hc, h⟩ := gBd h
  refine k_X0_offBy M hc u918 (Nat.le_of_ble_eq_true rfl) (Nat.le_of_ble_eq_true rfl) dt_X11_off_0.2.1.2 ?_
  obtain rfl := Option.some.inj h
  exact z_iret M dt_X11_off_0.2.2
set_option maxHeartbeats 4000000 in
set_option maxRecDepth 100000 in
theorem m_J13_compare_74951 (hD : ∀ σ, va_D A (wf σ)) (σ0 : Zst) (p0 : Int64) (p1 : Int64) : zT l D zcl0 tys A ad wf yJ13_compare_74951 cJ13_compare_74951 4 (some .int) 1 [.long p0, .long p1] σ0 σ0 (some (.int (f_J13_compare_74951 p0 p1))) := by
  obtain ⟨o, h⟩ : ∃ o, f_J13_compare_74951 p0 p1 = o := ⟨_, rfl⟩
  rw [h]
  refine z_met pn_J13 hD (Nat.le_of_ble_eq_true rfl) rfl (fun G M => ?_)
  refine z_lload_n M dt_J13_compare_74951_0.1.1.1.1 rfl 0 rfl ?_
  refine z_lload_n M dt_J13_compare_74951_0.1.1.1.2 rfl 1 rfl ?_
  have hJ3 : G σ0 [(0, .long p0), (2, .long p1)] 21 [.int (if p1 ≤ p0 then (if p0 = p1 then (0 : Int32) else (1 : Int32)) else (-1 : Int32))] := by
    subst h
    exact z_iret M dt_J13_compare_74951_0.2.2.2
  refine z_lcmp_ge (tgt := 10) M dt_J13_compare_74951_0.1.1.2.1 dt_J13_compare_74951_0.1.1.2.2 (by decide) (fun hc1 => ?_) (fun hc1 => ?_)
  · refine z_lload_n M dt_J13_compare_74951_0.1.2.2 rfl 0 rfl ?_
    refine z_lload_n M dt_J13_compare_74951_0.2.1.1.1 rfl 1 rfl ?_
    refine z_lcmp_ne (tgt := 20) M dt_J13_compare_74951_0.2.1.1.2 dt_J13_compare_74951_0.2.1.2.1 (by decide) (fun hc2 => ?_) (fun hc2 => ?_)
    · refine z_iconst M dt_J13_compare_74951_0.2.2.1.2 ki_1 ?_
      exact (zTf hc2 (zTt hc1 hJ3))
    · refine z_iconst M dt_J13_compare_74951_0.2.1.2.2 ki_0 ?_
      refine z_goto (tgt := 21) M dt_J13_compare_74951_0.2.2.1.1 (by decide) ?_
      exact (zTt hc2 (zTt hc1 hJ3))
  · refine z_iconst M dt_J13_compare_74951_0.1.2.1.1 ki_m1 ?_
    refine z_goto (tgt := 21) M dt_J13_compare_74951_0.1.2.1.2 (by decide) ?_
    exact (zTf hc1 hJ3)
theorem k_J13_compare_74951 {n : Nat} (M : zM l D zcl0 tys A ad (zR n) wf own cc nL rt σo ov G) {p0 : Int64} {p1 : Int64} {index : Nat} (hl : Cond.methodLink own index yJ13_compare_74951 ∈ uw) (hR : 2 ≤ n) (hW : (st.map fun v => v.category).sum ≤ 8) (d : decode cc pc = .ok (.invokestatic index, 3)) (kk : G σ lv (pc + 3) (.int (f_J13_compare_74951 p0 p1) :: st)) : G σ lv pc (.long p1 :: .long p0 :: st) := z_callS M [.long p0, .long p1] (m_J13_compare_74951 (zM_hD M) σ p0 p1) hl u106 u946 u945 hd_J13_compare_74951 hR (by decide) rfl hW d kk
set_option maxHeartbeats 4000000 in
set_option maxRecDepth 100000 in
theorem m_X11_compareFractions (hD : ∀ σ, va_D A (wf σ)) (σ0 : Zst) (p0 : Int64) (p1 : Int64) (p2 : Int64) (p3 : Int64) : zT l D zcl0 tys A ad wf yX11_compareFractions cX11_compareFractions 8 (some .int) 2 [.long p0, .long p1, .long p2, .long p3] σ0 σ0 (some (.int (f_X11_compareFractions p0 p1 p2 p3))) := by
  obtain ⟨o, h⟩ : ∃ o, f_X11_compareFractions p0 p1 p2 p3 = o := ⟨_, rfl⟩
  rw [h]
  refine z_met pn_X11 hD (Nat.le_of_ble_eq_true rfl) rfl (fun G M => ?_)
  refine z_lload_n M dt_X11_compareFractions_0.1.1.1 rfl 0 rfl ?_
  refine z_lload M dt_X11_compareFractions_0.1.1.2 3 rfl ?_
  refine z_lmul M dt_X11_compareFractions_0.1.2.1 ?_
  refine z_lload M dt_X11_compareFractions_0.1.2.2 2 rfl ?_
  refine z_lload_n M dt_X11_compareFractions_0.2.1.1 rfl 1 rfl ?_
  refine z_lmul M dt_X11_compareFractions_0.2.1.2 ?_
  refine k_J13_compare_74951 M u944 (Nat.le_of_ble_eq_true rfl) (Nat.le_of_ble_eq_true rfl) dt_X11_compareFractions_0.2.2.1 ?_
  subst h
  exact z_iret M dt_X11_compareFractions_0.2.2.2
theorem kn_X11_compareFractions {n : Nat} (M : zM l D zcl0 tys A ad (zR n) wf own cc nL rt σo ov G) {p0 : Int64} {p1 : Int64} {p2 : Int64} {p3 : Int64} {index : Nat} {host : String} (hl : Cond.methodLinkNest own index yX11_compareFractions host ∈ zNw) (hR : 3 ≤ n) (hW : (st.map fun v => v.category).sum ≤ 8) (d : decode cc pc = .ok (.invokestatic index, 3)) (kk : G σ lv (pc + 3) (.int (f_X11_compareFractions p0 p1 p2 p3) :: st)) : G σ lv pc (.long p3 :: .long p2 :: .long p1 :: .long p0 :: st) := z_callSN M [.long p0, .long p1, .long p2, .long p3] (m_X11_compareFractions (zM_hD M) σ p0 p1 p2 p3) hl u87 u943 u942 hd_X11_compareFractions hR (by decide) rfl hW d kk
set_option maxHeartbeats 4000000 in
set_option maxRecDepth 100000 in
theorem wL_X0_nearestWay_24 {o : (Zst × Int32)} (M : zM l D zcl (zty cy) A ad (zR 5) (cW a cy) RX0 cX0_nearestWay 10 (some .int) o.1 (some (.int o.2)) G) {k93 : Zst → Int32 → Option (Zst × Int32)}  (v1 : Int32) (Hk93 : ∀ (σ : Zst) (w2 : Int32), k93 σ w2 = some o → G σ [(0, .ref (a 27)), (1, .int v1), (2, .int w2)] 93 []) :
    ∀ (n24 : Nat) (σ : Zst) (v2 : Int32) (v3 : Int64) (v5 : Int64) (v7 : Int32), L_X0_nearestWay_24 k93 v1 n24 σ v2 v3 v5 v7 = some o → G σ [(0, .ref (a 27)), (1, .int v1), (2, .int v2), (3, .long v3), (5, .long v5), (7, .int v7)] 24 [] := by
  intro n24
  induction n24 with
  | zero => intro σ v2 v3 v5 v7 h; exact nomatch (show (none : Option (Zst × Int32)) = some _ from h)
  | succ n24 ih =>
    intro σ v2 v3 v5 v7 h
    refine z_iload M dt_X0_nearestWay_0.2.2.2.2 5 rfl ?_
    refine z_iconst M dt_X0_nearestWay_1.1.1.1.1 ki_4 ?_
    refine z_icmp_ge (tgt := 93) M dt_X0_nearestWay_1.1.1.1.2 (by decide) (fun hc => ?_) (fun hc => ?_)
    · have h := gIt hc h
      refine z_sub M [0, 1, 2] (lv' := [(0, .ref (a 27)), (1, .int v1), (2, .int v2)]) rfl ?_
      exact Hk93 σ v2 h
    · have h := gIf hc h
      refine z_aload_n M dt_X0_nearestWay_1.1.1.2.1 rfl 0 rfl ?_
      refine z_iload_n M dt_X0_nearestWay_1.1.1.2.2 rfl 1 rfl ?_
      refine z_iload M dt_X0_nearestWay_1.1.2.1.1 5 rfl ?_
      obtain ⟨t1, hc, h⟩ := gBd h
      refine k_X0_measure M hc u922 (Nat.le_of_ble_eq_true rfl) (Nat.le_of_ble_eq_true rfl) dt_X0_nearestWay_1.1.2.1.2 ?_
      refine z_aload_n M dt_X0_nearestWay_1.1.2.2.1 rfl 0 rfl ?_
      refine gf_X0_sum (σ := t1) M u274 dt_X0_nearestWay_1.1.2.2.2 (v := (t1.1 13)) rfl ?_
      refine z_mabs M u938 u939 u100 u940 (Nat.le_of_ble_eq_true rfl) (Nat.le_of_ble_eq_true rfl) dt_X0_nearestWay_1.2.1.1.1 ?_
      refine z_i2l M dt_X0_nearestWay_1.2.1.1.2 ?_
      refine z_lstore (lv' := [(8, .long (Int32.toInt64 (jAbs (t1.1 13)))), (0, .ref (a 27)), (1, .int v1), (2, .int v2), (3, .long v3), (5, .long v5), (7, .int v7)]) M dt_X0_nearestWay_1.2.1.2.1 (by decide) rfl ?_
      refine z_aload_n M dt_X0_nearestWay_1.2.1.2.2 rfl 1 rfl ?_
      refine gf_X0_cells (σ := t1) M u273 dt_X0_nearestWay_1.2.2.1.1 (v := (t1.1 12)) rfl ?_
      refine z_if_le (tgt := 87) M dt_X0_nearestWay_1.2.2.1.2 (by decide) (fun hc => ?_) (fun hc => ?_)
      · have h := gIt hc h
        refine z_iinc (v := (v7 + (1 : Int32))) (lv' := [(7, .int (v7 + (1 : Int32))), (8, .long (Int32.toInt64 (jAbs (t1.1 13)))), (0, .ref (a 27)), (1, .int v1), (2, .int v2), (3, .long v3), (5, .long v5)]) M dt_X0_nearestWay_3.1.1.1.1 (k := 6) rfl (congrArg (fun q => v7 + q) ki_1) (by decide) rfl ?_
        refine z_goto (tgt := 24) M dt_X0_nearestWay_3.1.1.1.2 (by decide) ?_
        refine z_sub M [2, 3, 4, 5, 6, 0] (lv' := [(0, .ref (a 27)), (1, .int v1), (2, .int v2), (3, .long v3), (5, .long v5), (7, .int (v7 + (1 : Int32)))]) rfl ?_
        exact ih t1 v2 v3 v5 (v7 + (1 : Int32)) h
      · have h := gIf hc h
        refine z_iload_n M dt_X0_nearestWay_1.2.2.2.1 rfl 3 rfl ?_
        refine z_if_lt (tgt := 74) M dt_X0_nearestWay_1.2.2.2.2 (by decide) (fun hc => ?_) (fun hc => ?_)
        · have h := gIt hc h
          refine z_iload M dt_X0_nearestWay_2.2.1.1.1 6 rfl ?_
          refine z_istore_n (lv' := [(2, .int v7), (8, .long (Int32.toInt64 (jAbs (t1.1 13)))), (0, .ref (a 27)), (1, .int v1), (3, .long v3), (5, .long v5), (7, .int v7)]) M dt_X0_nearestWay_2.2.1.1.2 rfl (by decide) rfl ?_
          refine z_lload M dt_X0_nearestWay_2.2.1.2.1 1 rfl ?_
          refine z_lstore_n (lv' := [(3, .long (Int32.toInt64 (jAbs (t1.1 13)))), (2, .int v7), (8, .long (Int32.toInt64 (jAbs (t1.1 13)))), (0, .ref (a 27)), (1, .int v1), (5, .long v5), (7, .int v7)]) M dt_X0_nearestWay_2.2.1.2.2 rfl (by decide) rfl ?_
          refine z_aload_n M dt_X0_nearestWay_2.2.2.1.1 rfl 3 rfl ?_
          refine gf_X0_cells (σ := t1) M u273 dt_X0_nearestWay_2.2.2.1.2 (v := (t1.1 12)) rfl ?_
          refine z_i2l M dt_X0_nearestWay_2.2.2.2.1 ?_
          refine z_lstore (lv' := [(5, .long (Int32.toInt64 (t1.1 12))), (3, .long (Int32.toInt64 (jAbs (t1.1 13)))), (2, .int v7), (8, .long (Int32.toInt64 (jAbs (t1.1 13)))), (0, .ref (a 27)), (1, .int v1), (7, .int v7)]) M dt_X0_nearestWay_2.2.2.2.2 (by decide) rfl ?_
          refine z_iinc (v := (v7 + (1 : Int32))) (lv' := [(7, .int (v7 + (1 : Int32))), (5, .long (Int32.toInt64 (t1.1 12))), (3, .long (Int32.toInt64 (jAbs (t1.1 13)))), (2, .int v7), (8, .long (Int32.toInt64 (jAbs (t1.1 13)))), (0, .ref (a 27)), (1, .int v1)]) M dt_X0_nearestWay_3.1.1.1.1 (k := 6) rfl (congrArg (fun q => v7 + q) ki_1) (by decide) rfl ?_
          refine z_goto (tgt := 24) M dt_X0_nearestWay_3.1.1.1.2 (by decide) ?_
          refine z_sub M [5, 6, 3, 2, 1, 0] (lv' := [(0, .ref (a 27)), (1, .int v1), (2, .int v7), (3, .long (Int32.toInt64 (jAbs (t1.1 13)))), (5, .long (Int32.toInt64 (t1.1 12))), (7, .int (v7 + (1 : Int32)))]) rfl ?_
          exact ih t1 v7 (Int32.toInt64 (jAbs (t1.1 13))) (Int32.toInt64 (t1.1 12)) (v7 + (1 : Int32)) h
        · have h := gIf hc h
          refine z_lload M dt_X0_nearestWay_2.1.1.1.1 0 rfl ?_
          refine z_aload_n M dt_X0_nearestWay_2.1.1.1.2 rfl 1 rfl ?_
          refine gf_X0_cells (σ := t1) M u273 dt_X0_nearestWay_2.1.1.2.1 (v := (t1.1 12)) rfl ?_
          refine z_i2l M dt_X0_nearestWay_2.1.1.2.2 ?_
          refine z_lload_n M dt_X0_nearestWay_2.1.2.1.1 rfl 4 rfl ?_
          refine z_lload M dt_X0_nearestWay_2.1.2.1.2 5 rfl ?_
          refine kn_X11_compareFractions M u941 (Nat.le_of_ble_eq_true rfl) (Nat.le_of_ble_eq_true rfl) dt_X0_nearestWay_2.1.2.2.1 ?_
          refine z_if_ge (tgt := 87) M dt_X0_nearestWay_2.1.2.2.2 (by decide) (fun hc => ?_) (fun hc => ?_)
          · have h := gIt hc h
            refine z_iinc (v := (v7 + (1 : Int32))) (lv' := [(7, .int (v7 + (1 : Int32))), (8, .long (Int32.toInt64 (jAbs (t1.1 13)))), (0, .ref (a 27)), (1, .int v1), (2, .int v2), (3, .long v3), (5, .long v5)]) M dt_X0_nearestWay_3.1.1.1.1 (k := 6) rfl (congrArg (fun q => v7 + q) ki_1) (by decide) rfl ?_
            refine z_goto (tgt := 24) M dt_X0_nearestWay_3.1.1.1.2 (by decide) ?_
            refine z_sub M [2, 3, 4, 5, 6, 0] (lv' := [(0, .ref (a 27)), (1, .int v1), (2, .int v2), (3, .long v3), (5, .long v5), (7, .int (v7 + (1 : Int32)))]) rfl ?_
            exact ih t1 v2 v3 v5 (v7 + (1 : Int32)) h
          · have h := gIf hc h
            refine z_iload M dt_X0_nearestWay_2.2.1.1.1 6 rfl ?_
            refine z_istore_n (lv' := [(2, .int v7), (8, .long (Int32.toInt64 (jAbs (t1.1 13)))), (0, .ref (a 27)), (1, .int v1), (3, .long v3), (5, .long v5), (7, .int v7)]) M dt_X0_nearestWay_2.2.1.1.2 rfl (by decide) rfl ?_
            refine z_lload M dt_X0_nearestWay_2.2.1.2.1 1 rfl ?_
            refine z_lstore_n (lv' := [(3, .long (Int32.toInt64 (jAbs (t1.1 13)))), (2, .int v7), (8, .long (Int32.toInt64 (jAbs (t1.1 13)))), (0, .ref (a 27)), (1, .int v1), (5, .long v5), (7, .int v7)]) M dt_X0_nearestWay_2.2.1.2.2 rfl (by decide) rfl ?_
            refine z_aload_n M dt_X0_nearestWay_2.2.2.1.1 rfl 3 rfl ?_
            refine gf_X0_cells (σ := t1) M u273 dt_X0_nearestWay_2.2.2.1.2 (v := (t1.1 12)) rfl ?_
            refine z_i2l M dt_X0_nearestWay_2.2.2.2.1 ?_
            refine z_lstore (lv' := [(5, .long (Int32.toInt64 (t1.1 12))), (3, .long (Int32.toInt64 (jAbs (t1.1 13)))), (2, .int v7), (8, .long (Int32.toInt64 (jAbs (t1.1 13)))), (0, .ref (a 27)), (1, .int v1), (7, .int v7)]) M dt_X0_nearestWay_2.2.2.2.2 (by decide) rfl ?_
            refine z_iinc (v := (v7 + (1 : Int32))) (lv' := [(7, .int (v7 + (1 : Int32))), (5, .long (Int32.toInt64 (t1.1 12))), (3, .long (Int32.toInt64 (jAbs (t1.1 13)))), (2, .int v7), (8, .long (Int32.toInt64 (jAbs (t1.1 13)))), (0, .ref (a 27)), (1, .int v1)]) M dt_X0_nearestWay_3.1.1.1.1 (k := 6) rfl (congrArg (fun q => v7 + q) ki_1) (by decide) rfl ?_
            refine z_goto (tgt := 24) M dt_X0_nearestWay_3.1.1.1.2 (by decide) ?_
            refine z_sub M [5, 6, 3, 2, 1, 0] (lv' := [(0, .ref (a 27)), (1, .int v1), (2, .int v7), (3, .long (Int32.toInt64 (jAbs (t1.1 13)))), (5, .long (Int32.toInt64 (t1.1 12))), (7, .int (v7 + (1 : Int32)))]) rfl ?_
            exact ih t1 v7 (Int32.toInt64 (jAbs (t1.1 13))) (Int32.toInt64 (t1.1 12)) (v7 + (1 : Int32)) h
set_option maxHeartbeats 4000000 in
set_option maxRecDepth 100000 in
theorem wJ_X0_nearestWay_93 {o : (Zst × Int32)} (M : zM l D zcl (zty cy) A ad (zR 5) (cW a cy) RX0 cX0_nearestWay 10 (some .int) o.1 (some (.int o.2)) G) (σ : Zst) (v1 : Int32) (v2 : Int32)  (h : J_X0_nearestWay_93 σ v1 v2 = some o) : G σ [(0, .ref (a 27)), (1, .int v1), (2, .int v2)] 93 [] := by
  refine z_iload_n M dt_X0_nearestWay_3.1.1.2.1 rfl 2 rfl ?_
  refine z_if_lt (tgt := 127) M dt_X0_nearestWay_3.1.1.2.2 (by decide) (fun hc => ?_) (fun hc => ?_)
  · have h := gIt hc h
    refine z_iload_n M dt_X0_nearestWay_4.2.1.2 rfl 2 rfl ?_
    obtain rfl := Option.some.inj h
    exact z_iret M dt_X0_nearestWay_4.2.2
  · have h := gIf hc h
    refine z_aload_n M dt_X0_nearestWay_3.1.2.1.1 rfl 0 rfl ?_
    refine z_iload_n M dt_X0_nearestWay_3.1.2.1.2 rfl 1 rfl ?_
    refine z_iload_n M dt_X0_nearestWay_3.1.2.2.1 rfl 2 rfl ?_
    obtain ⟨t2, hc, h⟩ := gBd h
    refine k_X0_measure M hc u922 (Nat.le_of_ble_eq_true rfl) (Nat.le_of_ble_eq_true rfl) dt_X0_nearestWay_3.1.2.2.2 ?_
    refine z_aload_n M dt_X0_nearestWay_3.2.1.1.1 rfl 0 rfl ?_
    refine gf_X0_row M u272 dt_X0_nearestWay_3.2.1.1.2 ?_
    obtain ⟨t3, hc, h⟩ := gBd h
    refine k_X5_clear M hc u869 (Nat.le_of_ble_eq_true rfl) (Nat.le_of_ble_eq_true rfl) dt_X0_nearestWay_3.2.1.2.1 ?_
    refine z_aload_n M dt_X0_nearestWay_3.2.1.2.2 rfl 0 rfl ?_
    refine gf_X0_tooMuch (σ := t3) M u277 dt_X0_nearestWay_3.2.2.1.1 (v := (t3.1 16)) rfl ?_
    refine z_i2l M dt_X0_nearestWay_3.2.2.1.2 ?_
    obtain ⟨t4, hc, h⟩ := gBd h
    refine k_X5_add M hc u873 (Nat.le_of_ble_eq_true rfl) (Nat.le_of_ble_eq_true rfl) dt_X0_nearestWay_3.2.2.2.1 ?_
    refine z_aload_n M dt_X0_nearestWay_3.2.2.2.2 rfl 0 rfl ?_
    refine gf_X0_tooLittle (σ := t4) M u278 dt_X0_nearestWay_4.1.1.1 (v := (t4.1 17)) rfl ?_
    refine z_i2l M dt_X0_nearestWay_4.1.1.2 ?_
    obtain ⟨t5, hc, h⟩ := gBd h
    refine k_X5_add M hc u873 (Nat.le_of_ble_eq_true rfl) (Nat.le_of_ble_eq_true rfl) dt_X0_nearestWay_4.1.2 ?_
    refine z_pop M dt_X0_nearestWay_4.2.1.1 rfl ?_
    refine z_iload_n M dt_X0_nearestWay_4.2.1.2 rfl 2 rfl ?_
    obtain rfl := Option.some.inj h
    exact z_iret M dt_X0_nearestWay_4.2.2
set_option maxHeartbeats 4000000 in
set_option maxRecDepth 100000 in
theorem m_X0_nearestWay (hD : ∀ σ, va_D A (cW a cy σ)) {σ : Zst} {p0 : Int32} {o : (Zst × Int32)} (h : f_X0_nearestWay σ p0 = some o) : zT l D zcl (zty cy) A ad (cW a cy) yX0_nearestWay cX0_nearestWay 10 (some .int) 5 [.ref (a 27), .int p0] σ o.1 (some (.int o.2)) := by
  refine z_met pn_X0 hD (Nat.le_of_ble_eq_true rfl) rfl (fun G M => ?_)
  refine z_aload_n M dt_X0_nearestWay_0.1.1.1.1 rfl 0 rfl ?_
  refine gf_X0_town M u270 dt_X0_nearestWay_0.1.1.1.2 ?_
  refine z_iload_n M dt_X0_nearestWay_0.1.1.2.1 rfl 1 rfl ?_
  refine k_X10_hasSort M u861 (Nat.le_of_ble_eq_true rfl) (Nat.le_of_ble_eq_true rfl) dt_X0_nearestWay_0.1.1.2.2 ?_
  refine z_if_ne (tgt := 13) M dt_X0_nearestWay_0.1.2.1.1 (by decide) (fun hc => ?_) (fun hc => ?_)
  · have h := gIf hc h
    refine z_bipush M dt_X0_nearestWay_0.1.2.2.2 kb_m2 ?_
    refine z_istore_n (lv' := [(2, .int (-2 : Int32)), (0, .ref (a 27)), (1, .int p0)]) M dt_X0_nearestWay_0.2.1.1.1 rfl (by decide) rfl ?_
    refine z_lconst (v := 0) M dt_X0_nearestWay_0.2.1.1.2 (by decide) ?_
    refine z_lstore_n (lv' := [(3, .long (0 : Int64)), (2, .int (-2 : Int32)), (0, .ref (a 27)), (1, .int p0)]) M dt_X0_nearestWay_0.2.1.2.1 rfl (by decide) rfl ?_
    refine z_lconst (v := 1) M dt_X0_nearestWay_0.2.1.2.2 (by decide) ?_
    refine z_lstore (lv' := [(5, .long (1 : Int64)), (3, .long (0 : Int64)), (2, .int (-2 : Int32)), (0, .ref (a 27)), (1, .int p0)]) M dt_X0_nearestWay_0.2.2.1.1 (by decide) rfl ?_
    refine z_iconst M dt_X0_nearestWay_0.2.2.1.2 ki_0 ?_
    refine z_istore (lv' := [(7, .int (0 : Int32)), (5, .long (1 : Int64)), (3, .long (0 : Int64)), (2, .int (-2 : Int32)), (0, .ref (a 27)), (1, .int p0)]) M dt_X0_nearestWay_0.2.2.2.1 (by decide) rfl ?_
    refine z_sub M [4, 5, 3, 2, 1, 0] (lv' := [(0, .ref (a 27)), (1, .int p0), (2, .int (-2 : Int32)), (3, .long (0 : Int64)), (5, .long (1 : Int64)), (7, .int (0 : Int32))]) rfl ?_
    exact wL_X0_nearestWay_24 M (k93 := (fun σ7 w6 => J_X0_nearestWay_93 σ7 p0 w6)) p0 (fun σ7 w6 h => by
        exact wJ_X0_nearestWay_93 M  σ7 p0 w6 h) zFu σ (-2 : Int32) (0 : Int64) (1 : Int64) (0 : Int32) h
  · have h := gIt hc h
    refine z_iconst M dt_X0_nearestWay_0.1.2.1.2 ki_m1 ?_
    obtain rfl := Option.some.inj h
    exact z_iret M dt_X0_nearestWay_0.1.2.2.1
theorem k_X0_nearestWay {n : Nat} (M : zM l D zcl (zty cy) A ad (zR n) (cW a cy) own cc nL rt σo ov G) {p0 : Int32} {o : (Zst × Int32)} (h : f_X0_nearestWay σ p0 = some o) {index : Nat} (hl : Cond.methodLink own index yX0_nearestWay ∈ uw) (hR : 6 ≤ n) (hW : (st.map fun v => v.category).sum ≤ 8) (d : decode cc pc = .ok (.invokevirtual index, 3)) (kk : G o.1 lv (pc + 3) (.int o.2 :: st)) : G σ lv pc (.int p0 :: .ref (a 27) :: st) := z_callV M [.int p0] (m_X0_nearestWay (zM_hD M) h) (hC27 σ) rfl hl u94 u937 u935 u936 hd_X0_nearestWay hR (by decide) rfl hW d kk
set_option maxHeartbeats 4000000 in
set_option maxRecDepth 100000 in
theorem m_X11_nearest (hD : ∀ σ, va_D A (cW a cy σ)) {σ : Zst} {p0 : Int32} {o : (Zst × Int32)} (h : f_X11_nearest σ p0 = some o) : zT l D zcl (zty cy) A ad (cW a cy) yX11_nearest cX11_nearest 2 (some .int) 6 [.ref (a 0), .int p0] σ o.1 (some (.int o.2)) := by
  refine z_met pn_X11 hD (Nat.le_of_ble_eq_true rfl) rfl (fun G M => ?_)
  refine z_aload_n M dt_X11_nearest_0.1.1.1 rfl 0 rfl ?_
  refine gf_X11_answers M u435 dt_X11_nearest_0.1.1.2 ?_
  refine z_iload_n M dt_X11_nearest_0.1.2 rfl 1 rfl ?_
  obtain ⟨t1, hc, h⟩ := gBd h
  refine k_X0_nearestWay M hc u934 (Nat.le_of_ble_eq_true rfl) (Nat.le_of_ble_eq_true rfl) dt_X11_nearest_0.2.1 ?_
  obtain rfl := Option.some.inj h
  exact z_iret M dt_X11_nearest_0.2.2
set_option maxHeartbeats 4000000 in
set_option maxRecDepth 100000 in
theorem m_X10_sortCount (hD : ∀ σ, va_D A (cW a cy σ)) (σ0 : Zst) : zT l D zcl (zty cy) A ad (cW a cy) yX10_sortCount cX10_sortCount 1 (some .int) 1 [.ref (a 17)] σ0 σ0 (some (.int (f_X10_sortCount σ0))) := by
  obtain ⟨o, h⟩ : ∃ o, f_X10_sortCount σ0 = o := ⟨_, rfl⟩
  rw [h]
  refine z_met pn_X10 hD (Nat.le_of_ble_eq_true rfl) rfl (fun G M => ?_)
  refine z_aload_n M dt_X10_sortCount_0.1.1 rfl 0 rfl ?_
  refine gf_X10_sorts (σ := σ0) M u235 dt_X10_sortCount_0.1.2 (v := (σ0.1 10)) rfl ?_
  subst h
  exact z_iret M dt_X10_sortCount_0.2
theorem k_X10_sortCount {n : Nat} (M : zM l D zcl (zty cy) A ad (zR n) (cW a cy) own cc nL rt σo ov G)  {index : Nat} (hl : Cond.methodLink own index yX10_sortCount ∈ uw) (hR : 2 ≤ n) (hW : (st.map fun v => v.category).sum ≤ 8) (d : decode cc pc = .ok (.invokevirtual index, 3)) (kk : G σ lv (pc + 3) (.int (f_X10_sortCount σ) :: st)) : G σ lv pc (.ref (a 17) :: st) := z_callV M [] (m_X10_sortCount (zM_hD M) σ ) (hC17 σ) rfl hl u93 u958 u956 u957 hd_X10_sortCount hR (by decide) rfl hW d kk
set_option maxHeartbeats 4000000 in
set_option maxRecDepth 100000 in
theorem wJ_X0_worstSort_94 {o : (Zst × Int32)} (M : zM l D zcl (zty cy) A ad (zR 5) (cW a cy) RX0 cX0_worstSort 10 (some .int) o.1 (some (.int o.2)) G) {k41 : Zst → Int32 → Int64 → Int64 → Int32 → Option (Zst × Int32)} (σ : Zst) (v1 : Int32) (v3 : Int32) (v9 : Int32) (Hk41 : ∀ (σ : Zst) (w4 : Int32) (w5 : Int64) (w7 : Int64) (w9 : Int32), k41 σ w4 w5 w7 w9 = some o → G σ [(0, .ref (a 27)), (1, .int v1), (3, .int v3), (4, .int w4), (5, .long w5), (7, .long w7), (9, .int w9)] 41 []) (h : J_X0_worstSort_94 k41 σ v1 v3 v9 = some o) : G σ [(0, .ref (a 27)), (1, .int v1), (3, .int v3), (9, .int v9)] 94 [] := by
  refine z_iload M dt_X0_worstSort_3.1.1.2.1 3 rfl ?_
  refine z_istore (lv' := [(4, .int v9), (0, .ref (a 27)), (1, .int v1), (3, .int v3), (9, .int v9)]) M dt_X0_worstSort_3.1.1.2.2 (by decide) rfl ?_
  refine z_aload_n M dt_X0_worstSort_3.1.2.1.1 rfl 1 rfl ?_
  refine gf_X0_sum (σ := σ) M u274 dt_X0_worstSort_3.1.2.1.2 (v := (σ.1 13)) rfl ?_
  refine z_i2l M dt_X0_worstSort_3.1.2.2.1 ?_
  refine z_lstore (lv' := [(5, .long (Int32.toInt64 (σ.1 13))), (4, .int v9), (0, .ref (a 27)), (1, .int v1), (3, .int v3), (9, .int v9)]) M dt_X0_worstSort_3.1.2.2.2 (by decide) rfl ?_
  refine z_aload_n M dt_X0_worstSort_3.2.1.1.1 rfl 2 rfl ?_
  refine gf_X0_cells (σ := σ) M u273 dt_X0_worstSort_3.2.1.1.2 (v := (σ.1 12)) rfl ?_
  refine z_i2l M dt_X0_worstSort_3.2.1.2.1 ?_
  refine z_lstore (lv' := [(7, .long (Int32.toInt64 (σ.1 12))), (5, .long (Int32.toInt64 (σ.1 13))), (4, .int v9), (0, .ref (a 27)), (1, .int v1), (3, .int v3), (9, .int v9)]) M dt_X0_worstSort_3.2.1.2.2 (by decide) rfl ?_
  refine z_iinc (v := (v9 + (1 : Int32))) (lv' := [(9, .int (v9 + (1 : Int32))), (7, .long (Int32.toInt64 (σ.1 12))), (5, .long (Int32.toInt64 (σ.1 13))), (4, .int v9), (0, .ref (a 27)), (1, .int v1), (3, .int v3)]) M dt_X0_worstSort_3.2.2.1.1 (k := 6) rfl (congrArg (fun q => v9 + q) ki_1) (by decide) rfl ?_
  refine z_goto (tgt := 41) M dt_X0_worstSort_3.2.2.1.2 (by decide) ?_
  refine z_sub M [4, 5, 6, 3, 2, 1, 0] (lv' := [(0, .ref (a 27)), (1, .int v1), (3, .int v3), (4, .int v9), (5, .long (Int32.toInt64 (σ.1 13))), (7, .long (Int32.toInt64 (σ.1 12))), (9, .int (v9 + (1 : Int32)))]) rfl ?_
  exact Hk41 σ v9 (Int32.toInt64 (σ.1 13)) (Int32.toInt64 (σ.1 12)) (v9 + (1 : Int32)) h
set_option maxHeartbeats 4000000 in
set_option maxRecDepth 100000 in
theorem wL_X0_worstSort_41 {o : (Zst × Int32)} (M : zM l D zcl (zty cy) A ad (zR 5) (cW a cy) RX0 cX0_worstSort 10 (some .int) o.1 (some (.int o.2)) G) {k118 : Zst → Int32 → Int64 → Int64 → Option (Zst × Int32)}  (v1 : Int32) (v3 : Int32) (Hk118 : ∀ (σ : Zst) (w4 : Int32) (w5 : Int64) (w7 : Int64), k118 σ w4 w5 w7 = some o → G σ [(0, .ref (a 27)), (4, .int w4), (5, .long w5), (7, .long w7)] 118 []) :
    ∀ (n41 : Nat) (σ : Zst) (v4 : Int32) (v5 : Int64) (v7 : Int64) (v9 : Int32), L_X0_worstSort_41 k118 v1 v3 n41 σ v4 v5 v7 v9 = some o → G σ [(0, .ref (a 27)), (1, .int v1), (3, .int v3), (4, .int v4), (5, .long v5), (7, .long v7), (9, .int v9)] 41 [] := by
  intro n41
  induction n41 with
  | zero => intro σ v4 v5 v7 v9 h; exact nomatch (show (none : Option (Zst × Int32)) = some _ from h)
  | succ n41 ih =>
    intro σ v4 v5 v7 v9 h
    refine z_iload M dt_X0_worstSort_1.2.1.1.1 6 rfl ?_
    refine z_aload_n M dt_X0_worstSort_1.2.1.1.2 rfl 0 rfl ?_
    refine gf_X0_town M u270 dt_X0_worstSort_1.2.1.2.1 ?_
    refine k_X10_sortCount M u955 (Nat.le_of_ble_eq_true rfl) (Nat.le_of_ble_eq_true rfl) dt_X0_worstSort_1.2.1.2.2 ?_
    refine z_icmp_ge (tgt := 118) M dt_X0_worstSort_1.2.2.1.1 (by decide) (fun hc => ?_) (fun hc => ?_)
    · have h := gIt hc h
      refine z_sub M [0, 3, 4, 5] (lv' := [(0, .ref (a 27)), (4, .int v4), (5, .long v5), (7, .long v7)]) rfl ?_
      exact Hk118 σ v4 v5 v7 h
    · have h := gIf hc h
      refine z_aload_n M dt_X0_worstSort_1.2.2.1.2 rfl 0 rfl ?_
      refine z_iload M dt_X0_worstSort_1.2.2.2.1 6 rfl ?_
      refine z_iload_n M dt_X0_worstSort_1.2.2.2.2 rfl 1 rfl ?_
      obtain ⟨t1, hc, h⟩ := gBd h
      refine k_X0_measure M hc u922 (Nat.le_of_ble_eq_true rfl) (Nat.le_of_ble_eq_true rfl) dt_X0_worstSort_2.1.1.1.1 ?_
      refine z_aload_n M dt_X0_worstSort_2.1.1.1.2 rfl 0 rfl ?_
      refine gf_X0_cells (σ := t1) M u273 dt_X0_worstSort_2.1.1.2.1 (v := (t1.1 12)) rfl ?_
      refine z_if_le (tgt := 112) M dt_X0_worstSort_2.1.1.2.2 (by decide) (fun hc => ?_) (fun hc => ?_)
      · have h := gIt hc h
        refine z_iinc (v := (v9 + (1 : Int32))) (lv' := [(9, .int (v9 + (1 : Int32))), (0, .ref (a 27)), (1, .int v1), (3, .int v3), (4, .int v4), (5, .long v5), (7, .long v7)]) M dt_X0_worstSort_3.2.2.1.1 (k := 6) rfl (congrArg (fun q => v9 + q) ki_1) (by decide) rfl ?_
        refine z_goto (tgt := 41) M dt_X0_worstSort_3.2.2.1.2 (by decide) ?_
        refine z_sub M [1, 2, 3, 4, 5, 6, 0] (lv' := [(0, .ref (a 27)), (1, .int v1), (3, .int v3), (4, .int v4), (5, .long v5), (7, .long v7), (9, .int (v9 + (1 : Int32)))]) rfl ?_
        exact ih t1 v4 v5 v7 (v9 + (1 : Int32)) h
      · have h := gIf hc h
        refine z_iload M dt_X0_worstSort_2.1.2.1.1 3 rfl ?_
        refine z_if_lt (tgt := 94) M dt_X0_worstSort_2.1.2.1.2 (by decide) (fun hc => ?_) (fun hc => ?_)
        · have h := gIt hc h
          refine z_sub M [0, 1, 2, 6] (lv' := [(0, .ref (a 27)), (1, .int v1), (3, .int v3), (9, .int v9)]) rfl ?_
          exact wJ_X0_worstSort_94 M (k41 := (fun σ w4 w5 w7 w9 => L_X0_worstSort_41 k118 v1 v3 n41 σ w4 w5 w7 w9)) t1 v1 v3 v9 ih h
        · have h := gIf hc h
          refine z_aload_n M dt_X0_worstSort_2.1.2.2.1 rfl 0 rfl ?_
          refine gf_X0_sum (σ := t1) M u274 dt_X0_worstSort_2.1.2.2.2 (v := (t1.1 13)) rfl ?_
          refine z_i2l M dt_X0_worstSort_2.2.1.1.1 ?_
          refine z_aload_n M dt_X0_worstSort_2.2.1.1.2 rfl 0 rfl ?_
          refine gf_X0_cells (σ := t1) M u273 dt_X0_worstSort_2.2.1.2.1 (v := (t1.1 12)) rfl ?_
          refine z_i2l M dt_X0_worstSort_2.2.1.2.2 ?_
          refine z_lload M dt_X0_worstSort_2.2.2.1.1 4 rfl ?_
          refine z_lload M dt_X0_worstSort_2.2.2.1.2 5 rfl ?_
          refine kn_X11_compareFractions M u941 (Nat.le_of_ble_eq_true rfl) (Nat.le_of_ble_eq_true rfl) dt_X0_worstSort_2.2.2.2.1 ?_
          refine z_iload_n M dt_X0_worstSort_2.2.2.2.2 rfl 2 rfl ?_
          refine z_imul M dt_X0_worstSort_3.1.1.1.1 ?_
          refine z_if_le (tgt := 112) M dt_X0_worstSort_3.1.1.1.2 (by decide) (fun hc => ?_) (fun hc => ?_)
          · have h := gIt hc h
            refine z_iinc (v := (v9 + (1 : Int32))) (lv' := [(9, .int (v9 + (1 : Int32))), (0, .ref (a 27)), (1, .int v1), (3, .int v3), (4, .int v4), (5, .long v5), (7, .long v7)]) M dt_X0_worstSort_3.2.2.1.1 (k := 6) rfl (congrArg (fun q => v9 + q) ki_1) (by decide) rfl ?_
            refine z_goto (tgt := 41) M dt_X0_worstSort_3.2.2.1.2 (by decide) ?_
            refine z_sub M [1, 2, 3, 4, 5, 6, 0] (lv' := [(0, .ref (a 27)), (1, .int v1), (3, .int v3), (4, .int v4), (5, .long v5), (7, .long v7), (9, .int (v9 + (1 : Int32)))]) rfl ?_
            exact ih t1 v4 v5 v7 (v9 + (1 : Int32)) h
          · have h := gIf hc h
            refine z_sub M [0, 1, 2, 6] (lv' := [(0, .ref (a 27)), (1, .int v1), (3, .int v3), (9, .int v9)]) rfl ?_
            exact wJ_X0_worstSort_94 M (k41 := (fun σ w4 w5 w7 w9 => L_X0_worstSort_41 k118 v1 v3 n41 σ w4 w5 w7 w9)) t1 v1 v3 v9 ih h
set_option maxHeartbeats 4000000 in
set_option maxRecDepth 100000 in
theorem wJ_X0_worstSort_118 {o : (Zst × Int32)} (M : zM l D zcl (zty cy) A ad (zR 5) (cW a cy) RX0 cX0_worstSort 10 (some .int) o.1 (some (.int o.2)) G) (σ : Zst) (v4 : Int32) (v5 : Int64) (v7 : Int64)  (h : J_X0_worstSort_118 σ v4 v5 v7 = some o) : G σ [(0, .ref (a 27)), (4, .int v4), (5, .long v5), (7, .long v7)] 118 [] := by
  refine z_iload M dt_X0_worstSort_3.2.2.2.1 1 rfl ?_
  refine z_if_lt (tgt := 138) M dt_X0_worstSort_3.2.2.2.2 (by decide) (fun hc => ?_) (fun hc => ?_)
  · have h := gIt hc h
    refine z_iload M dt_X0_worstSort_4.2.2.1 1 rfl ?_
    obtain rfl := Option.some.inj h
    exact z_iret M dt_X0_worstSort_4.2.2.2
  · have h := gIf hc h
    refine z_aload_n M dt_X0_worstSort_4.1.1.1.1 rfl 0 rfl ?_
    refine gf_X0_row M u272 dt_X0_worstSort_4.1.1.1.2 ?_
    obtain ⟨t2, hc, h⟩ := gBd h
    refine k_X5_clear M hc u869 (Nat.le_of_ble_eq_true rfl) (Nat.le_of_ble_eq_true rfl) dt_X0_worstSort_4.1.1.2 ?_
    refine z_lload M dt_X0_worstSort_4.1.2.1 2 rfl ?_
    refine z_lload M dt_X0_worstSort_4.1.2.2 3 rfl ?_
    obtain ⟨t3, hc, h⟩ := gBd h
    refine k_X5_addFraction M hc u891 (Nat.le_of_ble_eq_true rfl) (Nat.le_of_ble_eq_true rfl) dt_X0_worstSort_4.2.1.1 ?_
    refine z_pop M dt_X0_worstSort_4.2.1.2 rfl ?_
    refine z_iload M dt_X0_worstSort_4.2.2.1 1 rfl ?_
    obtain rfl := Option.some.inj h
    exact z_iret M dt_X0_worstSort_4.2.2.2
set_option maxHeartbeats 4000000 in
set_option maxRecDepth 100000 in
theorem m_X0_worstSort (hD : ∀ σ, va_D A (cW a cy σ)) {σ : Zst} {p0 : Int32} {p1 : Int32} {o : (Zst × Int32)} (h : f_X0_worstSort σ p0 p1 = some o) : zT l D zcl (zty cy) A ad (cW a cy) yX0_worstSort cX0_worstSort 10 (some .int) 5 [.ref (a 27), .int p0, .int p1] σ o.1 (some (.int o.2)) := by
  refine z_met pn_X0 hD (Nat.le_of_ble_eq_true rfl) rfl (fun G M => ?_)
  refine z_iload_n M dt_X0_worstSort_0.1.1.1.1 rfl 1 rfl ?_
  refine kn_X11_isWay M u911 (Nat.le_of_ble_eq_true rfl) (Nat.le_of_ble_eq_true rfl) dt_X0_worstSort_0.1.1.1.2 ?_
  refine z_if_eq (tgt := 16) M dt_X0_worstSort_0.1.1.2.1 (by decide) (fun hc => ?_) (fun hc => ?_)
  · have h := gIt hc h
    refine z_iconst M dt_X0_worstSort_0.2.1.1.1 ki_m1 ?_
    obtain rfl := Option.some.inj h
    exact z_iret M dt_X0_worstSort_0.2.1.1.2
  · have h := gIf hc h
    refine z_iload_n M dt_X0_worstSort_0.1.1.2.2 rfl 2 rfl ?_
    refine z_iconst M dt_X0_worstSort_0.1.2.1.1 ki_0 ?_
    refine z_iconst M dt_X0_worstSort_0.1.2.1.2 ki_1 ?_
    refine kn_X11_between M u859 (Nat.le_of_ble_eq_true rfl) (Nat.le_of_ble_eq_true rfl) dt_X0_worstSort_0.1.2.2.1 ?_
    refine z_if_ne (tgt := 18) M dt_X0_worstSort_0.1.2.2.2 (by decide) (fun hc => ?_) (fun hc => ?_)
    · have h := gIf hc h
      refine z_iload_n M dt_X0_worstSort_0.2.1.2.1 rfl 2 rfl ?_
      have hJ5 : G σ [(0, .ref (a 27)), (1, .int p0), (2, .int p1)] 27 [.int (if p1 = (0 : Int32) then (1 : Int32) else (-1 : Int32))] := by
        refine z_istore_n (lv' := [(3, .int (if p1 = (0 : Int32) then (1 : Int32) else (-1 : Int32))), (0, .ref (a 27)), (1, .int p0), (2, .int p1)]) M dt_X0_worstSort_0.2.2.2.2 rfl (by decide) rfl ?_
        refine z_bipush M dt_X0_worstSort_1.1.1.1.1 kb_m2 ?_
        refine z_istore (lv' := [(4, .int (-2 : Int32)), (3, .int (if p1 = (0 : Int32) then (1 : Int32) else (-1 : Int32))), (0, .ref (a 27)), (1, .int p0), (2, .int p1)]) M dt_X0_worstSort_1.1.1.1.2 (by decide) rfl ?_
        refine z_lconst (v := 0) M dt_X0_worstSort_1.1.1.2.1 (by decide) ?_
        refine z_lstore (lv' := [(5, .long (0 : Int64)), (4, .int (-2 : Int32)), (3, .int (if p1 = (0 : Int32) then (1 : Int32) else (-1 : Int32))), (0, .ref (a 27)), (1, .int p0), (2, .int p1)]) M dt_X0_worstSort_1.1.1.2.2 (by decide) rfl ?_
        refine z_lconst (v := 1) M dt_X0_worstSort_1.1.2.1.1 (by decide) ?_
        refine z_lstore (lv' := [(7, .long (1 : Int64)), (5, .long (0 : Int64)), (4, .int (-2 : Int32)), (3, .int (if p1 = (0 : Int32) then (1 : Int32) else (-1 : Int32))), (0, .ref (a 27)), (1, .int p0), (2, .int p1)]) M dt_X0_worstSort_1.1.2.1.2 (by decide) rfl ?_
        refine z_iconst M dt_X0_worstSort_1.1.2.2.1 ki_0 ?_
        refine z_istore (lv' := [(9, .int (0 : Int32)), (7, .long (1 : Int64)), (5, .long (0 : Int64)), (4, .int (-2 : Int32)), (3, .int (if p1 = (0 : Int32) then (1 : Int32) else (-1 : Int32))), (0, .ref (a 27)), (1, .int p0), (2, .int p1)]) M dt_X0_worstSort_1.1.2.2.2 (by decide) rfl ?_
        refine z_sub M [5, 6, 4, 3, 2, 1, 0] (lv' := [(0, .ref (a 27)), (1, .int p0), (3, .int (if p1 = (0 : Int32) then (1 : Int32) else (-1 : Int32))), (4, .int (-2 : Int32)), (5, .long (0 : Int64)), (7, .long (1 : Int64)), (9, .int (0 : Int32))]) rfl ?_
        exact wL_X0_worstSort_41 M (k118 := (fun σ9 w6 w7 w8 => J_X0_worstSort_118 σ9 w6 w7 w8)) p0 (if p1 = (0 : Int32) then (1 : Int32) else (-1 : Int32)) (fun σ9 w6 w7 w8 h => by
            exact wJ_X0_worstSort_118 M  σ9 w6 w7 w8 h) zFu σ (-2 : Int32) (0 : Int64) (1 : Int64) (0 : Int32) h
      refine z_if_ne (tgt := 26) M dt_X0_worstSort_0.2.1.2.2 (by decide) (fun hc4 => ?_) (fun hc4 => ?_)
      · refine z_iconst M dt_X0_worstSort_0.2.2.2.1 ki_m1 ?_
        exact (zTf hc4 hJ5)
      · refine z_iconst M dt_X0_worstSort_0.2.2.1.1 ki_1 ?_
        refine z_goto (tgt := 27) M dt_X0_worstSort_0.2.2.1.2 (by decide) ?_
        exact (zTt hc4 hJ5)
    · have h := gIt hc h
      refine z_iconst M dt_X0_worstSort_0.2.1.1.1 ki_m1 ?_
      obtain rfl := Option.some.inj h
      exact z_iret M dt_X0_worstSort_0.2.1.1.2
theorem k_X0_worstSort {n : Nat} (M : zM l D zcl (zty cy) A ad (zR n) (cW a cy) own cc nL rt σo ov G) {p0 : Int32} {p1 : Int32} {o : (Zst × Int32)} (h : f_X0_worstSort σ p0 p1 = some o) {index : Nat} (hl : Cond.methodLink own index yX0_worstSort ∈ uw) (hR : 6 ≤ n) (hW : (st.map fun v => v.category).sum ≤ 8) (d : decode cc pc = .ok (.invokevirtual index, 3)) (kk : G o.1 lv (pc + 3) (.int o.2 :: st)) : G σ lv pc (.int p1 :: .int p0 :: .ref (a 27) :: st) := z_callV M [.int p0, .int p1] (m_X0_worstSort (zM_hD M) h) (hC27 σ) rfl hl u94 u954 u952 u953 hd_X0_worstSort hR (by decide) rfl hW d kk
set_option maxHeartbeats 4000000 in
set_option maxRecDepth 100000 in
theorem m_X11_worst (hD : ∀ σ, va_D A (cW a cy σ)) {σ : Zst} {p0 : Int32} {p1 : Int32} {o : (Zst × Int32)} (h : f_X11_worst σ p0 p1 = some o) : zT l D zcl (zty cy) A ad (cW a cy) yX11_worst cX11_worst 3 (some .int) 6 [.ref (a 0), .int p0, .int p1] σ o.1 (some (.int o.2)) := by
  refine z_met pn_X11 hD (Nat.le_of_ble_eq_true rfl) rfl (fun G M => ?_)
  refine z_aload_n M dt_X11_worst_0.1.1.1 rfl 0 rfl ?_
  refine gf_X11_answers M u435 dt_X11_worst_0.1.1.2 ?_
  refine z_iload_n M dt_X11_worst_0.1.2 rfl 1 rfl ?_
  refine z_iload_n M dt_X11_worst_0.2.1.1 rfl 2 rfl ?_
  obtain ⟨t1, hc, h⟩ := gBd h
  refine k_X0_worstSort M hc u951 (Nat.le_of_ble_eq_true rfl) (Nat.le_of_ble_eq_true rfl) dt_X11_worst_0.2.1.2 ?_
  obtain rfl := Option.some.inj h
  exact z_iret M dt_X11_worst_0.2.2
set_option maxHeartbeats 4000000 in
set_option maxRecDepth 100000 in
theorem m_J6_compare_7cf53 (hD : ∀ σ, va_D A (wf σ)) (σ0 : Zst) (p0 : Int32) (p1 : Int32) : zT l D zcl0 tys A ad wf yJ6_compare_7cf53 cJ6_compare_7cf53 2 (some .int) 1 [.int p0, .int p1] σ0 σ0 (some (.int (f_J6_compare_7cf53 p0 p1))) := by
  obtain ⟨o, h⟩ : ∃ o, f_J6_compare_7cf53 p0 p1 = o := ⟨_, rfl⟩
  rw [h]
  refine z_met pn_J6 hD (Nat.le_of_ble_eq_true rfl) rfl (fun G M => ?_)
  refine z_iload_n M dt_J6_compare_7cf53_0.1.1.1.1 rfl 0 rfl ?_
  refine z_iload_n M dt_J6_compare_7cf53_0.1.1.1.2 rfl 1 rfl ?_
  have hJ3 : G σ0 [(0, .int p0), (1, .int p1)] 19 [.int (if p1 ≤ p0 then (if p0 = p1 then (0 : Int32) else (1 : Int32)) else (-1 : Int32))] := by
    subst h
    exact z_iret M dt_J6_compare_7cf53_0.2.2.2
  refine z_icmp_ge (tgt := 9) M dt_J6_compare_7cf53_0.1.1.2 (by decide) (fun hc1 => ?_) (fun hc1 => ?_)
  · refine z_iload_n M dt_J6_compare_7cf53_0.1.2.2 rfl 0 rfl ?_
    refine z_iload_n M dt_J6_compare_7cf53_0.2.1.1.1 rfl 1 rfl ?_
    refine z_icmp_ne (tgt := 18) M dt_J6_compare_7cf53_0.2.1.1.2 (by decide) (fun hc2 => ?_) (fun hc2 => ?_)
    · refine z_iconst M dt_J6_compare_7cf53_0.2.2.1.2 ki_1 ?_
      exact (zTf hc2 (zTt hc1 hJ3))
    · refine z_iconst M dt_J6_compare_7cf53_0.2.1.2 ki_0 ?_
      refine z_goto (tgt := 19) M dt_J6_compare_7cf53_0.2.2.1.1 (by decide) ?_
      exact (zTt hc2 (zTt hc1 hJ3))
  · refine z_iconst M dt_J6_compare_7cf53_0.1.2.1.1 ki_m1 ?_
    refine z_goto (tgt := 19) M dt_J6_compare_7cf53_0.1.2.1.2 (by decide) ?_
    exact (zTf hc1 hJ3)
theorem k_J6_compare_7cf53 {n : Nat} (M : zM l D zcl0 tys A ad (zR n) wf own cc nL rt σo ov G) {p0 : Int32} {p1 : Int32} {index : Nat} (hl : Cond.methodLink own index yJ6_compare_7cf53 ∈ uw) (hR : 2 ≤ n) (hW : (st.map fun v => v.category).sum ≤ 8) (d : decode cc pc = .ok (.invokestatic index, 3)) (kk : G σ lv (pc + 3) (.int (f_J6_compare_7cf53 p0 p1) :: st)) : G σ lv pc (.int p1 :: .int p0 :: st) := z_callS M [.int p0, .int p1] (m_J6_compare_7cf53 (zM_hD M) σ p0 p1) hl u107 u974 u973 hd_J6_compare_7cf53 hR (by decide) rfl hW d kk
set_option maxHeartbeats 4000000 in
set_option maxRecDepth 100000 in
theorem m_X0_goesWithRight (hD : ∀ σ, va_D A (cW a cy σ)) {σ : Zst} {p0 : Int32} {p1 : Int32} {p2 : Int32} {o : (Zst × Int32)} (h : f_X0_goesWithRight σ p0 p1 p2 = some o) : zT l D zcl (zty cy) A ad (cW a cy) yX0_goesWithRight cX0_goesWithRight 10 (some .int) 5 [.ref (a 27), .int p0, .int p1, .int p2] σ o.1 (some (.int o.2)) := by
  refine z_met pn_X0 hD (Nat.le_of_ble_eq_true rfl) rfl (fun G M => ?_)
  refine z_aload_n M dt_X0_goesWithRight_0.1.1.1.1 rfl 0 rfl ?_
  refine z_iload_n M dt_X0_goesWithRight_0.1.1.1.2 rfl 1 rfl ?_
  refine z_iload_n M dt_X0_goesWithRight_0.1.1.2.1 rfl 3 rfl ?_
  obtain ⟨t1, hc, h⟩ := gBd h
  refine k_X0_measure M hc u922 (Nat.le_of_ble_eq_true rfl) (Nat.le_of_ble_eq_true rfl) dt_X0_goesWithRight_0.1.1.2.2 ?_
  refine z_aload_n M dt_X0_goesWithRight_0.1.2.1.1 rfl 0 rfl ?_
  refine gf_X0_sum (σ := t1) M u274 dt_X0_goesWithRight_0.1.2.1.2 (v := (t1.1 13)) rfl ?_
  refine z_i2l M dt_X0_goesWithRight_0.1.2.2.1 ?_
  refine z_lstore (lv' := [(4, .long (Int32.toInt64 (t1.1 13))), (0, .ref (a 27)), (1, .int p0), (2, .int p1), (3, .int p2)]) M dt_X0_goesWithRight_0.1.2.2.2 (by decide) rfl ?_
  refine z_aload_n M dt_X0_goesWithRight_0.2.1.1.1 rfl 1 rfl ?_
  refine gf_X0_cells (σ := t1) M u273 dt_X0_goesWithRight_0.2.1.1.2 (v := (t1.1 12)) rfl ?_
  refine z_i2l M dt_X0_goesWithRight_0.2.1.2.1 ?_
  refine z_lstore (lv' := [(6, .long (Int32.toInt64 (t1.1 12))), (4, .long (Int32.toInt64 (t1.1 13))), (0, .ref (a 27)), (1, .int p0), (2, .int p1), (3, .int p2)]) M dt_X0_goesWithRight_0.2.1.2.2 (by decide) rfl ?_
  refine z_aload_n M dt_X0_goesWithRight_0.2.2.1.1 rfl 2 rfl ?_
  refine z_iload_n M dt_X0_goesWithRight_0.2.2.1.2 rfl 4 rfl ?_
  refine z_iload_n M dt_X0_goesWithRight_0.2.2.2.1 rfl 5 rfl ?_
  obtain ⟨t2, hc, h⟩ := gBd h
  refine k_X0_measure M hc u922 (Nat.le_of_ble_eq_true rfl) (Nat.le_of_ble_eq_true rfl) dt_X0_goesWithRight_0.2.2.2.2 ?_
  refine z_lload M dt_X0_goesWithRight_1.1.1.1.1 0 rfl ?_
  refine z_lconst (v := 0) M dt_X0_goesWithRight_1.1.1.1.2 (by decide) ?_
  refine z_lcmp_eq (tgt := 40) M dt_X0_goesWithRight_1.1.1.2.1 dt_X0_goesWithRight_1.1.1.2.2 (by decide) (fun hc => ?_) (fun hc => ?_)
  · have h := gIt hc h
    refine z_bipush M dt_X0_goesWithRight_1.1.2.2.2 kb_m2 ?_
    obtain rfl := Option.some.inj h
    exact z_iret M dt_X0_goesWithRight_1.2.1.1.1
  · have h := gIf hc h
    refine z_aload_n M dt_X0_goesWithRight_1.1.2.1.1 rfl 2 rfl ?_
    refine gf_X0_cells (σ := t2) M u273 dt_X0_goesWithRight_1.1.2.1.2 (v := (t2.1 12)) rfl ?_
    refine z_if_ne (tgt := 43) M dt_X0_goesWithRight_1.1.2.2.1 (by decide) (fun hc => ?_) (fun hc => ?_)
    · have h := gIf hc h
      refine z_aload_n M dt_X0_goesWithRight_1.2.1.1.2 rfl 2 rfl ?_
      refine gf_X0_town M u270 dt_X0_goesWithRight_1.2.1.2.1 ?_
      refine z_iload_n M dt_X0_goesWithRight_1.2.1.2.2 rfl 3 rfl ?_
      obtain ⟨t3, hc, h⟩ := gBd h
      refine k_X10_rightOf M hc u971 (Nat.le_of_ble_eq_true rfl) (Nat.le_of_ble_eq_true rfl) dt_X0_goesWithRight_1.2.2.1.1 ?_
      refine z_aload_n M dt_X0_goesWithRight_1.2.2.1.2 rfl 2 rfl ?_
      refine gf_X0_town M u270 dt_X0_goesWithRight_1.2.2.2.1 ?_
      refine z_iload_n M dt_X0_goesWithRight_1.2.2.2.2 rfl 4 rfl ?_
      obtain ⟨t4, hc, h⟩ := gBd h
      refine k_X10_rightOf M hc u971 (Nat.le_of_ble_eq_true rfl) (Nat.le_of_ble_eq_true rfl) dt_X0_goesWithRight_2.1.1.1.1 ?_
      refine k_J6_compare_7cf53 M u972 (Nat.le_of_ble_eq_true rfl) (Nat.le_of_ble_eq_true rfl) dt_X0_goesWithRight_2.1.1.1.2 ?_
      refine z_istore (lv' := [(8, .int (f_J6_compare_7cf53 t3 t4)), (6, .long (Int32.toInt64 (t1.1 12))), (4, .long (Int32.toInt64 (t1.1 13))), (0, .ref (a 27)), (1, .int p0), (2, .int p1), (3, .int p2)]) M dt_X0_goesWithRight_2.1.1.2.1 (by decide) rfl ?_
      refine z_iload M dt_X0_goesWithRight_2.1.1.2.2 0 rfl ?_
      refine z_lload M dt_X0_goesWithRight_2.1.2.1.1 2 rfl ?_
      refine z_lload M dt_X0_goesWithRight_2.1.2.1.2 1 rfl ?_
      refine z_aload_n M dt_X0_goesWithRight_2.1.2.2.1 rfl 3 rfl ?_
      refine gf_X0_sum (σ := t2) M u274 dt_X0_goesWithRight_2.1.2.2.2 (v := (t2.1 13)) rfl ?_
      refine z_i2l M dt_X0_goesWithRight_2.2.1.1.1 ?_
      refine z_aload_n M dt_X0_goesWithRight_2.2.1.1.2 rfl 3 rfl ?_
      refine gf_X0_cells (σ := t2) M u273 dt_X0_goesWithRight_2.2.1.2.1 (v := (t2.1 12)) rfl ?_
      refine z_i2l M dt_X0_goesWithRight_2.2.1.2.2 ?_
      refine kn_X11_compareFractions M u941 (Nat.le_of_ble_eq_true rfl) (Nat.le_of_ble_eq_true rfl) dt_X0_goesWithRight_2.2.2.1.1 ?_
      refine z_imul M dt_X0_goesWithRight_2.2.2.1.2 ?_
      refine z_istore (lv' := [(9, .int ((f_J6_compare_7cf53 t3 t4) * (f_X11_compareFractions (Int32.toInt64 (t1.1 13)) (Int32.toInt64 (t1.1 12)) (Int32.toInt64 (t2.1 13)) (Int32.toInt64 (t2.1 12))))), (8, .int (f_J6_compare_7cf53 t3 t4)), (6, .long (Int32.toInt64 (t1.1 12))), (4, .long (Int32.toInt64 (t1.1 13))), (0, .ref (a 27)), (1, .int p0), (2, .int p1), (3, .int p2)]) M dt_X0_goesWithRight_2.2.2.2.1 (by decide) rfl ?_
      refine z_iload M dt_X0_goesWithRight_2.2.2.2.2 0 rfl ?_
      have hJ7 : G t2 [(9, .int ((f_J6_compare_7cf53 t3 t4) * (f_X11_compareFractions (Int32.toInt64 (t1.1 13)) (Int32.toInt64 (t1.1 12)) (Int32.toInt64 (t2.1 13)) (Int32.toInt64 (t2.1 12))))), (8, .int (f_J6_compare_7cf53 t3 t4)), (6, .long (Int32.toInt64 (t1.1 12))), (4, .long (Int32.toInt64 (t1.1 13))), (0, .ref (a 27)), (1, .int p0), (2, .int p1), (3, .int p2)] 105 [.int (if ((f_J6_compare_7cf53 t3 t4) * (f_X11_compareFractions (Int32.toInt64 (t1.1 13)) (Int32.toInt64 (t1.1 12)) (Int32.toInt64 (t2.1 13)) (Int32.toInt64 (t2.1 12)))) ≤ (0 : Int32) then (if (0 : Int32) ≤ ((f_J6_compare_7cf53 t3 t4) * (f_X11_compareFractions (Int32.toInt64 (t1.1 13)) (Int32.toInt64 (t1.1 12)) (Int32.toInt64 (t2.1 13)) (Int32.toInt64 (t2.1 12)))) then (0 : Int32) else (-1 : Int32)) else (1 : Int32))] := by
        obtain rfl := Option.some.inj h
        exact z_iret M dt_X0_goesWithRight_3.2.2.2
      refine z_if_le (tgt := 95) M dt_X0_goesWithRight_3.1.1.1.1 (by decide) (fun hc5 => ?_) (fun hc5 => ?_)
      · refine z_iload M dt_X0_goesWithRight_3.1.2.1 0 rfl ?_
        refine z_if_ge (tgt := 104) M dt_X0_goesWithRight_3.1.2.2 (by decide) (fun hc6 => ?_) (fun hc6 => ?_)
        · refine z_iconst M dt_X0_goesWithRight_3.2.2.1 ki_0 ?_
          exact (zTt hc6 (zTt hc5 hJ7))
        · refine z_iconst M dt_X0_goesWithRight_3.2.1.1 ki_m1 ?_
          refine z_goto (tgt := 105) M dt_X0_goesWithRight_3.2.1.2 (by decide) ?_
          exact (zTf hc6 (zTt hc5 hJ7))
      · refine z_iconst M dt_X0_goesWithRight_3.1.1.1.2 ki_1 ?_
        refine z_goto (tgt := 105) M dt_X0_goesWithRight_3.1.1.2 (by decide) ?_
        exact (zTf hc5 hJ7)
    · have h := gIt hc h
      refine z_bipush M dt_X0_goesWithRight_1.1.2.2.2 kb_m2 ?_
      obtain rfl := Option.some.inj h
      exact z_iret M dt_X0_goesWithRight_1.2.1.1.1
theorem k_X0_goesWithRight {n : Nat} (M : zM l D zcl (zty cy) A ad (zR n) (cW a cy) own cc nL rt σo ov G) {p0 : Int32} {p1 : Int32} {p2 : Int32} {o : (Zst × Int32)} (h : f_X0_goesWithRight σ p0 p1 p2 = some o) {index : Nat} (hl : Cond.methodLink own index yX0_goesWithRight ∈ uw) (hR : 6 ≤ n) (hW : (st.map fun v => v.category).sum ≤ 8) (d : decode cc pc = .ok (.invokevirtual index, 3)) (kk : G o.1 lv (pc + 3) (.int o.2 :: st)) : G σ lv pc (.int p2 :: .int p1 :: .int p0 :: .ref (a 27) :: st) := z_callV M [.int p0, .int p1, .int p2] (m_X0_goesWithRight (zM_hD M) h) (hC27 σ) rfl hl u94 u970 u969 u15 hd_X0_goesWithRight hR (by decide) rfl hW d kk
set_option maxHeartbeats 4000000 in
set_option maxRecDepth 100000 in
theorem wL_X0_pairsByRight_37 {o : (Zst × Int32)} (M : zM l D zcl (zty cy) A ad (zR 6) (cW a cy) RX0 cX0_pairsByRight 8 (some .int) o.1 (some (.int o.2)) G) {k109 : Zst → Int32 → Int32 → Int32 → Option (Zst × Int32)}  (v1 : Int32) (v5 : Int32) (Hk109 : ∀ (σ : Zst) (w2 : Int32) (w3 : Int32) (w4 : Int32), k109 σ w2 w3 w4 = some o → G σ [(0, .ref (a 27)), (1, .int v1), (2, .int w2), (3, .int w3), (4, .int w4), (5, .int v5)] 109 []) :
    ∀ (n37 : Nat) (σ : Zst) (v2 : Int32) (v3 : Int32) (v4 : Int32) (v6 : Int32), L_X0_pairsByRight_37 k109 v1 v5 n37 σ v2 v3 v4 v6 = some o → G σ [(0, .ref (a 27)), (1, .int v1), (2, .int v2), (3, .int v3), (4, .int v4), (5, .int v5), (6, .int v6)] 37 [] := by
  intro n37
  induction n37 with
  | zero => intro σ v2 v3 v4 v6 h; exact nomatch (show (none : Option (Zst × Int32)) = some _ from h)
  | succ n37 ih =>
    intro σ v2 v3 v4 v6 h
    refine z_iload M dt_X0_pairsByRight_1.1.2.2.1 6 rfl ?_
    refine z_aload_n M dt_X0_pairsByRight_1.1.2.2.2 rfl 0 rfl ?_
    refine gf_X0_town M u270 dt_X0_pairsByRight_1.2.1.1.1 ?_
    refine k_X10_sortCount M u955 (Nat.le_of_ble_eq_true rfl) (Nat.le_of_ble_eq_true rfl) dt_X0_pairsByRight_1.2.1.1.2 ?_
    refine z_icmp_ge (tgt := 109) M dt_X0_pairsByRight_1.2.1.2.1 (by decide) (fun hc => ?_) (fun hc => ?_)
    · have h := gIt hc h
      refine z_sub M [0, 1, 2, 3, 4, 5] (lv' := [(0, .ref (a 27)), (1, .int v1), (2, .int v2), (3, .int v3), (4, .int v4), (5, .int v5)]) rfl ?_
      exact Hk109 σ v2 v3 v4 h
    · have h := gIf hc h
      refine z_aload_n M dt_X0_pairsByRight_1.2.1.2.2 rfl 0 rfl ?_
      refine z_iload M dt_X0_pairsByRight_1.2.2.1.1 5 rfl ?_
      refine z_iload M dt_X0_pairsByRight_1.2.2.1.2 6 rfl ?_
      refine z_iload_n M dt_X0_pairsByRight_1.2.2.2.1 rfl 1 rfl ?_
      obtain ⟨t1, hc, h⟩ := gBd h
      refine k_X0_goesWithRight M hc u967 (Nat.le_of_ble_eq_true rfl) (Nat.le_of_ble_eq_true rfl) dt_X0_pairsByRight_1.2.2.2.2 ?_
      refine z_istore (lv' := [(7, .int t1.2), (0, .ref (a 27)), (1, .int v1), (2, .int v2), (3, .int v3), (4, .int v4), (5, .int v5), (6, .int v6)]) M dt_X0_pairsByRight_2.1.1.1.1 (by decide) rfl ?_
      refine z_iload_n M dt_X0_pairsByRight_2.1.1.1.2 rfl 3 rfl ?_
      refine z_iload M dt_X0_pairsByRight_2.1.1.2.1 0 rfl ?_
      refine z_iconst M dt_X0_pairsByRight_2.1.1.2.2 ki_1 ?_
      have hJ3 : G t1.1 [(7, .int t1.2), (0, .ref (a 27)), (1, .int v1), (2, .int v2), (3, .int v3), (4, .int v4), (5, .int v5), (6, .int v6)] 72 [.int (if t1.2 = (1 : Int32) then (1 : Int32) else (0 : Int32)), .int v2] := by
        refine z_iadd M dt_X0_pairsByRight_2.2.1.1.1 ?_
        refine z_istore_n (lv' := [(2, .int (v2 + (if t1.2 = (1 : Int32) then (1 : Int32) else (0 : Int32)))), (7, .int t1.2), (0, .ref (a 27)), (1, .int v1), (3, .int v3), (4, .int v4), (5, .int v5), (6, .int v6)]) M dt_X0_pairsByRight_2.2.1.1.2 rfl (by decide) rfl ?_
        refine z_iload_n M dt_X0_pairsByRight_2.2.1.2.1 rfl 4 rfl ?_
        refine z_iload M dt_X0_pairsByRight_2.2.1.2.2 1 rfl ?_
        refine z_iconst M dt_X0_pairsByRight_2.2.2.1.1 ki_m1 ?_
        have hJ5 : G t1.1 [(2, .int (v2 + (if t1.2 = (1 : Int32) then (1 : Int32) else (0 : Int32)))), (7, .int t1.2), (0, .ref (a 27)), (1, .int v1), (3, .int v3), (4, .int v4), (5, .int v5), (6, .int v6)] 86 [.int (if t1.2 = (-1 : Int32) then (1 : Int32) else (0 : Int32)), .int v3] := by
          refine z_iadd M dt_X0_pairsByRight_3.1.1.1.2 ?_
          refine z_istore_n (lv' := [(3, .int (v3 + (if t1.2 = (-1 : Int32) then (1 : Int32) else (0 : Int32)))), (2, .int (v2 + (if t1.2 = (1 : Int32) then (1 : Int32) else (0 : Int32)))), (7, .int t1.2), (0, .ref (a 27)), (1, .int v1), (4, .int v4), (5, .int v5), (6, .int v6)]) M dt_X0_pairsByRight_3.1.1.2.1 rfl (by decide) rfl ?_
          refine z_iload M dt_X0_pairsByRight_3.1.1.2.2 5 rfl ?_
          refine z_iload M dt_X0_pairsByRight_3.1.2.1.1 2 rfl ?_
          have hJ7 : G t1.1 [(3, .int (v3 + (if t1.2 = (-1 : Int32) then (1 : Int32) else (0 : Int32)))), (2, .int (v2 + (if t1.2 = (1 : Int32) then (1 : Int32) else (0 : Int32)))), (7, .int t1.2), (0, .ref (a 27)), (1, .int v1), (4, .int v4), (5, .int v5), (6, .int v6)] 100 [.int (if t1.2 = (0 : Int32) then (1 : Int32) else (0 : Int32)), .int v4] := by
            refine z_iadd M dt_X0_pairsByRight_3.2.1.1.2 ?_
            refine z_istore (lv' := [(4, .int (v4 + (if t1.2 = (0 : Int32) then (1 : Int32) else (0 : Int32)))), (3, .int (v3 + (if t1.2 = (-1 : Int32) then (1 : Int32) else (0 : Int32)))), (2, .int (v2 + (if t1.2 = (1 : Int32) then (1 : Int32) else (0 : Int32)))), (7, .int t1.2), (0, .ref (a 27)), (1, .int v1), (5, .int v5), (6, .int v6)]) M dt_X0_pairsByRight_3.2.1.2.1 (by decide) rfl ?_
            refine z_iinc (v := (v6 + (1 : Int32))) (lv' := [(6, .int (v6 + (1 : Int32))), (4, .int (v4 + (if t1.2 = (0 : Int32) then (1 : Int32) else (0 : Int32)))), (3, .int (v3 + (if t1.2 = (-1 : Int32) then (1 : Int32) else (0 : Int32)))), (2, .int (v2 + (if t1.2 = (1 : Int32) then (1 : Int32) else (0 : Int32)))), (7, .int t1.2), (0, .ref (a 27)), (1, .int v1), (5, .int v5)]) M dt_X0_pairsByRight_3.2.1.2.2 (k := 7) rfl (congrArg (fun q => v6 + q) ki_1) (by decide) rfl ?_
            refine z_goto (tgt := 37) M dt_X0_pairsByRight_3.2.2.1.1 (by decide) ?_
            refine z_sub M [5, 6, 3, 2, 1, 7, 0] (lv' := [(0, .ref (a 27)), (1, .int v1), (2, .int (v2 + (if t1.2 = (1 : Int32) then (1 : Int32) else (0 : Int32)))), (3, .int (v3 + (if t1.2 = (-1 : Int32) then (1 : Int32) else (0 : Int32)))), (4, .int (v4 + (if t1.2 = (0 : Int32) then (1 : Int32) else (0 : Int32)))), (5, .int v5), (6, .int (v6 + (1 : Int32)))]) rfl ?_
            exact ih t1.1 (v2 + (if t1.2 = (1 : Int32) then (1 : Int32) else (0 : Int32))) (v3 + (if t1.2 = (-1 : Int32) then (1 : Int32) else (0 : Int32))) (v4 + (if t1.2 = (0 : Int32) then (1 : Int32) else (0 : Int32))) (v6 + (1 : Int32)) h
          refine z_if_ne (tgt := 99) M dt_X0_pairsByRight_3.1.2.1.2 (by decide) (fun hc6 => ?_) (fun hc6 => ?_)
          · refine z_iconst M dt_X0_pairsByRight_3.2.1.1.1 ki_0 ?_
            exact (zTf hc6 hJ7)
          · refine z_iconst M dt_X0_pairsByRight_3.1.2.2.1 ki_1 ?_
            refine z_goto (tgt := 100) M dt_X0_pairsByRight_3.1.2.2.2 (by decide) ?_
            exact (zTt hc6 hJ7)
        refine z_icmp_ne (tgt := 85) M dt_X0_pairsByRight_2.2.2.1.2 (by decide) (fun hc4 => ?_) (fun hc4 => ?_)
        · refine z_iconst M dt_X0_pairsByRight_3.1.1.1.1 ki_0 ?_
          exact (zTf hc4 hJ5)
        · refine z_iconst M dt_X0_pairsByRight_2.2.2.2.1 ki_1 ?_
          refine z_goto (tgt := 86) M dt_X0_pairsByRight_2.2.2.2.2 (by decide) ?_
          exact (zTt hc4 hJ5)
      refine z_icmp_ne (tgt := 71) M dt_X0_pairsByRight_2.1.2.1.1 (by decide) (fun hc2 => ?_) (fun hc2 => ?_)
      · refine z_iconst M dt_X0_pairsByRight_2.1.2.2.2 ki_0 ?_
        exact (zTf hc2 hJ3)
      · refine z_iconst M dt_X0_pairsByRight_2.1.2.1.2 ki_1 ?_
        refine z_goto (tgt := 72) M dt_X0_pairsByRight_2.1.2.2.1 (by decide) ?_
        exact (zTt hc2 hJ3)
set_option maxHeartbeats 4000000 in
set_option maxRecDepth 100000 in
theorem wJ_X0_pairsByRight_109 {o : (Zst × Int32)} (M : zM l D zcl (zty cy) A ad (zR 6) (cW a cy) RX0 cX0_pairsByRight 8 (some .int) o.1 (some (.int o.2)) G) {k19 : Zst → Int32 → Int32 → Int32 → Int32 → Option (Zst × Int32)} (σ : Zst) (v1 : Int32) (v2 : Int32) (v3 : Int32) (v4 : Int32) (v5 : Int32) (Hk19 : ∀ (σ : Zst) (w2 : Int32) (w3 : Int32) (w4 : Int32) (w5 : Int32), k19 σ w2 w3 w4 w5 = some o → G σ [(0, .ref (a 27)), (1, .int v1), (2, .int w2), (3, .int w3), (4, .int w4), (5, .int w5)] 19 []) (h : J_X0_pairsByRight_109 k19 σ v1 v2 v3 v4 v5 = some o) : G σ [(0, .ref (a 27)), (1, .int v1), (2, .int v2), (3, .int v3), (4, .int v4), (5, .int v5)] 109 [] := by
  refine z_iinc (v := (v5 + (1 : Int32))) (lv' := [(5, .int (v5 + (1 : Int32))), (0, .ref (a 27)), (1, .int v1), (2, .int v2), (3, .int v3), (4, .int v4)]) M dt_X0_pairsByRight_3.2.2.1.2 (k := 5) rfl (congrArg (fun q => v5 + q) ki_1) (by decide) rfl ?_
  refine z_goto (tgt := 19) M dt_X0_pairsByRight_3.2.2.2.1 (by decide) ?_
  refine z_sub M [1, 2, 3, 4, 5, 0] (lv' := [(0, .ref (a 27)), (1, .int v1), (2, .int v2), (3, .int v3), (4, .int v4), (5, .int (v5 + (1 : Int32)))]) rfl ?_
  exact Hk19 σ v2 v3 v4 (v5 + (1 : Int32)) h
set_option maxHeartbeats 4000000 in
set_option maxRecDepth 100000 in
theorem wL_X0_pairsByRight_19 {o : (Zst × Int32)} (M : zM l D zcl (zty cy) A ad (zR 6) (cW a cy) RX0 cX0_pairsByRight 8 (some .int) o.1 (some (.int o.2)) G) {k115 : Zst → Int32 → Int32 → Int32 → Option (Zst × Int32)}  (v1 : Int32) (Hk115 : ∀ (σ : Zst) (w2 : Int32) (w3 : Int32) (w4 : Int32), k115 σ w2 w3 w4 = some o → G σ [(0, .ref (a 27)), (2, .int w2), (3, .int w3), (4, .int w4)] 115 []) :
    ∀ (n19 : Nat) (σ : Zst) (v2 : Int32) (v3 : Int32) (v4 : Int32) (v5 : Int32), L_X0_pairsByRight_19 k115 v1 n19 σ v2 v3 v4 v5 = some o → G σ [(0, .ref (a 27)), (1, .int v1), (2, .int v2), (3, .int v3), (4, .int v4), (5, .int v5)] 19 [] := by
  intro n19
  induction n19 with
  | zero => intro σ v2 v3 v4 v5 h; exact nomatch (show (none : Option (Zst × Int32)) = some _ from h)
  | succ n19 ih =>
    intro σ v2 v3 v4 v5 h
    refine z_iload M dt_X0_pairsByRight_0.2.2.1.2 5 rfl ?_
    refine z_aload_n M dt_X0_pairsByRight_0.2.2.2.1 rfl 0 rfl ?_
    refine gf_X0_town M u270 dt_X0_pairsByRight_0.2.2.2.2 ?_
    refine k_X10_sortCount M u955 (Nat.le_of_ble_eq_true rfl) (Nat.le_of_ble_eq_true rfl) dt_X0_pairsByRight_1.1.1.1.1 ?_
    refine z_icmp_ge (tgt := 115) M dt_X0_pairsByRight_1.1.1.1.2 (by decide) (fun hc => ?_) (fun hc => ?_)
    · have h := gIt hc h
      refine z_sub M [0, 2, 3, 4] (lv' := [(0, .ref (a 27)), (2, .int v2), (3, .int v3), (4, .int v4)]) rfl ?_
      exact Hk115 σ v2 v3 v4 h
    · have h := gIf hc h
      refine z_iload M dt_X0_pairsByRight_1.1.1.2.1 5 rfl ?_
      refine z_iconst M dt_X0_pairsByRight_1.1.1.2.2 ki_1 ?_
      refine z_iadd M dt_X0_pairsByRight_1.1.2.1.1 ?_
      refine z_istore (lv' := [(6, .int (v5 + (1 : Int32))), (0, .ref (a 27)), (1, .int v1), (2, .int v2), (3, .int v3), (4, .int v4), (5, .int v5)]) M dt_X0_pairsByRight_1.1.2.1.2 (by decide) rfl ?_
      refine z_sub M [1, 2, 3, 4, 5, 6, 0] (lv' := [(0, .ref (a 27)), (1, .int v1), (2, .int v2), (3, .int v3), (4, .int v4), (5, .int v5), (6, .int (v5 + (1 : Int32)))]) rfl ?_
      exact wL_X0_pairsByRight_37 M (k109 := (fun σ11 w8 w9 w10 => J_X0_pairsByRight_109 (fun σ w2 w3 w4 w5 => L_X0_pairsByRight_19 k115 v1 n19 σ w2 w3 w4 w5) σ11 v1 w8 w9 w10 v5)) v1 v5 (fun σ11 w8 w9 w10 h => by
          exact wJ_X0_pairsByRight_109 M (k19 := (fun σ w2 w3 w4 w5 => L_X0_pairsByRight_19 k115 v1 n19 σ w2 w3 w4 w5)) σ11 v1 w8 w9 w10 v5 ih h) zFu σ v2 v3 v4 (v5 + (1 : Int32)) h
set_option maxHeartbeats 4000000 in
set_option maxRecDepth 100000 in
theorem wJ_X0_pairsByRight_115 {o : (Zst × Int32)} (M : zM l D zcl (zty cy) A ad (zR 6) (cW a cy) RX0 cX0_pairsByRight 8 (some .int) o.1 (some (.int o.2)) G) (σ : Zst) (v2 : Int32) (v3 : Int32) (v4 : Int32)  (h : J_X0_pairsByRight_115 σ v2 v3 v4 = some o) : G σ [(0, .ref (a 27)), (2, .int v2), (3, .int v3), (4, .int v4)] 115 [] := by
  refine z_aload_n M dt_X0_pairsByRight_3.2.2.2.2 rfl 0 rfl ?_
  refine gf_X0_row M u272 dt_X0_pairsByRight_4.1.1.1.1 ?_
  obtain ⟨t12, hc, h⟩ := gBd h
  refine k_X5_clear M hc u869 (Nat.le_of_ble_eq_true rfl) (Nat.le_of_ble_eq_true rfl) dt_X0_pairsByRight_4.1.1.1.2 ?_
  refine z_iload_n M dt_X0_pairsByRight_4.1.1.2 rfl 2 rfl ?_
  refine z_i2l M dt_X0_pairsByRight_4.1.2.1.1 ?_
  obtain ⟨t13, hc, h⟩ := gBd h
  refine k_X5_add M hc u873 (Nat.le_of_ble_eq_true rfl) (Nat.le_of_ble_eq_true rfl) dt_X0_pairsByRight_4.1.2.1.2 ?_
  refine z_iload M dt_X0_pairsByRight_4.1.2.2 3 rfl ?_
  refine z_i2l M dt_X0_pairsByRight_4.2.1.1.1 ?_
  obtain ⟨t14, hc, h⟩ := gBd h
  refine k_X5_add M hc u873 (Nat.le_of_ble_eq_true rfl) (Nat.le_of_ble_eq_true rfl) dt_X0_pairsByRight_4.2.1.1.2 ?_
  refine z_pop M dt_X0_pairsByRight_4.2.1.2 rfl ?_
  refine z_iload_n M dt_X0_pairsByRight_4.2.2.1 rfl 1 rfl ?_
  obtain rfl := Option.some.inj h
  exact z_iret M dt_X0_pairsByRight_4.2.2.2
set_option maxHeartbeats 4000000 in
set_option maxRecDepth 100000 in
theorem m_X0_pairsByRight (hD : ∀ σ, va_D A (cW a cy σ)) {σ : Zst} {p0 : Int32} {o : (Zst × Int32)} (h : f_X0_pairsByRight σ p0 = some o) : zT l D zcl (zty cy) A ad (cW a cy) yX0_pairsByRight cX0_pairsByRight 8 (some .int) 6 [.ref (a 27), .int p0] σ o.1 (some (.int o.2)) := by
  refine z_met pn_X0 hD (Nat.le_of_ble_eq_true rfl) rfl (fun G M => ?_)
  refine z_iload_n M dt_X0_pairsByRight_0.1.1.1.1 rfl 1 rfl ?_
  refine kn_X11_isWay M u911 (Nat.le_of_ble_eq_true rfl) (Nat.le_of_ble_eq_true rfl) dt_X0_pairsByRight_0.1.1.1.2 ?_
  refine z_if_ne (tgt := 9) M dt_X0_pairsByRight_0.1.1.2.1 (by decide) (fun hc => ?_) (fun hc => ?_)
  · have h := gIf hc h
    refine z_iconst M dt_X0_pairsByRight_0.1.2.1.2 ki_0 ?_
    refine z_istore_n (lv' := [(2, .int (0 : Int32)), (0, .ref (a 27)), (1, .int p0)]) M dt_X0_pairsByRight_0.1.2.2.1 rfl (by decide) rfl ?_
    refine z_iconst M dt_X0_pairsByRight_0.1.2.2.2 ki_0 ?_
    refine z_istore_n (lv' := [(3, .int (0 : Int32)), (2, .int (0 : Int32)), (0, .ref (a 27)), (1, .int p0)]) M dt_X0_pairsByRight_0.2.1.1.1 rfl (by decide) rfl ?_
    refine z_iconst M dt_X0_pairsByRight_0.2.1.1.2 ki_0 ?_
    refine z_istore (lv' := [(4, .int (0 : Int32)), (3, .int (0 : Int32)), (2, .int (0 : Int32)), (0, .ref (a 27)), (1, .int p0)]) M dt_X0_pairsByRight_0.2.1.2.1 (by decide) rfl ?_
    refine z_iconst M dt_X0_pairsByRight_0.2.1.2.2 ki_0 ?_
    refine z_istore (lv' := [(5, .int (0 : Int32)), (4, .int (0 : Int32)), (3, .int (0 : Int32)), (2, .int (0 : Int32)), (0, .ref (a 27)), (1, .int p0)]) M dt_X0_pairsByRight_0.2.2.1.1 (by decide) rfl ?_
    refine z_sub M [4, 5, 3, 2, 1, 0] (lv' := [(0, .ref (a 27)), (1, .int p0), (2, .int (0 : Int32)), (3, .int (0 : Int32)), (4, .int (0 : Int32)), (5, .int (0 : Int32))]) rfl ?_
    exact wL_X0_pairsByRight_19 M (k115 := (fun σ18 w15 w16 w17 => J_X0_pairsByRight_115 σ18 w15 w16 w17)) p0 (fun σ18 w15 w16 w17 h => by
        exact wJ_X0_pairsByRight_115 M  σ18 w15 w16 w17 h) zFu σ (0 : Int32) (0 : Int32) (0 : Int32) (0 : Int32) h
  · have h := gIt hc h
    refine z_iconst M dt_X0_pairsByRight_0.1.1.2.2 ki_m1 ?_
    obtain rfl := Option.some.inj h
    exact z_iret M dt_X0_pairsByRight_0.1.2.1.1
theorem k_X0_pairsByRight {n : Nat} (M : zM l D zcl (zty cy) A ad (zR n) (cW a cy) own cc nL rt σo ov G) {p0 : Int32} {o : (Zst × Int32)} (h : f_X0_pairsByRight σ p0 = some o) {index : Nat} (hl : Cond.methodLink own index yX0_pairsByRight ∈ uw) (hR : 7 ≤ n) (hW : (st.map fun v => v.category).sum ≤ 8) (d : decode cc pc = .ok (.invokevirtual index, 3)) (kk : G o.1 lv (pc + 3) (.int o.2 :: st)) : G σ lv pc (.int p0 :: .ref (a 27) :: st) := z_callV M [.int p0] (m_X0_pairsByRight (zM_hD M) h) (hC27 σ) rfl hl u94 u966 u964 u965 hd_X0_pairsByRight hR (by decide) rfl hW d kk
set_option maxHeartbeats 4000000 in
set_option maxRecDepth 100000 in
theorem m_X11_right (hD : ∀ σ, va_D A (cW a cy σ)) {σ : Zst} {p0 : Int32} {o : (Zst × Int32)} (h : f_X11_right σ p0 = some o) : zT l D zcl (zty cy) A ad (cW a cy) yX11_right cX11_right 2 (some .int) 7 [.ref (a 0), .int p0] σ o.1 (some (.int o.2)) := by
  refine z_met pn_X11 hD (Nat.le_of_ble_eq_true rfl) rfl (fun G M => ?_)
  refine z_aload_n M dt_X11_right_0.1.1.1 rfl 0 rfl ?_
  refine gf_X11_answers M u435 dt_X11_right_0.1.1.2 ?_
  refine z_iload_n M dt_X11_right_0.1.2 rfl 1 rfl ?_
  obtain ⟨t1, hc, h⟩ := gBd h
  refine k_X0_pairsByRight M hc u963 (Nat.le_of_ble_eq_true rfl) (Nat.le_of_ble_eq_true rfl) dt_X11_right_0.2.1 ?_
  obtain rfl := Option.some.inj h
  exact z_iret M dt_X11_right_0.2.2
set_option maxHeartbeats 4000000 in
set_option maxRecDepth 100000 in
theorem wL_J7_fill_d0a16_28_6 {o : Zst} (M : zM l D zcl (zty cy) A ad (zR 1) (cW a cy) RJ7 cJ7_fill_d0a16 5 none o none G)  (v1 : Int64) (v4 : Int32)  :
    ∀ (n6 : Nat) (σ : Zst) (v3 : Int32), L_J7_fill_d0a16_28_6 v1 v4 n6 σ v3 = some o → G σ [(0, .ref (a 28)), (1, .long v1), (3, .int v3), (4, .int v4)] 6 [] := by
  intro n6
  induction n6 with
  | zero => intro σ v3 h; exact nomatch (show (none : Option Zst) = some _ from h)
  | succ n6 ih =>
    intro σ v3 h
    refine z_iload_n M dt_J7_fill_d0a16_0.1.2.1.2 rfl 2 rfl ?_
    refine z_iload M dt_J7_fill_d0a16_0.1.2.2.1 3 rfl ?_
    refine z_icmp_ge (tgt := 22) M dt_J7_fill_d0a16_0.1.2.2.2 (by decide) (fun hc => ?_) (fun hc => ?_)
    · have h := gIt hc h
      obtain rfl := Option.some.inj h
      exact z_vret M dt_J7_fill_d0a16_0.2.2.2
    · have h := gIf hc h
      refine z_aload_n M dt_J7_fill_d0a16_0.2.1.1.1 rfl 0 rfl ?_
      refine z_iload_n M dt_J7_fill_d0a16_0.2.1.1.2 rfl 2 rfl ?_
      refine z_lload_n M dt_J7_fill_d0a16_0.2.1.2.1 rfl 1 rfl ?_
      have ⟨hg, h⟩ := gIx_s h
      refine as_C28 (σ := σ) M (f := (σ.2.2.1 1)) rfl hg dt_J7_fill_d0a16_0.2.1.2.2 ?_
      refine z_iinc (v := (v3 + (1 : Int32))) (lv' := [(3, .int (v3 + (1 : Int32))), (0, .ref (a 28)), (1, .long v1), (4, .int v4)]) M dt_J7_fill_d0a16_0.2.2.1.1 (k := 2) rfl (congrArg (fun q => v3 + q) ki_1) (by decide) rfl ?_
      refine z_goto (tgt := 6) M dt_J7_fill_d0a16_0.2.2.1.2 (by decide) ?_
      refine z_sub M [1, 2, 0, 3] (lv' := [(0, .ref (a 28)), (1, .long v1), (3, .int (v3 + (1 : Int32))), (4, .int v4)]) rfl ?_
      exact ih (zL σ 1 (vp_updL (σ.2.2.1 1) (Int32.toNatClampNeg v3) v1)) (v3 + (1 : Int32)) h
set_option maxHeartbeats 4000000 in
set_option maxRecDepth 100000 in
theorem m_J7_fill_d0a16_28 (hD : ∀ σ, va_D A (cW a cy σ)) {σ : Zst} {p0 : Int64} {o : Zst} (h : f_J7_fill_d0a16_28 σ p0 = some o) : zT l D zcl (zty cy) A ad (cW a cy) yJ7_fill_d0a16 cJ7_fill_d0a16 5 none 1 [.ref (a 28), .long p0] σ o none := by
  refine z_met pn_J7 hD (Nat.le_of_ble_eq_true rfl) rfl (fun G M => ?_)
  refine z_iconst M dt_J7_fill_d0a16_0.1.1.1.1 ki_0 ?_
  refine z_istore_n (lv' := [(3, .int (0 : Int32)), (0, .ref (a 28)), (1, .long p0)]) M dt_J7_fill_d0a16_0.1.1.1.2 rfl (by decide) rfl ?_
  refine z_aload_n M dt_J7_fill_d0a16_0.1.1.2.1 rfl 1 rfl ?_
  refine ln_C28 M dt_J7_fill_d0a16_0.1.1.2.2 ?_
  refine z_istore (lv' := [(4, .int (3 : Int32)), (3, .int (0 : Int32)), (0, .ref (a 28)), (1, .long p0)]) M dt_J7_fill_d0a16_0.1.2.1.1 (by decide) rfl ?_
  refine z_sub M [2, 3, 1, 0] (lv' := [(0, .ref (a 28)), (1, .long p0), (3, .int (0 : Int32)), (4, .int (3 : Int32))]) rfl ?_
  exact wL_J7_fill_d0a16_28_6 M  p0 (3 : Int32) zFu σ (0 : Int32) h
theorem k_J7_fill_d0a16_28 {n : Nat} (M : zM l D zcl (zty cy) A ad (zR n) (cW a cy) own cc nL rt σo ov G) {p0 : Int64} {o : Zst} (h : f_J7_fill_d0a16_28 σ p0 = some o) {index : Nat} (hl : Cond.methodLink own index yJ7_fill_d0a16 ∈ uw) (hR : 2 ≤ n) (hW : (st.map fun v => v.category).sum ≤ 8) (d : decode cc pc = .ok (.invokestatic index, 3)) (kk : G o lv (pc + 3) (st)) : G σ lv pc (.long p0 :: .ref (a 28) :: st) := z_callS M [.ref (a 28), .long p0] (m_J7_fill_d0a16_28 (zM_hD M) h) hl u108 u989 u988 hd_J7_fill_d0a16 hR (by decide) rfl hW d kk
set_option maxHeartbeats 4000000 in
set_option maxRecDepth 100000 in
theorem wL_J7_fill_d0a16_29_6 {o : Zst} (M : zM l D zcl (zty cy) A ad (zR 1) (cW a cy) RJ7 cJ7_fill_d0a16 5 none o none G)  (v1 : Int64) (v4 : Int32)  :
    ∀ (n6 : Nat) (σ : Zst) (v3 : Int32), L_J7_fill_d0a16_29_6 v1 v4 n6 σ v3 = some o → G σ [(0, .ref (a 29)), (1, .long v1), (3, .int v3), (4, .int v4)] 6 [] := by
  intro n6
  induction n6 with
  | zero => intro σ v3 h; exact nomatch (show (none : Option Zst) = some _ from h)
  | succ n6 ih =>
    intro σ v3 h
    refine z_iload_n M dt_J7_fill_d0a16_0.1.2.1.2 rfl 2 rfl ?_
    refine z_iload M dt_J7_fill_d0a16_0.1.2.2.1 3 rfl ?_
    refine z_icmp_ge (tgt := 22) M dt_J7_fill_d0a16_0.1.2.2.2 (by decide) (fun hc => ?_) (fun hc => ?_)
    · have h := gIt hc h
      obtain rfl := Option.some.inj h
      exact z_vret M dt_J7_fill_d0a16_0.2.2.2
    · have h := gIf hc h
      refine z_aload_n M dt_J7_fill_d0a16_0.2.1.1.1 rfl 0 rfl ?_
      refine z_iload_n M dt_J7_fill_d0a16_0.2.1.1.2 rfl 2 rfl ?_
      refine z_lload_n M dt_J7_fill_d0a16_0.2.1.2.1 rfl 1 rfl ?_
      have ⟨hg, h⟩ := gIx_s h
      refine as_C29 (σ := σ) M (f := (σ.2.2.1 2)) rfl hg dt_J7_fill_d0a16_0.2.1.2.2 ?_
      refine z_iinc (v := (v3 + (1 : Int32))) (lv' := [(3, .int (v3 + (1 : Int32))), (0, .ref (a 29)), (1, .long v1), (4, .int v4)]) M dt_J7_fill_d0a16_0.2.2.1.1 (k := 2) rfl (congrArg (fun q => v3 + q) ki_1) (by decide) rfl ?_
      refine z_goto (tgt := 6) M dt_J7_fill_d0a16_0.2.2.1.2 (by decide) ?_
      refine z_sub M [1, 2, 0, 3] (lv' := [(0, .ref (a 29)), (1, .long v1), (3, .int (v3 + (1 : Int32))), (4, .int v4)]) rfl ?_
      exact ih (zL σ 2 (vp_updL (σ.2.2.1 2) (Int32.toNatClampNeg v3) v1)) (v3 + (1 : Int32)) h
set_option maxHeartbeats 4000000 in
set_option maxRecDepth 100000 in
theorem m_J7_fill_d0a16_29 (hD : ∀ σ, va_D A (cW a cy σ)) {σ : Zst} {p0 : Int64} {o : Zst} (h : f_J7_fill_d0a16_29 σ p0 = some o) : zT l D zcl (zty cy) A ad (cW a cy) yJ7_fill_d0a16 cJ7_fill_d0a16 5 none 1 [.ref (a 29), .long p0] σ o none := by
  refine z_met pn_J7 hD (Nat.le_of_ble_eq_true rfl) rfl (fun G M => ?_)
  refine z_iconst M dt_J7_fill_d0a16_0.1.1.1.1 ki_0 ?_
  refine z_istore_n (lv' := [(3, .int (0 : Int32)), (0, .ref (a 29)), (1, .long p0)]) M dt_J7_fill_d0a16_0.1.1.1.2 rfl (by decide) rfl ?_
  refine z_aload_n M dt_J7_fill_d0a16_0.1.1.2.1 rfl 1 rfl ?_
  refine ln_C29 M dt_J7_fill_d0a16_0.1.1.2.2 ?_
  refine z_istore (lv' := [(4, .int (9 : Int32)), (3, .int (0 : Int32)), (0, .ref (a 29)), (1, .long p0)]) M dt_J7_fill_d0a16_0.1.2.1.1 (by decide) rfl ?_
  refine z_sub M [2, 3, 1, 0] (lv' := [(0, .ref (a 29)), (1, .long p0), (3, .int (0 : Int32)), (4, .int (9 : Int32))]) rfl ?_
  exact wL_J7_fill_d0a16_29_6 M  p0 (9 : Int32) zFu σ (0 : Int32) h
theorem k_J7_fill_d0a16_29 {n : Nat} (M : zM l D zcl (zty cy) A ad (zR n) (cW a cy) own cc nL rt σo ov G) {p0 : Int64} {o : Zst} (h : f_J7_fill_d0a16_29 σ p0 = some o) {index : Nat} (hl : Cond.methodLink own index yJ7_fill_d0a16 ∈ uw) (hR : 2 ≤ n) (hW : (st.map fun v => v.category).sum ≤ 8) (d : decode cc pc = .ok (.invokestatic index, 3)) (kk : G o lv (pc + 3) (st)) : G σ lv pc (.long p0 :: .ref (a 29) :: st) := z_callS M [.ref (a 29), .long p0] (m_J7_fill_d0a16_29 (zM_hD M) h) hl u108 u989 u988 hd_J7_fill_d0a16 hR (by decide) rfl hW d kk
set_option maxHeartbeats 4000000 in
set_option maxRecDepth 100000 in
theorem m_X0_isWhole (hD : ∀ σ, va_D A (cW a cy σ)) {σ0 : Zst} {p0 : Int32} {p1 : Int32} {p2 : Int32} {o : Int32} (h : f_X0_isWhole σ0 p0 p1 p2 = some o) : zT l D zcl (zty cy) A ad (cW a cy) yX0_isWhole cX0_isWhole 4 (some .boolean) 4 [.ref (a 27), .int p0, .int p1, .int p2] σ0 σ0 (some (.int o)) := by
  refine z_met pn_X0 hD (Nat.le_of_ble_eq_true rfl) rfl (fun G M => ?_)
  refine z_aload_n M dt_X0_isWhole_0.1.1.1.1 rfl 0 rfl ?_
  refine gf_X0_numbers M u271 dt_X0_isWhole_0.1.1.1.2 ?_
  refine z_iconst M dt_X0_isWhole_0.1.1.2.1 ki_0 ?_
  refine z_iload_n M dt_X0_isWhole_0.1.1.2.2 rfl 3 rfl ?_
  refine z_iload_n M dt_X0_isWhole_0.1.2.1.1 rfl 1 rfl ?_
  obtain ⟨t1, hc, h⟩ := gBd h
  refine k_X4_has M hc u864 (Nat.le_of_ble_eq_true rfl) (Nat.le_of_ble_eq_true rfl) dt_X0_isWhole_0.1.2.1.2 ?_
  refine z_if_eq (tgt := 45) M dt_X0_isWhole_0.1.2.2.1 (by decide) (fun hc => ?_) (fun hc => ?_)
  · have h := gIt hc h
    refine z_iconst M dt_X0_isWhole_1.2.2.1 ki_0 ?_
    obtain rfl := Option.some.inj h
    exact z_zret M (nBo (Or.inl rfl)) dt_X0_isWhole_1.2.2.2
  · have h := gIf hc h
    refine z_aload_n M dt_X0_isWhole_0.1.2.2.2 rfl 0 rfl ?_
    refine gf_X0_numbers M u271 dt_X0_isWhole_0.2.1.1.1 ?_
    refine z_iconst M dt_X0_isWhole_0.2.1.1.2 ki_1 ?_
    refine z_iload_n M dt_X0_isWhole_0.2.1.2.1 rfl 3 rfl ?_
    refine z_iload_n M dt_X0_isWhole_0.2.1.2.2 rfl 1 rfl ?_
    obtain ⟨t2, hc, h⟩ := gBd h
    refine k_X4_has M hc u864 (Nat.le_of_ble_eq_true rfl) (Nat.le_of_ble_eq_true rfl) dt_X0_isWhole_0.2.2.1.1 ?_
    refine z_if_eq (tgt := 45) M dt_X0_isWhole_0.2.2.1.2 (by decide) (fun hc => ?_) (fun hc => ?_)
    · have h := gIt hc h
      refine z_iconst M dt_X0_isWhole_1.2.2.1 ki_0 ?_
      obtain rfl := Option.some.inj h
      exact z_zret M (nBo (Or.inl rfl)) dt_X0_isWhole_1.2.2.2
    · have h := gIf hc h
      refine z_aload_n M dt_X0_isWhole_0.2.2.2.1 rfl 0 rfl ?_
      refine gf_X0_numbers M u271 dt_X0_isWhole_0.2.2.2.2 ?_
      refine z_iconst M dt_X0_isWhole_1.1.1.1.1 ki_2 ?_
      refine z_iload_n M dt_X0_isWhole_1.1.1.1.2 rfl 2 rfl ?_
      refine z_iadd M dt_X0_isWhole_1.1.1.2 ?_
      refine z_iload_n M dt_X0_isWhole_1.1.2.1.1 rfl 3 rfl ?_
      refine z_iload_n M dt_X0_isWhole_1.1.2.1.2 rfl 1 rfl ?_
      obtain ⟨t3, hc, h⟩ := gBd h
      refine k_X4_has M hc u864 (Nat.le_of_ble_eq_true rfl) (Nat.le_of_ble_eq_true rfl) dt_X0_isWhole_1.1.2.2 ?_
      have hJ5 : G σ0 [(0, .ref (a 27)), (1, .int p0), (2, .int p1), (3, .int p2)] 46 [.int (if t3 = (0 : Int32) then (0 : Int32) else (1 : Int32))] := by
        obtain rfl := Option.some.inj h
        exact z_zret M (nBo (boIte (Or.inl rfl) (Or.inr rfl))) dt_X0_isWhole_1.2.2.2
      refine z_if_eq (tgt := 45) M dt_X0_isWhole_1.2.1.1.1 (by decide) (fun hc4 => ?_) (fun hc4 => ?_)
      · refine z_iconst M dt_X0_isWhole_1.2.2.1 ki_0 ?_
        exact (zTt hc4 hJ5)
      · refine z_iconst M dt_X0_isWhole_1.2.1.1.2 ki_1 ?_
        refine z_goto (tgt := 46) M dt_X0_isWhole_1.2.1.2 (by decide) ?_
        exact (zTf hc4 hJ5)
theorem k_X0_isWhole {n : Nat} (M : zM l D zcl (zty cy) A ad (zR n) (cW a cy) own cc nL rt σo ov G) {p0 : Int32} {p1 : Int32} {p2 : Int32} {o : Int32} (h : f_X0_isWhole σ p0 p1 p2 = some o) {index : Nat} (hl : Cond.methodLink own index yX0_isWhole ∈ uw) (hR : 5 ≤ n) (hW : (st.map fun v => v.category).sum ≤ 8) (d : decode cc pc = .ok (.invokevirtual index, 3)) (kk : G σ lv (pc + 3) (.int o :: st)) : G σ lv pc (.int p2 :: .int p1 :: .int p0 :: .ref (a 27) :: st) := z_callV M [.int p0, .int p1, .int p2] (m_X0_isWhole (zM_hD M) h) (hC27 σ) rfl hl u94 u993 u992 u17 hd_X0_isWhole hR (by decide) rfl hW d kk
set_option maxHeartbeats 4000000 in
set_option maxRecDepth 100000 in
theorem m_X0_kindOf (hD : ∀ σ, va_D A (wf σ)) (σ0 : Zst) (p0 : Int32) (p1 : Int32) : zT l D zcl0 tys A ad wf yX0_kindOf cX0_kindOf 2 (some .int) 1 [.int p0, .int p1] σ0 σ0 (some (.int (f_X0_kindOf p0 p1))) := by
  obtain ⟨o, h⟩ : ∃ o, f_X0_kindOf p0 p1 = o := ⟨_, rfl⟩
  rw [h]
  refine z_met pn_X0 hD (Nat.le_of_ble_eq_true rfl) rfl (fun G M => ?_)
  refine z_iload_n M dt_X0_kindOf_0.1.1.1.1 rfl 0 rfl ?_
  refine z_iconst M dt_X0_kindOf_0.1.1.1.2 ki_2 ?_
  have hJ2 : G σ0 [(0, .int p0), (1, .int p1)] 12 [.int (if p0 = (2 : Int32) then ((2 : Int32) + p1) else p0)] := by
    subst h
    exact z_iret M dt_X0_kindOf_0.2.2.2
  refine z_icmp_ne (tgt := 11) M dt_X0_kindOf_0.1.1.2 (by decide) (fun hc1 => ?_) (fun hc1 => ?_)
  · refine z_iload_n M dt_X0_kindOf_0.2.2.1 rfl 0 rfl ?_
    exact (zTf hc1 hJ2)
  · refine z_iconst M dt_X0_kindOf_0.1.2.1 ki_2 ?_
    refine z_iload_n M dt_X0_kindOf_0.1.2.2 rfl 1 rfl ?_
    refine z_iadd M dt_X0_kindOf_0.2.1.1 ?_
    refine z_goto (tgt := 12) M dt_X0_kindOf_0.2.1.2 (by decide) ?_
    exact (zTt hc1 hJ2)
theorem k_X0_kindOf {n : Nat} (M : zM l D zcl0 tys A ad (zR n) wf own cc nL rt σo ov G) {p0 : Int32} {p1 : Int32} {index : Nat} (hl : Cond.methodLink own index yX0_kindOf ∈ uw) (hR : 2 ≤ n) (hW : (st.map fun v => v.category).sum ≤ 8) (d : decode cc pc = .ok (.invokestatic index, 3)) (kk : G σ lv (pc + 3) (.int (f_X0_kindOf p0 p1) :: st)) : G σ lv pc (.int p1 :: .int p0 :: st) := z_callS M [.int p0, .int p1] (m_X0_kindOf (zM_hD M) σ p0 p1) hl u94 u1000 u999 hd_X0_kindOf hR (by decide) rfl hW d kk
set_option maxHeartbeats 4000000 in
set_option maxRecDepth 100000 in
theorem wL_X0_gatherOne_52 {o : Zst} (M : zM l D zcl (zty cy) A ad (zR 3) (cW a cy) RX0 cX0_gatherOne 8 none o none G) {k98 : Zst → Option Zst}  (v1 : Int32) (v2 : Int32) (v3 : Int32) (v4 : Int32) (v5 : Int64) (Hk98 : ∀ (σ : Zst), k98 σ = some o → G σ [(0, .ref (a 27)), (1, .int v1), (2, .int v2), (3, .int v3), (4, .int v4)] 98 []) :
    ∀ (n52 : Nat) (σ : Zst) (v7 : Int32), L_X0_gatherOne_52 k98 v1 v2 v3 v4 v5 n52 σ v7 = some o → G σ [(0, .ref (a 27)), (1, .int v1), (2, .int v2), (3, .int v3), (4, .int v4), (5, .long v5), (7, .int v7)] 52 [] := by
  intro n52
  induction n52 with
  | zero => intro σ v7 h; exact nomatch (show (none : Option Zst) = some _ from h)
  | succ n52 ih =>
    intro σ v7 h
    refine z_iload M dt_X0_gatherOne_1.2.2.2.2 6 rfl ?_
    refine z_iconst M dt_X0_gatherOne_2.1.1.1.1 ki_3 ?_
    refine z_icmp_ge (tgt := 98) M dt_X0_gatherOne_2.1.1.1.2 (by decide) (fun hc => ?_) (fun hc => ?_)
    · have h := gIt hc h
      refine z_sub M [0, 1, 2, 3, 4] (lv' := [(0, .ref (a 27)), (1, .int v1), (2, .int v2), (3, .int v3), (4, .int v4)]) rfl ?_
      exact Hk98 σ h
    · have h := gIf hc h
      refine z_aload_n M dt_X0_gatherOne_2.1.1.2.1 rfl 0 rfl ?_
      refine gf_X0_products M u281 dt_X0_gatherOne_2.1.1.2.2 ?_
      refine z_iload M dt_X0_gatherOne_2.1.2.1.1 4 rfl ?_
      refine z_iconst M dt_X0_gatherOne_2.1.2.1.2 ki_3 ?_
      refine z_imul M dt_X0_gatherOne_2.1.2.2.1 ?_
      refine z_iload M dt_X0_gatherOne_2.1.2.2.2 6 rfl ?_
      refine z_iadd M dt_X0_gatherOne_2.2.1.1.1 ?_
      refine z_dup2_11 M dt_X0_gatherOne_2.2.1.1.2 rfl rfl ?_
      have ⟨hg, h⟩ := gIx_s h
      refine al_C29 (σ := σ) M (f := (σ.2.2.1 2)) rfl hg dt_X0_gatherOne_2.2.1.2.1 ?_
      refine z_lload M dt_X0_gatherOne_2.2.1.2.2 5 rfl ?_
      refine z_aload_n M dt_X0_gatherOne_2.2.2.1.1 rfl 0 rfl ?_
      refine gf_X0_numbers M u271 dt_X0_gatherOne_2.2.2.1.2 ?_
      refine z_iload M dt_X0_gatherOne_2.2.2.2.1 6 rfl ?_
      refine z_iload_n M dt_X0_gatherOne_2.2.2.2.2 rfl 2 rfl ?_
      refine k_X0_kindOf M u998 (Nat.le_of_ble_eq_true rfl) (Nat.le_of_ble_eq_true rfl) dt_X0_gatherOne_3.1.1.1.1 ?_
      refine z_iload_n M dt_X0_gatherOne_3.1.1.1.2 rfl 3 rfl ?_
      refine z_iload_n M dt_X0_gatherOne_3.1.1.2.1 rfl 1 rfl ?_
      obtain ⟨t1, hc, h⟩ := gBd h
      refine k_X4_of M hc u868 (Nat.le_of_ble_eq_true rfl) (Nat.le_of_ble_eq_true rfl) dt_X0_gatherOne_3.1.1.2.2 ?_
      refine z_i2l M dt_X0_gatherOne_3.1.2.1.1 ?_
      refine z_lmul M dt_X0_gatherOne_3.1.2.1.2 ?_
      refine z_ladd M dt_X0_gatherOne_3.1.2.2 ?_
      have ⟨hg, h⟩ := gIx_s h
      refine as_C29 (σ := σ) M (f := (σ.2.2.1 2)) rfl hg dt_X0_gatherOne_3.2.1.1.1 ?_
      refine z_iinc (v := (v7 + (1 : Int32))) (lv' := [(7, .int (v7 + (1 : Int32))), (0, .ref (a 27)), (1, .int v1), (2, .int v2), (3, .int v3), (4, .int v4), (5, .long v5)]) M dt_X0_gatherOne_3.2.1.1.2 (k := 6) rfl (congrArg (fun q => v7 + q) ki_1) (by decide) rfl ?_
      refine z_goto (tgt := 52) M dt_X0_gatherOne_3.2.1.2 (by decide) ?_
      refine z_sub M [1, 2, 3, 4, 5, 6, 0] (lv' := [(0, .ref (a 27)), (1, .int v1), (2, .int v2), (3, .int v3), (4, .int v4), (5, .long v5), (7, .int (v7 + (1 : Int32)))]) rfl ?_
      exact ih (zL σ 2 (vp_updL (σ.2.2.1 2) (Int32.toNatClampNeg ((v4 * (3 : Int32)) + v7)) (((σ.2.2.1 2) (Int32.toNatClampNeg ((v4 * (3 : Int32)) + v7))) + (v5 * (Int32.toInt64 t1))))) (v7 + (1 : Int32)) h
set_option maxHeartbeats 4000000 in
set_option maxRecDepth 100000 in
theorem wJ_X0_gatherOne_98 {o : Zst} (M : zM l D zcl (zty cy) A ad (zR 3) (cW a cy) RX0 cX0_gatherOne 8 none o none G) {k13 : Zst → Int32 → Option Zst} (σ : Zst) (v1 : Int32) (v2 : Int32) (v3 : Int32) (v4 : Int32) (Hk13 : ∀ (σ : Zst) (w4 : Int32), k13 σ w4 = some o → G σ [(0, .ref (a 27)), (1, .int v1), (2, .int v2), (3, .int v3), (4, .int w4)] 13 []) (h : J_X0_gatherOne_98 k13 σ v1 v2 v3 v4 = some o) : G σ [(0, .ref (a 27)), (1, .int v1), (2, .int v2), (3, .int v3), (4, .int v4)] 98 [] := by
  refine z_iinc (v := (v4 + (1 : Int32))) (lv' := [(4, .int (v4 + (1 : Int32))), (0, .ref (a 27)), (1, .int v1), (2, .int v2), (3, .int v3)]) M dt_X0_gatherOne_3.2.2.1.1 (k := 4) rfl (congrArg (fun q => v4 + q) ki_1) (by decide) rfl ?_
  refine z_goto (tgt := 13) M dt_X0_gatherOne_3.2.2.1.2 (by decide) ?_
  refine z_sub M [1, 2, 3, 4, 0] (lv' := [(0, .ref (a 27)), (1, .int v1), (2, .int v2), (3, .int v3), (4, .int (v4 + (1 : Int32)))]) rfl ?_
  exact Hk13 σ (v4 + (1 : Int32)) h
set_option maxHeartbeats 4000000 in
set_option maxRecDepth 100000 in
theorem wL_X0_gatherOne_13 {o : Zst} (M : zM l D zcl (zty cy) A ad (zR 3) (cW a cy) RX0 cX0_gatherOne 8 none o none G)  (v1 : Int32) (v2 : Int32) (v3 : Int32)  :
    ∀ (n13 : Nat) (σ : Zst) (v4 : Int32), L_X0_gatherOne_13 v1 v2 v3 n13 σ v4 = some o → G σ [(0, .ref (a 27)), (1, .int v1), (2, .int v2), (3, .int v3), (4, .int v4)] 13 [] := by
  intro n13
  induction n13 with
  | zero => intro σ v4 h; exact nomatch (show (none : Option Zst) = some _ from h)
  | succ n13 ih =>
    intro σ v4 h
    refine z_iload M dt_X0_gatherOne_0.2.1.1.1 4 rfl ?_
    refine z_iconst M dt_X0_gatherOne_0.2.1.1.2 ki_3 ?_
    refine z_icmp_ge (tgt := 104) M dt_X0_gatherOne_0.2.1.2.1 (by decide) (fun hc => ?_) (fun hc => ?_)
    · have h := gIt hc h
      obtain rfl := Option.some.inj h
      exact z_vret M dt_X0_gatherOne_3.2.2.2
    · have h := gIf hc h
      refine z_aload_n M dt_X0_gatherOne_0.2.1.2.2 rfl 0 rfl ?_
      refine gf_X0_numbers M u271 dt_X0_gatherOne_0.2.2.1.1 ?_
      refine z_iload M dt_X0_gatherOne_0.2.2.1.2 4 rfl ?_
      refine z_iload_n M dt_X0_gatherOne_0.2.2.2.1 rfl 2 rfl ?_
      refine k_X0_kindOf M u998 (Nat.le_of_ble_eq_true rfl) (Nat.le_of_ble_eq_true rfl) dt_X0_gatherOne_0.2.2.2.2 ?_
      refine z_iload_n M dt_X0_gatherOne_1.1.1.1.1 rfl 3 rfl ?_
      refine z_iload_n M dt_X0_gatherOne_1.1.1.1.2 rfl 1 rfl ?_
      obtain ⟨t2, hc, h⟩ := gBd h
      refine k_X4_of M hc u868 (Nat.le_of_ble_eq_true rfl) (Nat.le_of_ble_eq_true rfl) dt_X0_gatherOne_1.1.1.2.1 ?_
      refine z_i2l M dt_X0_gatherOne_1.1.1.2.2 ?_
      refine z_lstore (lv' := [(5, .long (Int32.toInt64 t2)), (0, .ref (a 27)), (1, .int v1), (2, .int v2), (3, .int v3), (4, .int v4)]) M dt_X0_gatherOne_1.1.2.1.1 (by decide) rfl ?_
      refine z_aload_n M dt_X0_gatherOne_1.1.2.1.2 rfl 1 rfl ?_
      refine gf_X0_sums M u280 dt_X0_gatherOne_1.1.2.2.1 ?_
      refine z_iload M dt_X0_gatherOne_1.1.2.2.2 5 rfl ?_
      refine z_dup2_11 M dt_X0_gatherOne_1.2.1.1.1 rfl rfl ?_
      have ⟨hg, h⟩ := gIx_s h
      refine al_C28 (σ := σ) M (f := (σ.2.2.1 1)) rfl hg dt_X0_gatherOne_1.2.1.1.2 ?_
      refine z_lload M dt_X0_gatherOne_1.2.1.2.1 0 rfl ?_
      refine z_ladd M dt_X0_gatherOne_1.2.1.2.2 ?_
      have ⟨hg, h⟩ := gIx_s h
      refine as_C28 (σ := σ) M (f := (σ.2.2.1 1)) rfl hg dt_X0_gatherOne_1.2.2.1.1 ?_
      refine z_iconst M dt_X0_gatherOne_1.2.2.1.2 ki_0 ?_
      refine z_istore (lv' := [(7, .int (0 : Int32)), (5, .long (Int32.toInt64 t2)), (0, .ref (a 27)), (1, .int v1), (2, .int v2), (3, .int v3), (4, .int v4)]) M dt_X0_gatherOne_1.2.2.2.1 (by decide) rfl ?_
      refine z_sub M [2, 3, 4, 5, 6, 1, 0] (lv' := [(0, .ref (a 27)), (1, .int v1), (2, .int v2), (3, .int v3), (4, .int v4), (5, .long (Int32.toInt64 t2)), (7, .int (0 : Int32))]) rfl ?_
      exact wL_X0_gatherOne_52 M (k98 := (fun σ3 => J_X0_gatherOne_98 (fun σ w4 => L_X0_gatherOne_13 v1 v2 v3 n13 σ w4) σ3 v1 v2 v3 v4)) v1 v2 v3 v4 (Int32.toInt64 t2) (fun σ3 h => by
          exact wJ_X0_gatherOne_98 M (k13 := (fun σ w4 => L_X0_gatherOne_13 v1 v2 v3 n13 σ w4)) σ3 v1 v2 v3 v4 ih h) zFu (zL σ 1 (vp_updL (σ.2.2.1 1) (Int32.toNatClampNeg v4) (((σ.2.2.1 1) (Int32.toNatClampNeg v4)) + (Int32.toInt64 t2)))) (0 : Int32) h
set_option maxHeartbeats 4000000 in
set_option maxRecDepth 100000 in
theorem m_X0_gatherOne (hD : ∀ σ, va_D A (cW a cy σ)) {σ : Zst} {p0 : Int32} {p1 : Int32} {p2 : Int32} {o : Zst} (h : f_X0_gatherOne σ p0 p1 p2 = some o) : zT l D zcl (zty cy) A ad (cW a cy) yX0_gatherOne cX0_gatherOne 8 none 3 [.ref (a 27), .int p0, .int p1, .int p2] σ o none := by
  refine z_met pn_X0 hD (Nat.le_of_ble_eq_true rfl) rfl (fun G M => ?_)
  refine z_aload_n M dt_X0_gatherOne_0.1.1.1.1 rfl 0 rfl ?_
  refine z_dup M dt_X0_gatherOne_0.1.1.1.2 rfl ?_
  refine gf_X0_gathered (σ := σ) M u279 dt_X0_gatherOne_0.1.1.2.1 (v := (σ.1 18)) rfl ?_
  refine z_iconst M dt_X0_gatherOne_0.1.1.2.2 ki_1 ?_
  refine z_iadd M dt_X0_gatherOne_0.1.2.1.1 ?_
  refine pf_X0_gathered M u279 dt_X0_gatherOne_0.1.2.1.2 ?_
  refine z_iconst M dt_X0_gatherOne_0.1.2.2.1 ki_0 ?_
  refine z_istore (lv' := [(4, .int (0 : Int32)), (0, .ref (a 27)), (1, .int p0), (2, .int p1), (3, .int p2)]) M dt_X0_gatherOne_0.1.2.2.2 (by decide) rfl ?_
  refine z_sub M [1, 2, 3, 4, 0] (lv' := [(0, .ref (a 27)), (1, .int p0), (2, .int p1), (3, .int p2), (4, .int (0 : Int32))]) rfl ?_
  exact wL_X0_gatherOne_13 M  p0 p1 p2 zFu (zI σ 18 ((σ.1 18) + (1 : Int32))) (0 : Int32) h
theorem k_X0_gatherOne {n : Nat} (M : zM l D zcl (zty cy) A ad (zR n) (cW a cy) own cc nL rt σo ov G) {p0 : Int32} {p1 : Int32} {p2 : Int32} {o : Zst} (h : f_X0_gatherOne σ p0 p1 p2 = some o) {index : Nat} (hl : Cond.methodLink own index yX0_gatherOne ∈ uw) (hR : 4 ≤ n) (hW : (st.map fun v => v.category).sum ≤ 8) (d : decode cc pc = .ok (.invokevirtual index, 3)) (kk : G o lv (pc + 3) (st)) : G σ lv pc (.int p2 :: .int p1 :: .int p0 :: .ref (a 27) :: st) := z_callV M [.int p0, .int p1, .int p2] (m_X0_gatherOne (zM_hD M) h) (hC27 σ) rfl hl u94 u997 u996 u18 hd_X0_gatherOne hR (by decide) rfl hW d kk
set_option maxHeartbeats 4000000 in
set_option maxRecDepth 100000 in
theorem wL_X0_gather_23 {o : Zst} (M : zM l D zcl (zty cy) A ad (zR 5) (cW a cy) RX0 cX0_gather 4 none o none G)  (v1 : Int32) (v2 : Int32)  :
    ∀ (n23 : Nat) (σ : Zst) (v3 : Int32), L_X0_gather_23 v1 v2 n23 σ v3 = some o → G σ [(0, .ref (a 27)), (1, .int v1), (2, .int v2), (3, .int v3)] 23 [] := by
  intro n23
  induction n23 with
  | zero => intro σ v3 h; exact nomatch (show (none : Option Zst) = some _ from h)
  | succ n23 ih =>
    intro σ v3 h
    refine z_iload_n M dt_X0_gather_0.2.2.1.2 rfl 3 rfl ?_
    refine z_aload_n M dt_X0_gather_0.2.2.2.1 rfl 0 rfl ?_
    refine gf_X0_town M u270 dt_X0_gather_0.2.2.2.2 ?_
    refine k_X10_cellCount M u862 (Nat.le_of_ble_eq_true rfl) (Nat.le_of_ble_eq_true rfl) dt_X0_gather_1.1.1.1.1 ?_
    refine z_icmp_ge (tgt := 57) M dt_X0_gather_1.1.1.1.2 (by decide) (fun hc => ?_) (fun hc => ?_)
    · have h := gIt hc h
      obtain rfl := Option.some.inj h
      exact z_vret M dt_X0_gather_1.2.2.2.2
    · have h := gIf hc h
      refine z_aload_n M dt_X0_gather_1.1.1.2.1 rfl 0 rfl ?_
      refine z_iload_n M dt_X0_gather_1.1.1.2.2 rfl 1 rfl ?_
      refine z_iload_n M dt_X0_gather_1.1.2.1.1 rfl 2 rfl ?_
      refine z_iload_n M dt_X0_gather_1.1.2.1.2 rfl 3 rfl ?_
      obtain ⟨t1, hc, h⟩ := gBd h
      refine k_X0_isWhole M hc u990 (Nat.le_of_ble_eq_true rfl) (Nat.le_of_ble_eq_true rfl) dt_X0_gather_1.1.2.2.1 ?_
      refine z_if_eq (tgt := 51) M dt_X0_gather_1.1.2.2.2 (by decide) (fun hc => ?_) (fun hc => ?_)
      · have h := gIt hc h
        refine z_iinc (v := (v3 + (1 : Int32))) (lv' := [(3, .int (v3 + (1 : Int32))), (0, .ref (a 27)), (1, .int v1), (2, .int v2)]) M dt_X0_gather_1.2.2.1.2 (k := 3) rfl (congrArg (fun q => v3 + q) ki_1) (by decide) rfl ?_
        refine z_goto (tgt := 23) M dt_X0_gather_1.2.2.2.1 (by decide) ?_
        refine z_sub M [1, 2, 3, 0] (lv' := [(0, .ref (a 27)), (1, .int v1), (2, .int v2), (3, .int (v3 + (1 : Int32)))]) rfl ?_
        exact ih σ (v3 + (1 : Int32)) h
      · have h := gIf hc h
        refine z_aload_n M dt_X0_gather_1.2.1.1.1 rfl 0 rfl ?_
        refine z_iload_n M dt_X0_gather_1.2.1.1.2 rfl 1 rfl ?_
        refine z_iload_n M dt_X0_gather_1.2.1.2.1 rfl 2 rfl ?_
        refine z_iload_n M dt_X0_gather_1.2.1.2.2 rfl 3 rfl ?_
        obtain ⟨t2, hc, h⟩ := gBd h
        refine k_X0_gatherOne M hc u994 (Nat.le_of_ble_eq_true rfl) (Nat.le_of_ble_eq_true rfl) dt_X0_gather_1.2.2.1.1 ?_
        refine z_iinc (v := (v3 + (1 : Int32))) (lv' := [(3, .int (v3 + (1 : Int32))), (0, .ref (a 27)), (1, .int v1), (2, .int v2)]) M dt_X0_gather_1.2.2.1.2 (k := 3) rfl (congrArg (fun q => v3 + q) ki_1) (by decide) rfl ?_
        refine z_goto (tgt := 23) M dt_X0_gather_1.2.2.2.1 (by decide) ?_
        refine z_sub M [1, 2, 3, 0] (lv' := [(0, .ref (a 27)), (1, .int v1), (2, .int v2), (3, .int (v3 + (1 : Int32)))]) rfl ?_
        exact ih t2 (v3 + (1 : Int32)) h
set_option maxHeartbeats 4000000 in
set_option maxRecDepth 100000 in
theorem m_X0_gather (hD : ∀ σ, va_D A (cW a cy σ)) {σ : Zst} {p0 : Int32} {p1 : Int32} {o : Zst} (h : f_X0_gather σ p0 p1 = some o) : zT l D zcl (zty cy) A ad (cW a cy) yX0_gather cX0_gather 4 none 5 [.ref (a 27), .int p0, .int p1] σ o none := by
  refine z_met pn_X0 hD (Nat.le_of_ble_eq_true rfl) rfl (fun G M => ?_)
  refine z_aload_n M dt_X0_gather_0.1.1.1.1 rfl 0 rfl ?_
  refine z_iconst M dt_X0_gather_0.1.1.1.2 ki_0 ?_
  refine pf_X0_gathered M u279 dt_X0_gather_0.1.1.2.1 ?_
  refine z_aload_n M dt_X0_gather_0.1.1.2.2 rfl 0 rfl ?_
  refine gf_X0_sums M u280 dt_X0_gather_0.1.2.1.1 ?_
  refine z_lconst (v := 0) M dt_X0_gather_0.1.2.1.2 (by decide) ?_
  obtain ⟨t3, hc, h⟩ := gBd h
  refine k_J7_fill_d0a16_28 M hc u987 (Nat.le_of_ble_eq_true rfl) (Nat.le_of_ble_eq_true rfl) dt_X0_gather_0.1.2.2.1 ?_
  refine z_aload_n M dt_X0_gather_0.1.2.2.2 rfl 0 rfl ?_
  refine gf_X0_products M u281 dt_X0_gather_0.2.1.1.1 ?_
  refine z_lconst (v := 0) M dt_X0_gather_0.2.1.1.2 (by decide) ?_
  obtain ⟨t4, hc, h⟩ := gBd h
  refine k_J7_fill_d0a16_29 M hc u987 (Nat.le_of_ble_eq_true rfl) (Nat.le_of_ble_eq_true rfl) dt_X0_gather_0.2.1.2.1 ?_
  refine z_iconst M dt_X0_gather_0.2.1.2.2 ki_0 ?_
  refine z_istore_n (lv' := [(3, .int (0 : Int32)), (0, .ref (a 27)), (1, .int p0), (2, .int p1)]) M dt_X0_gather_0.2.2.1.1 rfl (by decide) rfl ?_
  refine z_sub M [1, 2, 3, 0] (lv' := [(0, .ref (a 27)), (1, .int p0), (2, .int p1), (3, .int (0 : Int32))]) rfl ?_
  exact wL_X0_gather_23 M  p0 p1 zFu t4 (0 : Int32) h
theorem k_X0_gather {n : Nat} (M : zM l D zcl (zty cy) A ad (zR n) (cW a cy) own cc nL rt σo ov G) {p0 : Int32} {p1 : Int32} {o : Zst} (h : f_X0_gather σ p0 p1 = some o) {index : Nat} (hl : Cond.methodLink own index yX0_gather ∈ uw) (hR : 6 ≤ n) (hW : (st.map fun v => v.category).sum ≤ 8) (d : decode cc pc = .ok (.invokevirtual index, 3)) (kk : G o lv (pc + 3) (st)) : G σ lv pc (.int p1 :: .int p0 :: .ref (a 27) :: st) := z_callV M [.int p0, .int p1] (m_X0_gather (zM_hD M) h) (hC27 σ) rfl hl u94 u986 u985 u16 hd_X0_gather hR (by decide) rfl hW d kk
set_option maxHeartbeats 4000000 in
set_option maxRecDepth 100000 in
theorem m_X0_spread (hD : ∀ σ, va_D A (cW a cy σ)) {σ0 : Zst} {p0 : Int32} {p1 : Int32} {o : Int64} (h : f_X0_spread σ0 p0 p1 = some o) : zT l D zcl (zty cy) A ad (cW a cy) yX0_spread cX0_spread 4 (some .long) 2 [.ref (a 27), .int p0, .int p1] σ0 σ0 (some (.long o)) := by
  refine z_met pn_X0 hD (Nat.le_of_ble_eq_true rfl) rfl (fun G M => ?_)
  refine z_iload_n M dt_X0_spread_0.1.1.1.1 rfl 1 rfl ?_
  refine z_iconst M dt_X0_spread_0.1.1.1.2 ki_0 ?_
  refine z_iconst M dt_X0_spread_0.1.1.2.1 ki_2 ?_
  refine kn_X11_between M u859 (Nat.le_of_ble_eq_true rfl) (Nat.le_of_ble_eq_true rfl) dt_X0_spread_0.1.1.2.2 ?_
  have hJ3 : G σ0 [(0, .ref (a 27)), (1, .int p0), (2, .int p1)] 23 [.int (if (f_X11_between p0 (0 : Int32) (2 : Int32)) = (0 : Int32) then (0 : Int32) else (if (f_X11_between p1 (0 : Int32) (2 : Int32)) = (0 : Int32) then (0 : Int32) else (1 : Int32)))] := by
    refine z_istore_n (lv' := [(3, .int (if (f_X11_between p0 (0 : Int32) (2 : Int32)) = (0 : Int32) then (0 : Int32) else (if (f_X11_between p1 (0 : Int32) (2 : Int32)) = (0 : Int32) then (0 : Int32) else (1 : Int32)))), (0, .ref (a 27)), (1, .int p0), (2, .int p1)]) M dt_X0_spread_0.2.2.1.2 rfl (by decide) rfl ?_
    refine z_iload_n M dt_X0_spread_0.2.2.2.1 rfl 0 rfl ?_
    refine z_if_eq (tgt := 61) M dt_X0_spread_0.2.2.2.2 (by decide) (fun hc => ?_) (fun hc => ?_)
    · have h := gIt hc h
      refine z_lconst (v := 0) M dt_X0_spread_2.2.2.1 (by decide) ?_
      obtain rfl := Option.some.inj h
      exact z_lret M dt_X0_spread_2.2.2.2
    · have h := gIf hc h
      refine z_aload_n M dt_X0_spread_1.1.1.1.1 rfl 1 rfl ?_
      refine gf_X0_gathered (σ := σ0) M u279 dt_X0_spread_1.1.1.1.2 (v := (σ0.1 18)) rfl ?_
      refine z_i2l M dt_X0_spread_1.1.1.2.1 ?_
      refine z_aload_n M dt_X0_spread_1.1.1.2.2 rfl 1 rfl ?_
      refine gf_X0_products M u281 dt_X0_spread_1.1.2.1.1 ?_
      refine z_iload_n M dt_X0_spread_1.1.2.1.2 rfl 2 rfl ?_
      refine z_iconst M dt_X0_spread_1.1.2.2.1 ki_3 ?_
      refine z_imul M dt_X0_spread_1.1.2.2.2 ?_
      refine z_iload_n M dt_X0_spread_1.2.1.1.1 rfl 3 rfl ?_
      refine z_iadd M dt_X0_spread_1.2.1.1.2 ?_
      have ⟨hg, h⟩ := gIx_s h
      refine al_C29 (σ := σ0) M (f := (σ0.2.2.1 2)) rfl hg dt_X0_spread_1.2.1.2.1 ?_
      refine z_lmul M dt_X0_spread_1.2.1.2.2 ?_
      refine z_aload_n M dt_X0_spread_1.2.2.1.1 rfl 1 rfl ?_
      refine gf_X0_sums M u280 dt_X0_spread_1.2.2.1.2 ?_
      refine z_iload_n M dt_X0_spread_1.2.2.2.1 rfl 2 rfl ?_
      have ⟨hg, h⟩ := gIx_s h
      refine al_C28 (σ := σ0) M (f := (σ0.2.2.1 1)) rfl hg dt_X0_spread_1.2.2.2.2 ?_
      refine z_aload_n M dt_X0_spread_2.1.1.1.1 rfl 1 rfl ?_
      refine gf_X0_sums M u280 dt_X0_spread_2.1.1.1.2 ?_
      refine z_iload_n M dt_X0_spread_2.1.1.2 rfl 3 rfl ?_
      have ⟨hg, h⟩ := gIx_s h
      refine al_C28 (σ := σ0) M (f := (σ0.2.2.1 1)) rfl hg dt_X0_spread_2.1.2.1 ?_
      refine z_lmul M dt_X0_spread_2.1.2.2 ?_
      refine z_lsub M dt_X0_spread_2.2.1.1 ?_
      refine z_goto (tgt := 62) M dt_X0_spread_2.2.1.2 (by decide) ?_
      obtain rfl := Option.some.inj h
      exact z_lret M dt_X0_spread_2.2.2.2
  refine z_if_eq (tgt := 22) M dt_X0_spread_0.1.2.1.1 (by decide) (fun hc1 => ?_) (fun hc1 => ?_)
  · refine z_iconst M dt_X0_spread_0.2.2.1.1 ki_0 ?_
    exact (zTt hc1 hJ3)
  · refine z_iload_n M dt_X0_spread_0.1.2.1.2 rfl 2 rfl ?_
    refine z_iconst M dt_X0_spread_0.1.2.2.1 ki_0 ?_
    refine z_iconst M dt_X0_spread_0.1.2.2.2 ki_2 ?_
    refine kn_X11_between M u859 (Nat.le_of_ble_eq_true rfl) (Nat.le_of_ble_eq_true rfl) dt_X0_spread_0.2.1.1.1 ?_
    refine z_if_eq (tgt := 22) M dt_X0_spread_0.2.1.1.2 (by decide) (fun hc2 => ?_) (fun hc2 => ?_)
    · refine z_iconst M dt_X0_spread_0.2.2.1.1 ki_0 ?_
      exact (zTt hc2 (zTf hc1 hJ3))
    · refine z_iconst M dt_X0_spread_0.2.1.2.1 ki_1 ?_
      refine z_goto (tgt := 23) M dt_X0_spread_0.2.1.2.2 (by decide) ?_
      exact (zTf hc2 (zTf hc1 hJ3))
theorem k_X0_spread {n : Nat} (M : zM l D zcl (zty cy) A ad (zR n) (cW a cy) own cc nL rt σo ov G) {p0 : Int32} {p1 : Int32} {o : Int64} (h : f_X0_spread σ p0 p1 = some o) {index : Nat} (hl : Cond.methodLink own index yX0_spread ∈ uw) (hR : 3 ≤ n) (hW : (st.map fun v => v.category).sum ≤ 8) (d : decode cc pc = .ok (.invokevirtual index, 3)) (kk : G σ lv (pc + 3) (.long o :: st)) : G σ lv pc (.int p1 :: .int p0 :: .ref (a 27) :: st) := z_callV M [.int p0, .int p1] (m_X0_spread (zM_hD M) h) (hC27 σ) rfl hl u94 u1008 u1007 u20 hd_X0_spread hR (by decide) rfl hW d kk
set_option maxHeartbeats 4000000 in
set_option maxRecDepth 100000 in
theorem m_X0_lowerOf (hD : ∀ σ, va_D A (cW a cy σ)) {σ0 : Zst} {p0 : Int32} {o : Int64} (h : f_X0_lowerOf σ0 p0 = some o) : zT l D zcl (zty cy) A ad (cW a cy) yX0_lowerOf cX0_lowerOf 2 (some .long) 3 [.ref (a 27), .int p0] σ0 σ0 (some (.long o)) := by
  refine z_met pn_X0 hD (Nat.le_of_ble_eq_true rfl) rfl (fun G M => ?_)
  refine z_aload_n M dt_X0_lowerOf_0.1.1.1.1 rfl 0 rfl ?_
  refine z_iload_n M dt_X0_lowerOf_0.1.1.1.2 rfl 1 rfl ?_
  refine z_iconst M dt_X0_lowerOf_0.1.1.2.1 ki_1 ?_
  refine z_iadd M dt_X0_lowerOf_0.1.1.2.2 ?_
  refine z_iconst M dt_X0_lowerOf_0.1.2.1.1 ki_3 ?_
  refine z_irem M dt_X0_lowerOf_0.1.2.1.2 (by decide) ?_
  refine z_iload_n M dt_X0_lowerOf_0.1.2.2.1 rfl 1 rfl ?_
  refine z_iconst M dt_X0_lowerOf_0.1.2.2.2 ki_2 ?_
  refine z_iadd M dt_X0_lowerOf_0.2.1.1.1 ?_
  refine z_iconst M dt_X0_lowerOf_0.2.1.1.2 ki_3 ?_
  refine z_irem M dt_X0_lowerOf_0.2.1.2.1 (by decide) ?_
  obtain ⟨t1, hc, h⟩ := gBd h
  refine k_X0_spread M hc u1005 (Nat.le_of_ble_eq_true rfl) (Nat.le_of_ble_eq_true rfl) dt_X0_lowerOf_0.2.1.2.2 ?_
  refine z_aload_n M dt_X0_lowerOf_0.2.2.1.1 rfl 0 rfl ?_
  refine z_iload_n M dt_X0_lowerOf_0.2.2.1.2 rfl 1 rfl ?_
  refine z_iload_n M dt_X0_lowerOf_0.2.2.2.1 rfl 1 rfl ?_
  obtain ⟨t2, hc, h⟩ := gBd h
  refine k_X0_spread M hc u1005 (Nat.le_of_ble_eq_true rfl) (Nat.le_of_ble_eq_true rfl) dt_X0_lowerOf_0.2.2.2.2 ?_
  refine z_lmul M dt_X0_lowerOf_1.1 ?_
  obtain rfl := Option.some.inj h
  exact z_lret M dt_X0_lowerOf_1.2
theorem k_X0_lowerOf {n : Nat} (M : zM l D zcl (zty cy) A ad (zR n) (cW a cy) own cc nL rt σo ov G) {p0 : Int32} {o : Int64} (h : f_X0_lowerOf σ p0 = some o) {index : Nat} (hl : Cond.methodLink own index yX0_lowerOf ∈ uw) (hR : 4 ≤ n) (hW : (st.map fun v => v.category).sum ≤ 8) (d : decode cc pc = .ok (.invokevirtual index, 3)) (kk : G σ lv (pc + 3) (.long o :: st)) : G σ lv pc (.int p0 :: .ref (a 27) :: st) := z_callV M [.int p0] (m_X0_lowerOf (zM_hD M) h) (hC27 σ) rfl hl u94 u1004 u1003 u19 hd_X0_lowerOf hR (by decide) rfl hW d kk
set_option maxHeartbeats 4000000 in
set_option maxRecDepth 100000 in
theorem wL_X0_thousandths_43 {o : Int64} (M : zM l D zcl0 tys A ad (zR 2) wf RX0 cX0_thousandths 16 (some .long) σ0 (some (.long o)) G) {k181 : Int64 → Option Int64}  (v0 : Int64) (v2 : Int64) (v4 : Int64) (v6 : Int64) (v8 : Int64) (Hk181 : ∀ (w10 : Int64), k181 w10 = some o → G σ0 [(0, .long v0), (2, .long v2), (8, .long v8), (10, .long w10)] 181 []) :
    ∀ (n43 : Nat) (v10 : Int64) (v12 : Int64) (v14 : Int32), L_X0_thousandths_43 k181 v0 v2 v4 v6 v8 n43 v10 v12 v14 = some o → G σ0 [(0, .long v0), (2, .long v2), (4, .long v4), (6, .long v6), (8, .long v8), (10, .long v10), (12, .long v12), (14, .int v14)] 43 [] := by
  intro n43
  induction n43 with
  | zero => intro v10 v12 v14 h; exact nomatch (show (none : Option Int64) = some _ from h)
  | succ n43 ih =>
    intro v10 v12 v14 h
    refine z_iload M dt_X0_thousandths_1.2.1.1.2 7 rfl ?_
    refine z_if_lt (tgt := 181) M dt_X0_thousandths_1.2.1.2.1 (by decide) (fun hc => ?_) (fun hc => ?_)
    · have h := gIt hc h
      refine z_sub M [0, 1, 4, 5] (lv' := [(0, .long v0), (2, .long v2), (8, .long v8), (10, .long v10)]) rfl ?_
      exact Hk181 v10 h
    · have h := gIf hc h
      refine z_lload M dt_X0_thousandths_1.2.1.2.2 6 rfl ?_
      refine z_lload M dt_X0_thousandths_1.2.2.1.1 2 rfl ?_
      refine z_lload M dt_X0_thousandths_1.2.2.1.2 6 rfl ?_
      refine z_lsub M dt_X0_thousandths_1.2.2.2.1 ?_
      have hJ2 : G σ0 [(0, .long v0), (2, .long v2), (4, .long v4), (6, .long v6), (8, .long v8), (10, .long v10), (12, .long v12), (14, .int v14)] 64 [.int (if v12 < (v4 - v12) then (0 : Int32) else (1 : Int32))] := by
        refine z_istore (lv' := [(15, .int (if v12 < (v4 - v12) then (0 : Int32) else (1 : Int32))), (0, .long v0), (2, .long v2), (4, .long v4), (6, .long v6), (8, .long v8), (10, .long v10), (12, .long v12), (14, .int v14)]) M dt_X0_thousandths_2.1.2.1.1 (by decide) rfl ?_
        refine z_iload M dt_X0_thousandths_2.1.2.1.2 0 rfl ?_
        have hJ4 : G σ0 [(15, .int (if v12 < (v4 - v12) then (0 : Int32) else (1 : Int32))), (0, .long v0), (2, .long v2), (4, .long v4), (6, .long v6), (8, .long v8), (10, .long v10), (12, .long v12), (14, .int v14)] 87 [.long (if (if v12 < (v4 - v12) then (0 : Int32) else (1 : Int32)) = (0 : Int32) then (v12 + v12) else (v12 - (v4 - v12)))] := by
          refine z_lstore (lv' := [(12, .long (if (if v12 < (v4 - v12) then (0 : Int32) else (1 : Int32)) = (0 : Int32) then (v12 + v12) else (v12 - (v4 - v12)))), (15, .int (if v12 < (v4 - v12) then (0 : Int32) else (1 : Int32))), (0, .long v0), (2, .long v2), (4, .long v4), (6, .long v6), (8, .long v8), (10, .long v10), (14, .int v14)]) M dt_X0_thousandths_3.1.1.1.1 (by decide) rfl ?_
          refine z_lload M dt_X0_thousandths_3.1.1.1.2 7 rfl ?_
          refine z_lload M dt_X0_thousandths_3.1.1.2.1 7 rfl ?_
          refine z_ladd M dt_X0_thousandths_3.1.1.2.2 ?_
          refine z_iload M dt_X0_thousandths_3.1.2.1.1 1 rfl ?_
          have hJ6 : G σ0 [(12, .long (if (if v12 < (v4 - v12) then (0 : Int32) else (1 : Int32)) = (0 : Int32) then (v12 + v12) else (v12 - (v4 - v12)))), (15, .int (if v12 < (v4 - v12) then (0 : Int32) else (1 : Int32))), (0, .long v0), (2, .long v2), (4, .long v4), (6, .long v6), (8, .long v8), (10, .long v10), (14, .int v14)] 104 [.int (if (if v12 < (v4 - v12) then (0 : Int32) else (1 : Int32)) = (0 : Int32) then (0 : Int32) else (1 : Int32)), .long (v10 + v10)] := by
            refine z_i2l M dt_X0_thousandths_3.2.1.1.2 ?_
            refine z_ladd M dt_X0_thousandths_3.2.1.2.1 ?_
            refine z_lstore (lv' := [(10, .long ((v10 + v10) + (Int32.toInt64 (if (if v12 < (v4 - v12) then (0 : Int32) else (1 : Int32)) = (0 : Int32) then (0 : Int32) else (1 : Int32))))), (12, .long (if (if v12 < (v4 - v12) then (0 : Int32) else (1 : Int32)) = (0 : Int32) then (v12 + v12) else (v12 - (v4 - v12)))), (15, .int (if v12 < (v4 - v12) then (0 : Int32) else (1 : Int32))), (0, .long v0), (2, .long v2), (4, .long v4), (6, .long v6), (8, .long v8), (14, .int v14)]) M dt_X0_thousandths_3.2.1.2.2 (by decide) rfl ?_
            refine z_sipush M dt_X0_thousandths_3.2.2.1.1 ks_1000 ?_
            refine z_iload M dt_X0_thousandths_3.2.2.1.2 8 rfl ?_
            refine kn_X11_hasBit M u863 (Nat.le_of_ble_eq_true rfl) (Nat.le_of_ble_eq_true rfl) dt_X0_thousandths_3.2.2.2.1 ?_
            refine z_if_eq (tgt := 175) M dt_X0_thousandths_3.2.2.2.2 (by decide) (fun hc => ?_) (fun hc => ?_)
            · have h := gIt hc h
              refine z_iinc (v := (v14 + (-1 : Int32))) (lv' := [(14, .int (v14 + (-1 : Int32))), (10, .long ((v10 + v10) + (Int32.toInt64 (if (if v12 < (v4 - v12) then (0 : Int32) else (1 : Int32)) = (0 : Int32) then (0 : Int32) else (1 : Int32))))), (12, .long (if (if v12 < (v4 - v12) then (0 : Int32) else (1 : Int32)) = (0 : Int32) then (v12 + v12) else (v12 - (v4 - v12)))), (15, .int (if v12 < (v4 - v12) then (0 : Int32) else (1 : Int32))), (0, .long v0), (2, .long v2), (4, .long v4), (6, .long v6), (8, .long v8)]) M dt_X0_thousandths_5.2.2.2.1 (k := 8) rfl (congrArg (fun q => v14 + q) ki_m1) (by decide) rfl ?_
              refine z_goto (tgt := 43) M dt_X0_thousandths_5.2.2.2.2 (by decide) ?_
              refine z_sub M [4, 5, 6, 7, 8, 1, 2, 0] (lv' := [(0, .long v0), (2, .long v2), (4, .long v4), (6, .long v6), (8, .long v8), (10, .long ((v10 + v10) + (Int32.toInt64 (if (if v12 < (v4 - v12) then (0 : Int32) else (1 : Int32)) = (0 : Int32) then (0 : Int32) else (1 : Int32))))), (12, .long (if (if v12 < (v4 - v12) then (0 : Int32) else (1 : Int32)) = (0 : Int32) then (v12 + v12) else (v12 - (v4 - v12)))), (14, .int (v14 + (-1 : Int32)))]) rfl ?_
              exact ih ((v10 + v10) + (Int32.toInt64 (if (if v12 < (v4 - v12) then (0 : Int32) else (1 : Int32)) = (0 : Int32) then (0 : Int32) else (1 : Int32)))) (if (if v12 < (v4 - v12) then (0 : Int32) else (1 : Int32)) = (0 : Int32) then (v12 + v12) else (v12 - (v4 - v12))) (v14 + (-1 : Int32)) h
            · have h := gIf hc h
              refine z_lload M dt_X0_thousandths_4.1.1.1.1 1 rfl ?_
              refine z_lload M dt_X0_thousandths_4.1.1.1.2 5 rfl ?_
              refine z_lload M dt_X0_thousandths_4.1.1.2.1 6 rfl ?_
              refine z_lsub M dt_X0_thousandths_4.1.1.2.2 ?_
              have hJ8 : G σ0 [(10, .long ((v10 + v10) + (Int32.toInt64 (if (if v12 < (v4 - v12) then (0 : Int32) else (1 : Int32)) = (0 : Int32) then (0 : Int32) else (1 : Int32))))), (12, .long (if (if v12 < (v4 - v12) then (0 : Int32) else (1 : Int32)) = (0 : Int32) then (v12 + v12) else (v12 - (v4 - v12)))), (15, .int (if v12 < (v4 - v12) then (0 : Int32) else (1 : Int32))), (0, .long v0), (2, .long v2), (4, .long v4), (6, .long v6), (8, .long v8), (14, .int v14)] 135 [.int (if (if (if v12 < (v4 - v12) then (0 : Int32) else (1 : Int32)) = (0 : Int32) then (v12 + v12) else (v12 - (v4 - v12))) < (v4 - v6) then (0 : Int32) else (1 : Int32))] := by
                refine z_istore (lv' := [(15, .int (if (if (if v12 < (v4 - v12) then (0 : Int32) else (1 : Int32)) = (0 : Int32) then (v12 + v12) else (v12 - (v4 - v12))) < (v4 - v6) then (0 : Int32) else (1 : Int32))), (10, .long ((v10 + v10) + (Int32.toInt64 (if (if v12 < (v4 - v12) then (0 : Int32) else (1 : Int32)) = (0 : Int32) then (0 : Int32) else (1 : Int32))))), (12, .long (if (if v12 < (v4 - v12) then (0 : Int32) else (1 : Int32)) = (0 : Int32) then (v12 + v12) else (v12 - (v4 - v12)))), (0, .long v0), (2, .long v2), (4, .long v4), (6, .long v6), (8, .long v8), (14, .int v14)]) M dt_X0_thousandths_4.2.1.1.2 (by decide) rfl ?_
                refine z_iload M dt_X0_thousandths_4.2.1.2.1 0 rfl ?_
                have hJ10 : G σ0 [(15, .int (if (if (if v12 < (v4 - v12) then (0 : Int32) else (1 : Int32)) = (0 : Int32) then (v12 + v12) else (v12 - (v4 - v12))) < (v4 - v6) then (0 : Int32) else (1 : Int32))), (10, .long ((v10 + v10) + (Int32.toInt64 (if (if v12 < (v4 - v12) then (0 : Int32) else (1 : Int32)) = (0 : Int32) then (0 : Int32) else (1 : Int32))))), (12, .long (if (if v12 < (v4 - v12) then (0 : Int32) else (1 : Int32)) = (0 : Int32) then (v12 + v12) else (v12 - (v4 - v12)))), (0, .long v0), (2, .long v2), (4, .long v4), (6, .long v6), (8, .long v8), (14, .int v14)] 158 [.long (if (if (if (if v12 < (v4 - v12) then (0 : Int32) else (1 : Int32)) = (0 : Int32) then (v12 + v12) else (v12 - (v4 - v12))) < (v4 - v6) then (0 : Int32) else (1 : Int32)) = (0 : Int32) then ((if (if v12 < (v4 - v12) then (0 : Int32) else (1 : Int32)) = (0 : Int32) then (v12 + v12) else (v12 - (v4 - v12))) + v6) else ((if (if v12 < (v4 - v12) then (0 : Int32) else (1 : Int32)) = (0 : Int32) then (v12 + v12) else (v12 - (v4 - v12))) - (v4 - v6)))] := by
                  refine z_lstore (lv' := [(12, .long (if (if (if (if v12 < (v4 - v12) then (0 : Int32) else (1 : Int32)) = (0 : Int32) then (v12 + v12) else (v12 - (v4 - v12))) < (v4 - v6) then (0 : Int32) else (1 : Int32)) = (0 : Int32) then ((if (if v12 < (v4 - v12) then (0 : Int32) else (1 : Int32)) = (0 : Int32) then (v12 + v12) else (v12 - (v4 - v12))) + v6) else ((if (if v12 < (v4 - v12) then (0 : Int32) else (1 : Int32)) = (0 : Int32) then (v12 + v12) else (v12 - (v4 - v12))) - (v4 - v6)))), (15, .int (if (if (if v12 < (v4 - v12) then (0 : Int32) else (1 : Int32)) = (0 : Int32) then (v12 + v12) else (v12 - (v4 - v12))) < (v4 - v6) then (0 : Int32) else (1 : Int32))), (10, .long ((v10 + v10) + (Int32.toInt64 (if (if v12 < (v4 - v12) then (0 : Int32) else (1 : Int32)) = (0 : Int32) then (0 : Int32) else (1 : Int32))))), (0, .long v0), (2, .long v2), (4, .long v4), (6, .long v6), (8, .long v8), (14, .int v14)]) M dt_X0_thousandths_5.1.2.1.2 (by decide) rfl ?_
                  refine z_lload M dt_X0_thousandths_5.1.2.2.1 2 rfl ?_
                  refine z_iload M dt_X0_thousandths_5.1.2.2.2 1 rfl ?_
                  have hJ12 : G σ0 [(12, .long (if (if (if (if v12 < (v4 - v12) then (0 : Int32) else (1 : Int32)) = (0 : Int32) then (v12 + v12) else (v12 - (v4 - v12))) < (v4 - v6) then (0 : Int32) else (1 : Int32)) = (0 : Int32) then ((if (if v12 < (v4 - v12) then (0 : Int32) else (1 : Int32)) = (0 : Int32) then (v12 + v12) else (v12 - (v4 - v12))) + v6) else ((if (if v12 < (v4 - v12) then (0 : Int32) else (1 : Int32)) = (0 : Int32) then (v12 + v12) else (v12 - (v4 - v12))) - (v4 - v6)))), (15, .int (if (if (if v12 < (v4 - v12) then (0 : Int32) else (1 : Int32)) = (0 : Int32) then (v12 + v12) else (v12 - (v4 - v12))) < (v4 - v6) then (0 : Int32) else (1 : Int32))), (10, .long ((v10 + v10) + (Int32.toInt64 (if (if v12 < (v4 - v12) then (0 : Int32) else (1 : Int32)) = (0 : Int32) then (0 : Int32) else (1 : Int32))))), (0, .long v0), (2, .long v2), (4, .long v4), (6, .long v6), (8, .long v8), (14, .int v14)] 172 [.long (if (if (if (if v12 < (v4 - v12) then (0 : Int32) else (1 : Int32)) = (0 : Int32) then (v12 + v12) else (v12 - (v4 - v12))) < (v4 - v6) then (0 : Int32) else (1 : Int32)) = (0 : Int32) then (0 : Int64) else (1 : Int64)), .long ((v10 + v10) + (Int32.toInt64 (if (if v12 < (v4 - v12) then (0 : Int32) else (1 : Int32)) = (0 : Int32) then (0 : Int32) else (1 : Int32))))] := by
                    refine z_ladd M dt_X0_thousandths_5.2.2.1.1 ?_
                    refine z_lstore (lv' := [(10, .long (((v10 + v10) + (Int32.toInt64 (if (if v12 < (v4 - v12) then (0 : Int32) else (1 : Int32)) = (0 : Int32) then (0 : Int32) else (1 : Int32)))) + (if (if (if (if v12 < (v4 - v12) then (0 : Int32) else (1 : Int32)) = (0 : Int32) then (v12 + v12) else (v12 - (v4 - v12))) < (v4 - v6) then (0 : Int32) else (1 : Int32)) = (0 : Int32) then (0 : Int64) else (1 : Int64)))), (12, .long (if (if (if (if v12 < (v4 - v12) then (0 : Int32) else (1 : Int32)) = (0 : Int32) then (v12 + v12) else (v12 - (v4 - v12))) < (v4 - v6) then (0 : Int32) else (1 : Int32)) = (0 : Int32) then ((if (if v12 < (v4 - v12) then (0 : Int32) else (1 : Int32)) = (0 : Int32) then (v12 + v12) else (v12 - (v4 - v12))) + v6) else ((if (if v12 < (v4 - v12) then (0 : Int32) else (1 : Int32)) = (0 : Int32) then (v12 + v12) else (v12 - (v4 - v12))) - (v4 - v6)))), (15, .int (if (if (if v12 < (v4 - v12) then (0 : Int32) else (1 : Int32)) = (0 : Int32) then (v12 + v12) else (v12 - (v4 - v12))) < (v4 - v6) then (0 : Int32) else (1 : Int32))), (0, .long v0), (2, .long v2), (4, .long v4), (6, .long v6), (8, .long v8), (14, .int v14)]) M dt_X0_thousandths_5.2.2.1.2 (by decide) rfl ?_
                    refine z_iinc (v := (v14 + (-1 : Int32))) (lv' := [(14, .int (v14 + (-1 : Int32))), (10, .long (((v10 + v10) + (Int32.toInt64 (if (if v12 < (v4 - v12) then (0 : Int32) else (1 : Int32)) = (0 : Int32) then (0 : Int32) else (1 : Int32)))) + (if (if (if (if v12 < (v4 - v12) then (0 : Int32) else (1 : Int32)) = (0 : Int32) then (v12 + v12) else (v12 - (v4 - v12))) < (v4 - v6) then (0 : Int32) else (1 : Int32)) = (0 : Int32) then (0 : Int64) else (1 : Int64)))), (12, .long (if (if (if (if v12 < (v4 - v12) then (0 : Int32) else (1 : Int32)) = (0 : Int32) then (v12 + v12) else (v12 - (v4 - v12))) < (v4 - v6) then (0 : Int32) else (1 : Int32)) = (0 : Int32) then ((if (if v12 < (v4 - v12) then (0 : Int32) else (1 : Int32)) = (0 : Int32) then (v12 + v12) else (v12 - (v4 - v12))) + v6) else ((if (if v12 < (v4 - v12) then (0 : Int32) else (1 : Int32)) = (0 : Int32) then (v12 + v12) else (v12 - (v4 - v12))) - (v4 - v6)))), (15, .int (if (if (if v12 < (v4 - v12) then (0 : Int32) else (1 : Int32)) = (0 : Int32) then (v12 + v12) else (v12 - (v4 - v12))) < (v4 - v6) then (0 : Int32) else (1 : Int32))), (0, .long v0), (2, .long v2), (4, .long v4), (6, .long v6), (8, .long v8)]) M dt_X0_thousandths_5.2.2.2.1 (k := 8) rfl (congrArg (fun q => v14 + q) ki_m1) (by decide) rfl ?_
                    refine z_goto (tgt := 43) M dt_X0_thousandths_5.2.2.2.2 (by decide) ?_
                    refine z_sub M [4, 5, 6, 7, 8, 1, 2, 0] (lv' := [(0, .long v0), (2, .long v2), (4, .long v4), (6, .long v6), (8, .long v8), (10, .long (((v10 + v10) + (Int32.toInt64 (if (if v12 < (v4 - v12) then (0 : Int32) else (1 : Int32)) = (0 : Int32) then (0 : Int32) else (1 : Int32)))) + (if (if (if (if v12 < (v4 - v12) then (0 : Int32) else (1 : Int32)) = (0 : Int32) then (v12 + v12) else (v12 - (v4 - v12))) < (v4 - v6) then (0 : Int32) else (1 : Int32)) = (0 : Int32) then (0 : Int64) else (1 : Int64)))), (12, .long (if (if (if (if v12 < (v4 - v12) then (0 : Int32) else (1 : Int32)) = (0 : Int32) then (v12 + v12) else (v12 - (v4 - v12))) < (v4 - v6) then (0 : Int32) else (1 : Int32)) = (0 : Int32) then ((if (if v12 < (v4 - v12) then (0 : Int32) else (1 : Int32)) = (0 : Int32) then (v12 + v12) else (v12 - (v4 - v12))) + v6) else ((if (if v12 < (v4 - v12) then (0 : Int32) else (1 : Int32)) = (0 : Int32) then (v12 + v12) else (v12 - (v4 - v12))) - (v4 - v6)))), (14, .int (v14 + (-1 : Int32)))]) rfl ?_
                    exact ih (((v10 + v10) + (Int32.toInt64 (if (if v12 < (v4 - v12) then (0 : Int32) else (1 : Int32)) = (0 : Int32) then (0 : Int32) else (1 : Int32)))) + (if (if (if (if v12 < (v4 - v12) then (0 : Int32) else (1 : Int32)) = (0 : Int32) then (v12 + v12) else (v12 - (v4 - v12))) < (v4 - v6) then (0 : Int32) else (1 : Int32)) = (0 : Int32) then (0 : Int64) else (1 : Int64))) (if (if (if (if v12 < (v4 - v12) then (0 : Int32) else (1 : Int32)) = (0 : Int32) then (v12 + v12) else (v12 - (v4 - v12))) < (v4 - v6) then (0 : Int32) else (1 : Int32)) = (0 : Int32) then ((if (if v12 < (v4 - v12) then (0 : Int32) else (1 : Int32)) = (0 : Int32) then (v12 + v12) else (v12 - (v4 - v12))) + v6) else ((if (if v12 < (v4 - v12) then (0 : Int32) else (1 : Int32)) = (0 : Int32) then (v12 + v12) else (v12 - (v4 - v12))) - (v4 - v6))) (v14 + (-1 : Int32)) h
                  refine z_if_eq (tgt := 171) M dt_X0_thousandths_5.2.1.1.1 (by decide) (fun hc11 => ?_) (fun hc11 => ?_)
                  · refine z_lconst (v := 0) M dt_X0_thousandths_5.2.1.2.2 (by decide) ?_
                    exact (zTtL hc11 hJ12)
                  · refine z_lconst (v := 1) M dt_X0_thousandths_5.2.1.1.2 (by decide) ?_
                    refine z_goto (tgt := 172) M dt_X0_thousandths_5.2.1.2.1 (by decide) ?_
                    exact (zTfL hc11 hJ12)
                refine z_if_eq (tgt := 153) M dt_X0_thousandths_4.2.1.2.2 (by decide) (fun hc9 => ?_) (fun hc9 => ?_)
                · refine z_lload M dt_X0_thousandths_5.1.1.2.1 2 rfl ?_
                  refine z_lload M dt_X0_thousandths_5.1.1.2.2 6 rfl ?_
                  refine z_ladd M dt_X0_thousandths_5.1.2.1.1 ?_
                  exact (zTtL hc9 hJ10)
                · refine z_lload M dt_X0_thousandths_4.2.2.1.1 2 rfl ?_
                  refine z_lload M dt_X0_thousandths_4.2.2.1.2 5 rfl ?_
                  refine z_lload M dt_X0_thousandths_4.2.2.2.1 6 rfl ?_
                  refine z_lsub M dt_X0_thousandths_4.2.2.2.2 ?_
                  refine z_lsub M dt_X0_thousandths_5.1.1.1.1 ?_
                  refine z_goto (tgt := 158) M dt_X0_thousandths_5.1.1.1.2 (by decide) ?_
                  exact (zTfL hc9 hJ10)
              refine z_lcmp_lt (tgt := 134) M dt_X0_thousandths_4.1.2.1.1 dt_X0_thousandths_4.1.2.1.2 (by decide) (fun hc7 => ?_) (fun hc7 => ?_)
              · refine z_iconst M dt_X0_thousandths_4.2.1.1.1 ki_0 ?_
                exact (zTt hc7 hJ8)
              · refine z_iconst M dt_X0_thousandths_4.1.2.2.1 ki_1 ?_
                refine z_goto (tgt := 135) M dt_X0_thousandths_4.1.2.2.2 (by decide) ?_
                exact (zTf hc7 hJ8)
          refine z_if_eq (tgt := 103) M dt_X0_thousandths_3.1.2.1.2 (by decide) (fun hc5 => ?_) (fun hc5 => ?_)
          · refine z_iconst M dt_X0_thousandths_3.2.1.1.1 ki_0 ?_
            exact (zTt hc5 hJ6)
          · refine z_iconst M dt_X0_thousandths_3.1.2.2.1 ki_1 ?_
            refine z_goto (tgt := 104) M dt_X0_thousandths_3.1.2.2.2 (by decide) ?_
            exact (zTf hc5 hJ6)
        refine z_if_eq (tgt := 82) M dt_X0_thousandths_2.1.2.2.1 (by decide) (fun hc3 => ?_) (fun hc3 => ?_)
        · refine z_lload M dt_X0_thousandths_2.2.2.1.2 7 rfl ?_
          refine z_lload M dt_X0_thousandths_2.2.2.2.1 7 rfl ?_
          refine z_ladd M dt_X0_thousandths_2.2.2.2.2 ?_
          exact (zTtL hc3 hJ4)
        · refine z_lload M dt_X0_thousandths_2.1.2.2.2 7 rfl ?_
          refine z_lload M dt_X0_thousandths_2.2.1.1.1 3 rfl ?_
          refine z_lload M dt_X0_thousandths_2.2.1.1.2 7 rfl ?_
          refine z_lsub M dt_X0_thousandths_2.2.1.2.1 ?_
          refine z_lsub M dt_X0_thousandths_2.2.1.2.2 ?_
          refine z_goto (tgt := 87) M dt_X0_thousandths_2.2.2.1.1 (by decide) ?_
          exact (zTfL hc3 hJ4)
      refine z_lcmp_lt (tgt := 63) M dt_X0_thousandths_1.2.2.2.2 dt_X0_thousandths_2.1.1.1.1 (by decide) (fun hc1 => ?_) (fun hc1 => ?_)
      · refine z_iconst M dt_X0_thousandths_2.1.1.2.2 ki_0 ?_
        exact (zTt hc1 hJ2)
      · refine z_iconst M dt_X0_thousandths_2.1.1.1.2 ki_1 ?_
        refine z_goto (tgt := 64) M dt_X0_thousandths_2.1.1.2.1 (by decide) ?_
        exact (zTf hc1 hJ2)
set_option maxHeartbeats 4000000 in
set_option maxRecDepth 100000 in
theorem wJ_X0_thousandths_181 {o : Int64} (M : zM l D zcl0 tys A ad (zR 2) wf RX0 cX0_thousandths 16 (some .long) σ0 (some (.long o)) G)  (v0 : Int64) (v2 : Int64) (v8 : Int64) (v10 : Int64)  (h : J_X0_thousandths_181 v0 v2 v8 v10 = some o) : G σ0 [(0, .long v0), (2, .long v2), (8, .long v8), (10, .long v10)] 181 [] := by
  refine z_lload M dt_X0_thousandths_6.1.1.1.1 2 rfl ?_
  refine z_ldc2 M dt_X0_thousandths_6.1.1.1.2 u1013 ?_
  refine z_lmul M dt_X0_thousandths_6.1.1.2.1 ?_
  refine z_lload M dt_X0_thousandths_6.1.1.2.2 3 rfl ?_
  refine z_ladd M dt_X0_thousandths_6.1.2.1.1 ?_
  refine z_lstore (lv' := [(14, .long ((v8 * (1000 : Int64)) + v10)), (0, .long v0), (2, .long v2), (8, .long v8), (10, .long v10)]) M dt_X0_thousandths_6.1.2.1.2 (by decide) rfl ?_
  refine z_lload_n M dt_X0_thousandths_6.1.2.2.1 rfl 1 rfl ?_
  refine z_lconst (v := 0) M dt_X0_thousandths_6.1.2.2.2 (by decide) ?_
  have hJ14 : G σ0 [(14, .long ((v8 * (1000 : Int64)) + v10)), (0, .long v0), (2, .long v2), (8, .long v8), (10, .long v10)] 203 [.int (if (0 : Int64) ≤ v0 then (0 : Int32) else (1 : Int32))] := by
    refine z_lload_n M dt_X0_thousandths_6.2.2.1.2 rfl 2 rfl ?_
    refine z_lconst (v := 0) M dt_X0_thousandths_6.2.2.2.1 (by decide) ?_
    have hJ16 : G σ0 [(14, .long ((v8 * (1000 : Int64)) + v10)), (0, .long v0), (2, .long v2), (8, .long v8), (10, .long v10)] 214 [.int (if (0 : Int64) ≤ v2 then (0 : Int32) else (1 : Int32)), .int (if (0 : Int64) ≤ v0 then (0 : Int32) else (1 : Int32))] := by
      have hJ18 : G σ0 [(14, .long ((v8 * (1000 : Int64)) + v10)), (0, .long v0), (2, .long v2), (8, .long v8), (10, .long v10)] 225 [.long (if (if (0 : Int64) ≤ v0 then (0 : Int32) else (1 : Int32)) = (if (0 : Int64) ≤ v2 then (0 : Int32) else (1 : Int32)) then ((v8 * (1000 : Int64)) + v10) else (-((v8 * (1000 : Int64)) + v10)))] := by
        obtain rfl := Option.some.inj h
        exact z_lret M dt_X0_thousandths_7.2.2.2
      refine z_icmp_ne (tgt := 222) M dt_X0_thousandths_7.1.2.2 (by decide) (fun hc17 => ?_) (fun hc17 => ?_)
      · refine z_lload M dt_X0_thousandths_7.2.1.2 0 rfl ?_
        refine z_lneg M dt_X0_thousandths_7.2.2.1 ?_
        exact (zTfL hc17 hJ18)
      · refine z_lload M dt_X0_thousandths_7.2.1.1.1 0 rfl ?_
        refine z_goto (tgt := 225) M dt_X0_thousandths_7.2.1.1.2 (by decide) ?_
        exact (zTtL hc17 hJ18)
    refine z_lcmp_ge (tgt := 213) M dt_X0_thousandths_6.2.2.2.2 dt_X0_thousandths_7.1.1.1.1 (by decide) (fun hc15 => ?_) (fun hc15 => ?_)
    · refine z_iconst M dt_X0_thousandths_7.1.2.1 ki_0 ?_
      exact (zTt hc15 hJ16)
    · refine z_iconst M dt_X0_thousandths_7.1.1.1.2 ki_1 ?_
      refine z_goto (tgt := 214) M dt_X0_thousandths_7.1.1.2 (by decide) ?_
      exact (zTf hc15 hJ16)
  refine z_lcmp_ge (tgt := 202) M dt_X0_thousandths_6.2.1.1.1 dt_X0_thousandths_6.2.1.1.2 (by decide) (fun hc13 => ?_) (fun hc13 => ?_)
  · refine z_iconst M dt_X0_thousandths_6.2.2.1.1 ki_0 ?_
    exact (zTt hc13 hJ14)
  · refine z_iconst M dt_X0_thousandths_6.2.1.2.1 ki_1 ?_
    refine z_goto (tgt := 203) M dt_X0_thousandths_6.2.1.2.2 (by decide) ?_
    exact (zTf hc13 hJ14)
set_option maxHeartbeats 4000000 in
set_option maxRecDepth 100000 in
theorem m_X0_thousandths (hD : ∀ σ, va_D A (wf σ)) {σ0 : Zst} {p0 : Int64} {p1 : Int64} {o : Int64} (h : f_X0_thousandths p0 p1 = some o) : zT l D zcl0 tys A ad wf yX0_thousandths cX0_thousandths 16 (some .long) 2 [.long p0, .long p1] σ0 σ0 (some (.long o)) := by
  refine z_met pn_X0 hD (Nat.le_of_ble_eq_true rfl) rfl (fun G M => ?_)
  refine z_lload_n M dt_X0_thousandths_0.1.1.1.1 rfl 1 rfl ?_
  refine z_mabsL M u1012 u899 u100 u900 (Nat.le_of_ble_eq_true rfl) (Nat.le_of_ble_eq_true rfl) dt_X0_thousandths_0.1.1.1.2 ?_
  refine z_lstore (lv' := [(4, .long (jAbsL p1)), (0, .long p0), (2, .long p1)]) M dt_X0_thousandths_0.1.1.2.1 (by decide) rfl ?_
  refine z_lload M dt_X0_thousandths_0.1.1.2.2 0 rfl ?_
  refine z_lconst (v := 0) M dt_X0_thousandths_0.1.2.1.1 (by decide) ?_
  refine z_lcmp_ne (tgt := 15) M dt_X0_thousandths_0.1.2.1.2 dt_X0_thousandths_0.1.2.2.1 (by decide) (fun hc => ?_) (fun hc => ?_)
  · have h := gIf hc h
    refine z_lload_n M dt_X0_thousandths_0.2.1.1.2 rfl 1 rfl ?_
    refine z_mabsL M u1012 u899 u100 u900 (Nat.le_of_ble_eq_true rfl) (Nat.le_of_ble_eq_true rfl) dt_X0_thousandths_0.2.1.2.1 ?_
    refine z_lload M dt_X0_thousandths_0.2.1.2.2 0 rfl ?_
    have ⟨hg, h⟩ := gNzL_s h
    refine z_lrem M dt_X0_thousandths_0.2.2.1.1 hg ?_
    refine z_lstore (lv' := [(6, .long (jRemL (jAbsL p0) (jAbsL p1))), (4, .long (jAbsL p1)), (0, .long p0), (2, .long p1)]) M dt_X0_thousandths_0.2.2.1.2 (by decide) rfl ?_
    refine z_lload_n M dt_X0_thousandths_0.2.2.2.1 rfl 2 rfl ?_
    refine z_mabsL M u1012 u899 u100 u900 (Nat.le_of_ble_eq_true rfl) (Nat.le_of_ble_eq_true rfl) dt_X0_thousandths_0.2.2.2.2 ?_
    refine z_lload M dt_X0_thousandths_1.1.1.1.1 1 rfl ?_
    have ⟨hg, h⟩ := gNzL_s h
    refine z_ldiv M dt_X0_thousandths_1.1.1.1.2 hg ?_
    refine z_lstore (lv' := [(8, .long ((jAbsL p0) / (jAbsL p1))), (6, .long (jRemL (jAbsL p0) (jAbsL p1))), (4, .long (jAbsL p1)), (0, .long p0), (2, .long p1)]) M dt_X0_thousandths_1.1.1.2.1 (by decide) rfl ?_
    refine z_lconst (v := 0) M dt_X0_thousandths_1.1.1.2.2 (by decide) ?_
    refine z_lstore (lv' := [(10, .long (0 : Int64)), (8, .long ((jAbsL p0) / (jAbsL p1))), (6, .long (jRemL (jAbsL p0) (jAbsL p1))), (4, .long (jAbsL p1)), (0, .long p0), (2, .long p1)]) M dt_X0_thousandths_1.1.2.1.1 (by decide) rfl ?_
    refine z_lconst (v := 0) M dt_X0_thousandths_1.1.2.1.2 (by decide) ?_
    refine z_lstore (lv' := [(12, .long (0 : Int64)), (10, .long (0 : Int64)), (8, .long ((jAbsL p0) / (jAbsL p1))), (6, .long (jRemL (jAbsL p0) (jAbsL p1))), (4, .long (jAbsL p1)), (0, .long p0), (2, .long p1)]) M dt_X0_thousandths_1.1.2.2.1 (by decide) rfl ?_
    refine z_bipush M dt_X0_thousandths_1.1.2.2.2 kb_9 ?_
    refine z_istore (lv' := [(14, .int (9 : Int32)), (12, .long (0 : Int64)), (10, .long (0 : Int64)), (8, .long ((jAbsL p0) / (jAbsL p1))), (6, .long (jRemL (jAbsL p0) (jAbsL p1))), (4, .long (jAbsL p1)), (0, .long p0), (2, .long p1)]) M dt_X0_thousandths_1.2.1.1.1 (by decide) rfl ?_
    refine z_sub M [6, 7, 5, 4, 3, 2, 1, 0] (lv' := [(0, .long p0), (2, .long p1), (4, .long (jAbsL p1)), (6, .long (jRemL (jAbsL p0) (jAbsL p1))), (8, .long ((jAbsL p0) / (jAbsL p1))), (10, .long (0 : Int64)), (12, .long (0 : Int64)), (14, .int (9 : Int32))]) rfl ?_
    exact wL_X0_thousandths_43 M (k181 := (fun w19 => J_X0_thousandths_181 p0 p1 ((jAbsL p0) / (jAbsL p1)) w19)) p0 p1 (jAbsL p1) (jRemL (jAbsL p0) (jAbsL p1)) ((jAbsL p0) / (jAbsL p1)) (fun w19 h => by
        exact wJ_X0_thousandths_181 M  p0 p1 ((jAbsL p0) / (jAbsL p1)) w19 h) zFu (0 : Int64) (0 : Int64) (9 : Int32) h
  · have h := gIt hc h
    refine z_lconst (v := 0) M dt_X0_thousandths_0.1.2.2.2 (by decide) ?_
    obtain rfl := Option.some.inj h
    exact z_lret M dt_X0_thousandths_0.2.1.1.1
theorem k_X0_thousandths {n : Nat} (M : zM l D zcl0 tys A ad (zR n) wf own cc nL rt σo ov G) {p0 : Int64} {p1 : Int64} {o : Int64} (h : f_X0_thousandths p0 p1 = some o) {index : Nat} (hl : Cond.methodLink own index yX0_thousandths ∈ uw) (hR : 3 ≤ n) (hW : (st.map fun v => v.category).sum ≤ 8) (d : decode cc pc = .ok (.invokestatic index, 3)) (kk : G σ lv (pc + 3) (.long o :: st)) : G σ lv pc (.long p1 :: .long p0 :: st) := z_callS M [.long p0, .long p1] (m_X0_thousandths (zM_hD M) h) hl u94 u1011 u1010 hd_X0_thousandths hR (by decide) rfl hW d kk
set_option maxHeartbeats 4000000 in
set_option maxRecDepth 100000 in
theorem wL_X0_threeApart_77 {o : (Zst × Int32)} (M : zM l D zcl (zty cy) A ad (zR 6) (cW a cy) RX0 cX0_threeApart 6 (some .int) o.1 (some (.int o.2)) G)    :
    ∀ (n77 : Nat) (σ : Zst) (v3 : Int32), L_X0_threeApart_77  n77 σ v3 = some o → G σ [(0, .ref (a 27)), (3, .int v3)] 77 [] := by
  intro n77
  induction n77 with
  | zero => intro σ v3 h; exact nomatch (show (none : Option (Zst × Int32)) = some _ from h)
  | succ n77 ih =>
    intro σ v3 h
    refine z_iload_n M dt_X0_threeApart_2.2.2.1.1 rfl 1 rfl ?_
    refine z_iconst M dt_X0_threeApart_2.2.2.1.2 ki_3 ?_
    refine z_icmp_ge (tgt := 129) M dt_X0_threeApart_2.2.2.2.1 (by decide) (fun hc => ?_) (fun hc => ?_)
    · have h := gIt hc h
      refine z_aload_n M dt_X0_threeApart_4.2.2.1.1 rfl 0 rfl ?_
      refine gf_X0_gathered (σ := σ) M u279 dt_X0_threeApart_4.2.2.1.2 (v := (σ.1 18)) rfl ?_
      obtain rfl := Option.some.inj h
      exact z_iret M dt_X0_threeApart_4.2.2.2
    · have h := gIf hc h
      refine z_aload_n M dt_X0_threeApart_2.2.2.2.2 rfl 0 rfl ?_
      refine z_iload_n M dt_X0_threeApart_3.1.1.1.1 rfl 1 rfl ?_
      refine z_iload_n M dt_X0_threeApart_3.1.1.1.2 rfl 1 rfl ?_
      refine z_iconst M dt_X0_threeApart_3.1.1.2.1 ki_1 ?_
      refine z_iadd M dt_X0_threeApart_3.1.1.2.2 ?_
      refine z_iconst M dt_X0_threeApart_3.1.2.1.1 ki_3 ?_
      refine z_irem M dt_X0_threeApart_3.1.2.1.2 (by decide) ?_
      obtain ⟨t1, hc, h⟩ := gBd h
      refine k_X0_spread M hc u1005 (Nat.le_of_ble_eq_true rfl) (Nat.le_of_ble_eq_true rfl) dt_X0_threeApart_3.1.2.2.1 ?_
      refine z_aload_n M dt_X0_threeApart_3.1.2.2.2 rfl 0 rfl ?_
      refine z_iload_n M dt_X0_threeApart_3.2.1.1.1 rfl 1 rfl ?_
      refine z_iload_n M dt_X0_threeApart_3.2.1.1.2 rfl 1 rfl ?_
      refine z_iconst M dt_X0_threeApart_3.2.1.2.1 ki_2 ?_
      refine z_iadd M dt_X0_threeApart_3.2.1.2.2 ?_
      refine z_iconst M dt_X0_threeApart_3.2.2.1.1 ki_3 ?_
      refine z_irem M dt_X0_threeApart_3.2.2.1.2 (by decide) ?_
      obtain ⟨t2, hc, h⟩ := gBd h
      refine k_X0_spread M hc u1005 (Nat.le_of_ble_eq_true rfl) (Nat.le_of_ble_eq_true rfl) dt_X0_threeApart_3.2.2.2.1 ?_
      refine z_lmul M dt_X0_threeApart_3.2.2.2.2 ?_
      refine z_lstore (lv' := [(4, .long (t1 * t2)), (0, .ref (a 27)), (3, .int v3)]) M dt_X0_threeApart_4.1.1.1.1 (by decide) rfl ?_
      refine z_aload_n M dt_X0_threeApart_4.1.1.1.2 rfl 1 rfl ?_
      refine gf_X0_row M u272 dt_X0_threeApart_4.1.1.2.1 ?_
      refine z_lload M dt_X0_threeApart_4.1.1.2.2 0 rfl ?_
      refine z_aload_n M dt_X0_threeApart_4.1.2.1.1 rfl 1 rfl ?_
      refine z_iload_n M dt_X0_threeApart_4.1.2.1.2 rfl 2 rfl ?_
      obtain ⟨t3, hc, h⟩ := gBd h
      refine k_X0_lowerOf M hc u1001 (Nat.le_of_ble_eq_true rfl) (Nat.le_of_ble_eq_true rfl) dt_X0_threeApart_4.1.2.2.1 ?_
      obtain ⟨t4, hc, h⟩ := gBd h
      refine k_X0_thousandths M hc u1009 (Nat.le_of_ble_eq_true rfl) (Nat.le_of_ble_eq_true rfl) dt_X0_threeApart_4.1.2.2.2 ?_
      obtain ⟨t5, hc, h⟩ := gBd h
      refine k_X5_add M hc u873 (Nat.le_of_ble_eq_true rfl) (Nat.le_of_ble_eq_true rfl) dt_X0_threeApart_4.2.1.1.1 ?_
      refine z_pop M dt_X0_threeApart_4.2.1.1.2 rfl ?_
      refine z_iinc (v := (v3 + (1 : Int32))) (lv' := [(3, .int (v3 + (1 : Int32))), (4, .long (t1 * t2)), (0, .ref (a 27))]) M dt_X0_threeApart_4.2.1.2.1 (k := 2) rfl (congrArg (fun q => v3 + q) ki_1) (by decide) rfl ?_
      refine z_goto (tgt := 77) M dt_X0_threeApart_4.2.1.2.2 (by decide) ?_
      refine z_sub M [2, 0] (lv' := [(0, .ref (a 27)), (3, .int (v3 + (1 : Int32)))]) rfl ?_
      exact ih t5 (v3 + (1 : Int32)) h
set_option maxHeartbeats 4000000 in
set_option maxRecDepth 100000 in
theorem m_X0_threeApart (hD : ∀ σ, va_D A (cW a cy σ)) {σ : Zst} {p0 : Int32} {p1 : Int32} {o : (Zst × Int32)} (h : f_X0_threeApart σ p0 p1 = some o) : zT l D zcl (zty cy) A ad (cW a cy) yX0_threeApart cX0_threeApart 6 (some .int) 6 [.ref (a 27), .int p0, .int p1] σ o.1 (some (.int o.2)) := by
  refine z_met pn_X0 hD (Nat.le_of_ble_eq_true rfl) rfl (fun G M => ?_)
  refine z_aload_n M dt_X0_threeApart_0.1.1.1.1 rfl 0 rfl ?_
  refine gf_X0_town M u270 dt_X0_threeApart_0.1.1.1.2 ?_
  refine z_iload_n M dt_X0_threeApart_0.1.1.2.1 rfl 1 rfl ?_
  refine k_X10_hasSort M u861 (Nat.le_of_ble_eq_true rfl) (Nat.le_of_ble_eq_true rfl) dt_X0_threeApart_0.1.1.2.2 ?_
  refine z_if_eq (tgt := 18) M dt_X0_threeApart_0.1.2.1.1 (by decide) (fun hc => ?_) (fun hc => ?_)
  · have h := gIt hc h
    refine z_iconst M dt_X0_threeApart_0.2.1.1.1 ki_m1 ?_
    obtain rfl := Option.some.inj h
    exact z_iret M dt_X0_threeApart_0.2.1.1.2
  · have h := gIf hc h
    refine z_iload_n M dt_X0_threeApart_0.1.2.1.2 rfl 2 rfl ?_
    refine kn_X11_isWay M u911 (Nat.le_of_ble_eq_true rfl) (Nat.le_of_ble_eq_true rfl) dt_X0_threeApart_0.1.2.2.1 ?_
    refine z_if_ne (tgt := 20) M dt_X0_threeApart_0.1.2.2.2 (by decide) (fun hc => ?_) (fun hc => ?_)
    · have h := gIf hc h
      refine z_aload_n M dt_X0_threeApart_0.2.1.2.1 rfl 0 rfl ?_
      refine z_iload_n M dt_X0_threeApart_0.2.1.2.2 rfl 1 rfl ?_
      refine z_iload_n M dt_X0_threeApart_0.2.2.1.1 rfl 2 rfl ?_
      obtain ⟨t6, hc, h⟩ := gBd h
      refine k_X0_gather M hc u983 (Nat.le_of_ble_eq_true rfl) (Nat.le_of_ble_eq_true rfl) dt_X0_threeApart_0.2.2.1.2 ?_
      refine z_aload_n M dt_X0_threeApart_0.2.2.2.1 rfl 0 rfl ?_
      refine gf_X0_gathered (σ := t6) M u279 dt_X0_threeApart_0.2.2.2.2 (v := (t6.1 18)) rfl ?_
      refine z_iconst M dt_X0_threeApart_1.1.1.1.1 ki_2 ?_
      refine z_icmp_lt (tgt := 64) M dt_X0_threeApart_1.1.1.1.2 (by decide) (fun hc => ?_) (fun hc => ?_)
      · have h := gIt hc h
        refine z_bipush M dt_X0_threeApart_2.1.2.1.1 kb_m2 ?_
        obtain rfl := Option.some.inj h
        exact z_iret M dt_X0_threeApart_2.1.2.1.2
      · have h := gIf hc h
        refine z_aload_n M dt_X0_threeApart_1.1.1.2.1 rfl 0 rfl ?_
        refine z_iconst M dt_X0_threeApart_1.1.1.2.2 ki_0 ?_
        obtain ⟨t7, hc, h⟩ := gBd h
        refine k_X0_lowerOf M hc u1001 (Nat.le_of_ble_eq_true rfl) (Nat.le_of_ble_eq_true rfl) dt_X0_threeApart_1.1.2.1.1 ?_
        refine z_lconst (v := 0) M dt_X0_threeApart_1.1.2.1.2 (by decide) ?_
        refine z_lcmp_eq (tgt := 64) M dt_X0_threeApart_1.1.2.2.1 dt_X0_threeApart_1.1.2.2.2 (by decide) (fun hc => ?_) (fun hc => ?_)
        · have h := gIt hc h
          refine z_bipush M dt_X0_threeApart_2.1.2.1.1 kb_m2 ?_
          obtain rfl := Option.some.inj h
          exact z_iret M dt_X0_threeApart_2.1.2.1.2
        · have h := gIf hc h
          refine z_aload_n M dt_X0_threeApart_1.2.1.1.1 rfl 0 rfl ?_
          refine z_iconst M dt_X0_threeApart_1.2.1.1.2 ki_1 ?_
          obtain ⟨t8, hc, h⟩ := gBd h
          refine k_X0_lowerOf M hc u1001 (Nat.le_of_ble_eq_true rfl) (Nat.le_of_ble_eq_true rfl) dt_X0_threeApart_1.2.1.2.1 ?_
          refine z_lconst (v := 0) M dt_X0_threeApart_1.2.1.2.2 (by decide) ?_
          refine z_lcmp_eq (tgt := 64) M dt_X0_threeApart_1.2.2.1.1 dt_X0_threeApart_1.2.2.1.2 (by decide) (fun hc => ?_) (fun hc => ?_)
          · have h := gIt hc h
            refine z_bipush M dt_X0_threeApart_2.1.2.1.1 kb_m2 ?_
            obtain rfl := Option.some.inj h
            exact z_iret M dt_X0_threeApart_2.1.2.1.2
          · have h := gIf hc h
            refine z_aload_n M dt_X0_threeApart_1.2.2.2.1 rfl 0 rfl ?_
            refine z_iconst M dt_X0_threeApart_1.2.2.2.2 ki_2 ?_
            obtain ⟨t9, hc, h⟩ := gBd h
            refine k_X0_lowerOf M hc u1001 (Nat.le_of_ble_eq_true rfl) (Nat.le_of_ble_eq_true rfl) dt_X0_threeApart_2.1.1.1.1 ?_
            refine z_lconst (v := 0) M dt_X0_threeApart_2.1.1.1.2 (by decide) ?_
            refine z_lcmp_ne (tgt := 67) M dt_X0_threeApart_2.1.1.2.1 dt_X0_threeApart_2.1.1.2.2 (by decide) (fun hc => ?_) (fun hc => ?_)
            · have h := gIf hc h
              refine z_aload_n M dt_X0_threeApart_2.1.2.2.1 rfl 0 rfl ?_
              refine gf_X0_row M u272 dt_X0_threeApart_2.1.2.2.2 ?_
              obtain ⟨t10, hc, h⟩ := gBd h
              refine k_X5_clear M hc u869 (Nat.le_of_ble_eq_true rfl) (Nat.le_of_ble_eq_true rfl) dt_X0_threeApart_2.2.1.1.1 ?_
              refine z_pop M dt_X0_threeApart_2.2.1.1.2 rfl ?_
              refine z_iconst M dt_X0_threeApart_2.2.1.2.1 ki_0 ?_
              refine z_istore_n (lv' := [(3, .int (0 : Int32)), (0, .ref (a 27)), (1, .int p0), (2, .int p1)]) M dt_X0_threeApart_2.2.1.2.2 rfl (by decide) rfl ?_
              refine z_sub M [1, 0] (lv' := [(0, .ref (a 27)), (3, .int (0 : Int32))]) rfl ?_
              exact wL_X0_threeApart_77 M   zFu t10 (0 : Int32) h
            · have h := gIt hc h
              refine z_bipush M dt_X0_threeApart_2.1.2.1.1 kb_m2 ?_
              obtain rfl := Option.some.inj h
              exact z_iret M dt_X0_threeApart_2.1.2.1.2
    · have h := gIt hc h
      refine z_iconst M dt_X0_threeApart_0.2.1.1.1 ki_m1 ?_
      obtain rfl := Option.some.inj h
      exact z_iret M dt_X0_threeApart_0.2.1.1.2
theorem k_X0_threeApart {n : Nat} (M : zM l D zcl (zty cy) A ad (zR n) (cW a cy) own cc nL rt σo ov G) {p0 : Int32} {p1 : Int32} {o : (Zst × Int32)} (h : f_X0_threeApart σ p0 p1 = some o) {index : Nat} (hl : Cond.methodLink own index yX0_threeApart ∈ uw) (hR : 7 ≤ n) (hW : (st.map fun v => v.category).sum ≤ 8) (d : decode cc pc = .ok (.invokevirtual index, 3)) (kk : G o.1 lv (pc + 3) (.int o.2 :: st)) : G σ lv pc (.int p1 :: .int p0 :: .ref (a 27) :: st) := z_callV M [.int p0, .int p1] (m_X0_threeApart (zM_hD M) h) (hC27 σ) rfl hl u94 u982 u980 u981 hd_X0_threeApart hR (by decide) rfl hW d kk
set_option maxHeartbeats 4000000 in
set_option maxRecDepth 100000 in
theorem m_X11_three (hD : ∀ σ, va_D A (cW a cy σ)) {σ : Zst} {p0 : Int32} {p1 : Int32} {o : (Zst × Int32)} (h : f_X11_three σ p0 p1 = some o) : zT l D zcl (zty cy) A ad (cW a cy) yX11_three cX11_three 3 (some .int) 7 [.ref (a 0), .int p0, .int p1] σ o.1 (some (.int o.2)) := by
  refine z_met pn_X11 hD (Nat.le_of_ble_eq_true rfl) rfl (fun G M => ?_)
  refine z_aload_n M dt_X11_three_0.1.1.1 rfl 0 rfl ?_
  refine gf_X11_answers M u435 dt_X11_three_0.1.1.2 ?_
  refine z_iload_n M dt_X11_three_0.1.2 rfl 1 rfl ?_
  refine z_iload_n M dt_X11_three_0.2.1.1 rfl 2 rfl ?_
  obtain ⟨t1, hc, h⟩ := gBd h
  refine k_X0_threeApart M hc u979 (Nat.le_of_ble_eq_true rfl) (Nat.le_of_ble_eq_true rfl) dt_X11_three_0.2.1.2 ?_
  obtain rfl := Option.some.inj h
  exact z_iret M dt_X11_three_0.2.2
set_option maxHeartbeats 4000000 in
set_option maxRecDepth 100000 in
theorem m_X0_saidByShop (hD : ∀ σ, va_D A (cW a cy σ)) {σ : Zst} {p0 : Int32} {p1 : Int32} {o : (Zst × Int32)} (h : f_X0_saidByShop σ p0 p1 = some o) : zT l D zcl (zty cy) A ad (cW a cy) yX0_saidByShop cX0_saidByShop 3 (some .int) 6 [.ref (a 27), .int p0, .int p1] σ o.1 (some (.int o.2)) := by
  refine z_met pn_X0 hD (Nat.le_of_ble_eq_true rfl) rfl (fun G M => ?_)
  refine z_aload_n M dt_X0_saidByShop_0.1.1.1.1 rfl 0 rfl ?_
  refine gf_X0_town M u270 dt_X0_saidByShop_0.1.1.1.2 ?_
  refine z_iload_n M dt_X0_saidByShop_0.1.1.2.1 rfl 1 rfl ?_
  refine k_X10_hasSort M u861 (Nat.le_of_ble_eq_true rfl) (Nat.le_of_ble_eq_true rfl) dt_X0_saidByShop_0.1.1.2.2 ?_
  refine z_if_eq (tgt := 18) M dt_X0_saidByShop_0.1.2.1.1 (by decide) (fun hc => ?_) (fun hc => ?_)
  · have h := gIt hc h
    refine z_iconst M dt_X0_saidByShop_0.2.1.1.1 ki_m1 ?_
    obtain rfl := Option.some.inj h
    exact z_iret M dt_X0_saidByShop_0.2.1.1.2
  · have h := gIf hc h
    refine z_iload_n M dt_X0_saidByShop_0.1.2.1.2 rfl 2 rfl ?_
    refine kn_X11_isWay M u911 (Nat.le_of_ble_eq_true rfl) (Nat.le_of_ble_eq_true rfl) dt_X0_saidByShop_0.1.2.2.1 ?_
    refine z_if_ne (tgt := 20) M dt_X0_saidByShop_0.1.2.2.2 (by decide) (fun hc => ?_) (fun hc => ?_)
    · have h := gIf hc h
      refine z_aload_n M dt_X0_saidByShop_0.2.1.2.1 rfl 0 rfl ?_
      refine z_iload_n M dt_X0_saidByShop_0.2.1.2.2 rfl 1 rfl ?_
      refine z_iload_n M dt_X0_saidByShop_0.2.2.1.1 rfl 2 rfl ?_
      obtain ⟨t1, hc, h⟩ := gBd h
      refine k_X0_gather M hc u983 (Nat.le_of_ble_eq_true rfl) (Nat.le_of_ble_eq_true rfl) dt_X0_saidByShop_0.2.2.1.2 ?_
      refine z_aload_n M dt_X0_saidByShop_0.2.2.2.1 rfl 0 rfl ?_
      refine gf_X0_gathered (σ := t1) M u279 dt_X0_saidByShop_0.2.2.2.2 (v := (t1.1 18)) rfl ?_
      refine z_iconst M dt_X0_saidByShop_1.1.1.1.1 ki_2 ?_
      refine z_icmp_lt (tgt := 45) M dt_X0_saidByShop_1.1.1.1.2 (by decide) (fun hc => ?_) (fun hc => ?_)
      · have h := gIt hc h
        refine z_bipush M dt_X0_saidByShop_1.2.1.1.2 kb_m2 ?_
        obtain rfl := Option.some.inj h
        exact z_iret M dt_X0_saidByShop_1.2.1.2.1
      · have h := gIf hc h
        refine z_aload_n M dt_X0_saidByShop_1.1.1.2.1 rfl 0 rfl ?_
        refine z_iconst M dt_X0_saidByShop_1.1.1.2.2 ki_0 ?_
        refine z_iconst M dt_X0_saidByShop_1.1.2.1.1 ki_1 ?_
        obtain ⟨t2, hc, h⟩ := gBd h
        refine k_X0_spread M hc u1005 (Nat.le_of_ble_eq_true rfl) (Nat.le_of_ble_eq_true rfl) dt_X0_saidByShop_1.1.2.1.2 ?_
        refine z_lconst (v := 0) M dt_X0_saidByShop_1.1.2.2.1 (by decide) ?_
        refine z_lcmp_ne (tgt := 48) M dt_X0_saidByShop_1.1.2.2.2 dt_X0_saidByShop_1.2.1.1.1 (by decide) (fun hc => ?_) (fun hc => ?_)
        · have h := gIf hc h
          refine z_aload_n M dt_X0_saidByShop_1.2.1.2.2 rfl 0 rfl ?_
          refine gf_X0_row M u272 dt_X0_saidByShop_1.2.2.1.1 ?_
          obtain ⟨t3, hc, h⟩ := gBd h
          refine k_X5_clear M hc u869 (Nat.le_of_ble_eq_true rfl) (Nat.le_of_ble_eq_true rfl) dt_X0_saidByShop_1.2.2.1.2 ?_
          refine z_aload_n M dt_X0_saidByShop_1.2.2.2.1 rfl 0 rfl ?_
          refine z_iconst M dt_X0_saidByShop_1.2.2.2.2 ki_0 ?_
          refine z_iconst M dt_X0_saidByShop_2.1.1.1.1 ki_2 ?_
          obtain ⟨t4, hc, h⟩ := gBd h
          refine k_X0_spread M hc u1005 (Nat.le_of_ble_eq_true rfl) (Nat.le_of_ble_eq_true rfl) dt_X0_saidByShop_2.1.1.1.2 ?_
          refine z_aload_n M dt_X0_saidByShop_2.1.1.2 rfl 0 rfl ?_
          refine z_iconst M dt_X0_saidByShop_2.1.2.1 ki_0 ?_
          refine z_iconst M dt_X0_saidByShop_2.1.2.2 ki_1 ?_
          obtain ⟨t5, hc, h⟩ := gBd h
          refine k_X0_spread M hc u1005 (Nat.le_of_ble_eq_true rfl) (Nat.le_of_ble_eq_true rfl) dt_X0_saidByShop_2.2.1.1.1 ?_
          obtain ⟨t6, hc, h⟩ := gBd h
          refine k_X5_addFraction M hc u891 (Nat.le_of_ble_eq_true rfl) (Nat.le_of_ble_eq_true rfl) dt_X0_saidByShop_2.2.1.1.2 ?_
          refine z_pop M dt_X0_saidByShop_2.2.1.2 rfl ?_
          refine z_iconst M dt_X0_saidByShop_2.2.2.1 ki_0 ?_
          obtain rfl := Option.some.inj h
          exact z_iret M dt_X0_saidByShop_2.2.2.2
        · have h := gIt hc h
          refine z_bipush M dt_X0_saidByShop_1.2.1.1.2 kb_m2 ?_
          obtain rfl := Option.some.inj h
          exact z_iret M dt_X0_saidByShop_1.2.1.2.1
    · have h := gIt hc h
      refine z_iconst M dt_X0_saidByShop_0.2.1.1.1 ki_m1 ?_
      obtain rfl := Option.some.inj h
      exact z_iret M dt_X0_saidByShop_0.2.1.1.2
theorem k_X0_saidByShop {n : Nat} (M : zM l D zcl (zty cy) A ad (zR n) (cW a cy) own cc nL rt σo ov G) {p0 : Int32} {p1 : Int32} {o : (Zst × Int32)} (h : f_X0_saidByShop σ p0 p1 = some o) {index : Nat} (hl : Cond.methodLink own index yX0_saidByShop ∈ uw) (hR : 7 ≤ n) (hW : (st.map fun v => v.category).sum ≤ 8) (d : decode cc pc = .ok (.invokevirtual index, 3)) (kk : G o.1 lv (pc + 3) (.int o.2 :: st)) : G σ lv pc (.int p1 :: .int p0 :: .ref (a 27) :: st) := z_callV M [.int p0, .int p1] (m_X0_saidByShop (zM_hD M) h) (hC27 σ) rfl hl u94 u1021 u1019 u1020 hd_X0_saidByShop hR (by decide) rfl hW d kk
set_option maxHeartbeats 4000000 in
set_option maxRecDepth 100000 in
theorem m_X11_slope (hD : ∀ σ, va_D A (cW a cy σ)) {σ : Zst} {p0 : Int32} {p1 : Int32} {o : (Zst × Int32)} (h : f_X11_slope σ p0 p1 = some o) : zT l D zcl (zty cy) A ad (cW a cy) yX11_slope cX11_slope 3 (some .int) 7 [.ref (a 0), .int p0, .int p1] σ o.1 (some (.int o.2)) := by
  refine z_met pn_X11 hD (Nat.le_of_ble_eq_true rfl) rfl (fun G M => ?_)
  refine z_aload_n M dt_X11_slope_0.1.1.1 rfl 0 rfl ?_
  refine gf_X11_answers M u435 dt_X11_slope_0.1.1.2 ?_
  refine z_iload_n M dt_X11_slope_0.1.2 rfl 1 rfl ?_
  refine z_iload_n M dt_X11_slope_0.2.1.1 rfl 2 rfl ?_
  obtain ⟨t1, hc, h⟩ := gBd h
  refine k_X0_saidByShop M hc u1018 (Nat.le_of_ble_eq_true rfl) (Nat.le_of_ble_eq_true rfl) dt_X11_slope_0.2.1.2 ?_
  obtain rfl := Option.some.inj h
  exact z_iret M dt_X11_slope_0.2.2
set_option maxHeartbeats 4000000 in
set_option maxRecDepth 100000 in
theorem m_X0_hasNeighbours (hD : ∀ σ, va_D A (cW a cy σ)) {σ0 : Zst} {p0 : Int32} {p1 : Int32} {p2 : Int32} {o : Int32} (h : f_X0_hasNeighbours σ0 p0 p1 p2 = some o) : zT l D zcl (zty cy) A ad (cW a cy) yX0_hasNeighbours cX0_hasNeighbours 4 (some .boolean) 4 [.ref (a 27), .int p0, .int p1, .int p2] σ0 σ0 (some (.int o)) := by
  refine z_met pn_X0 hD (Nat.le_of_ble_eq_true rfl) rfl (fun G M => ?_)
  refine z_aload_n M dt_X0_hasNeighbours_0.1.1.1.1 rfl 0 rfl ?_
  refine gf_X0_numbers M u271 dt_X0_hasNeighbours_0.1.1.1.2 ?_
  refine z_iconst M dt_X0_hasNeighbours_0.1.1.2.1 ki_1 ?_
  refine z_iload_n M dt_X0_hasNeighbours_0.1.1.2.2 rfl 3 rfl ?_
  refine z_iload_n M dt_X0_hasNeighbours_0.1.2.1.1 rfl 1 rfl ?_
  obtain ⟨t1, hc, h⟩ := gBd h
  refine k_X4_has M hc u864 (Nat.le_of_ble_eq_true rfl) (Nat.le_of_ble_eq_true rfl) dt_X0_hasNeighbours_0.1.2.1.2 ?_
  refine z_if_eq (tgt := 45) M dt_X0_hasNeighbours_0.1.2.2.1 (by decide) (fun hc => ?_) (fun hc => ?_)
  · have h := gIt hc h
    refine z_iconst M dt_X0_hasNeighbours_1.2.2.1 ki_0 ?_
    obtain rfl := Option.some.inj h
    exact z_zret M (nBo (Or.inl rfl)) dt_X0_hasNeighbours_1.2.2.2
  · have h := gIf hc h
    refine z_aload_n M dt_X0_hasNeighbours_0.1.2.2.2 rfl 0 rfl ?_
    refine gf_X0_numbers M u271 dt_X0_hasNeighbours_0.2.1.1.1 ?_
    refine z_iconst M dt_X0_hasNeighbours_0.2.1.1.2 ki_2 ?_
    refine z_iload_n M dt_X0_hasNeighbours_0.2.1.2.1 rfl 2 rfl ?_
    refine z_iadd M dt_X0_hasNeighbours_0.2.1.2.2 ?_
    refine z_iload_n M dt_X0_hasNeighbours_0.2.2.1.1 rfl 3 rfl ?_
    refine z_iload_n M dt_X0_hasNeighbours_0.2.2.1.2 rfl 1 rfl ?_
    obtain ⟨t2, hc, h⟩ := gBd h
    refine k_X4_has M hc u864 (Nat.le_of_ble_eq_true rfl) (Nat.le_of_ble_eq_true rfl) dt_X0_hasNeighbours_0.2.2.2.1 ?_
    refine z_if_eq (tgt := 45) M dt_X0_hasNeighbours_0.2.2.2.2 (by decide) (fun hc => ?_) (fun hc => ?_)
    · have h := gIt hc h
      refine z_iconst M dt_X0_hasNeighbours_1.2.2.1 ki_0 ?_
      obtain rfl := Option.some.inj h
      exact z_zret M (nBo (Or.inl rfl)) dt_X0_hasNeighbours_1.2.2.2
    · have h := gIf hc h
      refine z_aload_n M dt_X0_hasNeighbours_1.1.1.1.1 rfl 0 rfl ?_
      refine gf_X0_numbers M u271 dt_X0_hasNeighbours_1.1.1.1.2 ?_
      refine z_iconst M dt_X0_hasNeighbours_1.1.1.2 ki_5 ?_
      refine z_iload_n M dt_X0_hasNeighbours_1.1.2.1.1 rfl 3 rfl ?_
      refine z_iload_n M dt_X0_hasNeighbours_1.1.2.1.2 rfl 1 rfl ?_
      obtain ⟨t3, hc, h⟩ := gBd h
      refine k_X4_has M hc u864 (Nat.le_of_ble_eq_true rfl) (Nat.le_of_ble_eq_true rfl) dt_X0_hasNeighbours_1.1.2.2 ?_
      have hJ5 : G σ0 [(0, .ref (a 27)), (1, .int p0), (2, .int p1), (3, .int p2)] 46 [.int (if t3 = (0 : Int32) then (0 : Int32) else (1 : Int32))] := by
        obtain rfl := Option.some.inj h
        exact z_zret M (nBo (boIte (Or.inl rfl) (Or.inr rfl))) dt_X0_hasNeighbours_1.2.2.2
      refine z_if_eq (tgt := 45) M dt_X0_hasNeighbours_1.2.1.1.1 (by decide) (fun hc4 => ?_) (fun hc4 => ?_)
      · refine z_iconst M dt_X0_hasNeighbours_1.2.2.1 ki_0 ?_
        exact (zTt hc4 hJ5)
      · refine z_iconst M dt_X0_hasNeighbours_1.2.1.1.2 ki_1 ?_
        refine z_goto (tgt := 46) M dt_X0_hasNeighbours_1.2.1.2 (by decide) ?_
        exact (zTf hc4 hJ5)
theorem k_X0_hasNeighbours {n : Nat} (M : zM l D zcl (zty cy) A ad (zR n) (cW a cy) own cc nL rt σo ov G) {p0 : Int32} {p1 : Int32} {p2 : Int32} {o : Int32} (h : f_X0_hasNeighbours σ p0 p1 p2 = some o) {index : Nat} (hl : Cond.methodLink own index yX0_hasNeighbours ∈ uw) (hR : 5 ≤ n) (hW : (st.map fun v => v.category).sum ≤ 8) (d : decode cc pc = .ok (.invokevirtual index, 3)) (kk : G σ lv (pc + 3) (.int o :: st)) : G σ lv pc (.int p2 :: .int p1 :: .int p0 :: .ref (a 27) :: st) := z_callV M [.int p0, .int p1, .int p2] (m_X0_hasNeighbours (zM_hD M) h) (hC27 σ) rfl hl u94 u1033 u1032 u21 hd_X0_hasNeighbours hR (by decide) rfl hW d kk
end ZWK
