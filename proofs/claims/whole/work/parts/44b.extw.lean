set_option maxRecDepth 20000 in
theorem u1491 : Cond.code yX7_oftener cX7_oftener 2 (some .int) ∈ uw := uc5 205 rfl rfl
set_option maxRecDepth 20000 in
theorem u1500 : Cond.instanceMethod yX5_has ∈ uw := uc5 214 rfl rfl
set_option maxRecDepth 20000 in
theorem u1501 : Cond.selects RX5 yX5_has yX5_has ∈ uw := uc5 215 rfl rfl
set_option maxRecDepth 20000 in
theorem u1502 : Cond.code yX5_has cX5_has 2 (some .boolean) ∈ uw := uc5 216 rfl rfl
set_option maxRecDepth 20000 in
theorem u1506 : Cond.code yX5_at cX5_at 2 (some .long) ∈ uw := uc5 220 rfl rfl
set_option maxRecDepth 20000 in
theorem u1507 : Cond.methodLink RX5 27 yX5_has ∈ uw := uc5 221 rfl rfl
theorem hd_X5_at : yX5_at.cls ≠ "java/lang/invoke/MethodHandle" ∧ yX5_at.cls ≠ "java/lang/invoke/VarHandle" ∧ (parseMethodDescriptor yX5_at.desc).map (fun d => d.parameters.length) = some 1 := by decide +kernel
theorem hd_X5_has : yX5_has.cls ≠ "java/lang/invoke/MethodHandle" ∧ yX5_has.cls ≠ "java/lang/invoke/VarHandle" ∧ (parseMethodDescriptor yX5_has.desc).map (fun d => d.parameters.length) = some 1 := by decide +kernel
theorem hd_X7_oftener : yX7_oftener.cls ≠ "java/lang/invoke/MethodHandle" ∧ yX7_oftener.cls ≠ "java/lang/invoke/VarHandle" ∧ (parseMethodDescriptor yX7_oftener.desc).map (fun d => d.parameters.length) = some 1 := by decide +kernel
theorem dt_X7_oftener_0 : (((decode cX7_oftener 0 = .ok (.aload_n 0, 1) ∧ decode cX7_oftener 1 = .ok (.iload_n 1, 1)) ∧ (decode cX7_oftener 2 = .ok (.invokevirtual 49, 3) ∧ decode cX7_oftener 5 = .ok (.aload_n 0, 1))) ∧ ((decode cX7_oftener 6 = .ok (.iload_n 1, 1) ∧ decode cX7_oftener 7 = .ok (.invokevirtual 53, 3)) ∧ (decode cX7_oftener 10 = .ok (.isub, 1) ∧ decode cX7_oftener 11 = .ok (.ireturn, 1)))) := by decide +kernel
theorem dt_X5_has_0 : ((((decode cX5_has 0 = .ok (.iload_n 1, 1) ∧ decode cX5_has 1 = .ok (.ifCond .lt 15, 3)) ∧ decode cX5_has 4 = .ok (.iload_n 1, 1)) ∧ (decode cX5_has 5 = .ok (.aload_n 0, 1) ∧ decode cX5_has 6 = .ok (.getfield 15, 3))) ∧ (((decode cX5_has 9 = .ok (.if_icmp .ge 7, 3) ∧ decode cX5_has 12 = .ok (.iconst 1, 1)) ∧ decode cX5_has 13 = .ok (.goto 4, 3)) ∧ (decode cX5_has 16 = .ok (.iconst 0, 1) ∧ decode cX5_has 17 = .ok (.ireturn, 1)))) := by decide +kernel
theorem dt_X5_at_0 : ((((decode cX5_at 0 = .ok (.aload_n 0, 1) ∧ decode cX5_at 1 = .ok (.iload_n 1, 1)) ∧ decode cX5_at 2 = .ok (.invokevirtual 27, 3)) ∧ ((decode cX5_at 5 = .ok (.ifCond .eq 12, 3) ∧ decode cX5_at 8 = .ok (.aload_n 0, 1)) ∧ decode cX5_at 9 = .ok (.getfield 9, 3))) ∧ (((decode cX5_at 12 = .ok (.iload_n 1, 1) ∧ decode cX5_at 13 = .ok (.laload, 1)) ∧ decode cX5_at 14 = .ok (.goto 4, 3)) ∧ (decode cX5_at 17 = .ok (.lconst 0, 1) ∧ decode cX5_at 18 = .ok (.lreturn, 1)))) := by decide +kernel
section ZWX
variable {l : Launch} {D : va_G} {A : Nat → Prop} {ad : (Nat → Nat) × (Nat → Nat)} {a : Nat → Nat} {cy : ClassId × (ClassId × (ClassId × ClassId))} {own : String} {cc : ByteArray} {nL : Nat} {rt : Option FieldType} {σo : Zst} {ov : Option Value} {G : Zst → List (Nat × Value) → Nat → List Value → Prop}
variable {σ σ0 : Zst} {lv : List (Nat × Value)} {pc : Nat} {st : List Value} {zcl0 : List vw_C} {tys : List (ClassId × FieldType)} {wf : Zst → va_W}
set_option maxHeartbeats 4000000 in
set_option maxRecDepth 100000 in
theorem m_X7_oftener (hD : ∀ σ, va_D A (cW a cy σ)) {σ0 : Zst} {p0 : Int32} {o : Int32} (h : f_X7_oftener σ0 p0 = some o) : zT l D zcl (zty cy) A ad (cW a cy) yX7_oftener cX7_oftener 2 (some .int) 4 [.ref (a 36), .int p0] σ0 σ0 (some (.int o)) := by
  refine z_met pn_X7 hD (Nat.le_of_ble_eq_true rfl) rfl (fun G M => ?_)
  refine z_aload_n M dt_X7_oftener_0.1.1.1 rfl 0 rfl ?_
  refine z_iload_n M dt_X7_oftener_0.1.1.2 rfl 1 rfl ?_
  obtain ⟨t1, hc, h⟩ := gBd h
  refine k_X7_takenByFirst M hc u1169 (Nat.le_of_ble_eq_true rfl) (Nat.le_of_ble_eq_true rfl) dt_X7_oftener_0.1.2.1 ?_
  refine z_aload_n M dt_X7_oftener_0.1.2.2 rfl 0 rfl ?_
  refine z_iload_n M dt_X7_oftener_0.2.1.1 rfl 1 rfl ?_
  obtain ⟨t2, hc, h⟩ := gBd h
  refine k_X7_takenBySecond M hc u1173 (Nat.le_of_ble_eq_true rfl) (Nat.le_of_ble_eq_true rfl) dt_X7_oftener_0.2.1.2 ?_
  refine z_isub M dt_X7_oftener_0.2.2.1 ?_
  obtain rfl := Option.some.inj h
  exact z_iret M dt_X7_oftener_0.2.2.2
set_option maxHeartbeats 4000000 in
set_option maxRecDepth 100000 in
theorem m_X5_has (hD : ∀ σ, va_D A (cW a cy σ)) (σ0 : Zst) (p0 : Int32) : zT l D zcl (zty cy) A ad (cW a cy) yX5_has cX5_has 2 (some .boolean) 1 [.ref (a 1), .int p0] σ0 σ0 (some (.int (f_X5_has σ0 p0))) := by
  obtain ⟨o, h⟩ : ∃ o, f_X5_has σ0 p0 = o := ⟨_, rfl⟩
  rw [h]
  refine z_met pn_X5 hD (Nat.le_of_ble_eq_true rfl) rfl (fun G M => ?_)
  refine z_iload_n M dt_X5_has_0.1.1.1.1 rfl 1 rfl ?_
  have hJ3 : G σ0 [(0, .ref (a 1)), (1, .int p0)] 17 [.int (if p0 < (0 : Int32) then (0 : Int32) else (if (σ0.1 0) ≤ p0 then (0 : Int32) else (1 : Int32)))] := by
    subst h
    exact z_zret M (nBo (boIte (Or.inl rfl) (boIte (Or.inl rfl) (Or.inr rfl)))) dt_X5_has_0.2.2.2
  refine z_if_lt (tgt := 16) M dt_X5_has_0.1.1.1.2 (by decide) (fun hc1 => ?_) (fun hc1 => ?_)
  · refine z_iconst M dt_X5_has_0.2.2.1 ki_0 ?_
    exact (zTt hc1 hJ3)
  · refine z_iload_n M dt_X5_has_0.1.1.2 rfl 1 rfl ?_
    refine z_aload_n M dt_X5_has_0.1.2.1 rfl 0 rfl ?_
    refine gf_X5_size (σ := σ0) M u129 dt_X5_has_0.1.2.2 (v := (σ0.1 0)) rfl ?_
    refine z_icmp_ge (tgt := 16) M dt_X5_has_0.2.1.1.1 (by decide) (fun hc2 => ?_) (fun hc2 => ?_)
    · refine z_iconst M dt_X5_has_0.2.2.1 ki_0 ?_
      exact (zTt hc2 (zTf hc1 hJ3))
    · refine z_iconst M dt_X5_has_0.2.1.1.2 ki_1 ?_
      refine z_goto (tgt := 17) M dt_X5_has_0.2.1.2 (by decide) ?_
      exact (zTf hc2 (zTf hc1 hJ3))
theorem k_X5_has {n : Nat} (M : zM l D zcl (zty cy) A ad (zR n) (cW a cy) own cc nL rt σo ov G) {p0 : Int32} {index : Nat} (hl : Cond.methodLink own index yX5_has ∈ uw) (hR : 2 ≤ n) (hW : (st.map fun v => v.category).sum ≤ 8) (d : decode cc pc = .ok (.invokevirtual index, 3)) (kk : G σ lv (pc + 3) (.int (f_X5_has σ p0) :: st)) : G σ lv pc (.int p0 :: .ref (a 1) :: st) := z_callV M [.int p0] (m_X5_has (zM_hD M) σ p0) (hC1 σ) rfl hl u88 u1502 u1500 u1501 hd_X5_has hR (by decide) rfl hW d kk
set_option maxHeartbeats 4000000 in
set_option maxRecDepth 100000 in
theorem m_X5_at (hD : ∀ σ, va_D A (cW a cy σ)) {σ0 : Zst} {p0 : Int32} {o : Int64} (h : f_X5_at σ0 p0 = some o) : zT l D zcl (zty cy) A ad (cW a cy) yX5_at cX5_at 2 (some .long) 2 [.ref (a 1), .int p0] σ0 σ0 (some (.long o)) := by
  refine z_met pn_X5 hD (Nat.le_of_ble_eq_true rfl) rfl (fun G M => ?_)
  refine z_aload_n M dt_X5_at_0.1.1.1.1 rfl 0 rfl ?_
  refine z_iload_n M dt_X5_at_0.1.1.1.2 rfl 1 rfl ?_
  refine k_X5_has M u1507 (Nat.le_of_ble_eq_true rfl) (Nat.le_of_ble_eq_true rfl) dt_X5_at_0.1.1.2 ?_
  refine z_if_eq (tgt := 17) M dt_X5_at_0.1.2.1.1 (by decide) (fun hc => ?_) (fun hc => ?_)
  · have h := gIt hc h
    refine z_lconst (v := 0) M dt_X5_at_0.2.2.1 (by decide) ?_
    obtain rfl := Option.some.inj h
    exact z_lret M dt_X5_at_0.2.2.2
  · have h := gIf hc h
    refine z_aload_n M dt_X5_at_0.1.2.1.2 rfl 0 rfl ?_
    refine gf_X5_numbers M u128 dt_X5_at_0.1.2.2 ?_
    refine z_iload_n M dt_X5_at_0.2.1.1.1 rfl 1 rfl ?_
    have ⟨hg, h⟩ := gIx_s h
    refine al_C2 (σ := σ0) M (f := (σ0.2.2.1 0)) rfl hg dt_X5_at_0.2.1.1.2 ?_
    refine z_goto (tgt := 18) M dt_X5_at_0.2.1.2 (by decide) ?_
    obtain rfl := Option.some.inj h
    exact z_lret M dt_X5_at_0.2.2.2
end ZWX
