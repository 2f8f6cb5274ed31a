/-! the law's two that may throw; its loop -/
theorem lD_m {A : Nat → Prop} {X Y Z : va_W} (h : va_D A (X ++ (Y ++ Z))) : va_D A (X ++ Z) := by
  have hx := lD_l h
  have hz := lD_r (lD_r h)
  have hc : ∀ (i j : Nat) (p q : Nat × va_E), X[i]? = some p → Z[j]? = some q → p.1 ≠ q.1 := fun i j p q hp hq => lD_x h hp (show (Y ++ Z)[Y.length + j]? = some q by rw [y_ix]; exact hq)
  refine ⟨fun i j p q hp hq e => ?_, fun k q hk => ?_⟩
  · by_cases hi : i < X.length
    · rw [List.getElem?_append_left hi] at hp
      by_cases hj : j < X.length
      · rw [List.getElem?_append_left hj] at hq
        exact hx.1 i j p q hp hq e
      · rw [List.getElem?_append_right (Nat.le_of_not_lt hj)] at hq
        exact absurd e (hc _ _ p q hp hq)
    · rw [List.getElem?_append_right (Nat.le_of_not_lt hi)] at hp
      by_cases hj : j < X.length
      · rw [List.getElem?_append_left hj] at hq
        exact absurd e.symm (hc _ _ q p hq hp)
      · rw [List.getElem?_append_right (Nat.le_of_not_lt hj)] at hq
        have := hz.1 _ _ p q hp hq e
        omega
  · by_cases hk9 : k < X.length
    · rw [List.getElem?_append_left hk9] at hk
      exact hx.2 k q hk
    · rw [List.getElem?_append_right (Nat.le_of_not_lt hk9)] at hk
      exact hz.2 _ q hk
theorem lD_y {A : Nat → Prop} {X Y Z : va_W} (h : va_D A (X ++ (Y ++ Z))) {i j : Nat} {p q : Nat × va_E} (hp : Y[i]? = some p) (hq : (X ++ Z)[j]? = some q) : p.1 ≠ q.1 := by
  by_cases hj : j < X.length
  · rw [List.getElem?_append_left hj] at hq
    exact fun e => lD_x h hq (show (Y ++ Z)[i]? = some p by rw [List.getElem?_append_left (List.getElem?_eq_some_iff.mp hp).1]; exact hp) e.symm
  · rw [List.getElem?_append_right (Nat.le_of_not_lt hj)] at hq
    exact lD_x (lD_r h) hp hq
theorem xW_fst {a : Nat → Nat} {cy : ClassId × (ClassId × (ClassId × ClassId))} {qo : Nat} (σ σ' : Zst) (f f' : Nat → Int64) : (xW a cy qo σ f).map Prod.fst = (xW a cy qo σ' f').map Prod.fst := rfl
theorem x_lit1 : Cond.castable xN xN ∈ lw_tbl := by decide +kernel
theorem x_lit2 : Cond.laysStatic Bundle.tN "UNASSIGNED_STACK" Bundle.steD ∈ lw_tbl := by decide +kernel
theorem x_lit3 : Cond.laysStatic Bundle.tN "SUPPRESSED_SENTINEL" Bundle.listD ∈ lw_tbl := by decide +kernel
theorem x_lit4 : Cond.initialized Bundle.tN ∈ lw_tbl := by decide +kernel
theorem x_lit5 : Cond.isRef (.static Bundle.tN "UNASSIGNED_STACK" Bundle.steD) ∈ flatC (Jvm.Cond.and given_1 narrow_1) := by decide +kernel
theorem x_lit6 : Cond.isRef (.static Bundle.tN "SUPPRESSED_SENTINEL" Bundle.listD) ∈ flatC (Jvm.Cond.and given_1 narrow_1) := by decide +kernel
theorem x_ntr {l : Launch} (h : l.flags = flags0) : l.stackTraces = false := by
  unfold Launch.stackTraces
  rw [h]
  decide +kernel
section LX
variable {l : Launch} {D : va_G} {a b : Nat → Nat} {qo : Nat} {cy : ClassId × (ClassId × (ClassId × ClassId))} {ad : (Nat → Nat) × (Nat → Nat)} {b0 L : Nat} {xs : Nat → Int32} {G : Zst → Zst → (Nat → Int64) → Nat → Nat → List (Nat × Value) → Nat → List Value → Prop}
variable {σc σm : Zst} {f f' : Nat → Int64} {k n : Nat} {lv : List (Nat × Value)} {pc : Nat} {st : List Value} {t : Nat}
theorem lM_nt (M : lM l D a b qo cy ad b0 L xs G) : l.stackTraces = false := by
  obtain ⟨p, e, s, m, below, meth, c, hfl, -⟩ := M
  exact x_ntr hfl
theorem l_lald (M : lM l D a b qo cy ad b0 L xs G) (d : decode code pc = .ok (.laload, 1)) (kk : G σc σm f k n lv (pc + 1) (.long (f 0) :: st)) : G σc σm f k n lv pc (.int 0 :: .ref qo :: st) := by
  obtain ⟨p, e, s, m, below, meth, c, hfl, hx, hb, hml, hown, hts, htl, hE, hD, hX, hbl, hr, hlk, hgv, rfl⟩ := M
  intro H locs ls hP hS hl
  exact va_lald hx hb hE.1 hP ((cW a cy σc).length + ((mW b cy ad σm).length + 0)) 1 (by show (cW a cy σc ++ (mW b cy ad σm ++ [(qo, (.inl (cy.2.1, 1, .inr (.inl f)) : va_E))]))[_]? = _; rw [y_ix, y_ix]; rfl) rfl x_in01 d (kk H locs ls hP hS hl)
set_option maxHeartbeats 4000000 in
set_option maxRecDepth 100000 in
theorem l_callX (M : lM l D a b qo cy ad b0 L xs G) {y : MethodName} {bytes : ByteArray} {hh : List (Nat × Nat × Nat × Nat)} {index : Nat} {r p0 : Int32} {rest : List Value}
    (hM : ∀ A : Nat → Prop, (∀ σ f, va_D A (xW a cy qo σ f)) → vx_Met l y (Cond.codeWith y bytes 4 (some .int) hh :: uw) xL (va_Pc [.ref (a 0), .int p0, .ref qo] (fun U => va_P D zcl (xW a cy qo σc f) U.heap ∧ xE D cy A ad U U.heap)) (va_Qi (S := Unit) (fun r' _ => r' = r) (fun _ t => va_P D zcl (xW a cy qo σc f') t.heap) A) (vx_X (S := Unit) (fun _ => False) (fun _ _ _ => True) A) 1 6 A)
    (hl9 : Cond.methodLink R_law index y ∈ uw) (hini : Cond.initialized y.cls ∈ uw) (hcode : Cond.codeWith y bytes 4 (some .int) hh ∈ uw) (hi : Cond.static y ∈ uw) (hd : y.cls ≠ "java/lang/invoke/MethodHandle" ∧ y.cls ≠ "java/lang/invoke/VarHandle" ∧ (parseMethodDescriptor y.desc).map (fun d => d.parameters.length) = some 3)
    (hk9 : k + 1 ≤ 601024) (hn9 : n + 6 ≤ 7293033) (hW : (rest.map fun v => v.category).sum ≤ 8) (d : decode code pc = .ok (.invokestatic index, 3)) (kk : G σc σm f' (k + 1) (n + 6) lv (pc + 3) (.int r :: rest)) : G σc σm f k n lv pc (.ref qo :: .int p0 :: .ref (a 0) :: rest) := by
  obtain ⟨p, e, s, m, below, meth, c, hfl, hx, hb, hml, hown, hts, htl, hE, hD, hX, hbl, hr, hlk, hgv, rfl⟩ := M
  intro H locs ls hP hS hl
  have hP3 : va_P D zcl (cW a cy σc ++ (mW b cy ad σm ++ [(qo, (.inl (cy.2.1, 1, .inr (.inl f)) : va_E))])) H := hP
  have hPx : va_P D zcl (xW a cy qo σc f) H := va_P.app (lP_l hP3) (lP_r (lP_r hP3))
  have hD3 : ∀ σ f, va_D (fun q => s.heap.size ≤ q) (cW a cy σ ++ (mW b cy ad σm ++ [(qo, (.inl (cy.2.1, 1, .inr (.inl f)) : va_E))])) := fun σ f => hD σ σm f
  have hDx : ∀ σ f, va_D (fun q => s.heap.size ≤ q) (xW a cy qo σ f) := fun σ f => lD_m (hD3 σ f)
  have hin := lA_in (hDx σc f)
  have hDA : ∀ σ f', va_D (lA (xW a cy qo σc f)) (xW a cy qo σ f') := fun σ f' => yD_map (xW_fst σc σ f f') (lD_A (hDx σc f))
  have hnA : ∀ a : Nat, a < s.heap.size → ¬ s.heap.size ≤ a := fun a h => Nat.not_le.mpr h
  have hEx : xE D cy (fun q => s.heap.size ≤ q) ad s s.heap := ⟨hE, va_Nw.of rfl (htl _ x_lit1), vx_Zqof (htl _ x_lit2) (htl _ x_lit4) (flat_of_before _ hgv _ x_lit5) hnA, vx_Zqof (htl _ x_lit3) (htl _ x_lit4) (flat_of_before _ hgv _ x_lit6) hnA⟩
  have hG : ∀ w ∈ Cond.codeWith y bytes 4 (some .int) hh :: uw, w ∈ uw ∧ ((w.onTables && w.keeps) = true ∨ ∃ ty, w = .arrayClass ty) := fun w hw => (List.mem_cons.mp hw).elim (fun e => by rw [e]; exact ⟨hcode, good_of_word (uw_gw _ hcode)⟩) (fun h => ⟨h, good_of_word (uw_gw _ h)⟩)
  have cw : vx_CSW room_1 s #[Value.ref b0] R_law index y bytes 4 (some .int) hh (Cond.codeWith y bytes 4 (some .int) hh :: uw) xL 1 6 3 :=
    ⟨⟨rfl, rfl, Nat.le_of_ble_eq_true rfl, Nat.le_of_ble_eq_true rfl, pay_in hts hG, List.mem_cons_self⟩, hts _ hcode, hts _ hini, ⟨hd.1, hd.2.1⟩, fun sig h => by have h2 := hd.2.2; rw [h] at h2; exact (Option.some.inj h2).symm, hts _ hl9, hts _ hi⟩
  refine vx_calli (vx_runSX (As := [.ref (a 0), .int p0, .ref qo]) (rest := rest) ⟨hx, hb, hml, hown, hts⟩ (hM _ hDA) cw ⟨x_blind, fun U hU hW => ⟨rfl, by rw [hU]; exact hPx, xE_narrow (xE_call hW hU hS hEx) hin⟩⟩ rfl rfl hl.1 rfl (lv_room hW) d ⟨hk9, hn9⟩) hS (fun q _ h => hin q h) hin (fun q _ h => hin q h) (fun E ce q9 u t H1 locs1 _ _ hF => hF.elim) (fun r' u t H1 locs1 ht hAl hr' hB hsz hk hS1 => ?_)
  subst hr'
  have hB : va_P D zcl (xW a cy qo σc f') t.heap := hB
  rw [ht] at hB
  have hB3 : va_P D zcl (cW a cy σc ++ [(qo, (.inl (cy.2.1, 1, .inr (.inl f')) : va_E))]) H1 := hB
  refine kk H1 locs1 ls (va_P.app (lP_l hB3) (va_P.app (va_P.kept (lP_l (lP_r hP3)) (fun i z hz => hk _ ((lP_l (lP_r hP3) i z hz).lt) (fun ⟨j, e9, hj⟩ => ?_))) (lP_r hB3))) hS1 hl
  exact lD_y (hD3 σc f) hz hj rfl
/-- as l_Nx, for what stands behind a case -/
def l_Ny (L : Nat) (b0 qo : Nat) (a b : Nat → Nat) (Rel : Zst → Zst → Prop) (G : Zst → Zst → (Nat → Int64) → Nat → Nat → List (Nat × Value) → Nat → List Value → Prop) (t pc : Nat) : Prop :=
  ∀ (σc σm : Zst) (f : Nat → Int64) (k n : Nat), Rel σc σm → k + (512 - (t + 1)) * 1000 ≤ 601024 → n + (512 - (t + 1)) * 13000 ≤ 7293033 → G σc σm f k n [(4, .int (nI (6 * t))), (3, .ref qo), (2, .ref (b 0)), (1, .ref (a 0)), (0, .ref b0)] pc []
theorem xm_leans_1 : Cond.methodLink RL 156 yX12_leans ∈ uw := xu (by decide +kernel)
theorem xm_leans_2 : Cond.code yX12_leans cX12_leans 2 (some .int) ∈ uw := xu (by decide +kernel)
theorem xm_leans_3 : Cond.instanceMethod yX12_leans ∈ uw := xu (by decide +kernel)
theorem xm_leans_4 : Cond.selects RX12 yX12_leans yX12_leans ∈ uw := xu (by decide +kernel)
theorem xm_leans_5 : yX12_leans.cls ≠ "java/lang/invoke/MethodHandle" ∧ yX12_leans.cls ≠ "java/lang/invoke/VarHandle" ∧ (parseMethodDescriptor yX12_leans.desc).map (fun d => d.parameters.length) = some 1 := by decide +kernel
theorem xm_row_1 : Cond.methodLink RL 219 yX12_row ∈ uw := xu (by decide +kernel)
theorem xm_row_2 : Cond.code yX12_row cX12_row 2 (some .long) ∈ uw := xu (by decide +kernel)
theorem xm_row_3 : Cond.instanceMethod yX12_row ∈ uw := xu (by decide +kernel)
theorem xm_row_4 : Cond.selects RX12 yX12_row yX12_row ∈ uw := xu (by decide +kernel)
theorem xm_row_5 : yX12_row.cls ≠ "java/lang/invoke/MethodHandle" ∧ yX12_row.cls ≠ "java/lang/invoke/VarHandle" ∧ (parseMethodDescriptor yX12_row.desc).map (fun d => d.parameters.length) = some 1 := by decide +kernel
theorem xm_ini : Cond.initialized RX12 ∈ uw := xu (by decide +kernel)
theorem xm_t_1 : Cond.methodLink RL 157 yX12_thrown ∈ uw := xu (by decide +kernel)
theorem xm_t_2 : Cond.code yX12_thrown cX12_thrown 1 (some .int) ∈ uw := xu (by decide +kernel)
theorem xm_t_3 : Cond.instanceMethod yX12_thrown ∈ uw := xu (by decide +kernel)
theorem xm_t_4 : Cond.selects RX12 yX12_thrown yX12_thrown ∈ uw := xu (by decide +kernel)
theorem xm_t_5 : yX12_thrown.cls ≠ "java/lang/invoke/MethodHandle" ∧ yX12_thrown.cls ≠ "java/lang/invoke/VarHandle" ∧ (parseMethodDescriptor yX12_thrown.desc).map (fun d => d.parameters.length) = some 0 := by decide +kernel
set_option maxHeartbeats 4000000 in
theorem lx_leans_tail (M : lM l D a b qo cy ad b0 L xs G) (hk9 : k ≤ 601024) (hn9 : n ≤ 7293033) {om : Zst × Int32} {r : Int32} (hthr : f_X12_thrown om.1 = r) (hr : r = 0 → f 0 = om.2.toInt64) (kk : G σc om.1 f k n [(4, .int (nI (6 * t))), (3, .ref qo), (2, .ref (b 0)), (1, .ref (a 0)), (0, .ref b0)] 1983 []) : G σc om.1 f k n ((6, .int om.2) :: (5, .int r) :: [(4, .int (nI (6 * t))), (3, .ref qo), (2, .ref (b 0)), (1, .ref (a 0)), (0, .ref b0)]) 1367 [] := by
  refine l_aload_n M dt_L_law_52.2.1.1.1 rfl 4 rfl ?_
  refine l_callM M [] (rest := []) (fun A hD => m_X12_thrown hD om.1) rfl xm_t_1 xm_ini xm_t_2 xm_t_3 xm_t_4 xm_t_5 (Nat.le_of_ble_eq_true rfl) (Nat.le_of_ble_eq_true rfl) hk9 hn9 rfl (Nat.le_of_ble_eq_true rfl) dt_L_law_52.2.1.1.2 ?_
  show G σc om.1 f k n ((6, .int om.2) :: (5, .int r) :: [(4, .int (nI (6 * t))), (3, .ref qo), (2, .ref (b 0)), (1, .ref (a 0)), (0, .ref b0)]) 1371 [.int (f_X12_thrown om.1)]
  refine l_iload M dt_L_law_52.2.1.2.1 1 rfl ?_
  refine l_icmp_eq (tgt := 1378) M dt_L_law_52.2.1.2.2 (by decide) (fun _ => ?_) (fun q => absurd hthr q)
  have hend : G σc om.1 f k n ((6, .int om.2) :: (5, .int r) :: [(4, .int (nI (6 * t))), (3, .ref qo), (2, .ref (b 0)), (1, .ref (a 0)), (0, .ref b0)]) 1395 [] := by
    refine l_goto (tgt := 1983) M dt_L_law_53.2.1.1.2 (by decide) ?_
    exact l_sub M [2, 3, 4, 5, 6] rfl kk
  refine l_iload M dt_L_law_52.2.2.2.1 1 rfl ?_
  refine l_if_ne (tgt := 1395) M dt_L_law_52.2.2.2.2 (by decide) (fun _ => hend) (fun q => ?_)
  refine l_aload_n M dt_L_law_53.1.1.1.1 rfl 3 rfl ?_
  refine l_iconst M dt_L_law_53.1.1.1.2 ki_0 ?_
  refine l_lald M dt_L_law_53.1.1.2.1 ?_
  refine l_iload M dt_L_law_53.1.1.2.2 0 rfl ?_
  refine l_i2l M dt_L_law_53.1.2.1.1 ?_
  exact l_lcmp_eq (tgt := 1395) M dt_L_law_53.1.2.1.2 dt_L_law_53.1.2.2.1 (by decide) (fun _ => hend) (fun z => absurd (hr q) z)
set_option maxHeartbeats 4000000 in
theorem lx_leans {Rel : Zst → Zst → Prop} (Hp : lp_leans Rel) (M : lM l D a b qo cy ad b0 L xs G) (ht : 6 * t + 5 < L) (hL : L ≤ 3072) (kk : l_Ny L b0 qo a b Rel G t 1983) : l_Nx L b0 qo a b Rel G t 1342 := by
  intro σc σm f k n hR hk hn
  obtain ⟨om, h1, h2, h3⟩ := Hp σc σm hR (xs (Int32.toNatClampNeg (nI (6 * t) + (1 : Int32))))
  have rest : ∀ (r : Int32) (f' : Nat → Int64), f_X12_thrown om.1 = r → (r = 0 → f' 0 = om.2.toInt64) → G σc σm f' (k + 1) (n + 6) [(4, .int (nI (6 * t))), (3, .ref qo), (2, .ref (b 0)), (1, .ref (a 0)), (0, .ref b0)] 1353 [.int r] := fun r f' e1 e2 => by
    refine l_istore (lv' := (5, .int r) :: [(4, .int (nI (6 * t))), (3, .ref qo), (2, .ref (b 0)), (1, .ref (a 0)), (0, .ref b0)]) M dt_L_law_51.2.2.2.2 (by decide) rfl ?_
    refine l_aload_n M dt_L_law_52.1.1.1.1 rfl 3 rfl ?_
    refine l_aload_n M dt_L_law_52.1.1.1.2 rfl 5 rfl ?_
    refine l_iload M dt_L_law_52.1.1.2.1 1 rfl ?_
    refine l_iconst M dt_L_law_52.1.1.2.2 ki_1 ?_
    refine l_iadd M dt_L_law_52.1.2.1.1 ?_
    refine l_sld M (l_in1 ht hL) dt_L_law_52.1.2.1.2 ?_
    refine l_callM M [.int (xs (Int32.toNatClampNeg (nI (6 * t) + (1 : Int32))))] (rest := []) (fun A hD => m_X12_leans hD h1) rfl xm_leans_1 xm_ini xm_leans_2 xm_leans_3 xm_leans_4 xm_leans_5 (Nat.le_of_ble_eq_true rfl) (Nat.le_of_ble_eq_true rfl) (by omega) (by omega) rfl (Nat.le_of_ble_eq_true rfl) dt_L_law_52.1.2.2.1 ?_
    show G σc om.1 f' (k + 1) (n + 6) ((5, .int r) :: [(4, .int (nI (6 * t))), (3, .ref qo), (2, .ref (b 0)), (1, .ref (a 0)), (0, .ref b0)]) 1365 [.int om.2]
    refine l_istore (lv' := (6, .int om.2) :: (5, .int r) :: [(4, .int (nI (6 * t))), (3, .ref qo), (2, .ref (b 0)), (1, .ref (a 0)), (0, .ref b0)]) M dt_L_law_52.1.2.2.2 (by decide) rfl ?_
    exact lx_leans_tail M (by omega) (by omega) e1 e2 (kk σc om.1 f' (k + 1) (n + 6) h2 (by omega) (by omega))
  refine l_aload_n M dt_L_law_51.1.2.2.2 rfl 3 rfl ?_
  refine l_aload_n M dt_L_law_51.2.1.1.1 rfl 4 rfl ?_
  refine l_iload M dt_L_law_51.2.1.1.2 0 rfl ?_
  refine l_iconst M dt_L_law_51.2.1.2.1 ki_1 ?_
  refine l_iadd M dt_L_law_51.2.1.2.2 ?_
  refine l_sld M (l_in1 ht hL) dt_L_law_51.2.2.1.1 ?_
  refine l_aload_n M dt_L_law_51.2.2.1.2 rfl 1 rfl ?_
  rcases h3 with ⟨c1, c2⟩ | ⟨c1, c2, c3⟩
  · exact l_callX M (r := 1) (f' := f) (rest := []) (fun A hD => xt_leans (lM_nt M) hD c1) xw_leans_11 xw_ini xw_leans_10 xw_leans_12 xhL_leans (by omega) (by omega) (Nat.le_of_ble_eq_true rfl) dt_L_law_51.2.2.2.1 (rest 1 f c2 (fun q => absurd q (by decide)))
  · exact l_callX M (r := 0) (f' := vp_updL f 0 om.2.toInt64) (rest := []) (fun A hD => xr_leans hD (by rw [c1]; decide) c3) xw_leans_11 xw_ini xw_leans_10 xw_leans_12 xhL_leans (by omega) (by omega) (Nat.le_of_ble_eq_true rfl) dt_L_law_51.2.2.2.1 (rest 0 (vp_updL f 0 om.2.toInt64) c2 (fun _ => rfl))
set_option maxHeartbeats 4000000 in
theorem lx_row_tail (M : lM l D a b qo cy ad b0 L xs G) (hk9 : k ≤ 601024) (hn9 : n ≤ 7293033) {om : Zst × Int64} {r : Int32} (hthr : f_X12_thrown om.1 = r) (hr : r = 0 → f 0 = om.2) (kk : G σc om.1 f k n [(4, .int (nI (6 * t))), (3, .ref qo), (2, .ref (b 0)), (1, .ref (a 0)), (0, .ref b0)] 1983 []) : G σc om.1 f k n ((6, .long om.2) :: (5, .int r) :: [(4, .int (nI (6 * t))), (3, .ref qo), (2, .ref (b 0)), (1, .ref (a 0)), (0, .ref b0)]) 1953 [] := by
  refine l_aload_n M dt_L_law_78.2.2.2.2 rfl 4 rfl ?_
  refine l_callM M [] (rest := []) (fun A hD => m_X12_thrown hD om.1) rfl xm_t_1 xm_ini xm_t_2 xm_t_3 xm_t_4 xm_t_5 (Nat.le_of_ble_eq_true rfl) (Nat.le_of_ble_eq_true rfl) hk9 hn9 rfl (Nat.le_of_ble_eq_true rfl) dt_L_law_79.1.1.1.1 ?_
  show G σc om.1 f k n ((6, .long om.2) :: (5, .int r) :: [(4, .int (nI (6 * t))), (3, .ref qo), (2, .ref (b 0)), (1, .ref (a 0)), (0, .ref b0)]) 1957 [.int (f_X12_thrown om.1)]
  refine l_iload M dt_L_law_79.1.1.1.2 1 rfl ?_
  refine l_icmp_eq (tgt := 1964) M dt_L_law_79.1.1.2.1 (by decide) (fun _ => ?_) (fun q => absurd hthr q)
  have hend : G σc om.1 f k n ((6, .long om.2) :: (5, .int r) :: [(4, .int (nI (6 * t))), (3, .ref qo), (2, .ref (b 0)), (1, .ref (a 0)), (0, .ref b0)]) 1980 [] := by
    refine l_goto (tgt := 1983) M dt_L_law_79.2.2.2.2 (by decide) ?_
    exact l_sub M [2, 3, 4, 5, 6] rfl kk
  refine l_iload M dt_L_law_79.1.2.1.2 1 rfl ?_
  refine l_if_ne (tgt := 1980) M dt_L_law_79.1.2.2.1 (by decide) (fun _ => hend) (fun q => ?_)
  refine l_aload_n M dt_L_law_79.1.2.2.2 rfl 3 rfl ?_
  refine l_iconst M dt_L_law_79.2.1.1.1 ki_0 ?_
  refine l_lald M dt_L_law_79.2.1.1.2 ?_
  refine l_lload M dt_L_law_79.2.1.2.1 0 rfl ?_
  exact l_lcmp_eq (tgt := 1980) M dt_L_law_79.2.1.2.2 dt_L_law_79.2.2.1.1 (by decide) (fun _ => hend) (fun z => absurd (hr q) z)
set_option maxHeartbeats 4000000 in
theorem lx_row {Rel : Zst → Zst → Prop} (Hp : lp_row Rel) (M : lM l D a b qo cy ad b0 L xs G) (ht : 6 * t + 5 < L) (hL : L ≤ 3072) (kk : l_Ny L b0 qo a b Rel G t 1983) : l_Nx L b0 qo a b Rel G t 1928 := by
  intro σc σm f k n hR hk hn
  obtain ⟨om, h1, h2, h3⟩ := Hp σc σm hR (xs (Int32.toNatClampNeg (nI (6 * t) + (1 : Int32))))
  have rest : ∀ (r : Int32) (f' : Nat → Int64), f_X12_thrown om.1 = r → (r = 0 → f' 0 = om.2) → G σc σm f' (k + 1) (n + 6) [(4, .int (nI (6 * t))), (3, .ref qo), (2, .ref (b 0)), (1, .ref (a 0)), (0, .ref b0)] 1939 [.int r] := fun r f' e1 e2 => by
    refine l_istore (lv' := (5, .int r) :: [(4, .int (nI (6 * t))), (3, .ref qo), (2, .ref (b 0)), (1, .ref (a 0)), (0, .ref b0)]) M dt_L_law_78.1.2.2.1 (by decide) rfl ?_
    refine l_aload_n M dt_L_law_78.1.2.2.2 rfl 3 rfl ?_
    refine l_aload_n M dt_L_law_78.2.1.1.1 rfl 5 rfl ?_
    refine l_iload M dt_L_law_78.2.1.1.2 1 rfl ?_
    refine l_iconst M dt_L_law_78.2.1.2.1 ki_1 ?_
    refine l_iadd M dt_L_law_78.2.1.2.2 ?_
    refine l_sld M (l_in1 ht hL) dt_L_law_78.2.2.1.1 ?_
    refine l_callM M [.int (xs (Int32.toNatClampNeg (nI (6 * t) + (1 : Int32))))] (rest := []) (fun A hD => m_X12_row hD h1) rfl xm_row_1 xm_ini xm_row_2 xm_row_3 xm_row_4 xm_row_5 (Nat.le_of_ble_eq_true rfl) (Nat.le_of_ble_eq_true rfl) (by omega) (by omega) rfl (Nat.le_of_ble_eq_true rfl) dt_L_law_78.2.2.1.2 ?_
    show G σc om.1 f' (k + 1) (n + 6) ((5, .int r) :: [(4, .int (nI (6 * t))), (3, .ref qo), (2, .ref (b 0)), (1, .ref (a 0)), (0, .ref b0)]) 1951 [.long om.2]
    refine l_lstore (lv' := (6, .long om.2) :: (5, .int r) :: [(4, .int (nI (6 * t))), (3, .ref qo), (2, .ref (b 0)), (1, .ref (a 0)), (0, .ref b0)]) M dt_L_law_78.2.2.2.1 (by decide) rfl ?_
    exact lx_row_tail M (by omega) (by omega) e1 e2 (kk σc om.1 f' (k + 1) (n + 6) h2 (by omega) (by omega))
  refine l_aload_n M dt_L_law_77.2.2.2.1 rfl 3 rfl ?_
  refine l_aload_n M dt_L_law_77.2.2.2.2 rfl 4 rfl ?_
  refine l_iload M dt_L_law_78.1.1.1.1 0 rfl ?_
  refine l_iconst M dt_L_law_78.1.1.1.2 ki_1 ?_
  refine l_iadd M dt_L_law_78.1.1.2.1 ?_
  refine l_sld M (l_in1 ht hL) dt_L_law_78.1.1.2.2 ?_
  refine l_aload_n M dt_L_law_78.1.2.1.1 rfl 1 rfl ?_
  rcases h3 with ⟨c1, c2⟩ | ⟨c1, c2, c3⟩
  · exact l_callX M (r := 1) (f' := f) (rest := []) (fun A hD => xt_row (lM_nt M) hD c1) xw_row_11 xw_ini xw_row_10 xw_row_12 xhL_row (by omega) (by omega) (Nat.le_of_ble_eq_true rfl) dt_L_law_78.1.2.1.2 (rest 1 f c2 (fun q => absurd q (by decide)))
  · exact l_callX M (r := 0) (f' := vp_updL f 0 om.2) (rest := []) (fun A hD => xr_row hD (by rw [c1]; decide) c3) xw_row_11 xw_ini xw_row_10 xw_row_12 xhL_row (by omega) (by omega) (Nat.le_of_ble_eq_true rfl) dt_L_law_78.1.2.1.2 (rest 0 (vp_updL f 0 om.2) c2 (fun _ => rfl))
set_option maxHeartbeats 4000000 in
set_option maxRecDepth 100000 in
theorem l_loop2 {Rel : Zst → Zst → Prop} (HA : lp_All Rel) (M : lM l D a b qo cy ad b0 L xs G) (hL : L ≤ 3072) :
    ∀ r t : Nat, t + r = 513 → l_Nx L b0 qo a b Rel G t 23 := by
  obtain ⟨h_again, h_alike, h_bounds, h_count, h_does, h_end, h_feasts, h_get, h_goes, h_holds, h_keep, h_lack, h_law, h_line, h_live, h_mixed, h_moved, h_nearest, h_need, h_off, h_others, h_paper, h_parts, h_put, h_right, h_seed, h_sheet, h_sign, h_slope, h_sort, h_story, h_stray, h_street, h_sum, h_three, h_told, h_truly, h_twice, h_was, h_waste, h_weeks, h_worst, h_worth, h_year, h_leans, h_row⟩ := HA
  intro r
  induction r with
  | zero =>
    intro t h σc σm f k n hR hk hn
    refine l_iload M dt_L_law_0.2.2.1.2 0 rfl ?_
    refine l_aload_n M dt_L_law_0.2.2.2.1 rfl 4 rfl ?_
    refine l_slen M dt_L_law_0.2.2.2.2 ?_
    refine l_bipush M dt_L_law_1.1.1.1.1 kb_6 ?_
    refine l_isub M dt_L_law_1.1.1.1.2 ?_
    refine l_icmp_gt (tgt := 1989) M dt_L_law_1.1.1.2.1 (by decide) (fun hc => ?_) (fun hc => ?_)
    · refine l_iconst M dt_L_law_80.2.1 ki_1 ?_
      exact l_ret M (by omega) (by omega) dt_L_law_80.2.2
    · exact absurd ((l_gt hL (by omega)).mpr (by omega)) hc
  | succ r ih =>
    intro t h σc σm f k n hR hk hn
    refine l_iload M dt_L_law_0.2.2.1.2 0 rfl ?_
    refine l_aload_n M dt_L_law_0.2.2.2.1 rfl 4 rfl ?_
    refine l_slen M dt_L_law_0.2.2.2.2 ?_
    refine l_bipush M dt_L_law_1.1.1.1.1 kb_6 ?_
    refine l_isub M dt_L_law_1.1.1.1.2 ?_
    refine l_icmp_gt (tgt := 1989) M dt_L_law_1.1.1.2.1 (by decide) (fun hc => ?_) (fun hc => ?_)
    · refine l_iconst M dt_L_law_80.2.1 ki_1 ?_
      exact l_ret M (by omega) (by omega) dt_L_law_80.2.2
    · have ht : 6 * t + 5 < L := Decidable.of_not_not (fun q => hc ((l_gt hL (by omega)).mpr q))
      refine l_aload_n M dt_L_law_1.1.1.2.2 rfl 4 rfl ?_
      refine l_iload M dt_L_law_1.1.2.1.1 0 rfl ?_
      refine l_sld M (l_in0 ht hL) dt_L_law_1.1.2.1.2 ?_
      refine l_bipush M dt_L_law_1.1.2.2.1 kb_63 ?_
      refine l_iand M dt_L_law_1.1.2.2.2 ?_
      have HY : l_Ny L b0 qo a b Rel G t 1983 := by
        intro σc σm f k n hR hk hn
        refine l_iinc (v := nI (6 * (t + 1))) (lv' := [(4, .int (nI (6 * (t + 1)))), (3, .ref qo), (2, .ref (b 0)), (1, .ref (a 0)), (0, .ref b0)]) M dt_L_law_80.1.1 (t := 0) rfl (by rw [show Int32.ofInt 6 = nI 6 from rfl, nI_add]; rfl) (by decide) rfl ?_
        refine l_goto (tgt := 23) M dt_L_law_80.1.2 (by decide) ?_
        exact ih (t + 1) (by omega) σc σm f k n hR (by omega) (by omega)
      have HD : l_Nx L b0 qo a b Rel G t 1983 := fun σc σm f k n hR hk hn => HY σc σm f k n hR (by omega) (by omega)
      exact l_switch M (ls_sort h_sort M ht hL HD) (ls_goes h_goes M ht hL HD) (ls_street h_street M ht hL HD) (ls_lack h_lack M ht hL HD) (ls_put h_put M ht hL HD) (ls_get h_get M ht hL HD) (ls_sheet h_sheet M ht hL HD) (ls_sign h_sign M ht hL HD) (ls_end h_end M ht hL HD) (ls_law h_law M ht hL HD) (ls_live h_live M ht hL HD) (ls_seed h_seed M ht hL HD) (ls_sum h_sum M ht hL HD) (ls_bounds h_bounds M ht hL HD) (ls_line h_line M ht hL HD) (ls_off h_off M ht hL HD) (ls_nearest h_nearest M ht hL HD) (ls_worst h_worst M ht hL HD) (ls_right h_right M ht hL HD) (ls_three h_three M ht hL HD) (ls_slope h_slope M ht hL HD) (ls_others h_others M ht hL HD) (ls_worth h_worth M ht hL HD) (ls_waste h_waste M ht hL HD) (ls_story h_story M ht hL HD) (ls_holds h_holds M ht hL HD) (ls_parts h_parts M ht hL HD) (ls_twice h_twice M ht hL HD) (ls_alike h_alike M ht hL HD) (ls_mixed h_mixed M ht hL HD) (lx_leans h_leans M ht hL HY) (ls_truly h_truly M ht hL HD) (ls_moved h_moved M ht hL HD) (ls_feasts h_feasts M ht hL HD) (ls_need h_need M ht hL HD) (ls_weeks h_weeks M ht hL HD) (ls_paper h_paper M ht hL HD) (ls_year h_year M ht hL HD) (ls_stray h_stray M ht hL HD) (ls_was h_was M ht hL HD) (ls_told h_told M ht hL HD) (ls_does h_does M ht hL HD) (ls_keep h_keep M ht hL HD) (ls_again h_again M ht hL HD) (ls_count h_count M ht hL HD) (lx_row h_row M ht hL HY) HD hR hk hn
end LX
