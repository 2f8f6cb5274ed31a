section XH
variable {l : Launch} {D : va_G} {A : Nat → Prop} {ad : (Nat → Nat) × (Nat → Nat)} {a : Nat → Nat} {cy : ClassId × (ClassId × (ClassId × ClassId))} {σ0 : Zst} {p0 : Int32} {qo : Nat} {f : Nat → Int64}
theorem x_run {R : Room} {k n pc : Nat} {A1 A0 : Nat → Prop} {wf : Zst → va_W} {p : Program} {e : Env} {s : State} {m : MethodId} {args : Array Value} {below : List Frame} {meth : Method} {c : Code} {Q : State → Prop} {σ1 : Zst} {ov1 : Option Value} {aa : Array Value} {rest st0 : List Value} {H : Heap} {locs : List Loc} {ls : Array Slot} (hA : ∀ q, A1 q → A0 q)
    (hr : va_Run p l e R s m args below meth c H locs k n 0 0 (F0 m pc ls st0) rest (zQ D zcl wf A1 σ1 ov1 aa) A1) (hS : va_S A0 s.heap H locs)
    (kk : ∀ (H1 : Heap) (locs1 : List Loc), va_P D zcl (wf σ1) H1 → (∀ q : Nat, q < H.size → ¬ A1 q → H1[q]? = H[q]?) → va_S A0 s.heap H1 locs1 → W p l e R s m args below meth c H1 locs1 k n Q (F0 m (pc + 3) ls (ov1.toList ++ rest))) : W p l e R s m args below meth c H locs k n Q (F0 m pc ls st0) := by
  intro T hT X
  obtain ⟨v, st₀, t, T', L, h0, X', hL, e1, e2, ⟨⟨hv, hP1⟩, hz, hk⟩, st⟩ := hr T hT X
  cases hv
  rw [h0] at hz hk
  have hS1 : va_S A0 s.heap T'.heap (locs ++ L) := ⟨Nat.le_trans hS.1 (by rw [e1]; exact hz), fun q h1 h2 => by rw [e1, hk q (Nat.lt_of_lt_of_le h1 hS.1) (fun z => h2 (hA q z))]; exact hS.2.1 q h1 h2, fun q hq => by
      rcases List.mem_append.mp hq with h | h
      · exact hS.2.2 q h
      · exact hA _ (hL q h)⟩
  obtain ⟨t2, a1, b1⟩ := kk T'.heap (locs ++ L) (by rw [e1]; exact hP1) (fun q h1 h2 => by rw [e1]; exact hk q h1 h2) hS1 T' rfl X'
  exact ⟨t2, st t2 a1, b1⟩
theorem x_kept {H H1 : Heap} (hD : ∀ σ f, va_D A (xW a cy qo σ f)) (hP : va_P D zcl (xW a cy qo σ0 f) H) (hP1 : va_P D zcl (cW a cy σ0) H1) (hk : ∀ q : Nat, q < H.size → ¬ lA (cW a cy σ0) q → H1[q]? = H[q]?) : va_P D zcl (xW a cy qo σ0 f) H1 := by
  have hD1 : va_D A (cW a cy σ0 ++ [(qo, (.inl (cy.2.1, 1, .inr (.inl f)) : va_E))]) := hD σ0 f
  have hP0 : va_P D zcl (cW a cy σ0 ++ [(qo, (.inl (cy.2.1, 1, .inr (.inl f)) : va_E))]) H := hP
  exact va_P.app hP1 (va_P.kept (lP_r hP0) (fun i z hz => hk _ ((lP_r hP0 i z hz).lt) (fun ⟨j, e9, hj⟩ => lD_x hD1 hj hz rfl)))
theorem xW_set (x : Int64) : (xW a cy qo σ0 f).set ((cW a cy σ0).length + 0) (qo, .inl (cy.2.1, 1, .inr (.inl (vp_updL f (0 : Int32).toNatClampNeg x)))) = xW a cy qo σ0 (vp_updL f 0 x) := by
  unfold xW
  rw [y_set]
  rfl
theorem xW_at : (xW a cy qo σ0 f)[(cW a cy σ0).length + 0]? = some (qo, .inl (cy.2.1, 1, .inr (.inl f))) := by
  unfold xW
  rw [y_ix]
  rfl
theorem x_in01 : vp_in (0 : Int32) 1 := by
  unfold vp_in
  decide
set_option maxHeartbeats 4000000 in
set_option maxRecDepth 100000 in
/-- the law's helper of leans, where the class throws -/
theorem xt_leans (hl9 : l.stackTraces = false) (hD : ∀ σ f, va_D A (xW a cy qo σ f)) (h0 : f_X10_hasSort σ0 p0 = 0) : vx_Met l yL_leans (Cond.codeWith yL_leans cL_leans 4 (some .int) [(0, 9, 12, 13)] :: uw) xL (va_Pc [.ref (a 0), .int p0, .ref qo] (fun U => va_P D zcl (xW a cy qo σ0 f) U.heap ∧ xE D cy A ad U U.heap)) (va_Qi (S := Unit) (fun r _ => r = 1) (fun _ t => va_P D zcl (xW a cy qo σ0 f) t.heap) A) (vx_X (S := Unit) (fun _ => False) (fun _ _ _ => True) A) 1 6 A := by
  refine vx_ofWH (cc := cL_leans) (maxL := 4) (ret := some .int) (hh := [(0, 9, 12, 13)]) xpn_L rfl ?_
  intro p e s m args below meth c s₁ B hml hv
  obtain ⟨rfl, hP, hE⟩ := hv
  have hts0 := atoms_spec (ws := Cond.codeWith yL_leans cL_leans 4 (some .int) [(0, 9, 12, 13)] :: uw) B.pre
  have hts : ∀ w ∈ uw, w.before _ s = true := fun w hw => hts0 w (List.mem_cons_of_mem _ hw)
  have htab := vx_table (x := yL_leans) B (hts0 _ List.mem_cons_self)
  have hx := B.exec
  have hb := B.bytes
  have hown : s.vm.findClass RL = some m.cls := findClass_of_methodNamed B.named
  have hlk := B.notSynchronized
  have hl := lv_entry [.ref (a 0), .int p0, .ref qo] (n := 4) (Nat.le_of_ble_eq_true rfl)
  rw [lg_entry_eq]
  generalize (lg_sl [.ref (a 0), .int p0, .ref qo] ++ List.replicate (4 - (lg_sl [.ref (a 0), .int p0, .ref qo]).length) Slot.unset).toArray = ls at hl ⊢
  have hl : lv_has ls 4 [(0, .ref (a 0)), (1, .int p0), (2, .ref qo)] := hl
  have hK := hE.1.1
  have hD1 : va_D A (cW a cy σ0 ++ [(qo, (.inl (cy.2.1, 1, .inr (.inl f)) : va_E))]) := hD σ0 f
  have hP0 : va_P D zcl (cW a cy σ0) s.heap := lP_l (Y := [(qo, (.inl (cy.2.1, 1, .inr (.inl f)) : va_E))]) hP
  have hin : ∀ q, lA (cW a cy σ0) q → A q := lA_in (lD_l hD1)
  have hDA : ∀ σ, va_D (lA (cW a cy σ0)) (cW a cy σ) := fun σ => yD_map (cW_fst σ0 σ) (lD_A (lD_l hD1))
  refine lv_aload_n hx hb xl_leans_0 rfl (lv_at hl 2 rfl) ?_
  refine lv_iconst hx hb xl_leans_1 ki_0 ?_
  refine lv_aload_n hx hb xl_leans_2 rfl (lv_at hl 0 rfl) ?_
  refine lv_iload_n hx hb xl_leans_3 rfl (lv_at hl 1 rfl) ?_
  refine vx_calli (vx_runV (As := [.int p0]) (rest := [.int 0, .ref qo]) (n := 1) ⟨hx, hb, hml, hown, hts⟩ (mt_leans (ad := ad) hl9 hDA h0) ⟨callB_of 1 hts (fun w hw => ⟨(uw_good xw_leans_6 w hw).1, (uw_good xw_leans_6 w hw).2⟩) rfl rfl rfl (hts _ xw_x11) (hts _ xw_leans_7) xh_leans ⟨Nat.le_of_ble_eq_true rfl, Nat.le_of_ble_eq_true rfl⟩, hts _ xw_leans_8, hts _ xw_leans_9⟩ ⟨x_blind, va_recv hK hP0 rfl (hC0 σ0), fun U hU hW => ⟨rfl, by rw [hU]; exact hP0, xE_narrow (xE_call hW hU va_S.rf hE) hin⟩⟩ rfl rfl hl.1 rfl (lv_room (Nat.le_of_ble_eq_true rfl)) xl_leans_4 ⟨Nat.le_of_ble_eq_true rfl, Nat.le_of_ble_eq_true rfl⟩) (va_S.rf : va_S A s.heap s.heap []) (fun q _ h => hin q h) hin (fun q _ h => hin q h) (fun E ce q9 u t H1 locs1 ht hAl _ hB hsz hk hS1 hce hcv hcl => ?_) (fun r u t H1 locs1 _ _ hF => hF.elim)
  obtain ⟨rfl, hP1⟩ := hB
  rw [ht] at hP1
  refine vx_catch hown [] ⟨0, 9, 12, 13⟩ [] (by rw [htab]; rfl) (fun z hz => nomatch hz) (by decide) (by decide) (hts _ xw_clL) (va_Nw.use rfl hE.2.1) hce hcv hcl ?_
  refine lv_astore_n hx hb xl_leans_12 rfl hl (by decide) rfl (fun ls' hl' => ?_)
  refine lv_iconst hx hb xl_leans_13 ki_1 ?_
  exact vx_ret (W.iret hx hb B.returns (fun t' ht' hW => ⟨⟨1, (), rfl, rfl, by show va_P D zcl _ t'.heap; rw [ht']; exact x_kept hD hP hP1 hk⟩, hS1.F ht'⟩) hS1.2.2 xl_leans_14 hlk)
set_option maxHeartbeats 4000000 in
set_option maxRecDepth 100000 in
/-- the law's helper of leans, where the class returns -/
theorem xr_leans (hD : ∀ σ f, va_D A (xW a cy qo σ f)) {o : Int32} (h1 : ¬ f_X10_hasSort σ0 p0 = 0) (h : f_X7_oftener σ0 p0 = some o) : vx_Met l yL_leans (Cond.codeWith yL_leans cL_leans 4 (some .int) [(0, 9, 12, 13)] :: uw) xL (va_Pc [.ref (a 0), .int p0, .ref qo] (fun U => va_P D zcl (xW a cy qo σ0 f) U.heap ∧ xE D cy A ad U U.heap)) (va_Qi (S := Unit) (fun r _ => r = 0) (fun _ t => va_P D zcl (xW a cy qo σ0 (vp_updL f 0 o.toInt64)) t.heap) A) (vx_X (S := Unit) (fun _ => False) (fun _ _ _ => True) A) 1 6 A := by
  refine vx_ofWH (cc := cL_leans) (maxL := 4) (ret := some .int) (hh := [(0, 9, 12, 13)]) xpn_L rfl ?_
  intro p e s m args below meth c s₁ B hml hv
  obtain ⟨rfl, hP, hE⟩ := hv
  have hts0 := atoms_spec (ws := Cond.codeWith yL_leans cL_leans 4 (some .int) [(0, 9, 12, 13)] :: uw) B.pre
  have hts : ∀ w ∈ uw, w.before _ s = true := fun w hw => hts0 w (List.mem_cons_of_mem _ hw)
  have htab := vx_table (x := yL_leans) B (hts0 _ List.mem_cons_self)
  have hx := B.exec
  have hb := B.bytes
  have hown : s.vm.findClass RL = some m.cls := findClass_of_methodNamed B.named
  have hlk := B.notSynchronized
  have hl := lv_entry [.ref (a 0), .int p0, .ref qo] (n := 4) (Nat.le_of_ble_eq_true rfl)
  rw [lg_entry_eq]
  generalize (lg_sl [.ref (a 0), .int p0, .ref qo] ++ List.replicate (4 - (lg_sl [.ref (a 0), .int p0, .ref qo]).length) Slot.unset).toArray = ls at hl ⊢
  have hl : lv_has ls 4 [(0, .ref (a 0)), (1, .int p0), (2, .ref qo)] := hl
  have hK := hE.1.1
  have hD1 : va_D A (cW a cy σ0 ++ [(qo, (.inl (cy.2.1, 1, .inr (.inl f)) : va_E))]) := hD σ0 f
  have hP0 : va_P D zcl (cW a cy σ0) s.heap := lP_l (Y := [(qo, (.inl (cy.2.1, 1, .inr (.inl f)) : va_E))]) hP
  have hin : ∀ q, lA (cW a cy σ0) q → A q := lA_in (lD_l hD1)
  have hDA : ∀ σ, va_D (lA (cW a cy σ0)) (cW a cy σ) := fun σ => yD_map (cW_fst σ0 σ) (lD_A (lD_l hD1))
  refine lv_aload_n hx hb xl_leans_0 rfl (lv_at hl 2 rfl) ?_
  refine lv_iconst hx hb xl_leans_1 ki_0 ?_
  refine lv_aload_n hx hb xl_leans_2 rfl (lv_at hl 0 rfl) ?_
  refine lv_iload_n hx hb xl_leans_3 rfl (lv_at hl 1 rfl) ?_
  refine x_run (rest := [.int 0, .ref qo]) hin (va_runV (As := [.int p0]) (n := 1) ⟨hx, hb, hml, hown, hts⟩ (mr_leans (ad := ad) hDA h1 h) ⟨callB_of 1 hts (fun w hw => ⟨(uw_good xw_leans_6 w hw).1, (uw_good xw_leans_6 w hw).2⟩) rfl rfl rfl (hts _ xw_x11) (hts _ xw_leans_7) xh_leans ⟨Nat.le_of_ble_eq_true rfl, Nat.le_of_ble_eq_true rfl⟩, hts _ xw_leans_8, hts _ xw_leans_9⟩ ⟨z_blind, va_recv hK hP0 rfl (hC0 σ0), fun U hU hW => ⟨rfl, by rw [hU]; exact hP0, zE_narrow (zE_call hW hU va_S.rf hE.1) hin⟩⟩ rfl rfl hl.1 rfl (lv_room (Nat.le_of_ble_eq_true rfl)) xl_leans_4 ⟨Nat.le_of_ble_eq_true rfl, Nat.le_of_ble_eq_true rfl⟩) (va_S.rf : va_S A s.heap s.heap []) (fun H1 locs1 hP1 hk hS1 => ?_)
  refine lv_i2l hx hb xl_leans_7 rfl ?_
  refine va_last hx hb hK (x_kept hD hP hP1 hk) hD1 hS1 ((cW a cy σ0).length + 0) 1 xW_at rfl x_in01 xl_leans_8 (fun H2 locs2 hP2 hD2 hS2 => ?_)
  have hP2 : va_P D zcl (xW a cy qo σ0 (vp_updL f 0 o.toInt64)) H2 := by rw [← xW_set]; exact hP2
  refine lv_goto (tgt := 15) hx hb xl_leans_9 (by decide) ?_
  refine lv_iconst hx hb xl_leans_15 ki_0 ?_
  refine W.widen (k := 1) (n := 6) (Nat.le_of_ble_eq_true rfl) (Nat.le_of_ble_eq_true rfl) ?_
  exact vx_ret (W.iret hx hb B.returns (fun t' ht' hW => ⟨⟨0, (), rfl, rfl, by show va_P D zcl _ t'.heap; rw [ht']; exact hP2⟩, hS2.F ht'⟩) hS2.2.2 xl_leans_16 hlk)
set_option maxHeartbeats 4000000 in
set_option maxRecDepth 100000 in
/-- the law's helper of row, where the class throws -/
theorem xt_row (hl9 : l.stackTraces = false) (hD : ∀ σ f, va_D A (xW a cy qo σ f)) (h0 : f_X5_has σ0 p0 = 0) : vx_Met l yL_row (Cond.codeWith yL_row cL_row 4 (some .int) [(0, 8, 11, 13)] :: uw) xL (va_Pc [.ref (a 0), .int p0, .ref qo] (fun U => va_P D zcl (xW a cy qo σ0 f) U.heap ∧ xE D cy A ad U U.heap)) (va_Qi (S := Unit) (fun r _ => r = 1) (fun _ t => va_P D zcl (xW a cy qo σ0 f) t.heap) A) (vx_X (S := Unit) (fun _ => False) (fun _ _ _ => True) A) 1 6 A := by
  refine vx_ofWH (cc := cL_row) (maxL := 4) (ret := some .int) (hh := [(0, 8, 11, 13)]) xpn_L rfl ?_
  intro p e s m args below meth c s₁ B hml hv
  obtain ⟨rfl, hP, hE⟩ := hv
  have hts0 := atoms_spec (ws := Cond.codeWith yL_row cL_row 4 (some .int) [(0, 8, 11, 13)] :: uw) B.pre
  have hts : ∀ w ∈ uw, w.before _ s = true := fun w hw => hts0 w (List.mem_cons_of_mem _ hw)
  have htab := vx_table (x := yL_row) B (hts0 _ List.mem_cons_self)
  have hx := B.exec
  have hb := B.bytes
  have hown : s.vm.findClass RL = some m.cls := findClass_of_methodNamed B.named
  have hlk := B.notSynchronized
  have hl := lv_entry [.ref (a 0), .int p0, .ref qo] (n := 4) (Nat.le_of_ble_eq_true rfl)
  rw [lg_entry_eq]
  generalize (lg_sl [.ref (a 0), .int p0, .ref qo] ++ List.replicate (4 - (lg_sl [.ref (a 0), .int p0, .ref qo]).length) Slot.unset).toArray = ls at hl ⊢
  have hl : lv_has ls 4 [(0, .ref (a 0)), (1, .int p0), (2, .ref qo)] := hl
  have hK := hE.1.1
  have hD1 : va_D A (cW a cy σ0 ++ [(qo, (.inl (cy.2.1, 1, .inr (.inl f)) : va_E))]) := hD σ0 f
  have hP0 : va_P D zcl (cW a cy σ0) s.heap := lP_l (Y := [(qo, (.inl (cy.2.1, 1, .inr (.inl f)) : va_E))]) hP
  have hin : ∀ q, lA (cW a cy σ0) q → A q := lA_in (lD_l hD1)
  have hDA : ∀ σ, va_D (lA (cW a cy σ0)) (cW a cy σ) := fun σ => yD_map (cW_fst σ0 σ) (lD_A (lD_l hD1))
  refine lv_aload_n hx hb xl_row_0 rfl (lv_at hl 2 rfl) ?_
  refine lv_iconst hx hb xl_row_1 ki_0 ?_
  refine lv_aload_n hx hb xl_row_2 rfl (lv_at hl 0 rfl) ?_
  refine lv_iload_n hx hb xl_row_3 rfl (lv_at hl 1 rfl) ?_
  refine vx_calll (vx_runV (As := [.int p0]) (rest := [.int 0, .ref qo]) (n := 1) ⟨hx, hb, hml, hown, hts⟩ (mt_row (ad := ad) hl9 hDA h0) ⟨callB_of 1 hts (fun w hw => ⟨(uw_good xw_row_6 w hw).1, (uw_good xw_row_6 w hw).2⟩) rfl rfl rfl (hts _ xw_x11) (hts _ xw_row_7) xh_row ⟨Nat.le_of_ble_eq_true rfl, Nat.le_of_ble_eq_true rfl⟩, hts _ xw_row_8, hts _ xw_row_9⟩ ⟨x_blind, va_recv hK hP0 rfl (hC0 σ0), fun U hU hW => ⟨rfl, by rw [hU]; exact hP0, xE_narrow (xE_call hW hU va_S.rf hE) hin⟩⟩ rfl rfl hl.1 rfl (lv_room (Nat.le_of_ble_eq_true rfl)) xl_row_4 ⟨Nat.le_of_ble_eq_true rfl, Nat.le_of_ble_eq_true rfl⟩) (va_S.rf : va_S A s.heap s.heap []) (fun q _ h => hin q h) hin (fun q _ h => hin q h) (fun E ce q9 u t H1 locs1 ht hAl _ hB hsz hk hS1 hce hcv hcl => ?_) (fun r u t H1 locs1 _ _ hF => hF.elim)
  obtain ⟨rfl, hP1⟩ := hB
  rw [ht] at hP1
  refine vx_catch hown [] ⟨0, 8, 11, 13⟩ [] (by rw [htab]; rfl) (fun z hz => nomatch hz) (by decide) (by decide) (hts _ xw_clL) (va_Nw.use rfl hE.2.1) hce hcv hcl ?_
  refine lv_astore_n hx hb xl_row_11 rfl hl (by decide) rfl (fun ls' hl' => ?_)
  refine lv_iconst hx hb xl_row_12 ki_1 ?_
  exact vx_ret (W.iret hx hb B.returns (fun t' ht' hW => ⟨⟨1, (), rfl, rfl, by show va_P D zcl _ t'.heap; rw [ht']; exact x_kept hD hP hP1 hk⟩, hS1.F ht'⟩) hS1.2.2 xl_row_13 hlk)
set_option maxHeartbeats 4000000 in
set_option maxRecDepth 100000 in
/-- the law's helper of row, where the class returns -/
theorem xr_row (hD : ∀ σ f, va_D A (xW a cy qo σ f)) {o : Int64} (h1 : ¬ f_X5_has σ0 p0 = 0) (h : f_X5_at σ0 p0 = some o) : vx_Met l yL_row (Cond.codeWith yL_row cL_row 4 (some .int) [(0, 8, 11, 13)] :: uw) xL (va_Pc [.ref (a 0), .int p0, .ref qo] (fun U => va_P D zcl (xW a cy qo σ0 f) U.heap ∧ xE D cy A ad U U.heap)) (va_Qi (S := Unit) (fun r _ => r = 0) (fun _ t => va_P D zcl (xW a cy qo σ0 (vp_updL f 0 o)) t.heap) A) (vx_X (S := Unit) (fun _ => False) (fun _ _ _ => True) A) 1 6 A := by
  refine vx_ofWH (cc := cL_row) (maxL := 4) (ret := some .int) (hh := [(0, 8, 11, 13)]) xpn_L rfl ?_
  intro p e s m args below meth c s₁ B hml hv
  obtain ⟨rfl, hP, hE⟩ := hv
  have hts0 := atoms_spec (ws := Cond.codeWith yL_row cL_row 4 (some .int) [(0, 8, 11, 13)] :: uw) B.pre
  have hts : ∀ w ∈ uw, w.before _ s = true := fun w hw => hts0 w (List.mem_cons_of_mem _ hw)
  have htab := vx_table (x := yL_row) B (hts0 _ List.mem_cons_self)
  have hx := B.exec
  have hb := B.bytes
  have hown : s.vm.findClass RL = some m.cls := findClass_of_methodNamed B.named
  have hlk := B.notSynchronized
  have hl := lv_entry [.ref (a 0), .int p0, .ref qo] (n := 4) (Nat.le_of_ble_eq_true rfl)
  rw [lg_entry_eq]
  generalize (lg_sl [.ref (a 0), .int p0, .ref qo] ++ List.replicate (4 - (lg_sl [.ref (a 0), .int p0, .ref qo]).length) Slot.unset).toArray = ls at hl ⊢
  have hl : lv_has ls 4 [(0, .ref (a 0)), (1, .int p0), (2, .ref qo)] := hl
  have hK := hE.1.1
  have hD1 : va_D A (cW a cy σ0 ++ [(qo, (.inl (cy.2.1, 1, .inr (.inl f)) : va_E))]) := hD σ0 f
  have hP0 : va_P D zcl (cW a cy σ0) s.heap := lP_l (Y := [(qo, (.inl (cy.2.1, 1, .inr (.inl f)) : va_E))]) hP
  have hin : ∀ q, lA (cW a cy σ0) q → A q := lA_in (lD_l hD1)
  have hDA : ∀ σ, va_D (lA (cW a cy σ0)) (cW a cy σ) := fun σ => yD_map (cW_fst σ0 σ) (lD_A (lD_l hD1))
  refine lv_aload_n hx hb xl_row_0 rfl (lv_at hl 2 rfl) ?_
  refine lv_iconst hx hb xl_row_1 ki_0 ?_
  refine lv_aload_n hx hb xl_row_2 rfl (lv_at hl 0 rfl) ?_
  refine lv_iload_n hx hb xl_row_3 rfl (lv_at hl 1 rfl) ?_
  refine x_run (rest := [.int 0, .ref qo]) hin (va_runV (As := [.int p0]) (n := 1) ⟨hx, hb, hml, hown, hts⟩ (mr_row (ad := ad) hDA h1 h) ⟨callB_of 1 hts (fun w hw => ⟨(uw_good xw_row_6 w hw).1, (uw_good xw_row_6 w hw).2⟩) rfl rfl rfl (hts _ xw_x11) (hts _ xw_row_7) xh_row ⟨Nat.le_of_ble_eq_true rfl, Nat.le_of_ble_eq_true rfl⟩, hts _ xw_row_8, hts _ xw_row_9⟩ ⟨z_blind, va_recv hK hP0 rfl (hC0 σ0), fun U hU hW => ⟨rfl, by rw [hU]; exact hP0, zE_narrow (zE_call hW hU va_S.rf hE.1) hin⟩⟩ rfl rfl hl.1 rfl (lv_room (Nat.le_of_ble_eq_true rfl)) xl_row_4 ⟨Nat.le_of_ble_eq_true rfl, Nat.le_of_ble_eq_true rfl⟩) (va_S.rf : va_S A s.heap s.heap []) (fun H1 locs1 hP1 hk hS1 => ?_)
  refine va_last hx hb hK (x_kept hD hP hP1 hk) hD1 hS1 ((cW a cy σ0).length + 0) 1 xW_at rfl x_in01 xl_row_7 (fun H2 locs2 hP2 hD2 hS2 => ?_)
  have hP2 : va_P D zcl (xW a cy qo σ0 (vp_updL f 0 o)) H2 := by rw [← xW_set]; exact hP2
  refine lv_goto (tgt := 14) hx hb xl_row_8 (by decide) ?_
  refine lv_iconst hx hb xl_row_14 ki_0 ?_
  refine W.widen (k := 1) (n := 6) (Nat.le_of_ble_eq_true rfl) (Nat.le_of_ble_eq_true rfl) ?_
  exact vx_ret (W.iret hx hb B.returns (fun t' ht' hW => ⟨⟨0, (), rfl, rfl, by show va_P D zcl _ t'.heap; rw [ht']; exact hP2⟩, hS2.F ht'⟩) hS2.2.2 xl_row_15 hlk)
end XH
