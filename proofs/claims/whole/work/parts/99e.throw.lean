/-! leans and row of the class: they return, or throw; the law's helpers catch -/
abbrev xN : String := "java/util/NoSuchElementException"
abbrev xNs : List String := ["java/lang/RuntimeException", "java/lang/Exception"]
theorem xu {w : Cond} (h : decide (w ∈ uw) = true) : w ∈ uw := of_decide_eq_true h
theorem x_atg : ∀ w ∈ (vx_at0 RX11 208 xN xNs).filter goodWord, w ∈ uw := fun w hw => of_decide_eq_true (List.all_eq_true.mp (show ((vx_at0 RX11 208 xN xNs).filter goodWord).all (fun w => decide (w ∈ uw)) = true by decide +kernel) w hw)
theorem x_atb : ∀ w ∈ (vx_at0 RX11 208 xN xNs).filter (fun w => !goodWord w), w ∈ Cond.castable xN xN :: zNw := fun w hw => of_decide_eq_true (List.all_eq_true.mp (show ((vx_at0 RX11 208 xN xNs).filter (fun w => !goodWord w)).all (fun w => decide (w ∈ Cond.castable xN xN :: zNw)) = true by decide +kernel) w hw)
theorem x_gd : ∀ w ∈ Cond.classLink RX11 206 xN :: Cond.initialized xN :: vx_at0 RX11 208 xN xNs, vx_ot w = true := fun w hw => List.all_eq_true.mp (show (Cond.classLink RX11 206 xN :: Cond.initialized xN :: vx_at0 RX11 208 xN xNs).all vx_ot = true by decide +kernel) w hw
theorem x_cl : Cond.classLink RX11 206 xN ∈ uw := xu (by decide +kernel)
theorem x_in : Cond.initialized xN ∈ uw := xu (by decide +kernel)
theorem x_fit : Bundle.fit xN = true := by decide +kernel
theorem x_fits : ∀ n ∈ xNs, Bundle.fit n = true := by decide +kernel
theorem x_nw {w : Cond} {args : Array Value} {s : State} (h : ∀ w ∈ zNw, va_Nw w s) (hw : w ∈ zNw) : w.before args s = true := by
  have h1 := h w hw
  have h2 := (List.mem_filter.mp hw).2
  cases w <;> first | exact va_Nw.use rfl h1 | cases h2
/-- what holds around a call that may throw -/
def xE (D : va_G) (cy : ClassId × (ClassId × (ClassId × ClassId))) (A : Nat → Prop) (ad : (Nat → Nat) × (Nat → Nat)) (U : State) (H : Heap) : Prop := zE D zcl (zty cy) A ad U H ∧ va_Nw (.castable xN xN) U ∧ vx_Zq Bundle.tN "UNASSIGNED_STACK" Bundle.steD A U H ∧ vx_Zq Bundle.tN "SUPPRESSED_SENTINEL" Bundle.listD A U H
theorem xE_call {D : va_G} {cy : ClassId × (ClassId × (ClassId × ClassId))} {A : Nat → Prop} {ad : (Nat → Nat) × (Nat → Nat)} {s U : State} {H : Heap} {locs : List Loc} (hW : s.WarmedH U.vm) (hU : U.heap = H) (hS : va_S A s.heap H locs) (h : xE D cy A ad s s.heap) : xE D cy A ad U U.heap := by
  obtain ⟨h1, h2, h3, h4⟩ := h
  have hq : ∀ a : Nat, a < s.heap.size → ¬ A a → U.heap[a]? = s.heap[a]? := fun a ha hA => by rw [hU]; exact hS.2.1 a ha hA
  exact ⟨zE_call hW hU hS h1, va_Nw.warmC hW h2, vx_Zq.moved hW.alike (h3.kept hq), vx_Zq.moved hW.alike (h4.kept hq)⟩
theorem xE_blind {D : va_G} {cy : ClassId × (ClassId × (ClassId × ClassId))} {A : Nat → Prop} {ad : (Nat → Nat) × (Nat → Nat)} {U : State} (g : JFrame) (mk : MethodId) (a : Array Value) (h : xE D cy A ad U U.heap) : xE D cy A ad (U.calling g mk a) (U.calling g mk a).heap := by
  obtain ⟨h1, h2, h3, h4⟩ := h
  exact ⟨zE_blind g mk a h1, va_Nw.same (u := U) (U := U.calling g mk a) rfl rfl h2, vx_Zq.moved (u := U) (U := U.calling g mk a) (Vm.Alike.refl U.vm) h3, vx_Zq.moved (u := U) (U := U.calling g mk a) (Vm.Alike.refl U.vm) h4⟩
theorem xE_narrow {D : va_G} {cy : ClassId × (ClassId × (ClassId × ClassId))} {A B : Nat → Prop} {ad : (Nat → Nat) × (Nat → Nat)} {U : State} {H : Heap} (h : xE D cy A ad U H) (hAB : ∀ q, B q → A q) : xE D cy B ad U H := ⟨zE_narrow h.1 hAB, h.2.1, h.2.2.1.narrow hAB, h.2.2.2.narrow hAB⟩
theorem x_blind {D : va_G} {cy : ClassId × (ClassId × (ClassId × ClassId))} {A : Nat → Prop} {ad : (Nat → Nat) × (Nat → Nat)} {av : List Value} {ws : va_W} : FrameBlind (va_Pc av (fun U => va_P D zcl ws U.heap ∧ xE D cy A ad U U.heap)) := fun a U g mk q => ⟨q.1, q.2.1, xE_blind g mk a q.2.2⟩
/-- the throw's room, the helper's -/
abbrev xR : Room := { frames := 8, cells := 1, slots := 6, locals := 640 }
abbrev xL : Room := { frames := 10, cells := 1, slots := 6, locals := 900 }
/-- the class' world and the row of the law -/
def xW (a : Nat → Nat) (cy : ClassId × (ClassId × (ClassId × ClassId))) (qo : Nat) (σ : Zst) (f : Nat → Int64) : va_W := cW a cy σ ++ [(qo, .inl (cy.2.1, 1, .inr (.inl f)))]
theorem xW_len (a : Nat → Nat) (cy : ClassId × (ClassId × (ClassId × ClassId))) (qo : Nat) (σ : Zst) (f : Nat → Int64) : (xW a cy qo σ f)[(cW a cy σ).length]? = some (qo, .inl (cy.2.1, 1, .inr (.inl f))) := by
  unfold xW
  rw [List.getElem?_append_right (Nat.le_refl _), Nat.sub_self]
  rfl
section XR
variable {l : Launch} {D : va_G} {A : Nat → Prop} {ad : (Nat → Nat) × (Nat → Nat)} {a : Nat → Nat} {cy : ClassId × (ClassId × (ClassId × ClassId))} {σ0 : Zst} {p0 : Int32}
theorem xd_leans_0 : decode cX11_leans 0 = .ok (.aload_n 0, 1) := by decide +kernel
theorem xd_leans_1 : decode cX11_leans 1 = .ok (.getfield 44, 3) := by decide +kernel
theorem xd_leans_4 : decode cX11_leans 4 = .ok (.iload_n 1, 1) := by decide +kernel
theorem xd_leans_5 : decode cX11_leans 5 = .ok (.invokevirtual 203, 3) := by decide +kernel
theorem xd_leans_8 : decode cX11_leans 8 = .ok (.ifCond .ne 11, 3) := by decide +kernel
theorem xd_leans_11 : decode cX11_leans 11 = .ok (.new 206, 3) := by decide +kernel
theorem xd_leans_14 : decode cX11_leans 14 = .ok (.dup, 1) := by decide +kernel
theorem xd_leans_15 : decode cX11_leans 15 = .ok (.invokespecial 208, 3) := by decide +kernel
theorem xd_leans_18 : decode cX11_leans 18 = .ok (.athrow, 1) := by decide +kernel
theorem xd_leans_19 : decode cX11_leans 19 = .ok (.aload_n 0, 1) := by decide +kernel
theorem xd_leans_20 : decode cX11_leans 20 = .ok (.getfield 67, 3) := by decide +kernel
theorem xd_leans_23 : decode cX11_leans 23 = .ok (.iload_n 1, 1) := by decide +kernel
theorem xd_leans_24 : decode cX11_leans 24 = .ok (.invokevirtual 209, 3) := by decide +kernel
theorem xd_leans_27 : decode cX11_leans 27 = .ok (.ireturn, 1) := by decide +kernel
theorem xl_leans_0 : decode cL_leans 0 = .ok (.aload_n 2, 1) := by decide +kernel
theorem xl_leans_1 : decode cL_leans 1 = .ok (.iconst 0, 1) := by decide +kernel
theorem xl_leans_2 : decode cL_leans 2 = .ok (.aload_n 0, 1) := by decide +kernel
theorem xl_leans_3 : decode cL_leans 3 = .ok (.iload_n 1, 1) := by decide +kernel
theorem xl_leans_4 : decode cL_leans 4 = .ok (.invokevirtual 7, 3) := by decide +kernel
theorem xl_leans_7 : decode cL_leans 7 = .ok (.i2l, 1) := by decide +kernel
theorem xl_leans_8 : decode cL_leans 8 = .ok (.lastore, 1) := by decide +kernel
theorem xl_leans_9 : decode cL_leans 9 = .ok (.goto 6, 3) := by decide +kernel
theorem xl_leans_12 : decode cL_leans 12 = .ok (.astore_n 3, 1) := by decide +kernel
theorem xl_leans_13 : decode cL_leans 13 = .ok (.iconst 1, 1) := by decide +kernel
theorem xl_leans_14 : decode cL_leans 14 = .ok (.ireturn, 1) := by decide +kernel
theorem xl_leans_15 : decode cL_leans 15 = .ok (.iconst 0, 1) := by decide +kernel
theorem xl_leans_16 : decode cL_leans 16 = .ok (.ireturn, 1) := by decide +kernel
theorem xw_leans_1 : Cond.methodLink RX11 203 yX10_hasSort ∈ uw := xu (by decide +kernel)
theorem xw_leans_2 : Cond.methodLink RX11 209 yX7_oftener ∈ uw := xu (by decide +kernel)
theorem xw_leans_3 : Cond.instanceMethod yX7_oftener ∈ uw := xu (by decide +kernel)
theorem xw_leans_4 : Cond.selects RX7 yX7_oftener yX7_oftener ∈ uw := xu (by decide +kernel)
theorem xw_leans_5 : Cond.initialized RX7 ∈ uw := xu (by decide +kernel)
theorem xw_leans_6 : Cond.code yX11_leans cX11_leans 2 (some .int) ∈ uw := xu (by decide +kernel)
theorem xw_leans_7 : Cond.methodLink RL 7 yX11_leans ∈ uw := xu (by decide +kernel)
theorem xw_leans_8 : Cond.instanceMethod yX11_leans ∈ uw := xu (by decide +kernel)
theorem xw_leans_9 : Cond.selects RX11 yX11_leans yX11_leans ∈ uw := xu (by decide +kernel)
theorem xw_leans_10 : Cond.codeWith yL_leans cL_leans 4 (some .int) [(0, 9, 12, 13)] ∈ uw := xu (by decide +kernel)
theorem xw_leans_11 : Cond.methodLink RL 151 yL_leans ∈ uw := xu (by decide +kernel)
theorem xw_leans_12 : Cond.static yL_leans ∈ uw := xu (by decide +kernel)
theorem xh_leans : yX11_leans.cls ≠ "java/lang/invoke/MethodHandle" ∧ yX11_leans.cls ≠ "java/lang/invoke/VarHandle" ∧ (parseMethodDescriptor yX11_leans.desc).map (fun d => d.parameters.length) = some 1 := by decide +kernel
theorem xhL_leans : yL_leans.cls ≠ "java/lang/invoke/MethodHandle" ∧ yL_leans.cls ≠ "java/lang/invoke/VarHandle" ∧ (parseMethodDescriptor yL_leans.desc).map (fun d => d.parameters.length) = some 3 := by decide +kernel
theorem xw_ini : Cond.initialized RL ∈ uw := xu (by decide +kernel)
theorem xw_clL : Cond.classLink RL 13 xN ∈ uw := xu (by decide +kernel)
theorem xw_x11 : Cond.initialized RX11 ∈ uw := xu (by decide +kernel)
theorem xpn_L : plainName RL = true := by decide +kernel
set_option maxHeartbeats 4000000 in
set_option maxRecDepth 100000 in
/-- leans of the class returns -/
theorem mr_leans (hD : ∀ σ, va_D A (cW a cy σ)) {o : Int32} (h1 : ¬ f_X10_hasSort σ0 p0 = 0) (h : f_X7_oftener σ0 p0 = some o) : zT l D zcl (zty cy) A ad (cW a cy) yX11_leans cX11_leans 2 (some .int) 6 [.ref (a 0), .int p0] σ0 σ0 (some (.int o)) := by
  refine z_met pn_X11 hD (Nat.le_of_ble_eq_true rfl) rfl (fun G M => ?_)
  refine z_aload_n M xd_leans_0 rfl 0 rfl ?_
  refine gf_X11_town M u434 xd_leans_1 ?_
  refine z_iload_n M xd_leans_4 rfl 1 rfl ?_
  refine z_callV M [.int p0] (rest := []) (m_X10_hasSort hD σ0 p0) (hC17 σ0) rfl xw_leans_1 u93 u483 u481 u482 hd_X10_hasSort (Nat.le_of_ble_eq_true rfl) (Nat.le_of_ble_eq_true rfl) rfl (Nat.le_of_ble_eq_true rfl) xd_leans_5 ?_
  refine z_if_ne (tgt := 19) M xd_leans_8 (by decide) (fun _ => ?_) (fun q => absurd q h1)
  refine z_aload_n M xd_leans_19 rfl 0 rfl ?_
  refine gf_X11_sorters M u437 xd_leans_20 ?_
  refine z_iload_n M xd_leans_23 rfl 1 rfl ?_
  refine z_callV M [.int p0] (rest := []) (m_X7_oftener hD h) (hC36 σ0) rfl xw_leans_2 xw_leans_5 u1491 xw_leans_3 xw_leans_4 hd_X7_oftener (Nat.le_of_ble_eq_true rfl) (Nat.le_of_ble_eq_true rfl) rfl (Nat.le_of_ble_eq_true rfl) xd_leans_24 ?_
  exact z_iret M xd_leans_27
set_option maxHeartbeats 4000000 in
set_option maxRecDepth 100000 in
/-- leans of the class throws -/
theorem mt_leans (hl9 : l.stackTraces = false) (hD : ∀ σ, va_D A (cW a cy σ)) (h0 : f_X10_hasSort σ0 p0 = 0) : vx_Met l yX11_leans (Cond.code yX11_leans cX11_leans 2 (some .int) :: uw) xR (va_Pc [.ref (a 0), .int p0] (fun U => va_P D zcl (cW a cy σ0) U.heap ∧ xE D cy A ad U U.heap)) (va_Qi (S := Unit) (fun _ _ => False) (fun _ _ => True) A) (vx_X (S := Unit) (fun _ => True) (fun E _ t => E = xN ∧ va_P D zcl (cW a cy σ0) t.heap) A) 1 6 A := by
  refine vx_ofW (cc := cX11_leans) (maxL := 2) (ret := some .int) pn_X11 rfl ?_
  intro p e s m args below meth c s₁ B hml ht hv
  obtain ⟨rfl, hP, hE, hcs, hU, hN⟩ := hv
  have hts0 := atoms_spec (ws := Cond.code yX11_leans cX11_leans 2 (some .int) :: uw) B.pre
  have hts : ∀ w ∈ uw, w.before _ s = true := fun w hw => hts0 w (List.mem_cons_of_mem _ hw)
  have hx := B.exec
  have hb := B.bytes
  have hown : s.vm.findClass RX11 = some m.cls := findClass_of_methodNamed B.named
  have hlk := B.notSynchronized
  have hl := lv_entry [.ref (a 0), .int p0] (n := 2) (Nat.le_of_ble_eq_true rfl)
  rw [lg_entry_eq]
  generalize (lg_sl [.ref (a 0), .int p0] ++ List.replicate (2 - (lg_sl [.ref (a 0), .int p0]).length) Slot.unset).toArray = ls at hl ⊢
  have hl : lv_has ls 2 [(0, .ref (a 0)), (1, .int p0)] := hl
  have hK := hE.1
  refine lv_aload_n hx hb xd_leans_0 rfl (lv_at hl 0 rfl) ?_
  refine va_get hx hb hts inX11 hown hK hP 0 (hC0 σ0) rfl 4 (by decide) (hts _ u434) (fun _ h9 => h9) rfl xd_leans_1 ?_
  refine lv_iload_n hx hb xd_leans_4 rfl (lv_at hl 1 rfl) ?_
  refine z_run (nL := 2) (lv := [(0, .ref (a 0)), (1, .int p0)]) (rest := []) (va_runV (As := [.int p0]) (n := 1) ⟨hx, hb, hml, hown, hts⟩ (m_X10_hasSort (ad := ad) hD σ0 p0) ⟨callB_of 1 hts (fun w hw => ⟨(uw_good u483 w hw).1, (uw_good u483 w hw).2⟩) rfl rfl rfl (hts _ u93) (hts _ xw_leans_1) hd_X10_hasSort ⟨Nat.le_of_ble_eq_true rfl, Nat.le_of_ble_eq_true rfl⟩, hts _ u481, hts _ u482⟩ ⟨z_blind, va_recv hK hP rfl (hC17 σ0), fun U hU hW => ⟨rfl, by rw [hU]; exact hP, zE_call hW hU va_S.rf hE⟩⟩ rfl rfl hl.1 rfl (lv_room (Nat.le_of_ble_eq_true rfl)) xd_leans_5 ⟨Nat.le_of_ble_eq_true rfl, Nat.le_of_ble_eq_true rfl⟩) va_S.rf hl ?_
  intro H1 locs1 ls1 hP1 hS1 hl1
  refine lv_if_ne hx hb (tgt := 19) xd_leans_8 (by decide) (fun q => absurd h0 q) (fun _ => ?_)
  refine vx_throw0 (own := RX11) (cls := xN) (names := xNs) (ik := 206) (ic := 208) hx hb hl9 hown x_fit x_fits (hts _ x_cl) (hts _ x_in) (vx_hat (fun w hw => hts _ (x_atg w hw)) x_atb (fun w hw => (List.mem_cons.mp hw).elim (fun e => by rw [e]; exact va_Nw.use rfl hcs) (fun h => x_nw hE.2.1 h))) x_gd hU hN hS1 (hl1.1.trans hml.symm) xd_leans_11 xd_leans_14 xd_leans_15 xd_leans_18 (fun x hx9 => (ht x hx9).elim) (Nat.le_of_ble_eq_true rfl) (Nat.le_of_ble_eq_true rfl) (Nat.le_of_ble_eq_true rfl) (Nat.le_of_ble_eq_true rfl) hlk (fun t hA hsz hk => ⟨(), trivial, ⟨rfl, va_P.kept hP1 (fun i z hz => hk z.1 ((hP1 i z hz).lt))⟩, ⟨Nat.le_trans hS1.1 hsz, fun q h1 h2 => (hk q (Nat.lt_of_lt_of_le h1 hS1.1)).trans (hS1.2.1 q h1 h2)⟩⟩) hS1.2.2 (Nat.le_refl _) (Nat.le_refl _)
theorem xd_row_0 : decode cX11_row 0 = .ok (.aload_n 0, 1) := by decide +kernel
theorem xd_row_1 : decode cX11_row 1 = .ok (.getfield 12, 3) := by decide +kernel
theorem xd_row_4 : decode cX11_row 4 = .ok (.iload_n 1, 1) := by decide +kernel
theorem xd_row_5 : decode cX11_row 5 = .ok (.invokevirtual 267, 3) := by decide +kernel
theorem xd_row_8 : decode cX11_row 8 = .ok (.ifCond .ne 11, 3) := by decide +kernel
theorem xd_row_11 : decode cX11_row 11 = .ok (.new 206, 3) := by decide +kernel
theorem xd_row_14 : decode cX11_row 14 = .ok (.dup, 1) := by decide +kernel
theorem xd_row_15 : decode cX11_row 15 = .ok (.invokespecial 208, 3) := by decide +kernel
theorem xd_row_18 : decode cX11_row 18 = .ok (.athrow, 1) := by decide +kernel
theorem xd_row_19 : decode cX11_row 19 = .ok (.aload_n 0, 1) := by decide +kernel
theorem xd_row_20 : decode cX11_row 20 = .ok (.getfield 12, 3) := by decide +kernel
theorem xd_row_23 : decode cX11_row 23 = .ok (.iload_n 1, 1) := by decide +kernel
theorem xd_row_24 : decode cX11_row 24 = .ok (.invokevirtual 270, 3) := by decide +kernel
theorem xd_row_27 : decode cX11_row 27 = .ok (.lreturn, 1) := by decide +kernel
theorem xl_row_0 : decode cL_row 0 = .ok (.aload_n 2, 1) := by decide +kernel
theorem xl_row_1 : decode cL_row 1 = .ok (.iconst 0, 1) := by decide +kernel
theorem xl_row_2 : decode cL_row 2 = .ok (.aload_n 0, 1) := by decide +kernel
theorem xl_row_3 : decode cL_row 3 = .ok (.iload_n 1, 1) := by decide +kernel
theorem xl_row_4 : decode cL_row 4 = .ok (.invokevirtual 15, 3) := by decide +kernel
theorem xl_row_7 : decode cL_row 7 = .ok (.lastore, 1) := by decide +kernel
theorem xl_row_8 : decode cL_row 8 = .ok (.goto 6, 3) := by decide +kernel
theorem xl_row_11 : decode cL_row 11 = .ok (.astore_n 3, 1) := by decide +kernel
theorem xl_row_12 : decode cL_row 12 = .ok (.iconst 1, 1) := by decide +kernel
theorem xl_row_13 : decode cL_row 13 = .ok (.ireturn, 1) := by decide +kernel
theorem xl_row_14 : decode cL_row 14 = .ok (.iconst 0, 1) := by decide +kernel
theorem xl_row_15 : decode cL_row 15 = .ok (.ireturn, 1) := by decide +kernel
theorem xw_row_1 : Cond.methodLink RX11 267 yX5_has ∈ uw := xu (by decide +kernel)
theorem xw_row_2 : Cond.methodLink RX11 270 yX5_at ∈ uw := xu (by decide +kernel)
theorem xw_row_3 : Cond.instanceMethod yX5_at ∈ uw := xu (by decide +kernel)
theorem xw_row_4 : Cond.selects RX5 yX5_at yX5_at ∈ uw := xu (by decide +kernel)
theorem xw_row_5 : Cond.initialized RX5 ∈ uw := xu (by decide +kernel)
theorem xw_row_6 : Cond.code yX11_row cX11_row 2 (some .long) ∈ uw := xu (by decide +kernel)
theorem xw_row_7 : Cond.methodLink RL 15 yX11_row ∈ uw := xu (by decide +kernel)
theorem xw_row_8 : Cond.instanceMethod yX11_row ∈ uw := xu (by decide +kernel)
theorem xw_row_9 : Cond.selects RX11 yX11_row yX11_row ∈ uw := xu (by decide +kernel)
theorem xw_row_10 : Cond.codeWith yL_row cL_row 4 (some .int) [(0, 8, 11, 13)] ∈ uw := xu (by decide +kernel)
theorem xw_row_11 : Cond.methodLink RL 217 yL_row ∈ uw := xu (by decide +kernel)
theorem xw_row_12 : Cond.static yL_row ∈ uw := xu (by decide +kernel)
theorem xh_row : yX11_row.cls ≠ "java/lang/invoke/MethodHandle" ∧ yX11_row.cls ≠ "java/lang/invoke/VarHandle" ∧ (parseMethodDescriptor yX11_row.desc).map (fun d => d.parameters.length) = some 1 := by decide +kernel
theorem xhL_row : yL_row.cls ≠ "java/lang/invoke/MethodHandle" ∧ yL_row.cls ≠ "java/lang/invoke/VarHandle" ∧ (parseMethodDescriptor yL_row.desc).map (fun d => d.parameters.length) = some 3 := by decide +kernel
set_option maxHeartbeats 4000000 in
set_option maxRecDepth 100000 in
/-- row of the class returns -/
theorem mr_row (hD : ∀ σ, va_D A (cW a cy σ)) {o : Int64} (h1 : ¬ f_X5_has σ0 p0 = 0) (h : f_X5_at σ0 p0 = some o) : zT l D zcl (zty cy) A ad (cW a cy) yX11_row cX11_row 2 (some .long) 6 [.ref (a 0), .int p0] σ0 σ0 (some (.long o)) := by
  refine z_met pn_X11 hD (Nat.le_of_ble_eq_true rfl) rfl (fun G M => ?_)
  refine z_aload_n M xd_row_0 rfl 0 rfl ?_
  refine gf_X11_theRow M u430 xd_row_1 ?_
  refine z_iload_n M xd_row_4 rfl 1 rfl ?_
  refine z_callV M [.int p0] (rest := []) (m_X5_has hD σ0 p0) (hC1 σ0) rfl xw_row_1 u88 u1502 u1500 u1501 hd_X5_has (Nat.le_of_ble_eq_true rfl) (Nat.le_of_ble_eq_true rfl) rfl (Nat.le_of_ble_eq_true rfl) xd_row_5 ?_
  refine z_if_ne (tgt := 19) M xd_row_8 (by decide) (fun _ => ?_) (fun q => absurd q h1)
  refine z_aload_n M xd_row_19 rfl 0 rfl ?_
  refine gf_X11_theRow M u430 xd_row_20 ?_
  refine z_iload_n M xd_row_23 rfl 1 rfl ?_
  refine z_callV M [.int p0] (rest := []) (m_X5_at hD h) (hC1 σ0) rfl xw_row_2 xw_row_5 u1506 xw_row_3 xw_row_4 hd_X5_at (Nat.le_of_ble_eq_true rfl) (Nat.le_of_ble_eq_true rfl) rfl (Nat.le_of_ble_eq_true rfl) xd_row_24 ?_
  exact z_lret M xd_row_27
set_option maxHeartbeats 4000000 in
set_option maxRecDepth 100000 in
/-- row of the class throws -/
theorem mt_row (hl9 : l.stackTraces = false) (hD : ∀ σ, va_D A (cW a cy σ)) (h0 : f_X5_has σ0 p0 = 0) : vx_Met l yX11_row (Cond.code yX11_row cX11_row 2 (some .long) :: uw) xR (va_Pc [.ref (a 0), .int p0] (fun U => va_P D zcl (cW a cy σ0) U.heap ∧ xE D cy A ad U U.heap)) (va_Ql (S := Unit) (fun _ _ => False) (fun _ _ => True) A) (vx_X (S := Unit) (fun _ => True) (fun E _ t => E = xN ∧ va_P D zcl (cW a cy σ0) t.heap) A) 1 6 A := by
  refine vx_ofW (cc := cX11_row) (maxL := 2) (ret := some .long) pn_X11 rfl ?_
  intro p e s m args below meth c s₁ B hml ht hv
  obtain ⟨rfl, hP, hE, hcs, hU, hN⟩ := hv
  have hts0 := atoms_spec (ws := Cond.code yX11_row cX11_row 2 (some .long) :: uw) B.pre
  have hts : ∀ w ∈ uw, w.before _ s = true := fun w hw => hts0 w (List.mem_cons_of_mem _ hw)
  have hx := B.exec
  have hb := B.bytes
  have hown : s.vm.findClass RX11 = some m.cls := findClass_of_methodNamed B.named
  have hlk := B.notSynchronized
  have hl := lv_entry [.ref (a 0), .int p0] (n := 2) (Nat.le_of_ble_eq_true rfl)
  rw [lg_entry_eq]
  generalize (lg_sl [.ref (a 0), .int p0] ++ List.replicate (2 - (lg_sl [.ref (a 0), .int p0]).length) Slot.unset).toArray = ls at hl ⊢
  have hl : lv_has ls 2 [(0, .ref (a 0)), (1, .int p0)] := hl
  have hK := hE.1
  refine lv_aload_n hx hb xd_row_0 rfl (lv_at hl 0 rfl) ?_
  refine va_get hx hb hts inX11 hown hK hP 0 (hC0 σ0) rfl 0 (by decide) (hts _ u430) (fun _ h9 => h9) rfl xd_row_1 ?_
  refine lv_iload_n hx hb xd_row_4 rfl (lv_at hl 1 rfl) ?_
  refine z_run (nL := 2) (lv := [(0, .ref (a 0)), (1, .int p0)]) (rest := []) (va_runV (As := [.int p0]) (n := 1) ⟨hx, hb, hml, hown, hts⟩ (m_X5_has (ad := ad) hD σ0 p0) ⟨callB_of 1 hts (fun w hw => ⟨(uw_good u1502 w hw).1, (uw_good u1502 w hw).2⟩) rfl rfl rfl (hts _ u88) (hts _ xw_row_1) hd_X5_has ⟨Nat.le_of_ble_eq_true rfl, Nat.le_of_ble_eq_true rfl⟩, hts _ u1500, hts _ u1501⟩ ⟨z_blind, va_recv hK hP rfl (hC1 σ0), fun U hU hW => ⟨rfl, by rw [hU]; exact hP, zE_call hW hU va_S.rf hE⟩⟩ rfl rfl hl.1 rfl (lv_room (Nat.le_of_ble_eq_true rfl)) xd_row_5 ⟨Nat.le_of_ble_eq_true rfl, Nat.le_of_ble_eq_true rfl⟩) va_S.rf hl ?_
  intro H1 locs1 ls1 hP1 hS1 hl1
  refine lv_if_ne hx hb (tgt := 19) xd_row_8 (by decide) (fun q => absurd h0 q) (fun _ => ?_)
  refine vx_throw0 (own := RX11) (cls := xN) (names := xNs) (ik := 206) (ic := 208) hx hb hl9 hown x_fit x_fits (hts _ x_cl) (hts _ x_in) (vx_hat (fun w hw => hts _ (x_atg w hw)) x_atb (fun w hw => (List.mem_cons.mp hw).elim (fun e => by rw [e]; exact va_Nw.use rfl hcs) (fun h => x_nw hE.2.1 h))) x_gd hU hN hS1 (hl1.1.trans hml.symm) xd_row_11 xd_row_14 xd_row_15 xd_row_18 (fun x hx9 => (ht x hx9).elim) (Nat.le_of_ble_eq_true rfl) (Nat.le_of_ble_eq_true rfl) (Nat.le_of_ble_eq_true rfl) (Nat.le_of_ble_eq_true rfl) hlk (fun t hA hsz hk => ⟨(), trivial, ⟨rfl, va_P.kept hP1 (fun i z hz => hk z.1 ((hP1 i z hz).lt))⟩, ⟨Nat.le_trans hS1.1 hsz, fun q h1 h2 => (hk q (Nat.lt_of_lt_of_le h1 hS1.1)).trans (hS1.2.1 q h1 h2)⟩⟩) hS1.2.2 (Nat.le_refl _) (Nat.le_refl _)
end XR
