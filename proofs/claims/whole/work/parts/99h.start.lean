/-! the law's start: what the Statement gives, in the words of the walks; the first objects -/
theorem s_selP {C : String} {x y z : MethodName} {args : Array Value} {s : State} (hsel : (Cond.selects C x z).before args s = true) (hz : z.cls = y.cls) (hy : y.cls ≠ "java/lang/invoke/MethodHandle" ∧ y.cls ≠ "java/lang/invoke/VarHandle") (hpriv : (Cond.privateMethod y).before args s = true) (hinst : (Cond.instanceMethod y).before args s = true) : (Cond.selects C y y).before args s = true := by
  obtain ⟨c, r, m, hc, -, hm, -, mk, hmk, hni⟩ := Cond.selects_spec (args := args) (first := s) (o := none) (s := s) (idx := []) hsel
  obtain ⟨my, methM, hnamed, hmethM, -, -⟩ := Cond.instanceMethod_spec hinst
  have hfound : s.methodFound? y.cls y.name y.desc = some my := State.methodFound?_of_named hnamed hy
  have hcls : my.cls = m.cls := Option.some.inj ((findClass_of_methodNamed hnamed).symm.trans (by rw [← hz]; exact findClass_of_methodNamed hm))
  have hs : selectMethod {} s.vm c my = .method my := selectMethod_private hmethM (Cond.privateMethod_at hpriv my methM hnamed hmethM)
  simp only [Cond.before, Cond.holds, Cond.value, hc, hfound, hnamed, hs, hcls, hmk]
  simp; exact hni
theorem s_wp1 : Cond.privateMethod yX1_wrongPlace ∈ lw_tbl := by decide +kernel
theorem s_wp2 : Cond.instanceMethod yX1_wrongPlace ∈ lw_tbl := by decide +kernel
theorem s_wp3 : Cond.selects RX2 ⟨"BinsThatTell$Laws", "write", "(ILBinsThatTell$Text;)I"⟩ yX1_write ∈ lw_tbl := by decide +kernel
theorem s_wp4 : Cond.selects RX8 ⟨"BinsThatTell$Stories", "write", "(ILBinsThatTell$Text;)I"⟩ yX1_write ∈ lw_tbl := by decide +kernel
theorem s_uwX {args : Array Value} {s : State} (htl : ∀ w ∈ lw_tbl, w.before args s = true) : ∀ w ∈ uwX, w.before args s = true := by
  intro w hw
  have h1 : (Cond.selects RX2 yX1_wrongPlace yX1_wrongPlace).before args s = true := s_selP (htl _ s_wp3) rfl (by decide) (htl _ s_wp1) (htl _ s_wp2)
  have h2 : (Cond.selects RX8 yX1_wrongPlace yX1_wrongPlace).before args s = true := s_selP (htl _ s_wp4) rfl (by decide) (htl _ s_wp1) (htl _ s_wp2)
  rcases List.mem_cons.mp hw with e | hw
  · rw [e]; exact h1
  rcases List.mem_cons.mp hw with e | hw
  · rw [e]; exact h2
  · exact absurd hw List.not_mem_nil
theorem s_iX11 : Cond.instantiable RX11 10 ∈ uw := xu (by decide +kernel)
theorem s_iX5 : Cond.instantiable RX5 2 ∈ uw := xu (by decide +kernel)
theorem s_iX9 : Cond.instantiable RX9 2 ∈ uw := xu (by decide +kernel)
theorem s_iX4 : Cond.instantiable RX4 5 ∈ uw := xu (by decide +kernel)
theorem s_iX2 : Cond.instantiable RX2 11 ∈ uw := xu (by decide +kernel)
theorem s_iX10 : Cond.instantiable RX10 13 ∈ uw := xu (by decide +kernel)
theorem s_iX0 : Cond.instantiable RX0 12 ∈ uw := xu (by decide +kernel)
theorem s_iX8 : Cond.instantiable RX8 10 ∈ uw := xu (by decide +kernel)
theorem s_iX7 : Cond.instantiable RX7 5 ∈ uw := xu (by decide +kernel)
theorem s_iX6 : Cond.instantiable RX6 11 ∈ uw := xu (by decide +kernel)
theorem s_iX3 : Cond.instantiable RX3 7 ∈ uw := xu (by decide +kernel)
theorem s_iX12 : Cond.instantiable RX12 66 ∈ uw := xu (by decide +kernel)
theorem s_a1 : Cond.arrayClass .int ∈ uw := xu (by decide +kernel)
theorem s_a2 : Cond.arrayClass .long ∈ uw := xu (by decide +kernel)
theorem s_a3 : Cond.arrayClass .boolean ∈ uw := xu (by decide +kernel)
theorem s_a4 : Cond.arrayOver (.array .int) ∈ lw_tbl := by decide +kernel
theorem s_arr {args : Array Value} {s : State} {ty : FieldType} (h : (Cond.arrayClass ty).before args s = true) : ∃ c : ClassId, ArrOfT s c ty ∧ s.vm.findClass ("[" ++ ty.toString) = some c := by
  obtain ⟨c, k, comp, h1, h2, h3⟩ := Cond.arrayClass_spec (args := args) (first := s) (o := none) (s := s) (idx := []) h
  exact ⟨c, fun n z => ⟨(fun q hq => by cases hq), k, h2, comp, h3⟩, h1⟩
theorem s_K {args : Array Value} {s : State} (hts : ∀ w ∈ uw, w.before args s = true) (hov : (Cond.arrayOver (.array .int)).before args s = true) : ∃ (D : va_G) (cy : ClassId × (ClassId × (ClassId × ClassId))), va_K D zcl (zty cy) s := by
  obtain ⟨c0, i0, h0⟩ := u_known (C := RX11) (T := TX11) (N := 10) (n := 10) hts inX11 (hts _ s_iX11)
  obtain ⟨c1, i1, h1⟩ := u_known (C := RX5) (T := TX5) (N := 2) (n := 2) hts inX5 (hts _ s_iX5)
  obtain ⟨c2, i2, h2⟩ := u_known (C := RX9) (T := TX9) (N := 2) (n := 2) hts inX9 (hts _ s_iX9)
  obtain ⟨c3, i3, h3⟩ := u_known (C := RX4) (T := TX4) (N := 5) (n := 5) hts inX4 (hts _ s_iX4)
  obtain ⟨c4, i4, h4⟩ := u_known (C := RX2) (T := TX2) (N := 11) (n := 11) hts inX2 (hts _ s_iX2)
  obtain ⟨c5, i5, h5⟩ := u_known (C := RX10) (T := TX10) (N := 13) (n := 13) hts inX10 (hts _ s_iX10)
  obtain ⟨c6, i6, h6⟩ := u_known (C := RX0) (T := TX0) (N := 12) (n := 12) hts inX0 (hts _ s_iX0)
  obtain ⟨c7, i7, h7⟩ := u_known (C := RX8) (T := TX8) (N := 10) (n := 10) hts inX8 (hts _ s_iX8)
  obtain ⟨c8, i8, h8⟩ := u_known (C := RX7) (T := TX7) (N := 5) (n := 5) hts inX7 (hts _ s_iX7)
  obtain ⟨c9, i9, h9⟩ := u_known (C := RX6) (T := TX6) (N := 11) (n := 11) hts inX6 (hts _ s_iX6)
  obtain ⟨c10, i10, h10⟩ := u_known (C := RX3) (T := TX3) (N := 7) (n := 7) hts inX3 (hts _ s_iX3)
  obtain ⟨c11, i11, h11⟩ := u_known (C := RX12) (T := TX12) (N := 66) (n := 66) hts inX12 (hts _ s_iX12)
  obtain ⟨a1, b1, d1⟩ := s_arr (hts _ s_a1)
  obtain ⟨a2, b2, d2⟩ := s_arr (hts _ s_a2)
  obtain ⟨a3, b3, d3⟩ := s_arr (hts _ s_a3)
  obtain ⟨comp, a4, k4, -, -, e1, e2, e3⟩ := arrayOverA_spec (args := args) (first := s) (o := none) (s := s) (idx := []) hov
  refine ⟨(fun k => [c0, c1, c2, c3, c4, c5, c6, c7, c8, c9, c10, c11].getD k c0, fun k => [i0, i1, i2, i3, i4, i5, i6, i7, i8, i9, i10, i11].getD k i0), (a1, a2, a3, a4), ?_, ?_⟩
  · intro k q hq
    match k, hq with
    | 0, hq => cases hq; exact h0
    | 1, hq => cases hq; exact h1
    | 2, hq => cases hq; exact h2
    | 3, hq => cases hq; exact h3
    | 4, hq => cases hq; exact h4
    | 5, hq => cases hq; exact h5
    | 6, hq => cases hq; exact h6
    | 7, hq => cases hq; exact h7
    | 8, hq => cases hq; exact h8
    | 9, hq => cases hq; exact h9
    | 10, hq => cases hq; exact h10
    | 11, hq => cases hq; exact h11
    | k + 12, hq => simp at hq
  · intro k q hq
    match k, hq with
    | 0, hq => cases hq; exact ⟨b1, d1⟩
    | 1, hq => cases hq; exact ⟨b2, d2⟩
    | 2, hq => cases hq; exact ⟨b3, d3⟩
    | 3, hq => cases hq; exact ⟨fun n z => ⟨(fun q hq => by cases hq), k4, e1, comp, e2⟩, e3⟩
    | k + 4, hq => simp at hq
def s_tm (i : Nat) : Term := .string ((zSr.map fun q => q.1).getD i "") ((zSr.map fun q => q.2.1).getD i 0)
abbrev s_gv : List Cond := flatC (Jvm.Cond.and given_1 narrow_1)
theorem s_t1 : ∀ i, i < 14 → Cond.exactly (s_tm i) "java/lang/String" ∈ s_gv := by decide +kernel
theorem s_t2 : ∀ i, i < 14 → Cond.eq (.field (s_tm i) "java/lang/String" "coder" "B") (.int 0) ∈ s_gv := by decide +kernel
theorem s_t3 : ∀ i, i < 14 → Cond.arrayOf (.field (s_tm i) "java/lang/String" "value" "[B") .byte ∈ s_gv := by decide +kernel
theorem s_t4 : ∀ i, i < 14 → Cond.eq (.length (.field (s_tm i) "java/lang/String" "value" "[B")) (.int (Int32.ofNat (zLen.getD i 0))) ∈ s_gv := by decide +kernel
theorem s_t5 : ∀ i, i < 14 → ∀ j, j < zLen.getD i 0 → Cond.eq (.elem (.field (s_tm i) "java/lang/String" "value" "[B") (.int (Int32.ofNat j))) (.int ((zByt.getD i []).getD j 0)) ∈ s_gv := by decide +kernel
theorem s_t6_1 : ∀ i, i < 1 → Cond.not (Cond.eq (s_tm i) (s_tm 1)) ∈ s_gv := by decide +kernel
theorem s_t6_2 : ∀ i, i < 2 → Cond.not (Cond.eq (s_tm i) (s_tm 2)) ∈ s_gv := by decide +kernel
theorem s_t6_3 : ∀ i, i < 3 → Cond.not (Cond.eq (s_tm i) (s_tm 3)) ∈ s_gv := by decide +kernel
theorem s_t6_4 : ∀ i, i < 4 → Cond.not (Cond.eq (s_tm i) (s_tm 4)) ∈ s_gv := by decide +kernel
theorem s_t6_5 : ∀ i, i < 5 → Cond.not (Cond.eq (s_tm i) (s_tm 5)) ∈ s_gv := by decide +kernel
theorem s_t6_6 : ∀ i, i < 6 → Cond.not (Cond.eq (s_tm i) (s_tm 6)) ∈ s_gv := by decide +kernel
theorem s_t6_7 : ∀ i, i < 7 → Cond.not (Cond.eq (s_tm i) (s_tm 7)) ∈ s_gv := by decide +kernel
theorem s_t6_8 : ∀ i, i < 8 → Cond.not (Cond.eq (s_tm i) (s_tm 8)) ∈ s_gv := by decide +kernel
theorem s_t6_9 : ∀ i, i < 9 → Cond.not (Cond.eq (s_tm i) (s_tm 9)) ∈ s_gv := by decide +kernel
theorem s_t6_10 : ∀ i, i < 10 → Cond.not (Cond.eq (s_tm i) (s_tm 10)) ∈ s_gv := by decide +kernel
theorem s_t6_11 : ∀ i, i < 11 → Cond.not (Cond.eq (s_tm i) (s_tm 11)) ∈ s_gv := by decide +kernel
theorem s_t6_12 : ∀ i, i < 12 → Cond.not (Cond.eq (s_tm i) (s_tm 12)) ∈ s_gv := by decide +kernel
theorem s_t6_13 : ∀ i, i < 13 → Cond.not (Cond.eq (s_tm i) (s_tm 13)) ∈ s_gv := by decide +kernel
theorem s_t6 : ∀ j, j < 14 → ∀ i, i < j → Cond.not (Cond.eq (s_tm i) (s_tm j)) ∈ s_gv := by
  intro j hj
  match j, hj with
  | 0, _ => exact fun i h => absurd h (Nat.not_lt_zero _)
  | 1, _ => exact s_t6_1
  | 2, _ => exact s_t6_2
  | 3, _ => exact s_t6_3
  | 4, _ => exact s_t6_4
  | 5, _ => exact s_t6_5
  | 6, _ => exact s_t6_6
  | 7, _ => exact s_t6_7
  | 8, _ => exact s_t6_8
  | 9, _ => exact s_t6_9
  | 10, _ => exact s_t6_10
  | 11, _ => exact s_t6_11
  | 12, _ => exact s_t6_12
  | 13, _ => exact s_t6_13
theorem s_t7 : ∀ i, i < 14 → zLen.getD i 0 < 2 ^ 31 := by decide +kernel
theorem s_t8 : ∀ q ∈ zSr, q.2.2.2 < 14 ∧ s_tm q.2.2.2 = .string q.1 q.2.1 ∧ Cond.stringRef q.1 q.2.1 q.2.2.1 ∈ lw_tbl := by decide +kernel
theorem s_z1 : Cond.laysStatic "java/lang/String" "COMPACT_STRINGS" "Z" ∈ lw_tbl := by decide +kernel
theorem s_z2 : Cond.initialized "java/lang/String" ∈ lw_tbl := by decide +kernel
theorem s_z3 : Cond.eq (.static "java/lang/String" "COMPACT_STRINGS" "Z") (.int 1) ∈ s_gv := by decide +kernel
theorem s_z4 : Cond.laysStatic "jdk/internal/util/Preconditions" "SIOOBE_FORMATTER" "Ljava/util/function/BiFunction;" ∈ lw_tbl := by decide +kernel
theorem s_z5 : Cond.initialized "jdk/internal/util/Preconditions" ∈ lw_tbl := by decide +kernel
theorem s_z6 : Cond.isRef (.static "jdk/internal/util/Preconditions" "SIOOBE_FORMATTER" "Ljava/util/function/BiFunction;") ∈ s_gv := by decide +kernel
theorem s_zE {D : va_G} {cy : ClassId × (ClassId × (ClassId × ClassId))} {args : Array Value} {s : State} (hK : va_K D zcl (zty cy) s) (htl : ∀ w ∈ lw_tbl, w.before args s = true) (hgv : (Jvm.Cond.and given_1 narrow_1).before args s = true) : ∃ ad : (Nat → Nat) × (Nat → Nat), zE D zcl (zty cy) (fun q => s.heap.size ≤ q) ad s s.heap := by
  have hg := flat_of_before _ hgv
  have hnA : ∀ a : Nat, a < s.heap.size → ¬ s.heap.size ≤ a := fun a h => Nat.not_le.mpr h
  obtain ⟨adK, adV, h1, h2⟩ := vk_Sof (args := args) (s := s) (N := 14) (tm := s_tm) (len := zLen) (byt := zByt) (A := fun q => s.heap.size ≤ q) s_t7 (fun i hi => hg _ (s_t1 i hi)) (fun i hi => hg _ (s_t2 i hi)) (fun i hi => hg _ (s_t3 i hi)) (fun i hi => hg _ (s_t4 i hi)) (fun i hi j hj => hg _ (s_t5 i hi j hj)) (fun i j hi hj hij => (Nat.lt_or_gt_of_ne hij).imp (fun h => hg _ (s_t6 j hj i h)) (fun h => hg _ (s_t6 i hi j h))) hnA
  refine ⟨(adK, adV), hK, fun w hw => ?_, h1, fun q hq => ?_, va_Zof (htl _ s_z1) (htl _ s_z2) (va_eqt (hg _ s_z3)) hnA, va_Zqof (htl _ s_z4) (htl _ s_z5) (hg _ s_z6) hnA⟩
  · have h3 := htl w (List.mem_filter.mp hw).1
    have h4 := (List.mem_filter.mp hw).2
    cases w <;> first | exact va_Nw.of rfl h3 | cases h4
  · obtain ⟨e1, e2, e3⟩ := s_t8 q hq
    refine vk_R.of (htl _ e3) ?_
    rw [← e2]
    exact h2 _ e1
theorem s_set {D : va_G} {ws : va_W} {H : Heap} {k a N : Nat} {cA : ClassId} {f : Nat → Option Nat} (g : Nat → Option Nat) (hP : va_P D zcl ws H) (hk : ws[k]? = some (a, .inl (cA, N, .inr (.inr (.inr (.inr f)))))) (h : ∀ j, j < N → f j = g j) : va_P D zcl (ws.set k (a, .inl (cA, N, .inr (.inr (.inr (.inr g)))))) H := by
  intro i q hq
  by_cases e : k = i
  · subst e
    rw [List.getElem?_set_self (List.getElem?_eq_some_iff.mp hk).1] at hq
    cases hq
    have h1 : H[a]? = some (arrV cA N (fun j => va_rf (f j))) := hP _ _ hk
    show H[a]? = some (arrV cA N (fun j => va_rf (g j)))
    rw [h1, y_arr (f := fun j => va_rf (f j)) (g := fun j => va_rf (g j)) (fun j hj => by rw [h j hj])]
  · rw [List.getElem?_set_ne e] at hq
    exact hP i q hq
/-! the first state of both sides -/
def sC : Zst := (fun j => if j = 2 then 1 else 0, (fun k => if k = 1 then (fun j => if j < 4608 then -1 else 0) else fun _ => 0), (fun _ _ => 0), fun _ => 0)
def sM : Zst := (fun j => if j = 4 then 1 else 0, (fun k => if k = 13 then upd (upd (upd (fun _ => 0) (Int32.toNatClampNeg (0 : Int32)) (0 : Int32)) (Int32.toNatClampNeg (1 : Int32)) (1 : Int32)) (Int32.toNatClampNeg (2 : Int32)) (2 : Int32) else fun _ => 0), (fun _ _ => 0), fun _ => 0)
theorem s_W (w : Nat) (hw : w < 12) : (0 : Int32) = (jShr 0 (nI w)) &&& 1 := by
  have : ∀ w, w < 12 → (0 : Int32) = (jShr 0 (nI w)) &&& 1 := by decide +kernel
  exact this w hw
theorem s_Rel : gRel sC sM := by
  refine ⟨0, 0, 0, ⟨⟨⟨by decide, by decide, rfl, rfl, rfl, rfl⟩, ⟨rfl, rfl, rfl, rfl, rfl, rfl, rfl⟩, fun s h => absurd h (Nat.not_lt_zero _), fun s h => ⟨0, 0, 0, by decide, rfl, rfl, rfl⟩, fun s h => absurd h (Nat.not_lt_zero _), fun s _ => rfl, fun s w _ hw => s_W w hw⟩, ?_, ?_, ?_, ?_, ?_, ?_⟩, by decide, rfl, rfl, rfl⟩
  · refine ⟨⟨rfl, fun p hp => ⟨0, by decide, ?_, rfl⟩⟩, rfl, fun i => Or.inl rfl, rfl, fun h => absurd (show (0 : Int32) = 1 from h) (by decide), fun h => absurd (show (0 : Int32) = 1 from h) (by decide), fun h => absurd (show (0 : Int32) = 1 from h) (by decide)⟩
    show (if p < 4608 then (-1 : Int32) else 0) = nI 0 - 1
    rw [if_pos hp]
    rfl
  · exact ⟨0, by decide, rfl, rfl, rfl, fun i => ⟨0, by decide, rfl⟩⟩
  · exact ⟨0, fun _ => 0, by decide, rfl, rfl, rfl, fun i _ => rfl, by decide, fun a b _ _ _ => rfl⟩
  · exact ⟨0, by decide, rfl, rfl, rfl, rfl, rfl, fun i h => absurd h (Nat.not_lt_zero _), fun i h => absurd h (Nat.not_lt_zero _)⟩
  · refine ⟨fun i hi => ⟨0, 0, by decide, by decide, rfl, rfl, Iff.rfl⟩, fun i hi n k hn hk h1 h2 h3 => ?_⟩
    have h4 := congrArg Int32.toInt (show (0 : Int32) = nI n from h1)
    rw [nI_toInt (by omega)] at h4
    have h5 : (0 : Int32).toInt = 0 := rfl
    omega
  · exact ⟨⟨0, by decide, rfl, rfl, fun s h => absurd h (Nat.not_lt_zero _)⟩, rfl, rfl⟩
theorem s_All : lp_All gRel := ⟨pp_again, pp_alike, pp_bounds, pp_count, pp_does, pp_end, pp_feasts, pp_get, pp_goes, pp_holds, pp_keep, pp_lack, pp_law, pp_line, pp_live, pp_mixed, pp_moved, pp_nearest, pp_need, pp_off, pp_others, pp_paper, pp_parts, pp_put, pp_right, pp_seed, pp_sheet, pp_sign, pp_slope, pp_sort, pp_story, pp_stray, pp_street, pp_sum, pp_three, pp_told, pp_truly, pp_twice, pp_was, pp_waste, pp_weeks, pp_worst, pp_worth, pp_year, pp_leans, pp_row⟩
theorem s_c1 : Cond.classLink R_law 8 RX11 ∈ uw := xu (by decide +kernel)
theorem s_c2 : Cond.classLink R_law 20 RX12 ∈ uw := xu (by decide +kernel)
theorem s_m1 : Cond.methodLink R_law 19 yX11_init ∈ uw := xu (by decide +kernel)
theorem s_m2 : Cond.methodLink R_law 22 yX12_init ∈ uw := xu (by decide +kernel)
theorem s_k1 : Cond.code yX11_init cX11_init 1 none ∈ uw := xu (by decide +kernel)
theorem s_k2 : Cond.code yX12_init cX12_init 1 none ∈ uw := xu (by decide +kernel)
theorem s_n1 : Cond.instanceMethod yX11_init ∈ uw := xu (by decide +kernel)
theorem s_n2 : Cond.instanceMethod yX12_init ∈ uw := xu (by decide +kernel)
theorem s_h1 : yX11_init.cls ≠ "java/lang/invoke/MethodHandle" ∧ yX11_init.cls ≠ "java/lang/invoke/VarHandle" ∧ (parseMethodDescriptor yX11_init.desc).map (fun d => d.parameters.length) = some 0 := by decide +kernel
theorem s_h2 : yX12_init.cls ≠ "java/lang/invoke/MethodHandle" ∧ yX12_init.cls ≠ "java/lang/invoke/VarHandle" ∧ (parseMethodDescriptor yX12_init.desc).map (fun d => d.parameters.length) = some 0 := by decide +kernel
set_option maxHeartbeats 8000000 in
set_option maxRecDepth 100000 in
/-- from the entry, for every script of at most 3072 ints, the law comes to its end with true -/
theorem whole_start {p : Program} {e : Env} {s : State} {m : MethodId} {below : List Frame} {meth : Method} {c : Code} (l : Launch) (hflags : l.flags = flags0) {b L : Nat} {xs : Nat → Int32} (hL : L ≤ 3072) (C0 : lw_At p s m meth c b L xs) : W p l e room_1 s m #[Value.ref b] below meth c s.heap [] 0 0 (lw_Z below #[Value.ref b] s) (entryFrame m ([Value.ref b] : List Value).toArray 8) := by
  obtain ⟨hx, hb, hr, hml, hown, htl, hX, hbl, hlk, hgv⟩ := id C0
  have hU : ∀ w ∈ uw, w.before #[Value.ref b] s = true := fun w hw => (uw_in w hw).elim (s_uwX htl w) (htl w)
  obtain ⟨D, cy, hK⟩ := s_K hU (htl _ s_a4)
  obtain ⟨ad, hE⟩ := s_zE hK htl hgv
  have hyE : yE D cy (fun q => s.heap.size ≤ q) ad s s.heap := ⟨hE, fun a => over_moved (Vm.Alike.refl s.vm) (htl _ s_a4)⟩
  have hA : ∀ q : Nat, s.heap.size ≤ q → (fun q : Nat => s.heap.size ≤ q) q := fun _ h => h
  have hS : va_S (fun q : Nat => s.heap.size ≤ q) s.heap s.heap [] := va_S.rf
  have hP : va_P D zcl [] s.heap := fun k q h => by simp at h
  have hD : va_D (fun q : Nat => s.heap.size ≤ q) [] := ⟨fun i j p q h => by simp at h, fun k q h => by simp at h⟩
  have hl := lv_entry ([.ref b]) (n := 8) (Nat.le_of_ble_eq_true rfl)
  rw [lg_entry_eq]
  generalize (lg_sl ([.ref b]) ++ List.replicate (8 - (lg_sl ([.ref b])).length) Slot.unset).toArray = ls at hl ⊢
  have hl : lv_has ls 8 [(0, .ref b)] := hl
  refine va_new (ci := 0) (fs := [.null, .null, .null, .null, .null, .null, .null, .null, .null, .null]) (C := RX11) (T := TX11) (N := 10) hx hb hU inX11 tyX11 tyX11_ok hown (hU _ s_c1) (hU _ s_iX11) (hU _ u87) hK hP hD hS hA rfl (by decide +kernel) (Nat.le_of_ble_eq_true rfl) (Nat.le_of_ble_eq_true rfl) dt_L_law_0.1.1.1.1 (fun h0 H hP hD hS => ?_)
  refine lv_dup hx hb dt_L_law_0.1.1.1.2 rfl ?_
  refine y_run (rest := [.ref h0]) (va_runI (As := []) (n := 0) ⟨hx, hb, hml, hown, hU⟩ (mi_X11_init hD) ⟨callB_of 0 hU (fun w hw => ⟨(uw_good s_k1 w hw).1, (uw_good s_k1 w hw).2⟩) rfl rfl rfl (hU _ u87) (hU _ s_m1) s_h1 ⟨Nat.le_of_ble_eq_true rfl, Nat.le_of_ble_eq_true rfl⟩, rfl, hU _ s_n1⟩ ⟨y_blind, fun U hU9 hW => ⟨rfl, ⟨by rw [hU9]; exact hS.1, by rw [hU9]; exact hP⟩, yE_call hW hU9 hS hyE⟩⟩ rfl rfl hl.1 rfl (lv_room (Nat.le_of_ble_eq_true rfl)) dt_L_law_0.1.1.2.1 ⟨Nat.le_of_ble_eq_true rfl, Nat.le_of_ble_eq_true rfl⟩) hS hl ?_
  intro ws hWo
  obtain ⟨q1, q2, q3, q4, q5, q6, q7, q8, q9, q10, q11, q12, q13, q14, q15, q16, q17, q18, q19, q20, q21, q22, q23, q24, q25, q26, q27, q28, q29, q30, q31, q32, q33, q34, q35, q36, q37, q38, q39, q40, q41, q42, q43, q44, q45, q46, q47, q48, q49, q50, rfl⟩ := hWo
  intro H locs ls hP hD hS hl
  refine lv_astore_n hx hb dt_L_law_0.1.1.2.2 rfl hl (by decide) rfl (fun ls hl => ?_)
  refine va_new (ci := 11) (fs := [.int 0, .int 0, .null, .int 0, .null, .null, .null, .null, .null, .null, .int 0, .null, .null, .null, .int 0, .null, .null, .null, .null, .int 0, .int 0, .int 0, .int 0, .null, .int 0, .int 0, .int 0, .int 0, .int 0, .int 0, .int 0, .int 0, .int 0, .int 0, .int 0, .null, .null, .null, .int 0, .null, .null, .null, .null, .null, .null, .null, .null, .null, .int 0, .null, .null, .null, .null, .int 0, .int 0, .null, .null, .null, .null, .null, .null, .null, .null, .null, .null, .null]) (C := RX12) (T := TX12) (N := 66) hx hb hU inX12 tyX12 tyX12_ok hown (hU _ s_c2) (hU _ s_iX12) (hU _ u99) hK hP hD hS hA rfl (by decide +kernel) (Nat.le_of_ble_eq_true rfl) (Nat.le_of_ble_eq_true rfl) dt_L_law_0.1.2.1.1 (fun h1 H hP hD hS => ?_)
  refine lv_dup hx hb dt_L_law_0.1.2.1.2 rfl ?_
  refine y_run (rest := [.ref h1]) (va_runI (As := []) (n := 0) ⟨hx, hb, hml, hown, hU⟩ (mi_X12_init hD) ⟨callB_of 0 hU (fun w hw => ⟨(uw_good s_k2 w hw).1, (uw_good s_k2 w hw).2⟩) rfl rfl rfl (hU _ u99) (hU _ s_m2) s_h2 ⟨Nat.le_of_ble_eq_true rfl, Nat.le_of_ble_eq_true rfl⟩, rfl, hU _ s_n2⟩ ⟨y_blind, fun U hU9 hW => ⟨rfl, ⟨by rw [hU9]; exact hS.1, by rw [hU9]; exact hP⟩, yE_call hW hU9 hS hyE⟩⟩ rfl rfl hl.1 rfl (lv_room (Nat.le_of_ble_eq_true rfl)) dt_L_law_0.1.2.2.1 ⟨Nat.le_of_ble_eq_true rfl, Nat.le_of_ble_eq_true rfl⟩) hS hl ?_
  intro ws hWo
  obtain ⟨r1, r2, r3, r4, r5, r6, r7, r8, r9, r10, r11, r12, r13, r14, r15, r16, r17, r18, r19, r20, r21, r22, r23, r24, r25, r26, r27, r28, r29, r30, r31, r32, r33, r34, r35, r36, r37, r38, r39, r40, r41, rfl⟩ := hWo
  intro H locs ls hP hD hS hl
  refine lv_astore_n hx hb dt_L_law_0.1.2.2.2 rfl hl (by decide) rfl (fun ls hl => ?_)
  refine lv_iconst hx hb dt_L_law_0.2.1.1.1 ki_1 ?_
  refine va_newa (atype := .long) (ty := .long) (N' := 1) (a0 := (1, .inr (.inl (fun _ => 0)))) hx hb (hU _ s_a2) rfl hK hP hD hS hA (fun cA => rfl) (by decide) (by decide) (Nat.le_of_ble_eq_true rfl) (Nat.le_of_ble_eq_true rfl) (Nat.le_of_ble_eq_true rfl) dt_L_law_0.2.1.1.2 (fun qo cA H hK1 hP hD hS => ?_)
  have e9 := y_ty (cy := cy) (i := 1) (c0 := cy.2.1) rfl (fun C q => by cases q) hK1
  subst e9
  refine lv_astore_n hx hb dt_L_law_0.2.1.2.1 rfl hl (by decide) rfl (fun ls hl => ?_)
  refine lv_iconst hx hb dt_L_law_0.2.1.2.2 ki_0 ?_
  refine lv_istore hx hb dt_L_law_0.2.2.1.1 hl (by decide) rfl (fun ls hl => ?_)
  obtain ⟨a, ea⟩ : ∃ a : Nat → Nat, a = fun i => [h0, q1, q2, q3, q4, q5, q6, q7, q8, q9, q10, q11, q12, q13, q14, q15, q16, q17, q18, q19, q20, q21, q22, q23, q24, q25, q26, q27, q28, q29, q30, q31, q32, q33, q34, q35, q36, q37, q38, q39, q40, q41, q42, q43, q44, q45, q46, q47, q48, q49, q50].getD i 0 := ⟨_, rfl⟩
  obtain ⟨a9, eb⟩ : ∃ a9 : Nat → Nat, a9 = fun i => [h1, r1, r2, r3, r4, r5, r6, r7, r8, r9, r10, r11, r12, r13, r14, r15, r16, r17, r18, r19, r20, r21, r22, r23, r24, r25, r26, r27, r28, r29, r30, r31, r32, r33, r34, r35, r36, r37, r38, r39, r40, r41].getD i 0 := ⟨_, rfl⟩
  have hP7 := s_set (k := 7) (fun i => some (a (8 + i))) hP rfl (fun j hj => by
    subst ea
    rcases (show j = 0 ∨ j = 1 ∨ j = 2 by omega) with rfl | rfl | rfl <;> rfl)
  have hPx : va_P D zcl (lW a a9 qo cy ad sC sM (fun _ => 0)) H := by subst ea eb; exact hP7
  have hDall : ∀ σc σm f, va_D (fun q => s.heap.size ≤ q) (lW a a9 qo cy ad σc σm f) := fun σc σm f => yD_map (by subst ea eb; rfl) hD
  have hla : lv_has ls 8 [(4, .int (nI (6 * 0))), (3, .ref qo), (2, .ref (a9 0)), (1, .ref (a 0)), (0, .ref b)] := by subst ea eb; exact hl
  have M : lM l D a a9 qo cy ad b L xs (lC l D a a9 qo cy ad p e s m #[Value.ref b] below meth c (lw_Z below #[Value.ref b] s)) := ⟨p, e, s, m, below, meth, c, hflags, hx, hb, hml, hown, hU, htl, hE, hDall, hX, hbl, hr, hlk, hgv, rfl⟩
  refine W.widen (k := 94) (n := 38996) (Nat.le_of_ble_eq_true rfl) (Nat.le_of_ble_eq_true rfl) ?_
  exact l_loop2 s_All M hL 513 0 rfl sC sM (fun _ => 0) 94 38996 s_Rel (by decide) (by decide) H _ ls hPx hS hla
