theorem dt_J0_length_8abf5_0 : (((decode cJ0_length_8abf5 0 = .ok (.aload_n 0, 1) ∧ decode cJ0_length_8abf5 1 = .ok (.getfield 9, 3)) ∧ (decode cJ0_length_8abf5 4 = .ok (.arraylength, 1) ∧ decode cJ0_length_8abf5 5 = .ok (.aload_n 0, 1))) ∧ ((decode cJ0_length_8abf5 6 = .ok (.invokevirtual 335, 3) ∧ decode cJ0_length_8abf5 9 = .ok (.ishr, 1)) ∧ decode cJ0_length_8abf5 10 = .ok (.ireturn, 1))) := by decide +kernel
theorem dt_J0_coder_7d493_0 : (((decode cJ0_coder_7d493 0 = .ok (.getstatic 38, 3) ∧ decode cJ0_coder_7d493 3 = .ok (.ifCond .eq 10, 3)) ∧ (decode cJ0_coder_7d493 6 = .ok (.aload_n 0, 1) ∧ decode cJ0_coder_7d493 7 = .ok (.getfield 15, 3))) ∧ ((decode cJ0_coder_7d493 10 = .ok (.goto 4, 3) ∧ decode cJ0_coder_7d493 13 = .ok (.iconst 1, 1)) ∧ decode cJ0_coder_7d493 14 = .ok (.ireturn, 1))) := by decide +kernel
theorem dt_J0_charAt_5068e_0 : ((((decode cJ0_charAt_5068e 0 = .ok (.aload_n 0, 1) ∧ decode cJ0_charAt_5068e 1 = .ok (.invokevirtual 492, 3)) ∧ (decode cJ0_charAt_5068e 4 = .ok (.ifCond .eq 12, 3) ∧ decode cJ0_charAt_5068e 7 = .ok (.aload_n 0, 1))) ∧ ((decode cJ0_charAt_5068e 8 = .ok (.getfield 9, 3) ∧ decode cJ0_charAt_5068e 11 = .ok (.iload_n 1, 1)) ∧ decode cJ0_charAt_5068e 12 = .ok (.invokestatic 495, 3))) ∧ (((decode cJ0_charAt_5068e 15 = .ok (.ireturn, 1) ∧ decode cJ0_charAt_5068e 16 = .ok (.aload_n 0, 1)) ∧ decode cJ0_charAt_5068e 17 = .ok (.getfield 9, 3)) ∧ ((decode cJ0_charAt_5068e 20 = .ok (.iload_n 1, 1) ∧ decode cJ0_charAt_5068e 21 = .ok (.invokestatic 498, 3)) ∧ decode cJ0_charAt_5068e 24 = .ok (.ireturn, 1)))) := by decide +kernel
theorem dt_J0_isLatin1_aae02_0 : ((((decode cJ0_isLatin1_aae02 0 = .ok (.getstatic 38, 3) ∧ decode cJ0_isLatin1_aae02 3 = .ok (.ifCond .eq 14, 3)) ∧ decode cJ0_isLatin1_aae02 6 = .ok (.aload_n 0, 1)) ∧ (decode cJ0_isLatin1_aae02 7 = .ok (.getfield 15, 3) ∧ decode cJ0_isLatin1_aae02 10 = .ok (.ifCond .ne 7, 3))) ∧ ((decode cJ0_isLatin1_aae02 13 = .ok (.iconst 1, 1) ∧ decode cJ0_isLatin1_aae02 14 = .ok (.goto 4, 3)) ∧ (decode cJ0_isLatin1_aae02 17 = .ok (.iconst 0, 1) ∧ decode cJ0_isLatin1_aae02 18 = .ok (.ireturn, 1)))) := by decide +kernel
theorem dt_J1_charAt_3b067_0 : ((((decode cJ1_charAt_3b067 0 = .ok (.iload_n 1, 1) ∧ decode cJ1_charAt_3b067 1 = .ok (.aload_n 0, 1)) ∧ decode cJ1_charAt_3b067 2 = .ok (.arraylength, 1)) ∧ ((decode cJ1_charAt_3b067 3 = .ok (.invokestatic 9, 3) ∧ decode cJ1_charAt_3b067 6 = .ok (.aload_n 0, 1)) ∧ decode cJ1_charAt_3b067 7 = .ok (.iload_n 1, 1))) ∧ (((decode cJ1_charAt_3b067 8 = .ok (.baload, 1) ∧ decode cJ1_charAt_3b067 9 = .ok (.sipush 255, 3)) ∧ decode cJ1_charAt_3b067 12 = .ok (.iand, 1)) ∧ (decode cJ1_charAt_3b067 13 = .ok (.i2c, 1) ∧ decode cJ1_charAt_3b067 14 = .ok (.ireturn, 1)))) := by decide +kernel
theorem dt_J0_checkIndex_df160_0 : (((decode cJ0_checkIndex_df160 0 = .ok (.iload_n 0, 1) ∧ decode cJ0_checkIndex_df160 1 = .ok (.iload_n 1, 1)) ∧ decode cJ0_checkIndex_df160 2 = .ok (.getstatic 1053, 3)) ∧ ((decode cJ0_checkIndex_df160 5 = .ok (.invokestatic 1059, 3) ∧ decode cJ0_checkIndex_df160 8 = .ok (.pop, 1)) ∧ decode cJ0_checkIndex_df160 9 = .ok (.return_, 1))) := by decide +kernel
theorem dt_J3_checkIndex_8e157_0 : ((((decode cJ3_checkIndex_8e157 0 = .ok (.iload_n 0, 1) ∧ decode cJ3_checkIndex_8e157 1 = .ok (.ifCond .lt 8, 3)) ∧ decode cJ3_checkIndex_8e157 4 = .ok (.iload_n 0, 1)) ∧ ((decode cJ3_checkIndex_8e157 5 = .ok (.iload_n 1, 1) ∧ decode cJ3_checkIndex_8e157 6 = .ok (.if_icmp .lt 10, 3)) ∧ decode cJ3_checkIndex_8e157 9 = .ok (.aload_n 2, 1))) ∧ (((decode cJ3_checkIndex_8e157 10 = .ok (.iload_n 0, 1) ∧ decode cJ3_checkIndex_8e157 11 = .ok (.iload_n 1, 1)) ∧ decode cJ3_checkIndex_8e157 12 = .ok (.invokestatic 95, 3)) ∧ ((decode cJ3_checkIndex_8e157 15 = .ok (.athrow, 1) ∧ decode cJ3_checkIndex_8e157 16 = .ok (.iload_n 0, 1)) ∧ decode cJ3_checkIndex_8e157 17 = .ok (.ireturn, 1)))) := by decide +kernel
theorem dt_J0_indexOf_0f7a4_0 : (((decode cJ0_indexOf_0f7a4 0 = .ok (.aload_n 0, 1) ∧ decode cJ0_indexOf_0f7a4 1 = .ok (.iload_n 1, 1)) ∧ decode cJ0_indexOf_0f7a4 2 = .ok (.iconst 0, 1)) ∧ (decode cJ0_indexOf_0f7a4 3 = .ok (.invokevirtual 633, 3) ∧ decode cJ0_indexOf_0f7a4 6 = .ok (.ireturn, 1))) := by decide +kernel
theorem dt_J0_indexOf_7cf53_0 : ((((decode cJ0_indexOf_7cf53 0 = .ok (.aload_n 0, 1) ∧ decode cJ0_indexOf_7cf53 1 = .ok (.invokevirtual 492, 3)) ∧ (decode cJ0_indexOf_7cf53 4 = .ok (.ifCond .eq 19, 3) ∧ decode cJ0_indexOf_7cf53 7 = .ok (.aload_n 0, 1))) ∧ ((decode cJ0_indexOf_7cf53 8 = .ok (.getfield 9, 3) ∧ decode cJ0_indexOf_7cf53 11 = .ok (.iload_n 1, 1)) ∧ (decode cJ0_indexOf_7cf53 12 = .ok (.iload_n 2, 1) ∧ decode cJ0_indexOf_7cf53 13 = .ok (.aload_n 0, 1)))) ∧ (((decode cJ0_indexOf_7cf53 14 = .ok (.invokevirtual 505, 3) ∧ decode cJ0_indexOf_7cf53 17 = .ok (.invokestatic 637, 3)) ∧ (decode cJ0_indexOf_7cf53 20 = .ok (.goto 16, 3) ∧ decode cJ0_indexOf_7cf53 23 = .ok (.aload_n 0, 1))) ∧ ((decode cJ0_indexOf_7cf53 24 = .ok (.getfield 9, 3) ∧ decode cJ0_indexOf_7cf53 27 = .ok (.iload_n 1, 1)) ∧ (decode cJ0_indexOf_7cf53 28 = .ok (.iload_n 2, 1) ∧ decode cJ0_indexOf_7cf53 29 = .ok (.aload_n 0, 1))))) := by decide +kernel
theorem dt_J0_indexOf_7cf53_1 : ((decode cJ0_indexOf_7cf53 30 = .ok (.invokevirtual 505, 3) ∧ decode cJ0_indexOf_7cf53 33 = .ok (.invokestatic 640, 3)) ∧ decode cJ0_indexOf_7cf53 36 = .ok (.ireturn, 1)) := by decide +kernel
theorem dt_J1_indexOf_4cfef_0 : ((((decode cJ1_indexOf_4cfef 0 = .ok (.iload_n 1, 1) ∧ decode cJ1_indexOf_4cfef 1 = .ok (.invokestatic 88, 3)) ∧ (decode cJ1_indexOf_4cfef 4 = .ok (.ifCond .ne 5, 3) ∧ decode cJ1_indexOf_4cfef 7 = .ok (.iconst (-1), 1))) ∧ ((decode cJ1_indexOf_4cfef 8 = .ok (.ireturn, 1) ∧ decode cJ1_indexOf_4cfef 9 = .ok (.iload_n 2, 1)) ∧ (decode cJ1_indexOf_4cfef 10 = .ok (.iconst 0, 1) ∧ decode cJ1_indexOf_4cfef 11 = .ok (.invokestatic 92, 3)))) ∧ (((decode cJ1_indexOf_4cfef 14 = .ok (.istore_n 2, 1) ∧ decode cJ1_indexOf_4cfef 15 = .ok (.iload_n 3, 1)) ∧ (decode cJ1_indexOf_4cfef 16 = .ok (.aload_n 0, 1) ∧ decode cJ1_indexOf_4cfef 17 = .ok (.arraylength, 1))) ∧ ((decode cJ1_indexOf_4cfef 18 = .ok (.invokestatic 38, 3) ∧ decode cJ1_indexOf_4cfef 21 = .ok (.istore_n 3, 1)) ∧ (decode cJ1_indexOf_4cfef 22 = .ok (.iload_n 2, 1) ∧ decode cJ1_indexOf_4cfef 23 = .ok (.iload_n 3, 1))))) := by decide +kernel
theorem dt_J1_indexOf_4cfef_1 : ((((decode cJ1_indexOf_4cfef 24 = .ok (.if_icmp .lt 5, 3) ∧ decode cJ1_indexOf_4cfef 27 = .ok (.iconst (-1), 1)) ∧ decode cJ1_indexOf_4cfef 28 = .ok (.ireturn, 1)) ∧ (decode cJ1_indexOf_4cfef 29 = .ok (.aload_n 0, 1) ∧ decode cJ1_indexOf_4cfef 30 = .ok (.iload_n 1, 1))) ∧ ((decode cJ1_indexOf_4cfef 31 = .ok (.iload_n 2, 1) ∧ decode cJ1_indexOf_4cfef 32 = .ok (.iload_n 3, 1)) ∧ (decode cJ1_indexOf_4cfef 33 = .ok (.invokestatic 95, 3) ∧ decode cJ1_indexOf_4cfef 36 = .ok (.ireturn, 1)))) := by decide +kernel
theorem dt_J1_canEncode_9a6ad_0 : ((((decode cJ1_canEncode_9a6ad 0 = .ok (.iload_n 0, 1) ∧ decode cJ1_canEncode_9a6ad 1 = .ok (.ifCond .lt 14, 3)) ∧ decode cJ1_canEncode_9a6ad 4 = .ok (.iload_n 0, 1)) ∧ (decode cJ1_canEncode_9a6ad 5 = .ok (.sipush 255, 3) ∧ decode cJ1_canEncode_9a6ad 8 = .ok (.if_icmp .gt 7, 3))) ∧ ((decode cJ1_canEncode_9a6ad 11 = .ok (.iconst 1, 1) ∧ decode cJ1_canEncode_9a6ad 12 = .ok (.goto 4, 3)) ∧ (decode cJ1_canEncode_9a6ad 15 = .ok (.iconst 0, 1) ∧ decode cJ1_canEncode_9a6ad 16 = .ok (.ireturn, 1)))) := by decide +kernel
theorem dt_J1_indexOfChar_4cfef_0 : ((((decode cJ1_indexOfChar_4cfef 0 = .ok (.iload_n 1, 1) ∧ decode cJ1_indexOfChar_4cfef 1 = .ok (.i2b, 1)) ∧ (decode cJ1_indexOfChar_4cfef 2 = .ok (.istore 4, 2) ∧ decode cJ1_indexOfChar_4cfef 4 = .ok (.iload_n 2, 1))) ∧ ((decode cJ1_indexOfChar_4cfef 5 = .ok (.istore 5, 2) ∧ decode cJ1_indexOfChar_4cfef 7 = .ok (.iload 5, 2)) ∧ (decode cJ1_indexOfChar_4cfef 9 = .ok (.iload_n 3, 1) ∧ decode cJ1_indexOfChar_4cfef 10 = .ok (.if_icmp .ge 21, 3)))) ∧ (((decode cJ1_indexOfChar_4cfef 13 = .ok (.aload_n 0, 1) ∧ decode cJ1_indexOfChar_4cfef 14 = .ok (.iload 5, 2)) ∧ (decode cJ1_indexOfChar_4cfef 16 = .ok (.baload, 1) ∧ decode cJ1_indexOfChar_4cfef 17 = .ok (.iload 4, 2))) ∧ ((decode cJ1_indexOfChar_4cfef 19 = .ok (.if_icmp .ne 6, 3) ∧ decode cJ1_indexOfChar_4cfef 22 = .ok (.iload 5, 2)) ∧ (decode cJ1_indexOfChar_4cfef 24 = .ok (.ireturn, 1) ∧ decode cJ1_indexOfChar_4cfef 25 = .ok (.iinc 5 1, 3))))) := by decide +kernel
theorem dt_J1_indexOfChar_4cfef_1 : ((decode cJ1_indexOfChar_4cfef 28 = .ok (.goto (-21), 3) ∧ decode cJ1_indexOfChar_4cfef 31 = .ok (.iconst (-1), 1)) ∧ decode cJ1_indexOfChar_4cfef 32 = .ok (.ireturn, 1)) := by decide +kernel
theorem pn_J0 : plainName RJ0 = true := by decide +kernel
theorem pn_J1 : plainName RJ1 = true := by decide +kernel
theorem pn_J3 : plainName RJ3 = true := by decide +kernel
theorem zs_len : ∀ i, i < 14 → jShr (nI (zLen.getD i 0)) 0 = nI (zLen.getD i 0) := by decide +kernel
theorem zs_le : ∀ i, i < 14 → zLen.getD i 0 = (zByt.getD i []).length ∧ 0 < zLen.getD i 0 ∧ zLen.getD i 0 ≤ 10 := by decide +kernel
theorem zs_ch : ∀ i, i < 14 → ∀ k, k < zLen.getD i 0 → ((((zByt.getD i []).getD k 0) &&& 255).toUInt32 % 65536).toInt32 = (zByt.getD i []).getD k 0 ∧ narrow .char (.int ((zByt.getD i []).getD k 0)) = .int ((zByt.getD i []).getD k 0) := by decide +kernel
theorem zs_eq : ∀ i, i < 14 → ∀ k, k < zLen.getD i 0 → ∀ n, n < 256 → ((zByt.getD i []).getD k 0 = (nI n).toInt8.toInt32 ↔ (zByt.getD i []).getD k 0 = nI n) := by decide +kernel
section ZSTR
variable {l : Launch} {D : va_G} {cl : List vw_C} {tys : List (ClassId × FieldType)} {A : Nat → Prop} {ad : (Nat → Nat) × (Nat → Nat)} {R : Room} {wf : Zst → va_W} {own : String} {cc : ByteArray} {nL : Nat} {rt : Option FieldType} {σo : Zst} {ov : Option Value} {G : Zst → List (Nat × Value) → Nat → List Value → Prop}
variable {σ : Zst} {lv : List (Nat × Value)} {pc : Nat} {st : List Value}
theorem z_nret {v : Int32} {ty : FieldType} (M : zM l D cl tys A ad R wf own cc nL (some ty) σ (some (.int v)) G) (h : narrow ty (.int v) = .int v) (d : decode cc pc = .ok (.ireturn, 1)) : G σ lv pc [.int v] := by
  obtain ⟨p, e, s, m, args, below, meth, c, hx, hb, hml, hown, hts, hE, hD, hr, hlk, rfl⟩ := M
  have hK := hE.1
  intro H locs ls hP hS hl
  exact W.zret hx hb hr h (fun t ht hW => ⟨⟨rfl, by rw [ht]; exact hP⟩, hS.F ht⟩) hS.2.2 d hlk
theorem z_getsZ (M : zM l D cl tys A ad R wf own cc nL rt σo ov G) {index : Nat} (hl9 : Cond.fieldLink own index RJ0 "COMPACT_STRINGS" "Z" ∈ uw) (d : decode cc pc = .ok (.getstatic index, 3)) (kk : G σ lv (pc + 3) (.int 1 :: st)) : G σ lv pc st := by
  obtain ⟨p, e, s, m, args, below, meth, c, hx, hb, hml, hown, hts, hE, hD, hr, hlk, rfl⟩ := M
  have hK := hE.1
  intro H locs ls hP hS hl
  exact va_gets hx hb hE.2.2.2.2.1 hS hown (hts _ hl9) (fun _ h9 => h9) d (kk H locs ls hP hS hl)
theorem z_getsQ (M : zM l D cl tys A ad R wf own cc nL rt σo ov G) {index : Nat} (hl9 : Cond.fieldLink own index RJ3 "SIOOBE_FORMATTER" "Ljava/util/function/BiFunction;" ∈ uw) (d : decode cc pc = .ok (.getstatic index, 3)) (kk : ∀ v : Value, (v = .null ∨ ∃ t, v = .ref t) → G σ lv (pc + 3) (v :: st)) : G σ lv pc st := by
  obtain ⟨p, e, s, m, args, below, meth, c, hx, hb, hml, hown, hts, hE, hD, hr, hlk, rfl⟩ := M
  have hK := hE.1
  intro H locs ls hP hS hl
  rcases hE.2.2.2.2.2 with hz | ⟨t, hz⟩
  · exact va_gets hx hb hz hS hown (hts _ hl9) (fun _ h9 => h9) d (kk _ (Or.inl rfl) H locs ls hP hS hl)
  · exact va_gets hx hb hz hS hown (hts _ hl9) (fun _ h9 => h9) d (kk _ (Or.inr ⟨t, rfl⟩) H locs ls hP hS hl)
theorem z_sval (M : zM l D cl tys A ad R wf own cc nL rt σo ov G) {index i : Nat} (hi : i < 14) (hl9 : Cond.fieldLink own index RJ0 "value" "[B" ∈ uw) (d : decode cc pc = .ok (.getfield index, 3)) (kk : G σ lv (pc + 3) (.ref (ad.2 i) :: st)) : G σ lv pc (.ref (ad.1 i) :: st) := by
  obtain ⟨p, e, s, m, args, below, meth, c, hx, hb, hml, hown, hts, hE, hD, hr, hlk, rfl⟩ := M
  have hK := hE.1
  intro H locs ls hP hS hl
  exact vk_getf hx hb (hE.2.2.1.1 i hi).2.2.1 hS hown (hts _ hl9) (fun _ h9 => h9) d (kk H locs ls hP hS hl)
theorem z_scod (M : zM l D cl tys A ad R wf own cc nL rt σo ov G) {index i : Nat} (hi : i < 14) (hl9 : Cond.fieldLink own index RJ0 "coder" "B" ∈ uw) (d : decode cc pc = .ok (.getfield index, 3)) (kk : G σ lv (pc + 3) (.int 0 :: st)) : G σ lv pc (.ref (ad.1 i) :: st) := by
  obtain ⟨p, e, s, m, args, below, meth, c, hx, hb, hml, hown, hts, hE, hD, hr, hlk, rfl⟩ := M
  have hK := hE.1
  intro H locs ls hP hS hl
  exact vk_getf hx hb (hE.2.2.1.1 i hi).2.1 hS hown (hts _ hl9) (fun _ h9 => h9) d (kk H locs ls hP hS hl)
theorem z_sblen (M : zM l D cl tys A ad R wf own cc nL rt σo ov G) {i : Nat} (hi : i < 14) (d : decode cc pc = .ok (.arraylength, 1)) (kk : G σ lv (pc + 1) (.int (nI (zLen.getD i 0)) :: st)) : G σ lv pc (.ref (ad.2 i) :: st) := by
  obtain ⟨p, e, s, m, args, below, meth, c, hx, hb, hml, hown, hts, hE, hD, hr, hlk, rfl⟩ := M
  have hK := hE.1
  intro H locs ls hP hS hl
  exact va_tlen hx hb (hE.2.2.1.1 i hi).2.2.2 hS rfl d (kk H locs ls hP hS hl)
theorem z_sbld (M : zM l D cl tys A ad R wf own cc nL rt σo ov G) {i : Nat} (hi : i < 14) {k : Int32} (hin : vp_in k (zLen.getD i 0)) (d : decode cc pc = .ok (.baload, 1)) (kk : G σ lv (pc + 1) (.int ((zByt.getD i []).getD k.toNatClampNeg 0) :: st)) : G σ lv pc (.int k :: .ref (ad.2 i) :: st) := by
  obtain ⟨p, e, s, m, args, below, meth, c, hx, hb, hml, hown, hts, hE, hD, hr, hlk, rfl⟩ := M
  have hK := hE.1
  intro H locs ls hP hS hl
  exact va_tb hx hb (hE.2.2.1.1 i hi).2.2.2 hS hin rfl d (kk H locs ls hP hS hl)
theorem z_callVS {n : Nat} (M : zM l D cl tys A ad (zR n) wf own cc nL rt σo ov G) {y : MethodName} {bytes : ByteArray} {maxL n1 index : Nat} {ret : Option FieldType} {σ1 : Zst} {ov1 : Option Value} (As : List Value) {rest : List Value} {i : Nat} (hi : i < 14) (hM : zT l D cl tys A ad wf y bytes maxL ret n1 (.ref (ad.1 i) :: As) σ σ1 ov1) (hl9 : Cond.methodLink own index y ∈ uw) (hini : Cond.initialized y.cls ∈ uw) (hcode : Cond.code y bytes maxL ret ∈ uw) (hi9 : Cond.instanceMethod y ∈ uw) (hs : Cond.selects "java/lang/String" y y ∈ uw) (hd : y.cls ≠ "java/lang/invoke/MethodHandle" ∧ y.cls ≠ "java/lang/invoke/VarHandle" ∧ (parseMethodDescriptor y.desc).map (fun d => d.parameters.length) = some As.length) (hR : n1 + 1 ≤ n) (hm : maxL ≤ 45) (hst : st = As.reverse ++ .ref (ad.1 i) :: rest) (hW : (rest.map fun v => v.category).sum ≤ 8) (d : decode cc pc = .ok (.invokevirtual index, 3)) (kk : G σ1 lv (pc + 3) (ov1.toList ++ rest)) : G σ lv pc st := by
  obtain ⟨p, e, s, m, args, below, meth, c, hx, hb, hml, hown, hts, hE, hD, hr, hlk, rfl⟩ := M
  have hK := hE.1
  intro H locs ls hP hS hl
  exact z_run (va_runV (n := As.length) ⟨hx, hb, hml, hown, hts⟩ hM ⟨callB_of As.length hts (fun w hw => ⟨(uw_good hcode w hw).1, (uw_good hcode w hw).2⟩) rfl rfl rfl (hts _ hini) (hts _ hl9) hd (zR_r hR hm), hts _ hi9, hts _ hs⟩ ⟨z_blind, vk_recv hE.2.2.1 hi hS, fun U hU hW => ⟨rfl, by rw [hU]; exact hP, zE_call hW hU hS hE⟩⟩ rfl rfl hl.1 hst (lv_room hW) d ⟨Nat.le_refl _, Nat.le_refl _⟩) hS hl kk
set_option maxRecDepth 100000 in
theorem m_J0_coder_7d493 (hD : ∀ σ, va_D A (wf σ)) (σ0 : Zst) {i : Nat} (hi : i < 14) : zT l D cl tys A ad wf yJ0_coder_7d493 cJ0_coder_7d493 1 (some .byte) 1 [.ref (ad.1 i)] σ0 σ0 (some (.int 0)) := by
  refine z_met pn_J0 hD (Nat.le_of_ble_eq_true rfl) rfl (fun G M => ?_)
  refine z_getsZ M u660 dt_J0_coder_7d493_0.1.1.1 ?_
  refine z_if_eq (tgt := 13) M dt_J0_coder_7d493_0.1.1.2 (by decide) (fun hc => absurd hc (by decide)) (fun hc => ?_)
  refine z_aload_n M dt_J0_coder_7d493_0.1.2.1 rfl 0 rfl ?_
  refine z_scod M hi u2183 dt_J0_coder_7d493_0.1.2.2 ?_
  refine z_goto (tgt := 14) M dt_J0_coder_7d493_0.2.1.1 (by decide) ?_
  exact z_nret M rfl dt_J0_coder_7d493_0.2.2
set_option maxRecDepth 100000 in
theorem m_J0_isLatin1_aae02 (hD : ∀ σ, va_D A (wf σ)) (σ0 : Zst) {i : Nat} (hi : i < 14) : zT l D cl tys A ad wf yJ0_isLatin1_aae02 cJ0_isLatin1_aae02 1 (some .boolean) 1 [.ref (ad.1 i)] σ0 σ0 (some (.int 1)) := by
  refine z_met pn_J0 hD (Nat.le_of_ble_eq_true rfl) rfl (fun G M => ?_)
  refine z_getsZ M u660 dt_J0_isLatin1_aae02_0.1.1.1.1 ?_
  refine z_if_eq (tgt := 17) M dt_J0_isLatin1_aae02_0.1.1.1.2 (by decide) (fun hc => absurd hc (by decide)) (fun hc => ?_)
  refine z_aload_n M dt_J0_isLatin1_aae02_0.1.1.2 rfl 0 rfl ?_
  refine z_scod M hi u2183 dt_J0_isLatin1_aae02_0.1.2.1 ?_
  refine z_if_ne (tgt := 17) M dt_J0_isLatin1_aae02_0.1.2.2 (by decide) (fun hc => absurd rfl hc) (fun hc => ?_)
  refine z_iconst M dt_J0_isLatin1_aae02_0.2.1.1 ki_1 ?_
  refine z_goto (tgt := 18) M dt_J0_isLatin1_aae02_0.2.1.2 (by decide) ?_
  exact z_nret M rfl dt_J0_isLatin1_aae02_0.2.2.2
set_option maxRecDepth 100000 in
theorem m_J0_length_8abf5 (hD : ∀ σ, va_D A (wf σ)) (σ0 : Zst) {i : Nat} (hi : i < 14) : zT l D cl tys A ad wf yJ0_length_8abf5 cJ0_length_8abf5 1 (some .int) 2 [.ref (ad.1 i)] σ0 σ0 (some (.int (zStrLen i))) := by
  refine z_met pn_J0 hD (Nat.le_of_ble_eq_true rfl) rfl (fun G M => ?_)
  refine z_aload_n M dt_J0_length_8abf5_0.1.1.1 rfl 0 rfl ?_
  refine z_sval M hi u2184 dt_J0_length_8abf5_0.1.1.2 ?_
  refine z_sblen M hi dt_J0_length_8abf5_0.1.2.1 ?_
  refine z_aload_n M dt_J0_length_8abf5_0.1.2.2 rfl 0 rfl ?_
  refine z_callVS M [] hi (m_J0_coder_7d493 (zM_hD M) σ0 hi) u666 u101 u669 u667 u668 hd_J0_coder_7d493 (by decide) (by decide) rfl (Nat.le_of_ble_eq_true rfl) dt_J0_length_8abf5_0.2.1.1 ?_
  refine z_ishr M dt_J0_length_8abf5_0.2.1.2 ?_
  rw [zs_len i hi]
  exact z_iret M dt_J0_length_8abf5_0.2.2
set_option maxRecDepth 100000 in
theorem m_J1_canEncode_9a6ad (hD : ∀ σ, va_D A (wf σ)) (σ0 : Zst) {n : Nat} (hn : n < 256) : zT l D cl tys A ad wf yJ1_canEncode_9a6ad cJ1_canEncode_9a6ad 1 (some .boolean) 1 [.int (nI n)] σ0 σ0 (some (.int 1)) := by
  refine z_met pn_J1 hD (Nat.le_of_ble_eq_true rfl) rfl (fun G M => ?_)
  refine z_iload_n M dt_J1_canEncode_9a6ad_0.1.1.1.1 rfl 0 rfl ?_
  refine z_if_lt (tgt := 15) M dt_J1_canEncode_9a6ad_0.1.1.1.2 (by decide) (fun hc => absurd hc (nI_pos (by omega))) (fun hc => ?_)
  refine z_iload_n M dt_J1_canEncode_9a6ad_0.1.1.2 rfl 0 rfl ?_
  refine z_sipush M dt_J1_canEncode_9a6ad_0.1.2.1 ks_255 ?_
  refine z_icmp_gt (tgt := 15) M dt_J1_canEncode_9a6ad_0.1.2.2 (by decide) (fun hc => absurd (show nI 255 < nI n from hc) (nI_nlt (by omega) (by omega))) (fun hc => ?_)
  refine z_iconst M dt_J1_canEncode_9a6ad_0.2.1.1 ki_1 ?_
  refine z_goto (tgt := 16) M dt_J1_canEncode_9a6ad_0.2.1.2 (by decide) ?_
  exact z_nret M rfl dt_J1_canEncode_9a6ad_0.2.2.2
set_option maxRecDepth 100000 in
theorem m_J3_checkIndex_8e157 (hD : ∀ σ, va_D A (wf σ)) (σ0 : Zst) {j N : Nat} (hj : j < N) (hN : N < 2 ^ 31) (t : Nat) : zT l D cl tys A ad wf yJ3_checkIndex_8e157 cJ3_checkIndex_8e157 3 (some .int) 1 [.int (nI j), .int (nI N), .ref t] σ0 σ0 (some (.int (nI j))) := by
  refine z_met pn_J3 hD (Nat.le_of_ble_eq_true rfl) rfl (fun G M => ?_)
  refine z_iload_n M dt_J3_checkIndex_8e157_0.1.1.1.1 rfl 0 rfl ?_
  refine z_if_lt (tgt := 9) M dt_J3_checkIndex_8e157_0.1.1.1.2 (by decide) (fun hc => absurd hc (nI_pos (by omega))) (fun hc => ?_)
  refine z_iload_n M dt_J3_checkIndex_8e157_0.1.1.2 rfl 0 rfl ?_
  refine z_iload_n M dt_J3_checkIndex_8e157_0.1.2.1.1 rfl 1 rfl ?_
  refine z_icmp_lt (tgt := 16) M dt_J3_checkIndex_8e157_0.1.2.1.2 (by decide) (fun hc => ?_) (fun hc => absurd (nI_lt hj hN) hc)
  refine z_iload_n M dt_J3_checkIndex_8e157_0.2.2.1.2 rfl 0 rfl ?_
  exact z_iret M dt_J3_checkIndex_8e157_0.2.2.2
set_option maxRecDepth 100000 in
theorem m_J3_checkIndex_8e157_n (hD : ∀ σ, va_D A (wf σ)) (σ0 : Zst) {j N : Nat} (hj : j < N) (hN : N < 2 ^ 31) : zT l D cl tys A ad wf yJ3_checkIndex_8e157 cJ3_checkIndex_8e157 3 (some .int) 1 [.int (nI j), .int (nI N), .null] σ0 σ0 (some (.int (nI j))) := by
  refine z_met pn_J3 hD (Nat.le_of_ble_eq_true rfl) rfl (fun G M => ?_)
  refine z_iload_n M dt_J3_checkIndex_8e157_0.1.1.1.1 rfl 0 rfl ?_
  refine z_if_lt (tgt := 9) M dt_J3_checkIndex_8e157_0.1.1.1.2 (by decide) (fun hc => absurd hc (nI_pos (by omega))) (fun hc => ?_)
  refine z_iload_n M dt_J3_checkIndex_8e157_0.1.1.2 rfl 0 rfl ?_
  refine z_iload_n M dt_J3_checkIndex_8e157_0.1.2.1.1 rfl 1 rfl ?_
  refine z_icmp_lt (tgt := 16) M dt_J3_checkIndex_8e157_0.1.2.1.2 (by decide) (fun hc => ?_) (fun hc => absurd (nI_lt hj hN) hc)
  refine z_iload_n M dt_J3_checkIndex_8e157_0.2.2.1.2 rfl 0 rfl ?_
  exact z_iret M dt_J3_checkIndex_8e157_0.2.2.2
set_option maxRecDepth 100000 in
theorem m_J0_checkIndex_df160 (hD : ∀ σ, va_D A (wf σ)) (σ0 : Zst) {j N : Nat} (hj : j < N) (hN : N < 2 ^ 31) : zT l D cl tys A ad wf yJ0_checkIndex_df160 cJ0_checkIndex_df160 2 none 2 [.int (nI j), .int (nI N)] σ0 σ0 none := by
  refine z_met pn_J0 hD (Nat.le_of_ble_eq_true rfl) rfl (fun G M => ?_)
  refine z_iload_n M dt_J0_checkIndex_df160_0.1.1.1 rfl 0 rfl ?_
  refine z_iload_n M dt_J0_checkIndex_df160_0.1.1.2 rfl 1 rfl ?_
  refine z_getsQ M u703 dt_J0_checkIndex_df160_0.1.2 (fun v hv => ?_)
  rcases hv with rfl | ⟨t, rfl⟩
  · refine z_callS M [.int (nI j), .int (nI N), .null] (m_J3_checkIndex_8e157_n (zM_hD M) σ0 hj hN) u1620 u104 u1622 u1621 hd_J3_checkIndex_8e157 (by decide) (by decide) rfl (Nat.le_of_ble_eq_true rfl) dt_J0_checkIndex_df160_0.2.1.1 ?_
    refine z_pop M dt_J0_checkIndex_df160_0.2.1.2 rfl ?_
    exact z_vret M dt_J0_checkIndex_df160_0.2.2
  · refine z_callS M [.int (nI j), .int (nI N), .ref t] (m_J3_checkIndex_8e157 (zM_hD M) σ0 hj hN t) u1620 u104 u1622 u1621 hd_J3_checkIndex_8e157 (by decide) (by decide) rfl (Nat.le_of_ble_eq_true rfl) dt_J0_checkIndex_df160_0.2.1.1 ?_
    refine z_pop M dt_J0_checkIndex_df160_0.2.1.2 rfl ?_
    exact z_vret M dt_J0_checkIndex_df160_0.2.2
set_option maxRecDepth 100000 in
theorem m_J1_charAt_3b067 (hD : ∀ σ, va_D A (wf σ)) (σ0 : Zst) {i j : Nat} (hi : i < 14) (hj : j < zLen.getD i 0) : zT l D cl tys A ad wf yJ1_charAt_3b067 cJ1_charAt_3b067 2 (some .char) 3 [.ref (ad.2 i), .int (nI j)] σ0 σ0 (some (.int ((zByt.getD i []).getD j 0))) := by
  refine z_met pn_J1 hD (Nat.le_of_ble_eq_true rfl) rfl (fun G M => ?_)
  have hL := zs_le i hi
  refine z_iload_n M dt_J1_charAt_3b067_0.1.1.1.1 rfl 1 rfl ?_
  refine z_aload_n M dt_J1_charAt_3b067_0.1.1.1.2 rfl 0 rfl ?_
  refine z_sblen M hi dt_J1_charAt_3b067_0.1.1.2 ?_
  refine z_callS M [.int (nI j), .int (nI (zLen.getD i 0))] (m_J0_checkIndex_df160 (zM_hD M) σ0 hj (by omega)) u1617 u101 u1619 u1618 hd_J0_checkIndex_df160 (by decide) (by decide) rfl (Nat.le_of_ble_eq_true rfl) dt_J1_charAt_3b067_0.1.2.1.1 ?_
  refine z_aload_n M dt_J1_charAt_3b067_0.1.2.1.2 rfl 0 rfl ?_
  refine z_iload_n M dt_J1_charAt_3b067_0.1.2.2 rfl 1 rfl ?_
  refine z_sbld M hi (vp_in_nI hj (by omega)) dt_J1_charAt_3b067_0.2.1.1.1 ?_
  rw [nI_clamp (show j < 2 ^ 31 by omega)]
  refine z_sipush M dt_J1_charAt_3b067_0.2.1.1.2 ks_255 ?_
  refine z_iand M dt_J1_charAt_3b067_0.2.1.2 ?_
  refine z_i2c M dt_J1_charAt_3b067_0.2.2.1 (zs_ch i hi j hj).1 ?_
  exact z_nret M (zs_ch i hi j hj).2 dt_J1_charAt_3b067_0.2.2.2
set_option maxRecDepth 100000 in
theorem m_J0_charAt_5068e (hD : ∀ σ, va_D A (wf σ)) (σ0 : Zst) {i j : Nat} (hi : i < 14) (hj : j < zLen.getD i 0) : zT l D cl tys A ad wf yJ0_charAt_5068e cJ0_charAt_5068e 2 (some .char) 4 [.ref (ad.1 i), .int (nI j)] σ0 σ0 (some (.int ((zByt.getD i []).getD j 0))) := by
  refine z_met pn_J0 hD (Nat.le_of_ble_eq_true rfl) rfl (fun G M => ?_)
  refine z_aload_n M dt_J0_charAt_5068e_0.1.1.1.1 rfl 0 rfl ?_
  refine z_callVS M [] hi (m_J0_isLatin1_aae02 (zM_hD M) σ0 hi) u656 u101 u659 u657 u658 hd_J0_isLatin1_aae02 (by decide) (by decide) rfl (Nat.le_of_ble_eq_true rfl) dt_J0_charAt_5068e_0.1.1.1.2 ?_
  refine z_if_eq (tgt := 16) M dt_J0_charAt_5068e_0.1.1.2.1 (by decide) (fun hc => absurd hc (by decide)) (fun hc => ?_)
  refine z_aload_n M dt_J0_charAt_5068e_0.1.1.2.2 rfl 0 rfl ?_
  refine z_sval M hi u2184 dt_J0_charAt_5068e_0.1.2.1.1 ?_
  refine z_iload_n M dt_J0_charAt_5068e_0.1.2.1.2 rfl 1 rfl ?_
  refine z_callS M [.ref (ad.2 i), .int (nI j)] (m_J1_charAt_3b067 (zM_hD M) σ0 hi hj) u1614 u102 u1616 u1615 hd_J1_charAt_3b067 (by decide) (by decide) rfl (Nat.le_of_ble_eq_true rfl) dt_J0_charAt_5068e_0.1.2.2 ?_
  exact z_nret M (zs_ch i hi j hj).2 dt_J0_charAt_5068e_0.2.1.1.1
theorem w_ixc {i n : Nat} (hi : i < 14) (hn : n < 256) {σ0 : Zst} (M : zM l D cl tys A ad (zR 1) wf RJ1 cJ1_indexOfChar_4cfef 6 (some .int) σ0 (some (.int (zStrIx i (nI n)))) G) : ∀ (q j : Nat), j + q = zLen.getD i 0 → zIxF (nI n) ((zByt.getD i []).drop j) j = zStrIx i (nI n) → G σ0 [(5, .int (nI j)), (4, .int (nI n).toInt8.toInt32), (0, .ref (ad.2 i)), (1, .int (nI n)), (2, .int 0), (3, .int (nI (zLen.getD i 0)))] 7 [] := by
  have hL := zs_le i hi
  intro q
  induction q with
  | zero =>
    intro j hj h
    refine z_iload M dt_J1_indexOfChar_4cfef_0.1.2.1.2 0 rfl ?_
    refine z_iload_n M dt_J1_indexOfChar_4cfef_0.1.2.2.1 rfl 5 rfl ?_
    refine z_icmp_ge (tgt := 31) M dt_J1_indexOfChar_4cfef_0.1.2.2.2 (by decide) (fun hc => ?_) (fun hc => absurd (nI_le (by omega) (by omega)) hc)
    refine z_iconst M dt_J1_indexOfChar_4cfef_1.1.2 ki_m1 ?_
    rw [List.drop_eq_nil_of_le (by omega)] at h
    rw [← h] at M
    exact z_iret M dt_J1_indexOfChar_4cfef_1.2
  | succ q ih =>
    intro j hj h
    have hlt : j < (zByt.getD i []).length := by omega
    rw [List.drop_eq_getElem_cons hlt] at h
    have hg : (zByt.getD i []).getD j 0 = (zByt.getD i [])[j] := by rw [List.getD_eq_getElem?_getD, List.getElem?_eq_getElem hlt]; rfl
    refine z_iload M dt_J1_indexOfChar_4cfef_0.1.2.1.2 0 rfl ?_
    refine z_iload_n M dt_J1_indexOfChar_4cfef_0.1.2.2.1 rfl 5 rfl ?_
    refine z_icmp_ge (tgt := 31) M dt_J1_indexOfChar_4cfef_0.1.2.2.2 (by decide) (fun hc => absurd hc (nI_ge (by omega) (by omega))) (fun hc => ?_)
    refine z_aload_n M dt_J1_indexOfChar_4cfef_0.2.1.1.1 rfl 2 rfl ?_
    refine z_iload M dt_J1_indexOfChar_4cfef_0.2.1.1.2 0 rfl ?_
    refine z_sbld M hi (vp_in_nI (by omega) (by omega)) dt_J1_indexOfChar_4cfef_0.2.1.2.1 ?_
    rw [nI_clamp (show j < 2 ^ 31 by omega)]
    refine z_iload M dt_J1_indexOfChar_4cfef_0.2.1.2.2 1 rfl ?_
    have hq := zs_eq i hi j (by omega) n hn
    refine z_icmp_ne (tgt := 25) M dt_J1_indexOfChar_4cfef_0.2.2.1.1 (by decide) (fun hc => ?_) (fun hc => ?_)
    · have h2 : ¬ (zByt.getD i [])[j] = nI n := fun z => hc (hq.mpr (hg.trans z))
      rw [zIxF, if_neg h2] at h
      refine z_iinc (v := nI (j + 1)) (lv' := [(5, .int (nI (j + 1))), (4, .int (nI n).toInt8.toInt32), (0, .ref (ad.2 i)), (1, .int (nI n)), (2, .int 0), (3, .int (nI (zLen.getD i 0)))]) M dt_J1_indexOfChar_4cfef_0.2.2.2.2 (k := 0) rfl (nI_1 j) (by decide) rfl ?_
      refine z_goto (tgt := 7) M dt_J1_indexOfChar_4cfef_1.1.1 (by decide) ?_
      exact ih (j + 1) (by omega) h
    · have h2 : (zByt.getD i [])[j] = nI n := hg.symm.trans (hq.mp hc)
      rw [zIxF, if_pos h2] at h
      refine z_iload M dt_J1_indexOfChar_4cfef_0.2.2.1.2 0 rfl ?_
      rw [← h] at M
      exact z_iret M dt_J1_indexOfChar_4cfef_0.2.2.2.1
set_option maxRecDepth 100000 in
theorem m_J1_indexOfChar_4cfef (hD : ∀ σ, va_D A (wf σ)) (σ0 : Zst) {i n : Nat} (hi : i < 14) (hn : n < 256) : zT l D cl tys A ad wf yJ1_indexOfChar_4cfef cJ1_indexOfChar_4cfef 6 (some .int) 1 [.ref (ad.2 i), .int (nI n), .int 0, .int (nI (zLen.getD i 0))] σ0 σ0 (some (.int (zStrIx i (nI n)))) := by
  refine z_met pn_J1 hD (Nat.le_of_ble_eq_true rfl) rfl (fun G M => ?_)
  refine z_iload_n M dt_J1_indexOfChar_4cfef_0.1.1.1.1 rfl 1 rfl ?_
  refine z_i2b M dt_J1_indexOfChar_4cfef_0.1.1.1.2 ?_
  refine z_istore (lv' := [(4, .int (nI n).toInt8.toInt32), (0, .ref (ad.2 i)), (1, .int (nI n)), (2, .int 0), (3, .int (nI (zLen.getD i 0)))]) M dt_J1_indexOfChar_4cfef_0.1.1.2.1 (by decide) rfl ?_
  refine z_iload_n M dt_J1_indexOfChar_4cfef_0.1.1.2.2 rfl 3 rfl ?_
  refine z_istore (lv' := [(5, .int 0), (4, .int (nI n).toInt8.toInt32), (0, .ref (ad.2 i)), (1, .int (nI n)), (2, .int 0), (3, .int (nI (zLen.getD i 0)))]) M dt_J1_indexOfChar_4cfef_0.1.2.1.1 (by decide) rfl ?_
  exact w_ixc hi hn M (zLen.getD i 0) 0 (by omega) rfl
set_option maxRecDepth 100000 in
theorem m_J1_indexOf_4cfef (hD : ∀ σ, va_D A (wf σ)) (σ0 : Zst) {i n : Nat} (hi : i < 14) (hn : n < 256) : zT l D cl tys A ad wf yJ1_indexOf_4cfef cJ1_indexOf_4cfef 4 (some .int) 2 [.ref (ad.2 i), .int (nI n), .int 0, .int (nI (zLen.getD i 0))] σ0 σ0 (some (.int (zStrIx i (nI n)))) := by
  refine z_met pn_J1 hD (Nat.le_of_ble_eq_true rfl) rfl (fun G M => ?_)
  have hL := zs_le i hi
  refine z_iload_n M dt_J1_indexOf_4cfef_0.1.1.1.1 rfl 1 rfl ?_
  refine z_callS M [.int (nI n)] (m_J1_canEncode_9a6ad (zM_hD M) σ0 hn) u673 u102 u675 u674 hd_J1_canEncode_9a6ad (by decide) (by decide) rfl (Nat.le_of_ble_eq_true rfl) dt_J1_indexOf_4cfef_0.1.1.1.2 ?_
  refine z_if_ne (tgt := 9) M dt_J1_indexOf_4cfef_0.1.1.2.1 (by decide) (fun hc => ?_) (fun hc => absurd hc (by decide))
  refine z_iload_n M dt_J1_indexOf_4cfef_0.1.2.1.2 rfl 2 rfl ?_
  refine z_iconst M dt_J1_indexOf_4cfef_0.1.2.2.1 ki_0 ?_
  refine z_mmax M u676 u677 u100 u678 (by decide) (Nat.le_of_ble_eq_true rfl) dt_J1_indexOf_4cfef_0.1.2.2.2 ?_
  refine z_istore_n (lv' := [(2, .int 0), (0, .ref (ad.2 i)), (1, .int (nI n)), (3, .int (nI (zLen.getD i 0)))]) M dt_J1_indexOf_4cfef_0.2.1.1.1 rfl (by decide) rfl ?_
  refine z_iload_n M dt_J1_indexOf_4cfef_0.2.1.1.2 rfl 3 rfl ?_
  refine z_aload_n M dt_J1_indexOf_4cfef_0.2.1.2.1 rfl 1 rfl ?_
  refine z_sblen M hi dt_J1_indexOf_4cfef_0.2.1.2.2 ?_
  refine z_mmin M u679 u680 u100 u681 (by decide) (Nat.le_of_ble_eq_true rfl) dt_J1_indexOf_4cfef_0.2.2.1.1 ?_
  have hmin : jMin (nI (zLen.getD i 0)) (nI (zLen.getD i 0)) = nI (zLen.getD i 0) := by unfold jMin; split <;> rfl
  rw [hmin]
  refine z_istore_n (lv' := [(3, .int (nI (zLen.getD i 0))), (2, .int 0), (0, .ref (ad.2 i)), (1, .int (nI n))]) M dt_J1_indexOf_4cfef_0.2.2.1.2 rfl (by decide) rfl ?_
  refine z_iload_n M dt_J1_indexOf_4cfef_0.2.2.2.1 rfl 1 rfl ?_
  refine z_iload_n M dt_J1_indexOf_4cfef_0.2.2.2.2 rfl 0 rfl ?_
  refine z_icmp_lt (tgt := 29) M dt_J1_indexOf_4cfef_1.1.1.1.1 (by decide) (fun hc => ?_) (fun hc => absurd (show nI 0 < nI (zLen.getD i 0) from nI_lt hL.2.1 (by omega)) hc)
  refine z_aload_n M dt_J1_indexOf_4cfef_1.1.2.1 rfl 2 rfl ?_
  refine z_iload_n M dt_J1_indexOf_4cfef_1.1.2.2 rfl 3 rfl ?_
  refine z_iload_n M dt_J1_indexOf_4cfef_1.2.1.1 rfl 1 rfl ?_
  refine z_iload_n M dt_J1_indexOf_4cfef_1.2.1.2 rfl 0 rfl ?_
  refine z_callS M [.ref (ad.2 i), .int (nI n), .int 0, .int (nI (zLen.getD i 0))] (m_J1_indexOfChar_4cfef (zM_hD M) σ0 hi hn) u682 u102 u684 u683 hd_J1_indexOfChar_4cfef (by decide) (by decide) rfl (Nat.le_of_ble_eq_true rfl) dt_J1_indexOf_4cfef_1.2.2.1 ?_
  exact z_iret M dt_J1_indexOf_4cfef_1.2.2.2
set_option maxRecDepth 100000 in
theorem m_J0_indexOf_7cf53 (hD : ∀ σ, va_D A (wf σ)) (σ0 : Zst) {i n : Nat} (hi : i < 14) (hn : n < 256) : zT l D cl tys A ad wf yJ0_indexOf_7cf53 cJ0_indexOf_7cf53 3 (some .int) 3 [.ref (ad.1 i), .int (nI n), .int 0] σ0 σ0 (some (.int (zStrIx i (nI n)))) := by
  refine z_met pn_J0 hD (Nat.le_of_ble_eq_true rfl) rfl (fun G M => ?_)
  refine z_aload_n M dt_J0_indexOf_7cf53_0.1.1.1.1 rfl 0 rfl ?_
  refine z_callVS M [] hi (m_J0_isLatin1_aae02 (zM_hD M) σ0 hi) u656 u101 u659 u657 u658 hd_J0_isLatin1_aae02 (by decide) (by decide) rfl (Nat.le_of_ble_eq_true rfl) dt_J0_indexOf_7cf53_0.1.1.1.2 ?_
  refine z_if_eq (tgt := 23) M dt_J0_indexOf_7cf53_0.1.1.2.1 (by decide) (fun hc => absurd hc (by decide)) (fun hc => ?_)
  refine z_aload_n M dt_J0_indexOf_7cf53_0.1.1.2.2 rfl 0 rfl ?_
  refine z_sval M hi u2184 dt_J0_indexOf_7cf53_0.1.2.1.1 ?_
  refine z_iload_n M dt_J0_indexOf_7cf53_0.1.2.1.2 rfl 1 rfl ?_
  refine z_iload_n M dt_J0_indexOf_7cf53_0.1.2.2.1 rfl 2 rfl ?_
  refine z_aload_n M dt_J0_indexOf_7cf53_0.1.2.2.2 rfl 0 rfl ?_
  refine z_callVS M [] hi (m_J0_length_8abf5 (zM_hD M) σ0 hi) u662 u101 u665 u663 u664 hd_J0_length_8abf5 (by decide) (by decide) rfl (Nat.le_of_ble_eq_true rfl) dt_J0_indexOf_7cf53_0.2.1.1.1 ?_
  refine z_callS M [.ref (ad.2 i), .int (nI n), .int 0, .int (nI (zLen.getD i 0))] (m_J1_indexOf_4cfef (zM_hD M) σ0 hi hn) u670 u102 u672 u671 hd_J1_indexOf_4cfef (by decide) (by decide) rfl (Nat.le_of_ble_eq_true rfl) dt_J0_indexOf_7cf53_0.2.1.1.2 ?_
  refine z_goto (tgt := 36) M dt_J0_indexOf_7cf53_0.2.1.2.1 (by decide) ?_
  exact z_iret M dt_J0_indexOf_7cf53_1.2
set_option maxRecDepth 100000 in
theorem m_J0_indexOf_0f7a4 (hD : ∀ σ, va_D A (wf σ)) (σ0 : Zst) {i n : Nat} (hi : i < 14) (hn : n < 256) : zT l D cl tys A ad wf yJ0_indexOf_0f7a4 cJ0_indexOf_0f7a4 2 (some .int) 4 [.ref (ad.1 i), .int (nI n)] σ0 σ0 (some (.int (zStrIx i (nI n)))) := by
  refine z_met pn_J0 hD (Nat.le_of_ble_eq_true rfl) rfl (fun G M => ?_)
  refine z_aload_n M dt_J0_indexOf_0f7a4_0.1.1.1 rfl 0 rfl ?_
  refine z_iload_n M dt_J0_indexOf_0f7a4_0.1.1.2 rfl 1 rfl ?_
  refine z_iconst M dt_J0_indexOf_0f7a4_0.1.2 ki_0 ?_
  refine z_callVS M [.int (nI n), .int 0] hi (m_J0_indexOf_7cf53 (zM_hD M) σ0 hi hn) u652 u101 u655 u653 u654 hd_J0_indexOf_7cf53 (by decide) (by decide) rfl (Nat.le_of_ble_eq_true rfl) dt_J0_indexOf_0f7a4_0.2.1 ?_
  exact z_iret M dt_J0_indexOf_0f7a4_0.2.2
theorem k_strlen {n : Nat} (M : zM l D cl tys A ad (zR n) wf own cc nL rt σo ov G) {i : Nat} (hi9 : i + 1 ≤ 14) {index : Nat} (hl : Cond.methodLink own index yJ0_length_8abf5 ∈ uw) (hR : 4 ≤ n) (hW : (st.map fun v => v.category).sum ≤ 8) (d : decode cc pc = .ok (.invokevirtual index, 3)) (kk : G σ lv (pc + 3) (.int (zStrLen i) :: st)) : G σ lv pc (.ref (ad.1 i) :: st) := by
  have hi : i < 14 := hi9
  exact z_callVS M [] hi (m_J0_length_8abf5 (zM_hD M) σ hi) hl u101 u665 u663 u664 hd_J0_length_8abf5 (by omega) (by decide) rfl hW d kk
theorem k_strchar {n : Nat} (M : zM l D cl tys A ad (zR n) wf own cc nL rt σo ov G) {i : Nat} {k : Int32} (hi9 : i + 1 ≤ 14) (hk : vp_in k (zLen.getD i 0)) {index : Nat} (hl : Cond.methodLink own index yJ0_charAt_5068e ∈ uw) (hR : 6 ≤ n) (hW : (st.map fun v => v.category).sum ≤ 8) (d : decode cc pc = .ok (.invokevirtual index, 3)) (kk : G σ lv (pc + 3) (.int (zStrCh i k) :: st)) : G σ lv pc (.int k :: .ref (ad.1 i) :: st) := by
  have hi : i < 14 := hi9
  have hL := zs_le i hi
  obtain ⟨j, hj, rfl⟩ := vp_in_of hk (by omega)
  have e : zStrCh i (nI j) = (zByt.getD i []).getD j 0 := by unfold zStrCh; rw [nI_clamp (by omega)]
  rw [e] at kk
  exact z_callVS M [.int (nI j)] hi (m_J0_charAt_5068e (zM_hD M) σ hi hj) hl u101 u1613 u1611 u1612 hd_J0_charAt_5068e (by omega) (by decide) rfl hW d kk
theorem k_strix {n : Nat} (M : zM l D cl tys A ad (zR n) wf own cc nL rt σo ov G) {i : Nat} {k : Int32} (hi9 : i + 1 ≤ 14) (hk : vp_in k 256) {index : Nat} (hl : Cond.methodLink own index yJ0_indexOf_0f7a4 ∈ uw) (hR : 7 ≤ n) (hW : (st.map fun v => v.category).sum ≤ 8) (d : decode cc pc = .ok (.invokevirtual index, 3)) (kk : G σ lv (pc + 3) (.int (zStrIx i k) :: st)) : G σ lv pc (.int k :: .ref (ad.1 i) :: st) := by
  have hi : i < 14 := hi9
  obtain ⟨j, hj, rfl⟩ := vp_in_of hk (by omega)
  exact z_callVS M [.int (nI j)] hi (m_J0_indexOf_0f7a4 (zM_hD M) σ hi hj) hl u101 u651 u649 u650 hd_J0_indexOf_0f7a4 (by omega) (by decide) rfl hW d kk
end ZSTR
