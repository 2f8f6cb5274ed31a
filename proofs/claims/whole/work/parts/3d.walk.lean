section ZWK
variable {l : Launch} {D : va_G} {A : Nat → Prop} {ad : (Nat → Nat) × (Nat → Nat)} {a : Nat → Nat} {cy : ClassId × (ClassId × (ClassId × ClassId))} {own : String} {cc : ByteArray} {nL : Nat} {rt : Option FieldType} {σo : Zst} {ov : Option Value} {G : Zst → List (Nat × Value) → Nat → List Value → Prop}
variable {σ σ0 : Zst} {lv : List (Nat × Value)} {pc : Nat} {st : List Value} {zcl0 : List vw_C} {tys : List (ClassId × FieldType)} {wf : Zst → va_W}
set_option maxHeartbeats 4000000 in
set_option maxRecDepth 100000 in
theorem wL_X0_nearerNeighbours_33 {o : (Zst × Int32)} (M : zM l D zcl (zty cy) A ad (zR 5) (cW a cy) RX0 cX0_nearerNeighbours 12 (some .int) o.1 (some (.int o.2)) G) {k188 : Int32 → Int32 → Int32 → Option (Zst × Int32)} (σ : Zst) (v1 : Int32) (v2 : Int32) (Hk188 : ∀ (w3 : Int32) (w4 : Int32) (w5 : Int32), k188 w3 w4 w5 = some o → G σ [(0, .ref (a 27)), (3, .int w3), (4, .int w4), (5, .int w5)] 188 []) :
    ∀ (n33 : Nat) (v3 : Int32) (v4 : Int32) (v5 : Int32) (v6 : Int32), L_X0_nearerNeighbours_33 k188 σ v1 v2 n33 v3 v4 v5 v6 = some o → G σ [(0, .ref (a 27)), (1, .int v1), (2, .int v2), (3, .int v3), (4, .int v4), (5, .int v5), (6, .int v6)] 33 [] := by
  intro n33
  induction n33 with
  | zero => intro v3 v4 v5 v6 h; exact nomatch (show (none : Option (Zst × Int32)) = some _ from h)
  | succ n33 ih =>
    intro v3 v4 v5 v6 h
    refine z_iload M dt_X0_nearerNeighbours_1.1.2.1.1 6 rfl ?_
    refine z_aload_n M dt_X0_nearerNeighbours_1.1.2.1.2 rfl 0 rfl ?_
    refine gf_X0_town M u270 dt_X0_nearerNeighbours_1.1.2.2.1 ?_
    refine k_X10_cellCount M u862 (Nat.le_of_ble_eq_true rfl) (Nat.le_of_ble_eq_true rfl) dt_X0_nearerNeighbours_1.1.2.2.2 ?_
    refine z_icmp_ge (tgt := 188) M dt_X0_nearerNeighbours_1.2.1.1.1 (by decide) (fun hc => ?_) (fun hc => ?_)
    · have h := gIt hc h
      refine z_sub M [0, 3, 4, 5] (lv' := [(0, .ref (a 27)), (3, .int v3), (4, .int v4), (5, .int v5)]) rfl ?_
      exact Hk188 v3 v4 v5 h
    · have h := gIf hc h
      refine z_aload_n M dt_X0_nearerNeighbours_1.2.1.1.2 rfl 0 rfl ?_
      refine z_iload_n M dt_X0_nearerNeighbours_1.2.1.2.1 rfl 1 rfl ?_
      refine z_iload_n M dt_X0_nearerNeighbours_1.2.1.2.2 rfl 2 rfl ?_
      refine z_iload M dt_X0_nearerNeighbours_1.2.2.1.1 6 rfl ?_
      obtain ⟨t1, hc, h⟩ := gBd h
      refine k_X0_hasNeighbours M hc u1030 (Nat.le_of_ble_eq_true rfl) (Nat.le_of_ble_eq_true rfl) dt_X0_nearerNeighbours_1.2.2.1.2 ?_
      refine z_if_eq (tgt := 182) M dt_X0_nearerNeighbours_1.2.2.2.1 (by decide) (fun hc => ?_) (fun hc => ?_)
      · have h := gIt hc h
        refine z_iinc (v := (v6 + (1 : Int32))) (lv' := [(6, .int (v6 + (1 : Int32))), (0, .ref (a 27)), (1, .int v1), (2, .int v2), (3, .int v3), (4, .int v4), (5, .int v5)]) M dt_X0_nearerNeighbours_6.1.2.1.1 (k := 6) rfl (congrArg (fun q => v6 + q) ki_1) (by decide) rfl ?_
        refine z_goto (tgt := 33) M dt_X0_nearerNeighbours_6.1.2.1.2 (by decide) ?_
        refine z_sub M [1, 2, 3, 4, 5, 6, 0] (lv' := [(0, .ref (a 27)), (1, .int v1), (2, .int v2), (3, .int v3), (4, .int v4), (5, .int v5), (6, .int (v6 + (1 : Int32)))]) rfl ?_
        exact ih v3 v4 v5 (v6 + (1 : Int32)) h
      · have h := gIf hc h
        refine z_aload_n M dt_X0_nearerNeighbours_1.2.2.2.2 rfl 0 rfl ?_
        refine gf_X0_numbers M u271 dt_X0_nearerNeighbours_2.1.1.1.1 ?_
        refine z_iconst M dt_X0_nearerNeighbours_2.1.1.1.2 ki_1 ?_
        refine z_iload M dt_X0_nearerNeighbours_2.1.1.2.1 6 rfl ?_
        refine z_iload_n M dt_X0_nearerNeighbours_2.1.1.2.2 rfl 1 rfl ?_
        obtain ⟨t2, hc, h⟩ := gBd h
        refine k_X4_of M hc u868 (Nat.le_of_ble_eq_true rfl) (Nat.le_of_ble_eq_true rfl) dt_X0_nearerNeighbours_2.1.2.1.1 ?_
        refine z_istore (lv' := [(7, .int t2), (0, .ref (a 27)), (1, .int v1), (2, .int v2), (3, .int v3), (4, .int v4), (5, .int v5), (6, .int v6)]) M dt_X0_nearerNeighbours_2.1.2.1.2 (by decide) rfl ?_
        refine z_aload_n M dt_X0_nearerNeighbours_2.1.2.2.1 rfl 1 rfl ?_
        refine gf_X0_numbers M u271 dt_X0_nearerNeighbours_2.1.2.2.2 ?_
        refine z_iconst M dt_X0_nearerNeighbours_2.2.1.1.1 ki_2 ?_
        refine z_iload_n M dt_X0_nearerNeighbours_2.2.1.1.2 rfl 3 rfl ?_
        refine z_iadd M dt_X0_nearerNeighbours_2.2.1.2.1 ?_
        refine z_iload M dt_X0_nearerNeighbours_2.2.1.2.2 7 rfl ?_
        refine z_iload_n M dt_X0_nearerNeighbours_2.2.2.1.1 rfl 2 rfl ?_
        obtain ⟨t3, hc, h⟩ := gBd h
        refine k_X4_of M hc u868 (Nat.le_of_ble_eq_true rfl) (Nat.le_of_ble_eq_true rfl) dt_X0_nearerNeighbours_2.2.2.1.2 ?_
        refine z_istore (lv' := [(8, .int t3), (7, .int t2), (0, .ref (a 27)), (1, .int v1), (2, .int v2), (3, .int v3), (4, .int v4), (5, .int v5), (6, .int v6)]) M dt_X0_nearerNeighbours_2.2.2.2.1 (by decide) rfl ?_
        refine z_aload_n M dt_X0_nearerNeighbours_2.2.2.2.2 rfl 2 rfl ?_
        refine gf_X0_numbers M u271 dt_X0_nearerNeighbours_3.1.1.1.1 ?_
        refine z_iconst M dt_X0_nearerNeighbours_3.1.1.1.2 ki_5 ?_
        refine z_iload M dt_X0_nearerNeighbours_3.1.1.2.1 8 rfl ?_
        refine z_iload_n M dt_X0_nearerNeighbours_3.1.1.2.2 rfl 3 rfl ?_
        obtain ⟨t4, hc, h⟩ := gBd h
        refine k_X4_of M hc u868 (Nat.le_of_ble_eq_true rfl) (Nat.le_of_ble_eq_true rfl) dt_X0_nearerNeighbours_3.1.2.1.1 ?_
        refine z_istore (lv' := [(9, .int t4), (8, .int t3), (7, .int t2), (0, .ref (a 27)), (1, .int v1), (2, .int v2), (3, .int v3), (4, .int v4), (5, .int v5), (6, .int v6)]) M dt_X0_nearerNeighbours_3.1.2.1.2 (by decide) rfl ?_
        refine z_iload M dt_X0_nearerNeighbours_3.1.2.2.1 1 rfl ?_
        refine z_iload M dt_X0_nearerNeighbours_3.1.2.2.2 2 rfl ?_
        refine z_isub M dt_X0_nearerNeighbours_3.2.1.1.1 ?_
        refine z_mabs M u938 u939 u100 u940 (Nat.le_of_ble_eq_true rfl) (Nat.le_of_ble_eq_true rfl) dt_X0_nearerNeighbours_3.2.1.1.2 ?_
        refine z_istore (lv' := [(10, .int (jAbs (t3 - t2))), (9, .int t4), (8, .int t3), (7, .int t2), (0, .ref (a 27)), (1, .int v1), (2, .int v2), (3, .int v3), (4, .int v4), (5, .int v5), (6, .int v6)]) M dt_X0_nearerNeighbours_3.2.1.2.1 (by decide) rfl ?_
        refine z_iload M dt_X0_nearerNeighbours_3.2.1.2.2 1 rfl ?_
        refine z_iload M dt_X0_nearerNeighbours_3.2.2.1.1 3 rfl ?_
        refine z_isub M dt_X0_nearerNeighbours_3.2.2.1.2 ?_
        refine z_mabs M u938 u939 u100 u940 (Nat.le_of_ble_eq_true rfl) (Nat.le_of_ble_eq_true rfl) dt_X0_nearerNeighbours_3.2.2.2.1 ?_
        refine z_istore (lv' := [(11, .int (jAbs (t4 - t2))), (10, .int (jAbs (t3 - t2))), (9, .int t4), (8, .int t3), (7, .int t2), (0, .ref (a 27)), (1, .int v1), (2, .int v2), (3, .int v3), (4, .int v4), (5, .int v5), (6, .int v6)]) M dt_X0_nearerNeighbours_3.2.2.2.2 (by decide) rfl ?_
        refine z_iload_n M dt_X0_nearerNeighbours_4.1.1.1.1 rfl 8 rfl ?_
        refine z_iload M dt_X0_nearerNeighbours_4.1.1.1.2 0 rfl ?_
        refine z_iload M dt_X0_nearerNeighbours_4.1.1.2.1 1 rfl ?_
        have hJ6 : G σ [(11, .int (jAbs (t4 - t2))), (10, .int (jAbs (t3 - t2))), (9, .int t4), (8, .int t3), (7, .int t2), (0, .ref (a 27)), (1, .int v1), (2, .int v2), (3, .int v3), (4, .int v4), (5, .int v5), (6, .int v6)] 130 [.int (if (jAbs (t3 - t2)) ≤ (jAbs (t4 - t2)) then (0 : Int32) else (1 : Int32)), .int v3] := by
          refine z_iadd M dt_X0_nearerNeighbours_4.1.2.2.2 ?_
          refine z_istore_n (lv' := [(3, .int (v3 + (if (jAbs (t3 - t2)) ≤ (jAbs (t4 - t2)) then (0 : Int32) else (1 : Int32)))), (11, .int (jAbs (t4 - t2))), (10, .int (jAbs (t3 - t2))), (9, .int t4), (8, .int t3), (7, .int t2), (0, .ref (a 27)), (1, .int v1), (2, .int v2), (4, .int v4), (5, .int v5), (6, .int v6)]) M dt_X0_nearerNeighbours_4.2.1.1.1 rfl (by decide) rfl ?_
          refine z_iload M dt_X0_nearerNeighbours_4.2.1.1.2 9 rfl ?_
          refine z_iload M dt_X0_nearerNeighbours_4.2.1.2.1 2 rfl ?_
          refine z_iload M dt_X0_nearerNeighbours_4.2.1.2.2 1 rfl ?_
          have hJ8 : G σ [(3, .int (v3 + (if (jAbs (t3 - t2)) ≤ (jAbs (t4 - t2)) then (0 : Int32) else (1 : Int32)))), (11, .int (jAbs (t4 - t2))), (10, .int (jAbs (t3 - t2))), (9, .int t4), (8, .int t3), (7, .int t2), (0, .ref (a 27)), (1, .int v1), (2, .int v2), (4, .int v4), (5, .int v5), (6, .int v6)] 146 [.int (if (jAbs (t4 - t2)) ≤ (jAbs (t3 - t2)) then (0 : Int32) else (1 : Int32)), .int v4] := by
            refine z_iadd M dt_X0_nearerNeighbours_5.1.1.1.1 ?_
            refine z_istore (lv' := [(4, .int (v4 + (if (jAbs (t4 - t2)) ≤ (jAbs (t3 - t2)) then (0 : Int32) else (1 : Int32)))), (3, .int (v3 + (if (jAbs (t3 - t2)) ≤ (jAbs (t4 - t2)) then (0 : Int32) else (1 : Int32)))), (11, .int (jAbs (t4 - t2))), (10, .int (jAbs (t3 - t2))), (9, .int t4), (8, .int t3), (7, .int t2), (0, .ref (a 27)), (1, .int v1), (2, .int v2), (5, .int v5), (6, .int v6)]) M dt_X0_nearerNeighbours_5.1.1.1.2 (by decide) rfl ?_
            refine z_iload M dt_X0_nearerNeighbours_5.1.1.2.1 10 rfl ?_
            refine z_iload M dt_X0_nearerNeighbours_5.1.1.2.2 5 rfl ?_
            refine z_iload M dt_X0_nearerNeighbours_5.1.2.1.1 4 rfl ?_
            refine z_iadd M dt_X0_nearerNeighbours_5.1.2.1.2 ?_
            refine z_iconst M dt_X0_nearerNeighbours_5.1.2.2.1 ki_2 ?_
            refine z_idiv M dt_X0_nearerNeighbours_5.1.2.2.2 (by decide) ?_
            refine z_iload M dt_X0_nearerNeighbours_5.2.1.1.1 6 rfl ?_
            refine z_isub M dt_X0_nearerNeighbours_5.2.1.1.2 ?_
            refine z_mabs M u938 u939 u100 u940 (Nat.le_of_ble_eq_true rfl) (Nat.le_of_ble_eq_true rfl) dt_X0_nearerNeighbours_5.2.1.2.1 ?_
            refine z_iload M dt_X0_nearerNeighbours_5.2.1.2.2 3 rfl ?_
            refine z_iload M dt_X0_nearerNeighbours_5.2.2.1.1 2 rfl ?_
            refine z_mmin M u1034 u680 u100 u681 (Nat.le_of_ble_eq_true rfl) (Nat.le_of_ble_eq_true rfl) dt_X0_nearerNeighbours_5.2.2.1.2 ?_
            have hJ10 : G σ [(4, .int (v4 + (if (jAbs (t4 - t2)) ≤ (jAbs (t3 - t2)) then (0 : Int32) else (1 : Int32)))), (3, .int (v3 + (if (jAbs (t3 - t2)) ≤ (jAbs (t4 - t2)) then (0 : Int32) else (1 : Int32)))), (11, .int (jAbs (t4 - t2))), (10, .int (jAbs (t3 - t2))), (9, .int t4), (8, .int t3), (7, .int t2), (0, .ref (a 27)), (1, .int v1), (2, .int v2), (5, .int v5), (6, .int v6)] 179 [.int (if (jMin (jAbs (t3 - t2)) (jAbs (t4 - t2))) ≤ (jAbs (((t3 + t4) / (2 : Int32)) - t2)) then (0 : Int32) else (1 : Int32)), .int v5] := by
              refine z_iadd M dt_X0_nearerNeighbours_6.1.1.2.1 ?_
              refine z_istore (lv' := [(5, .int (v5 + (if (jMin (jAbs (t3 - t2)) (jAbs (t4 - t2))) ≤ (jAbs (((t3 + t4) / (2 : Int32)) - t2)) then (0 : Int32) else (1 : Int32)))), (4, .int (v4 + (if (jAbs (t4 - t2)) ≤ (jAbs (t3 - t2)) then (0 : Int32) else (1 : Int32)))), (3, .int (v3 + (if (jAbs (t3 - t2)) ≤ (jAbs (t4 - t2)) then (0 : Int32) else (1 : Int32)))), (11, .int (jAbs (t4 - t2))), (10, .int (jAbs (t3 - t2))), (9, .int t4), (8, .int t3), (7, .int t2), (0, .ref (a 27)), (1, .int v1), (2, .int v2), (6, .int v6)]) M dt_X0_nearerNeighbours_6.1.1.2.2 (by decide) rfl ?_
              refine z_iinc (v := (v6 + (1 : Int32))) (lv' := [(6, .int (v6 + (1 : Int32))), (5, .int (v5 + (if (jMin (jAbs (t3 - t2)) (jAbs (t4 - t2))) ≤ (jAbs (((t3 + t4) / (2 : Int32)) - t2)) then (0 : Int32) else (1 : Int32)))), (4, .int (v4 + (if (jAbs (t4 - t2)) ≤ (jAbs (t3 - t2)) then (0 : Int32) else (1 : Int32)))), (3, .int (v3 + (if (jAbs (t3 - t2)) ≤ (jAbs (t4 - t2)) then (0 : Int32) else (1 : Int32)))), (11, .int (jAbs (t4 - t2))), (10, .int (jAbs (t3 - t2))), (9, .int t4), (8, .int t3), (7, .int t2), (0, .ref (a 27)), (1, .int v1), (2, .int v2)]) M dt_X0_nearerNeighbours_6.1.2.1.1 (k := 11) rfl (congrArg (fun q => v6 + q) ki_1) (by decide) rfl ?_
              refine z_goto (tgt := 33) M dt_X0_nearerNeighbours_6.1.2.1.2 (by decide) ?_
              refine z_sub M [9, 10, 11, 3, 2, 1, 0] (lv' := [(0, .ref (a 27)), (1, .int v1), (2, .int v2), (3, .int (v3 + (if (jAbs (t3 - t2)) ≤ (jAbs (t4 - t2)) then (0 : Int32) else (1 : Int32)))), (4, .int (v4 + (if (jAbs (t4 - t2)) ≤ (jAbs (t3 - t2)) then (0 : Int32) else (1 : Int32)))), (5, .int (v5 + (if (jMin (jAbs (t3 - t2)) (jAbs (t4 - t2))) ≤ (jAbs (((t3 + t4) / (2 : Int32)) - t2)) then (0 : Int32) else (1 : Int32)))), (6, .int (v6 + (1 : Int32)))]) rfl ?_
              exact ih (v3 + (if (jAbs (t3 - t2)) ≤ (jAbs (t4 - t2)) then (0 : Int32) else (1 : Int32))) (v4 + (if (jAbs (t4 - t2)) ≤ (jAbs (t3 - t2)) then (0 : Int32) else (1 : Int32))) (v5 + (if (jMin (jAbs (t3 - t2)) (jAbs (t4 - t2))) ≤ (jAbs (((t3 + t4) / (2 : Int32)) - t2)) then (0 : Int32) else (1 : Int32))) (v6 + (1 : Int32)) h
            refine z_icmp_ge (tgt := 178) M dt_X0_nearerNeighbours_5.2.2.2.1 (by decide) (fun hc9 => ?_) (fun hc9 => ?_)
            · refine z_iconst M dt_X0_nearerNeighbours_6.1.1.1.2 ki_0 ?_
              exact (zTt hc9 hJ10)
            · refine z_iconst M dt_X0_nearerNeighbours_5.2.2.2.2 ki_1 ?_
              refine z_goto (tgt := 179) M dt_X0_nearerNeighbours_6.1.1.1.1 (by decide) ?_
              exact (zTf hc9 hJ10)
          refine z_icmp_ge (tgt := 145) M dt_X0_nearerNeighbours_4.2.2.1.1 (by decide) (fun hc7 => ?_) (fun hc7 => ?_)
          · refine z_iconst M dt_X0_nearerNeighbours_4.2.2.2.2 ki_0 ?_
            exact (zTt hc7 hJ8)
          · refine z_iconst M dt_X0_nearerNeighbours_4.2.2.1.2 ki_1 ?_
            refine z_goto (tgt := 146) M dt_X0_nearerNeighbours_4.2.2.2.1 (by decide) ?_
            exact (zTf hc7 hJ8)
        refine z_icmp_ge (tgt := 129) M dt_X0_nearerNeighbours_4.1.1.2.2 (by decide) (fun hc5 => ?_) (fun hc5 => ?_)
        · refine z_iconst M dt_X0_nearerNeighbours_4.1.2.2.1 ki_0 ?_
          exact (zTt hc5 hJ6)
        · refine z_iconst M dt_X0_nearerNeighbours_4.1.2.1.1 ki_1 ?_
          refine z_goto (tgt := 130) M dt_X0_nearerNeighbours_4.1.2.1.2 (by decide) ?_
          exact (zTf hc5 hJ6)
set_option maxHeartbeats 4000000 in
set_option maxRecDepth 100000 in
theorem wJ_X0_nearerNeighbours_188 {o : (Zst × Int32)} (M : zM l D zcl (zty cy) A ad (zR 5) (cW a cy) RX0 cX0_nearerNeighbours 12 (some .int) o.1 (some (.int o.2)) G) (σ : Zst) (v3 : Int32) (v4 : Int32) (v5 : Int32)  (h : J_X0_nearerNeighbours_188 σ v3 v4 v5 = some o) : G σ [(0, .ref (a 27)), (3, .int v3), (4, .int v4), (5, .int v5)] 188 [] := by
  refine z_aload_n M dt_X0_nearerNeighbours_6.1.2.2.1 rfl 0 rfl ?_
  refine gf_X0_row M u272 dt_X0_nearerNeighbours_6.1.2.2.2 ?_
  obtain ⟨t11, hc, h⟩ := gBd h
  refine k_X5_clear M hc u869 (Nat.le_of_ble_eq_true rfl) (Nat.le_of_ble_eq_true rfl) dt_X0_nearerNeighbours_6.2.1.1.1 ?_
  refine z_iload M dt_X0_nearerNeighbours_6.2.1.1.2 2 rfl ?_
  refine z_i2l M dt_X0_nearerNeighbours_6.2.1.2.1 ?_
  obtain ⟨t12, hc, h⟩ := gBd h
  refine k_X5_add M hc u873 (Nat.le_of_ble_eq_true rfl) (Nat.le_of_ble_eq_true rfl) dt_X0_nearerNeighbours_6.2.1.2.2 ?_
  refine z_iload M dt_X0_nearerNeighbours_6.2.2.1.1 3 rfl ?_
  refine z_i2l M dt_X0_nearerNeighbours_6.2.2.1.2 ?_
  obtain ⟨t13, hc, h⟩ := gBd h
  refine k_X5_add M hc u873 (Nat.le_of_ble_eq_true rfl) (Nat.le_of_ble_eq_true rfl) dt_X0_nearerNeighbours_6.2.2.2.1 ?_
  refine z_pop M dt_X0_nearerNeighbours_6.2.2.2.2 rfl ?_
  refine z_iload_n M dt_X0_nearerNeighbours_7.1 rfl 1 rfl ?_
  obtain rfl := Option.some.inj h
  exact z_iret M dt_X0_nearerNeighbours_7.2
set_option maxHeartbeats 4000000 in
set_option maxRecDepth 100000 in
theorem m_X0_nearerNeighbours (hD : ∀ σ, va_D A (cW a cy σ)) {σ : Zst} {p0 : Int32} {p1 : Int32} {o : (Zst × Int32)} (h : f_X0_nearerNeighbours σ p0 p1 = some o) : zT l D zcl (zty cy) A ad (cW a cy) yX0_nearerNeighbours cX0_nearerNeighbours 12 (some .int) 5 [.ref (a 27), .int p0, .int p1] σ o.1 (some (.int o.2)) := by
  refine z_met pn_X0 hD (Nat.le_of_ble_eq_true rfl) rfl (fun G M => ?_)
  refine z_aload_n M dt_X0_nearerNeighbours_0.1.1.1.1 rfl 0 rfl ?_
  refine gf_X0_town M u270 dt_X0_nearerNeighbours_0.1.1.1.2 ?_
  refine z_iload_n M dt_X0_nearerNeighbours_0.1.1.2.1 rfl 1 rfl ?_
  refine k_X10_hasSort M u861 (Nat.le_of_ble_eq_true rfl) (Nat.le_of_ble_eq_true rfl) dt_X0_nearerNeighbours_0.1.1.2.2 ?_
  refine z_if_eq (tgt := 20) M dt_X0_nearerNeighbours_0.1.2.1.1 (by decide) (fun hc => ?_) (fun hc => ?_)
  · have h := gIt hc h
    refine z_iconst M dt_X0_nearerNeighbours_0.2.1.2.1 ki_m1 ?_
    obtain rfl := Option.some.inj h
    exact z_iret M dt_X0_nearerNeighbours_0.2.1.2.2
  · have h := gIf hc h
    refine z_iload_n M dt_X0_nearerNeighbours_0.1.2.1.2 rfl 2 rfl ?_
    refine z_iconst M dt_X0_nearerNeighbours_0.1.2.2.1 ki_0 ?_
    refine z_iconst M dt_X0_nearerNeighbours_0.1.2.2.2 ki_2 ?_
    refine kn_X11_between M u859 (Nat.le_of_ble_eq_true rfl) (Nat.le_of_ble_eq_true rfl) dt_X0_nearerNeighbours_0.2.1.1.1 ?_
    refine z_if_ne (tgt := 22) M dt_X0_nearerNeighbours_0.2.1.1.2 (by decide) (fun hc => ?_) (fun hc => ?_)
    · have h := gIf hc h
      refine z_iconst M dt_X0_nearerNeighbours_0.2.2.1.1 ki_0 ?_
      refine z_istore_n (lv' := [(3, .int (0 : Int32)), (0, .ref (a 27)), (1, .int p0), (2, .int p1)]) M dt_X0_nearerNeighbours_0.2.2.1.2 rfl (by decide) rfl ?_
      refine z_iconst M dt_X0_nearerNeighbours_0.2.2.2.1 ki_0 ?_
      refine z_istore (lv' := [(4, .int (0 : Int32)), (3, .int (0 : Int32)), (0, .ref (a 27)), (1, .int p0), (2, .int p1)]) M dt_X0_nearerNeighbours_0.2.2.2.2 (by decide) rfl ?_
      refine z_iconst M dt_X0_nearerNeighbours_1.1.1.1.1 ki_0 ?_
      refine z_istore (lv' := [(5, .int (0 : Int32)), (4, .int (0 : Int32)), (3, .int (0 : Int32)), (0, .ref (a 27)), (1, .int p0), (2, .int p1)]) M dt_X0_nearerNeighbours_1.1.1.1.2 (by decide) rfl ?_
      refine z_iconst M dt_X0_nearerNeighbours_1.1.1.2.1 ki_0 ?_
      refine z_istore (lv' := [(6, .int (0 : Int32)), (5, .int (0 : Int32)), (4, .int (0 : Int32)), (3, .int (0 : Int32)), (0, .ref (a 27)), (1, .int p0), (2, .int p1)]) M dt_X0_nearerNeighbours_1.1.1.2.2 (by decide) rfl ?_
      refine z_sub M [4, 5, 6, 3, 2, 1, 0] (lv' := [(0, .ref (a 27)), (1, .int p0), (2, .int p1), (3, .int (0 : Int32)), (4, .int (0 : Int32)), (5, .int (0 : Int32)), (6, .int (0 : Int32))]) rfl ?_
      exact wL_X0_nearerNeighbours_33 M (k188 := (fun w14 w15 w16 => J_X0_nearerNeighbours_188 σ w14 w15 w16)) σ p0 p1 (fun w14 w15 w16 h => by
          exact wJ_X0_nearerNeighbours_188 M  σ w14 w15 w16 h) zFu (0 : Int32) (0 : Int32) (0 : Int32) (0 : Int32) h
    · have h := gIt hc h
      refine z_iconst M dt_X0_nearerNeighbours_0.2.1.2.1 ki_m1 ?_
      obtain rfl := Option.some.inj h
      exact z_iret M dt_X0_nearerNeighbours_0.2.1.2.2
theorem k_X0_nearerNeighbours {n : Nat} (M : zM l D zcl (zty cy) A ad (zR n) (cW a cy) own cc nL rt σo ov G) {p0 : Int32} {p1 : Int32} {o : (Zst × Int32)} (h : f_X0_nearerNeighbours σ p0 p1 = some o) {index : Nat} (hl : Cond.methodLink own index yX0_nearerNeighbours ∈ uw) (hR : 6 ≤ n) (hW : (st.map fun v => v.category).sum ≤ 8) (d : decode cc pc = .ok (.invokevirtual index, 3)) (kk : G o.1 lv (pc + 3) (.int o.2 :: st)) : G σ lv pc (.int p1 :: .int p0 :: .ref (a 27) :: st) := z_callV M [.int p0, .int p1] (m_X0_nearerNeighbours (zM_hD M) h) (hC27 σ) rfl hl u94 u1029 u1027 u1028 hd_X0_nearerNeighbours hR (by decide) rfl hW d kk
set_option maxHeartbeats 4000000 in
set_option maxRecDepth 100000 in
theorem m_X11_others (hD : ∀ σ, va_D A (cW a cy σ)) {σ : Zst} {p0 : Int32} {p1 : Int32} {o : (Zst × Int32)} (h : f_X11_others σ p0 p1 = some o) : zT l D zcl (zty cy) A ad (cW a cy) yX11_others cX11_others 3 (some .int) 6 [.ref (a 0), .int p0, .int p1] σ o.1 (some (.int o.2)) := by
  refine z_met pn_X11 hD (Nat.le_of_ble_eq_true rfl) rfl (fun G M => ?_)
  refine z_aload_n M dt_X11_others_0.1.1.1 rfl 0 rfl ?_
  refine gf_X11_answers M u435 dt_X11_others_0.1.1.2 ?_
  refine z_iload_n M dt_X11_others_0.1.2 rfl 1 rfl ?_
  refine z_iload_n M dt_X11_others_0.2.1.1 rfl 2 rfl ?_
  obtain ⟨t1, hc, h⟩ := gBd h
  refine k_X0_nearerNeighbours M hc u1026 (Nat.le_of_ble_eq_true rfl) (Nat.le_of_ble_eq_true rfl) dt_X11_others_0.2.1.2 ?_
  obtain rfl := Option.some.inj h
  exact z_iret M dt_X11_others_0.2.2
set_option maxHeartbeats 4000000 in
set_option maxRecDepth 100000 in
theorem wL_X0_leastShare_10 {o : (Zst × Int32)} (M : zM l D zcl (zty cy) A ad (zR 2) (cW a cy) RX0 cX0_leastShare 13 (some .int) o.1 (some (.int o.2)) G) {k63 : Int32 → Int64 → Option (Zst × Int32)} (σ : Zst) (v1 : Int64) (v3 : Int64) (v5 : Int64) (Hk63 : ∀ (w7 : Int32) (w8 : Int64), k63 w7 w8 = some o → G σ [(0, .ref (a 27)), (7, .int w7), (8, .long w8)] 63 []) :
    ∀ (n10 : Nat) (v7 : Int32) (v8 : Int64) (v10 : Int32), L_X0_leastShare_10 k63 σ v1 v3 v5 n10 v7 v8 v10 = some o → G σ [(0, .ref (a 27)), (1, .long v1), (3, .long v3), (5, .long v5), (7, .int v7), (8, .long v8), (10, .int v10)] 10 [] := by
  intro n10
  induction n10 with
  | zero => intro v7 v8 v10 h; exact nomatch (show (none : Option (Zst × Int32)) = some _ from h)
  | succ n10 ih =>
    intro v7 v8 v10 h
    refine z_iload M dt_X0_leastShare_0.1.2.2.1 6 rfl ?_
    refine z_bipush M dt_X0_leastShare_0.1.2.2.2 kb_100 ?_
    refine z_icmp_gt (tgt := 63) M dt_X0_leastShare_0.2.1.1.1 (by decide) (fun hc => ?_) (fun hc => ?_)
    · have h := gIt hc h
      refine z_sub M [0, 4, 5] (lv' := [(0, .ref (a 27)), (7, .int v7), (8, .long v8)]) rfl ?_
      exact Hk63 v7 v8 h
    · have h := gIf hc h
      refine z_lload_n M dt_X0_leastShare_0.2.1.1.2 rfl 1 rfl ?_
      refine z_iload M dt_X0_leastShare_0.2.1.2.1 6 rfl ?_
      refine z_i2l M dt_X0_leastShare_0.2.1.2.2 ?_
      refine z_lmul M dt_X0_leastShare_0.2.2.1.1 ?_
      refine z_iload M dt_X0_leastShare_0.2.2.1.2 6 rfl ?_
      refine z_i2l M dt_X0_leastShare_0.2.2.2.1 ?_
      refine z_lmul M dt_X0_leastShare_0.2.2.2.2 ?_
      refine z_ldc2 M dt_X0_leastShare_1.1.1.1.1 u1047 ?_
      refine z_lload_n M dt_X0_leastShare_1.1.1.1.2 rfl 2 rfl ?_
      refine z_lmul M dt_X0_leastShare_1.1.1.2.1 ?_
      refine z_iload M dt_X0_leastShare_1.1.1.2.2 6 rfl ?_
      refine z_i2l M dt_X0_leastShare_1.1.2.1.1 ?_
      refine z_lmul M dt_X0_leastShare_1.1.2.1.2 ?_
      refine z_ladd M dt_X0_leastShare_1.1.2.2.1 ?_
      refine z_lload M dt_X0_leastShare_1.1.2.2.2 3 rfl ?_
      refine z_ladd M dt_X0_leastShare_1.2.1.1.1 ?_
      refine z_lstore (lv' := [(11, .long ((((v1 * (Int32.toInt64 v10)) * (Int32.toInt64 v10)) + (((2 : Int64) * v3) * (Int32.toInt64 v10))) + v5)), (0, .ref (a 27)), (1, .long v1), (3, .long v3), (5, .long v5), (7, .int v7), (8, .long v8), (10, .int v10)]) M dt_X0_leastShare_1.2.1.1.2 (by decide) rfl ?_
      refine z_lload M dt_X0_leastShare_1.2.1.2.1 0 rfl ?_
      refine z_lload M dt_X0_leastShare_1.2.1.2.2 6 rfl ?_
      refine z_lcmp_ge (tgt := 57) M dt_X0_leastShare_1.2.2.1.1 dt_X0_leastShare_1.2.2.1.2 (by decide) (fun hc => ?_) (fun hc => ?_)
      · have h := gIt hc h
        refine z_iinc (v := (v10 + (1 : Int32))) (lv' := [(10, .int (v10 + (1 : Int32))), (11, .long ((((v1 * (Int32.toInt64 v10)) * (Int32.toInt64 v10)) + (((2 : Int64) * v3) * (Int32.toInt64 v10))) + v5)), (0, .ref (a 27)), (1, .long v1), (3, .long v3), (5, .long v5), (7, .int v7), (8, .long v8)]) M dt_X0_leastShare_2.1.1.2 (k := 7) rfl (congrArg (fun q => v10 + q) ki_1) (by decide) rfl ?_
        refine z_goto (tgt := 10) M dt_X0_leastShare_2.1.2.1.1 (by decide) ?_
        refine z_sub M [2, 3, 4, 5, 6, 7, 0] (lv' := [(0, .ref (a 27)), (1, .long v1), (3, .long v3), (5, .long v5), (7, .int v7), (8, .long v8), (10, .int (v10 + (1 : Int32)))]) rfl ?_
        exact ih v7 v8 (v10 + (1 : Int32)) h
      · have h := gIf hc h
        refine z_iload M dt_X0_leastShare_1.2.2.2.1 7 rfl ?_
        refine z_istore (lv' := [(7, .int v10), (11, .long ((((v1 * (Int32.toInt64 v10)) * (Int32.toInt64 v10)) + (((2 : Int64) * v3) * (Int32.toInt64 v10))) + v5)), (0, .ref (a 27)), (1, .long v1), (3, .long v3), (5, .long v5), (8, .long v8), (10, .int v10)]) M dt_X0_leastShare_1.2.2.2.2 (by decide) rfl ?_
        refine z_lload M dt_X0_leastShare_2.1.1.1.1 1 rfl ?_
        refine z_lstore (lv' := [(8, .long ((((v1 * (Int32.toInt64 v10)) * (Int32.toInt64 v10)) + (((2 : Int64) * v3) * (Int32.toInt64 v10))) + v5)), (7, .int v10), (11, .long ((((v1 * (Int32.toInt64 v10)) * (Int32.toInt64 v10)) + (((2 : Int64) * v3) * (Int32.toInt64 v10))) + v5)), (0, .ref (a 27)), (1, .long v1), (3, .long v3), (5, .long v5), (10, .int v10)]) M dt_X0_leastShare_2.1.1.1.2 (by decide) rfl ?_
        refine z_iinc (v := (v10 + (1 : Int32))) (lv' := [(10, .int (v10 + (1 : Int32))), (8, .long ((((v1 * (Int32.toInt64 v10)) * (Int32.toInt64 v10)) + (((2 : Int64) * v3) * (Int32.toInt64 v10))) + v5)), (7, .int v10), (11, .long ((((v1 * (Int32.toInt64 v10)) * (Int32.toInt64 v10)) + (((2 : Int64) * v3) * (Int32.toInt64 v10))) + v5)), (0, .ref (a 27)), (1, .long v1), (3, .long v3), (5, .long v5)]) M dt_X0_leastShare_2.1.1.2 (k := 7) rfl (congrArg (fun q => v10 + q) ki_1) (by decide) rfl ?_
        refine z_goto (tgt := 10) M dt_X0_leastShare_2.1.2.1.1 (by decide) ?_
        refine z_sub M [4, 5, 6, 7, 2, 1, 0] (lv' := [(0, .ref (a 27)), (1, .long v1), (3, .long v3), (5, .long v5), (7, .int v10), (8, .long ((((v1 * (Int32.toInt64 v10)) * (Int32.toInt64 v10)) + (((2 : Int64) * v3) * (Int32.toInt64 v10))) + v5)), (10, .int (v10 + (1 : Int32)))]) rfl ?_
        exact ih v10 ((((v1 * (Int32.toInt64 v10)) * (Int32.toInt64 v10)) + (((2 : Int64) * v3) * (Int32.toInt64 v10))) + v5) (v10 + (1 : Int32)) h
set_option maxHeartbeats 4000000 in
set_option maxRecDepth 100000 in
theorem wJ_X0_leastShare_63 {o : (Zst × Int32)} (M : zM l D zcl (zty cy) A ad (zR 2) (cW a cy) RX0 cX0_leastShare 13 (some .int) o.1 (some (.int o.2)) G) (σ : Zst) (v7 : Int32) (v8 : Int64)  (h : J_X0_leastShare_63 σ v7 v8 = some o) : G σ [(0, .ref (a 27)), (7, .int v7), (8, .long v8)] 63 [] := by
  refine z_aload_n M dt_X0_leastShare_2.1.2.1.2 rfl 0 rfl ?_
  refine gf_X0_row M u272 dt_X0_leastShare_2.1.2.2 ?_
  obtain ⟨t1, hc, h⟩ := gBd h
  refine k_X5_clear M hc u869 (Nat.le_of_ble_eq_true rfl) (Nat.le_of_ble_eq_true rfl) dt_X0_leastShare_2.2.1.1.1 ?_
  refine z_lload M dt_X0_leastShare_2.2.1.1.2 2 rfl ?_
  obtain ⟨t2, hc, h⟩ := gBd h
  refine k_X5_add M hc u873 (Nat.le_of_ble_eq_true rfl) (Nat.le_of_ble_eq_true rfl) dt_X0_leastShare_2.2.1.2 ?_
  refine z_pop M dt_X0_leastShare_2.2.2.1.1 rfl ?_
  refine z_iload M dt_X0_leastShare_2.2.2.1.2 1 rfl ?_
  obtain rfl := Option.some.inj h
  exact z_iret M dt_X0_leastShare_2.2.2.2
set_option maxHeartbeats 4000000 in
set_option maxRecDepth 100000 in
theorem m_X0_leastShare (hD : ∀ σ, va_D A (cW a cy σ)) {σ : Zst} {p0 : Int64} {p1 : Int64} {p2 : Int64} {o : (Zst × Int32)} (h : f_X0_leastShare σ p0 p1 p2 = some o) : zT l D zcl (zty cy) A ad (cW a cy) yX0_leastShare cX0_leastShare 13 (some .int) 2 [.ref (a 27), .long p0, .long p1, .long p2] σ o.1 (some (.int o.2)) := by
  refine z_met pn_X0 hD (Nat.le_of_ble_eq_true rfl) rfl (fun G M => ?_)
  refine z_iconst M dt_X0_leastShare_0.1.1.1.1 ki_0 ?_
  refine z_istore (lv' := [(7, .int (0 : Int32)), (0, .ref (a 27)), (1, .long p0), (3, .long p1), (5, .long p2)]) M dt_X0_leastShare_0.1.1.1.2 (by decide) rfl ?_
  refine z_lload M dt_X0_leastShare_0.1.1.2.1 4 rfl ?_
  refine z_lstore (lv' := [(8, .long p2), (7, .int (0 : Int32)), (0, .ref (a 27)), (1, .long p0), (3, .long p1), (5, .long p2)]) M dt_X0_leastShare_0.1.1.2.2 (by decide) rfl ?_
  refine z_iconst M dt_X0_leastShare_0.1.2.1.1 ki_1 ?_
  refine z_istore (lv' := [(10, .int (1 : Int32)), (8, .long p2), (7, .int (0 : Int32)), (0, .ref (a 27)), (1, .long p0), (3, .long p1), (5, .long p2)]) M dt_X0_leastShare_0.1.2.1.2 (by decide) rfl ?_
  refine z_sub M [3, 4, 5, 6, 2, 1, 0] (lv' := [(0, .ref (a 27)), (1, .long p0), (3, .long p1), (5, .long p2), (7, .int (0 : Int32)), (8, .long p2), (10, .int (1 : Int32))]) rfl ?_
  exact wL_X0_leastShare_10 M (k63 := (fun w3 w4 => J_X0_leastShare_63 σ w3 w4)) σ p0 p1 p2 (fun w3 w4 h => by
      exact wJ_X0_leastShare_63 M  σ w3 w4 h) zFu (0 : Int32) p2 (1 : Int32) h
theorem k_X0_leastShare {n : Nat} (M : zM l D zcl (zty cy) A ad (zR n) (cW a cy) own cc nL rt σo ov G) {p0 : Int64} {p1 : Int64} {p2 : Int64} {o : (Zst × Int32)} (h : f_X0_leastShare σ p0 p1 p2 = some o) {index : Nat} (hl : Cond.methodLink own index yX0_leastShare ∈ uw) (hR : 3 ≤ n) (hW : (st.map fun v => v.category).sum ≤ 8) (d : decode cc pc = .ok (.invokevirtual index, 3)) (kk : G o.1 lv (pc + 3) (.int o.2 :: st)) : G σ lv pc (.long p2 :: .long p1 :: .long p0 :: .ref (a 27) :: st) := z_callV M [.long p0, .long p1, .long p2] (m_X0_leastShare (zM_hD M) h) (hC27 σ) rfl hl u94 u1046 u1045 u22 hd_X0_leastShare hR (by decide) rfl hW d kk
set_option maxHeartbeats 4000000 in
set_option maxRecDepth 100000 in
theorem wL_X0_bestShare_36 {o : (Zst × Int32)} (M : zM l D zcl (zty cy) A ad (zR 5) (cW a cy) RX0 cX0_bestShare 17 (some .int) o.1 (some (.int o.2)) G) {k151 : Int32 → Int64 → Int64 → Int64 → Option (Zst × Int32)} (σ : Zst) (v1 : Int32) (v2 : Int32) (Hk151 : ∀ (w3 : Int32) (w4 : Int64) (w6 : Int64) (w8 : Int64), k151 w3 w4 w6 w8 = some o → G σ [(0, .ref (a 27)), (3, .int w3), (4, .long w4), (6, .long w6), (8, .long w8)] 151 []) :
    ∀ (n36 : Nat) (v3 : Int32) (v4 : Int64) (v6 : Int64) (v8 : Int64) (v10 : Int32), L_X0_bestShare_36 k151 σ v1 v2 n36 v3 v4 v6 v8 v10 = some o → G σ [(0, .ref (a 27)), (1, .int v1), (2, .int v2), (3, .int v3), (4, .long v4), (6, .long v6), (8, .long v8), (10, .int v10)] 36 [] := by
  intro n36
  induction n36 with
  | zero => intro v3 v4 v6 v8 v10 h; exact nomatch (show (none : Option (Zst × Int32)) = some _ from h)
  | succ n36 ih =>
    intro v3 v4 v6 v8 v10 h
    refine z_iload M dt_X0_bestShare_1.1.2.2.1 7 rfl ?_
    refine z_aload_n M dt_X0_bestShare_1.1.2.2.2 rfl 0 rfl ?_
    refine gf_X0_town M u270 dt_X0_bestShare_1.2.1.1.1 ?_
    refine k_X10_cellCount M u862 (Nat.le_of_ble_eq_true rfl) (Nat.le_of_ble_eq_true rfl) dt_X0_bestShare_1.2.1.1.2 ?_
    refine z_icmp_ge (tgt := 151) M dt_X0_bestShare_1.2.1.2.1 (by decide) (fun hc => ?_) (fun hc => ?_)
    · have h := gIt hc h
      refine z_sub M [0, 3, 4, 5, 6] (lv' := [(0, .ref (a 27)), (3, .int v3), (4, .long v4), (6, .long v6), (8, .long v8)]) rfl ?_
      exact Hk151 v3 v4 v6 v8 h
    · have h := gIf hc h
      refine z_aload_n M dt_X0_bestShare_1.2.1.2.2 rfl 0 rfl ?_
      refine z_iload_n M dt_X0_bestShare_1.2.2.1.1 rfl 1 rfl ?_
      refine z_iload_n M dt_X0_bestShare_1.2.2.1.2 rfl 2 rfl ?_
      refine z_iload M dt_X0_bestShare_1.2.2.2.1 7 rfl ?_
      obtain ⟨t1, hc, h⟩ := gBd h
      refine k_X0_hasNeighbours M hc u1030 (Nat.le_of_ble_eq_true rfl) (Nat.le_of_ble_eq_true rfl) dt_X0_bestShare_1.2.2.2.2 ?_
      refine z_if_eq (tgt := 145) M dt_X0_bestShare_2.1.1.1.1 (by decide) (fun hc => ?_) (fun hc => ?_)
      · have h := gIt hc h
        refine z_iinc (v := (v10 + (1 : Int32))) (lv' := [(10, .int (v10 + (1 : Int32))), (0, .ref (a 27)), (1, .int v1), (2, .int v2), (3, .int v3), (4, .long v4), (6, .long v6), (8, .long v8)]) M dt_X0_bestShare_5.1.2.1.2 (k := 7) rfl (congrArg (fun q => v10 + q) ki_1) (by decide) rfl ?_
        refine z_goto (tgt := 36) M dt_X0_bestShare_5.1.2.2.1 (by decide) ?_
        refine z_sub M [1, 2, 3, 4, 5, 6, 7, 0] (lv' := [(0, .ref (a 27)), (1, .int v1), (2, .int v2), (3, .int v3), (4, .long v4), (6, .long v6), (8, .long v8), (10, .int (v10 + (1 : Int32)))]) rfl ?_
        exact ih v3 v4 v6 v8 (v10 + (1 : Int32)) h
      · have h := gIf hc h
        refine z_aload_n M dt_X0_bestShare_2.1.1.1.2 rfl 0 rfl ?_
        refine gf_X0_numbers M u271 dt_X0_bestShare_2.1.1.2.1 ?_
        refine z_iconst M dt_X0_bestShare_2.1.1.2.2 ki_2 ?_
        refine z_iload_n M dt_X0_bestShare_2.1.2.1.1 rfl 2 rfl ?_
        refine z_iadd M dt_X0_bestShare_2.1.2.1.2 ?_
        refine z_iload M dt_X0_bestShare_2.1.2.2.1 7 rfl ?_
        refine z_iload_n M dt_X0_bestShare_2.1.2.2.2 rfl 1 rfl ?_
        obtain ⟨t2, hc, h⟩ := gBd h
        refine k_X4_of M hc u868 (Nat.le_of_ble_eq_true rfl) (Nat.le_of_ble_eq_true rfl) dt_X0_bestShare_2.2.1.1.1 ?_
        refine z_i2l M dt_X0_bestShare_2.2.1.1.2 ?_
        refine z_lstore (lv' := [(11, .long (Int32.toInt64 t2)), (0, .ref (a 27)), (1, .int v1), (2, .int v2), (3, .int v3), (4, .long v4), (6, .long v6), (8, .long v8), (10, .int v10)]) M dt_X0_bestShare_2.2.1.2.1 (by decide) rfl ?_
        refine z_aload_n M dt_X0_bestShare_2.2.1.2.2 rfl 1 rfl ?_
        refine gf_X0_numbers M u271 dt_X0_bestShare_2.2.2.1.1 ?_
        refine z_iconst M dt_X0_bestShare_2.2.2.1.2 ki_5 ?_
        refine z_iload M dt_X0_bestShare_2.2.2.2.1 8 rfl ?_
        refine z_iload_n M dt_X0_bestShare_2.2.2.2.2 rfl 2 rfl ?_
        obtain ⟨t3, hc, h⟩ := gBd h
        refine k_X4_of M hc u868 (Nat.le_of_ble_eq_true rfl) (Nat.le_of_ble_eq_true rfl) dt_X0_bestShare_3.1.1.1.1 ?_
        refine z_i2l M dt_X0_bestShare_3.1.1.1.2 ?_
        refine z_lload M dt_X0_bestShare_3.1.1.2.1 0 rfl ?_
        refine z_lsub M dt_X0_bestShare_3.1.1.2.2 ?_
        refine z_lstore (lv' := [(13, .long ((Int32.toInt64 t3) - (Int32.toInt64 t2))), (11, .long (Int32.toInt64 t2)), (0, .ref (a 27)), (1, .int v1), (2, .int v2), (3, .int v3), (4, .long v4), (6, .long v6), (8, .long v8), (10, .int v10)]) M dt_X0_bestShare_3.1.2.1.1 (by decide) rfl ?_
        refine z_ldc2 M dt_X0_bestShare_3.1.2.1.2 u902 ?_
        refine z_lload M dt_X0_bestShare_3.1.2.2.1 1 rfl ?_
        refine z_aload_n M dt_X0_bestShare_3.1.2.2.2 rfl 2 rfl ?_
        refine gf_X0_numbers M u271 dt_X0_bestShare_3.2.1.1.1 ?_
        refine z_iconst M dt_X0_bestShare_3.2.1.1.2 ki_1 ?_
        refine z_iload M dt_X0_bestShare_3.2.1.2.1 9 rfl ?_
        refine z_iload_n M dt_X0_bestShare_3.2.1.2.2 rfl 3 rfl ?_
        obtain ⟨t4, hc, h⟩ := gBd h
        refine k_X4_of M hc u868 (Nat.le_of_ble_eq_true rfl) (Nat.le_of_ble_eq_true rfl) dt_X0_bestShare_3.2.2.1.1 ?_
        refine z_i2l M dt_X0_bestShare_3.2.2.1.2 ?_
        refine z_lsub M dt_X0_bestShare_3.2.2.2.1 ?_
        refine z_lmul M dt_X0_bestShare_3.2.2.2.2 ?_
        refine z_lstore (lv' := [(15, .long ((100 : Int64) * ((Int32.toInt64 t2) - (Int32.toInt64 t4)))), (13, .long ((Int32.toInt64 t3) - (Int32.toInt64 t2))), (11, .long (Int32.toInt64 t2)), (0, .ref (a 27)), (1, .int v1), (2, .int v2), (3, .int v3), (4, .long v4), (6, .long v6), (8, .long v8), (10, .int v10)]) M dt_X0_bestShare_4.1.1.1.1 (by decide) rfl ?_
        refine z_lload M dt_X0_bestShare_4.1.1.1.2 7 rfl ?_
        refine z_lload M dt_X0_bestShare_4.1.1.2.1 1 rfl ?_
        refine z_lload M dt_X0_bestShare_4.1.1.2.2 1 rfl ?_
        refine z_lmul M dt_X0_bestShare_4.1.2.1.1 ?_
        refine z_ladd M dt_X0_bestShare_4.1.2.1.2 ?_
        refine z_lstore (lv' := [(4, .long (v4 + (((Int32.toInt64 t3) - (Int32.toInt64 t2)) * ((Int32.toInt64 t3) - (Int32.toInt64 t2))))), (15, .long ((100 : Int64) * ((Int32.toInt64 t2) - (Int32.toInt64 t4)))), (13, .long ((Int32.toInt64 t3) - (Int32.toInt64 t2))), (11, .long (Int32.toInt64 t2)), (0, .ref (a 27)), (1, .int v1), (2, .int v2), (3, .int v3), (6, .long v6), (8, .long v8), (10, .int v10)]) M dt_X0_bestShare_4.1.2.2.1 (by decide) rfl ?_
        refine z_lload M dt_X0_bestShare_4.1.2.2.2 8 rfl ?_
        refine z_lload M dt_X0_bestShare_4.2.1.1.1 2 rfl ?_
        refine z_lload M dt_X0_bestShare_4.2.1.1.2 1 rfl ?_
        refine z_lmul M dt_X0_bestShare_4.2.1.2.1 ?_
        refine z_ladd M dt_X0_bestShare_4.2.1.2.2 ?_
        refine z_lstore (lv' := [(6, .long (v6 + (((Int32.toInt64 t3) - (Int32.toInt64 t2)) * ((100 : Int64) * ((Int32.toInt64 t2) - (Int32.toInt64 t4)))))), (4, .long (v4 + (((Int32.toInt64 t3) - (Int32.toInt64 t2)) * ((Int32.toInt64 t3) - (Int32.toInt64 t2))))), (15, .long ((100 : Int64) * ((Int32.toInt64 t2) - (Int32.toInt64 t4)))), (13, .long ((Int32.toInt64 t3) - (Int32.toInt64 t2))), (11, .long (Int32.toInt64 t2)), (0, .ref (a 27)), (1, .int v1), (2, .int v2), (3, .int v3), (8, .long v8), (10, .int v10)]) M dt_X0_bestShare_4.2.2.1.1 (by decide) rfl ?_
        refine z_lload M dt_X0_bestShare_4.2.2.1.2 9 rfl ?_
        refine z_lload M dt_X0_bestShare_4.2.2.2.1 2 rfl ?_
        refine z_lload M dt_X0_bestShare_4.2.2.2.2 2 rfl ?_
        refine z_lmul M dt_X0_bestShare_5.1.1.1.1 ?_
        refine z_ladd M dt_X0_bestShare_5.1.1.1.2 ?_
        refine z_lstore (lv' := [(8, .long (v8 + (((100 : Int64) * ((Int32.toInt64 t2) - (Int32.toInt64 t4))) * ((100 : Int64) * ((Int32.toInt64 t2) - (Int32.toInt64 t4)))))), (6, .long (v6 + (((Int32.toInt64 t3) - (Int32.toInt64 t2)) * ((100 : Int64) * ((Int32.toInt64 t2) - (Int32.toInt64 t4)))))), (4, .long (v4 + (((Int32.toInt64 t3) - (Int32.toInt64 t2)) * ((Int32.toInt64 t3) - (Int32.toInt64 t2))))), (15, .long ((100 : Int64) * ((Int32.toInt64 t2) - (Int32.toInt64 t4)))), (13, .long ((Int32.toInt64 t3) - (Int32.toInt64 t2))), (11, .long (Int32.toInt64 t2)), (0, .ref (a 27)), (1, .int v1), (2, .int v2), (3, .int v3), (10, .int v10)]) M dt_X0_bestShare_5.1.1.2.1 (by decide) rfl ?_
        refine z_iconst M dt_X0_bestShare_5.1.1.2.2 ki_1 ?_
        refine z_istore_n (lv' := [(3, .int (1 : Int32)), (8, .long (v8 + (((100 : Int64) * ((Int32.toInt64 t2) - (Int32.toInt64 t4))) * ((100 : Int64) * ((Int32.toInt64 t2) - (Int32.toInt64 t4)))))), (6, .long (v6 + (((Int32.toInt64 t3) - (Int32.toInt64 t2)) * ((100 : Int64) * ((Int32.toInt64 t2) - (Int32.toInt64 t4)))))), (4, .long (v4 + (((Int32.toInt64 t3) - (Int32.toInt64 t2)) * ((Int32.toInt64 t3) - (Int32.toInt64 t2))))), (15, .long ((100 : Int64) * ((Int32.toInt64 t2) - (Int32.toInt64 t4)))), (13, .long ((Int32.toInt64 t3) - (Int32.toInt64 t2))), (11, .long (Int32.toInt64 t2)), (0, .ref (a 27)), (1, .int v1), (2, .int v2), (10, .int v10)]) M dt_X0_bestShare_5.1.2.1.1 rfl (by decide) rfl ?_
        refine z_iinc (v := (v10 + (1 : Int32))) (lv' := [(10, .int (v10 + (1 : Int32))), (3, .int (1 : Int32)), (8, .long (v8 + (((100 : Int64) * ((Int32.toInt64 t2) - (Int32.toInt64 t4))) * ((100 : Int64) * ((Int32.toInt64 t2) - (Int32.toInt64 t4)))))), (6, .long (v6 + (((Int32.toInt64 t3) - (Int32.toInt64 t2)) * ((100 : Int64) * ((Int32.toInt64 t2) - (Int32.toInt64 t4)))))), (4, .long (v4 + (((Int32.toInt64 t3) - (Int32.toInt64 t2)) * ((Int32.toInt64 t3) - (Int32.toInt64 t2))))), (15, .long ((100 : Int64) * ((Int32.toInt64 t2) - (Int32.toInt64 t4)))), (13, .long ((Int32.toInt64 t3) - (Int32.toInt64 t2))), (11, .long (Int32.toInt64 t2)), (0, .ref (a 27)), (1, .int v1), (2, .int v2)]) M dt_X0_bestShare_5.1.2.1.2 (k := 10) rfl (congrArg (fun q => v10 + q) ki_1) (by decide) rfl ?_
        refine z_goto (tgt := 36) M dt_X0_bestShare_5.1.2.2.1 (by decide) ?_
        refine z_sub M [8, 9, 10, 1, 4, 3, 2, 0] (lv' := [(0, .ref (a 27)), (1, .int v1), (2, .int v2), (3, .int (1 : Int32)), (4, .long (v4 + (((Int32.toInt64 t3) - (Int32.toInt64 t2)) * ((Int32.toInt64 t3) - (Int32.toInt64 t2))))), (6, .long (v6 + (((Int32.toInt64 t3) - (Int32.toInt64 t2)) * ((100 : Int64) * ((Int32.toInt64 t2) - (Int32.toInt64 t4)))))), (8, .long (v8 + (((100 : Int64) * ((Int32.toInt64 t2) - (Int32.toInt64 t4))) * ((100 : Int64) * ((Int32.toInt64 t2) - (Int32.toInt64 t4)))))), (10, .int (v10 + (1 : Int32)))]) rfl ?_
        exact ih (1 : Int32) (v4 + (((Int32.toInt64 t3) - (Int32.toInt64 t2)) * ((Int32.toInt64 t3) - (Int32.toInt64 t2)))) (v6 + (((Int32.toInt64 t3) - (Int32.toInt64 t2)) * ((100 : Int64) * ((Int32.toInt64 t2) - (Int32.toInt64 t4))))) (v8 + (((100 : Int64) * ((Int32.toInt64 t2) - (Int32.toInt64 t4))) * ((100 : Int64) * ((Int32.toInt64 t2) - (Int32.toInt64 t4))))) (v10 + (1 : Int32)) h
set_option maxHeartbeats 4000000 in
set_option maxRecDepth 100000 in
theorem wJ_X0_bestShare_151 {o : (Zst × Int32)} (M : zM l D zcl (zty cy) A ad (zR 5) (cW a cy) RX0 cX0_bestShare 17 (some .int) o.1 (some (.int o.2)) G) (σ : Zst) (v3 : Int32) (v4 : Int64) (v6 : Int64) (v8 : Int64)  (h : J_X0_bestShare_151 σ v3 v4 v6 v8 = some o) : G σ [(0, .ref (a 27)), (3, .int v3), (4, .long v4), (6, .long v6), (8, .long v8)] 151 [] := by
  refine z_iload_n M dt_X0_bestShare_5.1.2.2.2 rfl 1 rfl ?_
  refine z_if_eq (tgt := 168) M dt_X0_bestShare_5.2.1.1.1 (by decide) (fun hc => ?_) (fun hc => ?_)
  · have h := gIt hc h
    refine z_bipush M dt_X0_bestShare_5.2.2.2.2 kb_m2 ?_
    obtain rfl := Option.some.inj h
    exact z_iret M dt_X0_bestShare_6
  · have h := gIf hc h
    refine z_aload_n M dt_X0_bestShare_5.2.1.1.2 rfl 0 rfl ?_
    refine z_lload M dt_X0_bestShare_5.2.1.2.1 2 rfl ?_
    refine z_lload M dt_X0_bestShare_5.2.1.2.2 3 rfl ?_
    refine z_lload M dt_X0_bestShare_5.2.2.1.1 4 rfl ?_
    obtain ⟨t5, hc, h⟩ := gBd h
    refine k_X0_leastShare M hc u1043 (Nat.le_of_ble_eq_true rfl) (Nat.le_of_ble_eq_true rfl) dt_X0_bestShare_5.2.2.1.2 ?_
    refine z_goto (tgt := 170) M dt_X0_bestShare_5.2.2.2.1 (by decide) ?_
    obtain rfl := Option.some.inj h
    exact z_iret M dt_X0_bestShare_6
set_option maxHeartbeats 4000000 in
set_option maxRecDepth 100000 in
theorem m_X0_bestShare (hD : ∀ σ, va_D A (cW a cy σ)) {σ : Zst} {p0 : Int32} {p1 : Int32} {o : (Zst × Int32)} (h : f_X0_bestShare σ p0 p1 = some o) : zT l D zcl (zty cy) A ad (cW a cy) yX0_bestShare cX0_bestShare 17 (some .int) 5 [.ref (a 27), .int p0, .int p1] σ o.1 (some (.int o.2)) := by
  refine z_met pn_X0 hD (Nat.le_of_ble_eq_true rfl) rfl (fun G M => ?_)
  refine z_aload_n M dt_X0_bestShare_0.1.1.1.1 rfl 0 rfl ?_
  refine gf_X0_town M u270 dt_X0_bestShare_0.1.1.1.2 ?_
  refine z_iload_n M dt_X0_bestShare_0.1.1.2.1 rfl 1 rfl ?_
  refine k_X10_hasSort M u861 (Nat.le_of_ble_eq_true rfl) (Nat.le_of_ble_eq_true rfl) dt_X0_bestShare_0.1.1.2.2 ?_
  refine z_if_eq (tgt := 20) M dt_X0_bestShare_0.1.2.1.1 (by decide) (fun hc => ?_) (fun hc => ?_)
  · have h := gIt hc h
    refine z_iconst M dt_X0_bestShare_0.2.1.2.1 ki_m1 ?_
    obtain rfl := Option.some.inj h
    exact z_iret M dt_X0_bestShare_0.2.1.2.2
  · have h := gIf hc h
    refine z_iload_n M dt_X0_bestShare_0.1.2.1.2 rfl 2 rfl ?_
    refine z_iconst M dt_X0_bestShare_0.1.2.2.1 ki_0 ?_
    refine z_iconst M dt_X0_bestShare_0.1.2.2.2 ki_2 ?_
    refine kn_X11_between M u859 (Nat.le_of_ble_eq_true rfl) (Nat.le_of_ble_eq_true rfl) dt_X0_bestShare_0.2.1.1.1 ?_
    refine z_if_ne (tgt := 22) M dt_X0_bestShare_0.2.1.1.2 (by decide) (fun hc => ?_) (fun hc => ?_)
    · have h := gIf hc h
      refine z_iconst M dt_X0_bestShare_0.2.2.1.1 ki_0 ?_
      refine z_istore_n (lv' := [(3, .int (0 : Int32)), (0, .ref (a 27)), (1, .int p0), (2, .int p1)]) M dt_X0_bestShare_0.2.2.1.2 rfl (by decide) rfl ?_
      refine z_lconst (v := 0) M dt_X0_bestShare_0.2.2.2.1 (by decide) ?_
      refine z_lstore (lv' := [(4, .long (0 : Int64)), (3, .int (0 : Int32)), (0, .ref (a 27)), (1, .int p0), (2, .int p1)]) M dt_X0_bestShare_0.2.2.2.2 (by decide) rfl ?_
      refine z_lconst (v := 0) M dt_X0_bestShare_1.1.1.1.1 (by decide) ?_
      refine z_lstore (lv' := [(6, .long (0 : Int64)), (4, .long (0 : Int64)), (3, .int (0 : Int32)), (0, .ref (a 27)), (1, .int p0), (2, .int p1)]) M dt_X0_bestShare_1.1.1.1.2 (by decide) rfl ?_
      refine z_lconst (v := 0) M dt_X0_bestShare_1.1.1.2.1 (by decide) ?_
      refine z_lstore (lv' := [(8, .long (0 : Int64)), (6, .long (0 : Int64)), (4, .long (0 : Int64)), (3, .int (0 : Int32)), (0, .ref (a 27)), (1, .int p0), (2, .int p1)]) M dt_X0_bestShare_1.1.1.2.2 (by decide) rfl ?_
      refine z_iconst M dt_X0_bestShare_1.1.2.1.1 ki_0 ?_
      refine z_istore (lv' := [(10, .int (0 : Int32)), (8, .long (0 : Int64)), (6, .long (0 : Int64)), (4, .long (0 : Int64)), (3, .int (0 : Int32)), (0, .ref (a 27)), (1, .int p0), (2, .int p1)]) M dt_X0_bestShare_1.1.2.1.2 (by decide) rfl ?_
      refine z_sub M [5, 6, 7, 4, 3, 2, 1, 0] (lv' := [(0, .ref (a 27)), (1, .int p0), (2, .int p1), (3, .int (0 : Int32)), (4, .long (0 : Int64)), (6, .long (0 : Int64)), (8, .long (0 : Int64)), (10, .int (0 : Int32))]) rfl ?_
      exact wL_X0_bestShare_36 M (k151 := (fun w6 w7 w8 w9 => J_X0_bestShare_151 σ w6 w7 w8 w9)) σ p0 p1 (fun w6 w7 w8 w9 h => by
          exact wJ_X0_bestShare_151 M  σ w6 w7 w8 w9 h) zFu (0 : Int32) (0 : Int64) (0 : Int64) (0 : Int64) (0 : Int32) h
    · have h := gIt hc h
      refine z_iconst M dt_X0_bestShare_0.2.1.2.1 ki_m1 ?_
      obtain rfl := Option.some.inj h
      exact z_iret M dt_X0_bestShare_0.2.1.2.2
theorem k_X0_bestShare {n : Nat} (M : zM l D zcl (zty cy) A ad (zR n) (cW a cy) own cc nL rt σo ov G) {p0 : Int32} {p1 : Int32} {o : (Zst × Int32)} (h : f_X0_bestShare σ p0 p1 = some o) {index : Nat} (hl : Cond.methodLink own index yX0_bestShare ∈ uw) (hR : 6 ≤ n) (hW : (st.map fun v => v.category).sum ≤ 8) (d : decode cc pc = .ok (.invokevirtual index, 3)) (kk : G o.1 lv (pc + 3) (.int o.2 :: st)) : G σ lv pc (.int p1 :: .int p0 :: .ref (a 27) :: st) := z_callV M [.int p0, .int p1] (m_X0_bestShare (zM_hD M) h) (hC27 σ) rfl hl u94 u1042 u1040 u1041 hd_X0_bestShare hR (by decide) rfl hW d kk
set_option maxHeartbeats 4000000 in
set_option maxRecDepth 100000 in
theorem m_X11_worth (hD : ∀ σ, va_D A (cW a cy σ)) {σ : Zst} {p0 : Int32} {p1 : Int32} {o : (Zst × Int32)} (h : f_X11_worth σ p0 p1 = some o) : zT l D zcl (zty cy) A ad (cW a cy) yX11_worth cX11_worth 3 (some .int) 6 [.ref (a 0), .int p0, .int p1] σ o.1 (some (.int o.2)) := by
  refine z_met pn_X11 hD (Nat.le_of_ble_eq_true rfl) rfl (fun G M => ?_)
  refine z_aload_n M dt_X11_worth_0.1.1.1 rfl 0 rfl ?_
  refine gf_X11_answers M u435 dt_X11_worth_0.1.1.2 ?_
  refine z_iload_n M dt_X11_worth_0.1.2 rfl 1 rfl ?_
  refine z_iload_n M dt_X11_worth_0.2.1.1 rfl 2 rfl ?_
  obtain ⟨t1, hc, h⟩ := gBd h
  refine k_X0_bestShare M hc u1039 (Nat.le_of_ble_eq_true rfl) (Nat.le_of_ble_eq_true rfl) dt_X11_worth_0.2.1.2 ?_
  obtain rfl := Option.some.inj h
  exact z_iret M dt_X11_worth_0.2.2
set_option maxHeartbeats 4000000 in
set_option maxRecDepth 100000 in
theorem wL_X8_clearThings_2 {o : Zst} (M : zM l D zcl (zty cy) A ad (zR 1) (cW a cy) RX8 cX8_clearThings 3 none o none G)  (v1 : Int32)  :
    ∀ (n2 : Nat) (σ : Zst) (v2 : Int32), L_X8_clearThings_2 v1 n2 σ v2 = some o → G σ [(0, .ref (a 30)), (1, .int v1), (2, .int v2)] 2 [] := by
  intro n2
  induction n2 with
  | zero => intro σ v2 h; exact nomatch (show (none : Option Zst) = some _ from h)
  | succ n2 ih =>
    intro σ v2 h
    refine z_iload_n M dt_X8_clearThings_0.1.1.2.1 rfl 2 rfl ?_
    refine z_iload_n M dt_X8_clearThings_0.1.1.2.2 rfl 1 rfl ?_
    refine z_iconst M dt_X8_clearThings_0.1.2.1.1 ki_2 ?_
    refine z_iadd M dt_X8_clearThings_0.1.2.1.2 ?_
    refine z_icmp_ge (tgt := 39) M dt_X8_clearThings_0.1.2.2.1 (by decide) (fun hc => ?_) (fun hc => ?_)
    · have h := gIt hc h
      obtain rfl := Option.some.inj h
      exact z_vret M dt_X8_clearThings_1.2.2.2
    · have h := gIf hc h
      refine z_iload_n M dt_X8_clearThings_0.1.2.2.2 rfl 2 rfl ?_
      refine z_if_lt (tgt := 33) M dt_X8_clearThings_0.2.1.1.1 (by decide) (fun hc => ?_) (fun hc => ?_)
      · have h := gIt hc h
        refine z_iinc (v := (v2 + (1 : Int32))) (lv' := [(2, .int (v2 + (1 : Int32))), (0, .ref (a 30)), (1, .int v1)]) M dt_X8_clearThings_1.2.1.2 (k := 2) rfl (congrArg (fun q => v2 + q) ki_1) (by decide) rfl ?_
        refine z_goto (tgt := 2) M dt_X8_clearThings_1.2.2.1 (by decide) ?_
        refine z_sub M [1, 2, 0] (lv' := [(0, .ref (a 30)), (1, .int v1), (2, .int (v2 + (1 : Int32)))]) rfl ?_
        exact ih σ (v2 + (1 : Int32)) h
      · have h := gIf hc h
        refine z_iload_n M dt_X8_clearThings_0.2.1.1.2 rfl 2 rfl ?_
        refine z_bipush M dt_X8_clearThings_0.2.1.2.1 kb_10 ?_
        refine z_icmp_ge (tgt := 33) M dt_X8_clearThings_0.2.1.2.2 (by decide) (fun hc => ?_) (fun hc => ?_)
        · have h := gIt hc h
          refine z_iinc (v := (v2 + (1 : Int32))) (lv' := [(2, .int (v2 + (1 : Int32))), (0, .ref (a 30)), (1, .int v1)]) M dt_X8_clearThings_1.2.1.2 (k := 2) rfl (congrArg (fun q => v2 + q) ki_1) (by decide) rfl ?_
          refine z_goto (tgt := 2) M dt_X8_clearThings_1.2.2.1 (by decide) ?_
          refine z_sub M [1, 2, 0] (lv' := [(0, .ref (a 30)), (1, .int v1), (2, .int (v2 + (1 : Int32)))]) rfl ?_
          exact ih σ (v2 + (1 : Int32)) h
        · have h := gIf hc h
          refine z_aload_n M dt_X8_clearThings_0.2.2.1.1 rfl 0 rfl ?_
          refine gf_X8_uppers M u318 dt_X8_clearThings_0.2.2.1.2 ?_
          refine z_iload_n M dt_X8_clearThings_0.2.2.2.1 rfl 2 rfl ?_
          refine z_lconst (v := 0) M dt_X8_clearThings_0.2.2.2.2 (by decide) ?_
          have ⟨hg, h⟩ := gIx_s h
          refine as_C33 (σ := σ) M (f := (σ.2.2.1 3)) rfl hg dt_X8_clearThings_1.1.1.1.1 ?_
          refine z_aload_n M dt_X8_clearThings_1.1.1.1.2 rfl 0 rfl ?_
          refine gf_X8_lowers M u319 dt_X8_clearThings_1.1.1.2 ?_
          refine z_iload_n M dt_X8_clearThings_1.1.2.1 rfl 2 rfl ?_
          refine z_lconst (v := 0) M dt_X8_clearThings_1.1.2.2 (by decide) ?_
          have ⟨hg, h⟩ := gIx_s h
          refine as_C34 (σ := (zL σ 3 (vp_updL (σ.2.2.1 3) (Int32.toNatClampNeg v2) (0 : Int64)))) M (f := (σ.2.2.1 4)) rfl hg dt_X8_clearThings_1.2.1.1 ?_
          refine z_iinc (v := (v2 + (1 : Int32))) (lv' := [(2, .int (v2 + (1 : Int32))), (0, .ref (a 30)), (1, .int v1)]) M dt_X8_clearThings_1.2.1.2 (k := 2) rfl (congrArg (fun q => v2 + q) ki_1) (by decide) rfl ?_
          refine z_goto (tgt := 2) M dt_X8_clearThings_1.2.2.1 (by decide) ?_
          refine z_sub M [1, 2, 0] (lv' := [(0, .ref (a 30)), (1, .int v1), (2, .int (v2 + (1 : Int32)))]) rfl ?_
          exact ih (zL (zL σ 3 (vp_updL (σ.2.2.1 3) (Int32.toNatClampNeg v2) (0 : Int64))) 4 (vp_updL (σ.2.2.1 4) (Int32.toNatClampNeg v2) (0 : Int64))) (v2 + (1 : Int32)) h
set_option maxHeartbeats 4000000 in
set_option maxRecDepth 100000 in
theorem m_X8_clearThings (hD : ∀ σ, va_D A (cW a cy σ)) {σ : Zst} {p0 : Int32} {o : Zst} (h : f_X8_clearThings σ p0 = some o) : zT l D zcl (zty cy) A ad (cW a cy) yX8_clearThings cX8_clearThings 3 none 1 [.ref (a 30), .int p0] σ o none := by
  refine z_met pn_X8 hD (Nat.le_of_ble_eq_true rfl) rfl (fun G M => ?_)
  refine z_iload_n M dt_X8_clearThings_0.1.1.1.1 rfl 1 rfl ?_
  refine z_istore_n (lv' := [(2, .int p0), (0, .ref (a 30)), (1, .int p0)]) M dt_X8_clearThings_0.1.1.1.2 rfl (by decide) rfl ?_
  refine z_sub M [1, 2, 0] (lv' := [(0, .ref (a 30)), (1, .int p0), (2, .int p0)]) rfl ?_
  exact wL_X8_clearThings_2 M  p0 zFu σ p0 h
theorem k_X8_clearThings {n : Nat} (M : zM l D zcl (zty cy) A ad (zR n) (cW a cy) own cc nL rt σo ov G) {p0 : Int32} {o : Zst} (h : f_X8_clearThings σ p0 = some o) {index : Nat} (hl : Cond.methodLink own index yX8_clearThings ∈ uw) (hR : 2 ≤ n) (hW : (st.map fun v => v.category).sum ≤ 8) (d : decode cc pc = .ok (.invokevirtual index, 3)) (kk : G o lv (pc + 3) (st)) : G σ lv pc (.int p0 :: .ref (a 30) :: st) := z_callV M [.int p0] (m_X8_clearThings (zM_hD M) h) (hC30 σ) rfl hl u95 u1064 u1063 u24 hd_X8_clearThings hR (by decide) rfl hW d kk
set_option maxHeartbeats 4000000 in
set_option maxRecDepth 100000 in
theorem m_X8_addTo (hD : ∀ σ, va_D A (cW a cy σ)) {σ : Zst} {p0 : Int32} {p1 : Int32} {p2 : Int32} {o : Zst} (h : f_X8_addTo σ p0 p1 p2 = some o) : zT l D zcl (zty cy) A ad (cW a cy) yX8_addTo cX8_addTo 4 none 1 [.ref (a 30), .int p0, .int p1, .int p2] σ o none := by
  refine z_met pn_X8 hD (Nat.le_of_ble_eq_true rfl) rfl (fun G M => ?_)
  refine z_iload_n M dt_X8_addTo_0.1.1.1.1 rfl 1 rfl ?_
  refine z_if_lt (tgt := 32) M dt_X8_addTo_0.1.1.1.2 (by decide) (fun hc => ?_) (fun hc => ?_)
  · have h := gIt hc h
    obtain rfl := Option.some.inj h
    exact z_vret M dt_X8_addTo_1.2.2.2
  · have h := gIf hc h
    refine z_iload_n M dt_X8_addTo_0.1.1.2.1 rfl 1 rfl ?_
    refine z_bipush M dt_X8_addTo_0.1.1.2.2 kb_10 ?_
    refine z_icmp_ge (tgt := 32) M dt_X8_addTo_0.1.2.1.1 (by decide) (fun hc => ?_) (fun hc => ?_)
    · have h := gIt hc h
      obtain rfl := Option.some.inj h
      exact z_vret M dt_X8_addTo_1.2.2.2
    · have h := gIf hc h
      refine z_aload_n M dt_X8_addTo_0.1.2.1.2 rfl 0 rfl ?_
      refine gf_X8_uppers M u318 dt_X8_addTo_0.1.2.2.1 ?_
      refine z_iload_n M dt_X8_addTo_0.1.2.2.2 rfl 1 rfl ?_
      refine z_dup2_11 M dt_X8_addTo_0.2.1.1.1 rfl rfl ?_
      have ⟨hg, h⟩ := gIx_s h
      refine al_C33 (σ := σ) M (f := (σ.2.2.1 3)) rfl hg dt_X8_addTo_0.2.1.1.2 ?_
      refine z_iload_n M dt_X8_addTo_0.2.1.2.1 rfl 2 rfl ?_
      refine z_i2l M dt_X8_addTo_0.2.1.2.2 ?_
      refine z_ladd M dt_X8_addTo_0.2.2.1.1 ?_
      have ⟨hg, h⟩ := gIx_s h
      refine as_C33 (σ := σ) M (f := (σ.2.2.1 3)) rfl hg dt_X8_addTo_0.2.2.1.2 ?_
      refine z_aload_n M dt_X8_addTo_0.2.2.2.1 rfl 0 rfl ?_
      refine gf_X8_lowers M u319 dt_X8_addTo_0.2.2.2.2 ?_
      refine z_iload_n M dt_X8_addTo_1.1.1.1 rfl 1 rfl ?_
      refine z_dup2_11 M dt_X8_addTo_1.1.1.2 rfl rfl ?_
      have ⟨hg, h⟩ := gIx_s h
      refine al_C34 (σ := (zL σ 3 (vp_updL (σ.2.2.1 3) (Int32.toNatClampNeg p0) (((σ.2.2.1 3) (Int32.toNatClampNeg p0)) + (Int32.toInt64 p1))))) M (f := (σ.2.2.1 4)) rfl hg dt_X8_addTo_1.1.2.1 ?_
      refine z_iload_n M dt_X8_addTo_1.1.2.2 rfl 3 rfl ?_
      refine z_i2l M dt_X8_addTo_1.2.1.1 ?_
      refine z_ladd M dt_X8_addTo_1.2.1.2 ?_
      have ⟨hg, h⟩ := gIx_s h
      refine as_C34 (σ := (zL σ 3 (vp_updL (σ.2.2.1 3) (Int32.toNatClampNeg p0) (((σ.2.2.1 3) (Int32.toNatClampNeg p0)) + (Int32.toInt64 p1))))) M (f := (σ.2.2.1 4)) rfl hg dt_X8_addTo_1.2.2.1 ?_
      obtain rfl := Option.some.inj h
      exact z_vret M dt_X8_addTo_1.2.2.2
theorem k_X8_addTo {n : Nat} (M : zM l D zcl (zty cy) A ad (zR n) (cW a cy) own cc nL rt σo ov G) {p0 : Int32} {p1 : Int32} {p2 : Int32} {o : Zst} (h : f_X8_addTo σ p0 p1 p2 = some o) {index : Nat} (hl : Cond.methodLink own index yX8_addTo ∈ uw) (hR : 2 ≤ n) (hW : (st.map fun v => v.category).sum ≤ 8) (d : decode cc pc = .ok (.invokevirtual index, 3)) (kk : G o lv (pc + 3) (st)) : G σ lv pc (.int p2 :: .int p1 :: .int p0 :: .ref (a 30) :: st) := z_callV M [.int p0, .int p1, .int p2] (m_X8_addTo (zM_hD M) h) (hC30 σ) rfl hl u95 u1073 u1072 u25 hd_X8_addTo hR (by decide) rfl hW d kk
set_option maxHeartbeats 4000000 in
set_option maxRecDepth 100000 in
theorem wL_X8_measureWaste_7 {o : Zst} (M : zM l D zcl (zty cy) A ad (zR 4) (cW a cy) RX8 cX8_measureWaste 5 none o none G) {k114 : Zst → Option Zst}  (v1 : Int32) (Hk114 : ∀ (σ : Zst), k114 σ = some o → G σ [(0, .ref (a 30))] 114 []) :
    ∀ (n7 : Nat) (σ : Zst) (v2 : Int32), L_X8_measureWaste_7 k114 v1 n7 σ v2 = some o → G σ [(0, .ref (a 30)), (1, .int v1), (2, .int v2)] 7 [] := by
  intro n7
  induction n7 with
  | zero => intro σ v2 h; exact nomatch (show (none : Option Zst) = some _ from h)
  | succ n7 ih =>
    intro σ v2 h
    refine z_iload_n M dt_X8_measureWaste_0.1.2.1.2 rfl 2 rfl ?_
    refine z_aload_n M dt_X8_measureWaste_0.1.2.2.1 rfl 0 rfl ?_
    refine gf_X8_town M u313 dt_X8_measureWaste_0.1.2.2.2 ?_
    refine k_X10_cellCount M u1065 (Nat.le_of_ble_eq_true rfl) (Nat.le_of_ble_eq_true rfl) dt_X8_measureWaste_0.2.1.1.1 ?_
    refine z_icmp_ge (tgt := 114) M dt_X8_measureWaste_0.2.1.1.2 (by decide) (fun hc => ?_) (fun hc => ?_)
    · have h := gIt hc h
      refine z_sub M [0] (lv' := [(0, .ref (a 30))]) rfl ?_
      exact Hk114 σ h
    · have h := gIf hc h
      refine z_aload_n M dt_X8_measureWaste_0.2.1.2.1 rfl 0 rfl ?_
      refine gf_X8_numbers M u314 dt_X8_measureWaste_0.2.1.2.2 ?_
      refine z_iconst M dt_X8_measureWaste_0.2.2.1.1 ki_0 ?_
      refine z_iload_n M dt_X8_measureWaste_0.2.2.1.2 rfl 2 rfl ?_
      refine z_iload_n M dt_X8_measureWaste_0.2.2.2.1 rfl 1 rfl ?_
      obtain ⟨t1, hc, h⟩ := gBd h
      refine k_X4_has M hc u1066 (Nat.le_of_ble_eq_true rfl) (Nat.le_of_ble_eq_true rfl) dt_X8_measureWaste_0.2.2.2.2 ?_
      refine z_if_eq (tgt := 108) M dt_X8_measureWaste_1.1.1.1.1 (by decide) (fun hc => ?_) (fun hc => ?_)
      · have h := gIt hc h
        refine z_iinc (v := (v2 + (1 : Int32))) (lv' := [(2, .int (v2 + (1 : Int32))), (0, .ref (a 30)), (1, .int v1)]) M dt_X8_measureWaste_3.2.2.2.1 (k := 2) rfl (congrArg (fun q => v2 + q) ki_1) (by decide) rfl ?_
        refine z_goto (tgt := 7) M dt_X8_measureWaste_3.2.2.2.2 (by decide) ?_
        refine z_sub M [1, 2, 0] (lv' := [(0, .ref (a 30)), (1, .int v1), (2, .int (v2 + (1 : Int32)))]) rfl ?_
        exact ih σ (v2 + (1 : Int32)) h
      · have h := gIf hc h
        refine z_aload_n M dt_X8_measureWaste_1.1.1.1.2 rfl 0 rfl ?_
        refine gf_X8_numbers M u314 dt_X8_measureWaste_1.1.1.2.1 ?_
        refine z_iconst M dt_X8_measureWaste_1.1.1.2.2 ki_1 ?_
        refine z_iload_n M dt_X8_measureWaste_1.1.2.1.1 rfl 2 rfl ?_
        refine z_iload_n M dt_X8_measureWaste_1.1.2.1.2 rfl 1 rfl ?_
        obtain ⟨t2, hc, h⟩ := gBd h
        refine k_X4_has M hc u1066 (Nat.le_of_ble_eq_true rfl) (Nat.le_of_ble_eq_true rfl) dt_X8_measureWaste_1.1.2.2.1 ?_
        refine z_if_eq (tgt := 108) M dt_X8_measureWaste_1.1.2.2.2 (by decide) (fun hc => ?_) (fun hc => ?_)
        · have h := gIt hc h
          refine z_iinc (v := (v2 + (1 : Int32))) (lv' := [(2, .int (v2 + (1 : Int32))), (0, .ref (a 30)), (1, .int v1)]) M dt_X8_measureWaste_3.2.2.2.1 (k := 2) rfl (congrArg (fun q => v2 + q) ki_1) (by decide) rfl ?_
          refine z_goto (tgt := 7) M dt_X8_measureWaste_3.2.2.2.2 (by decide) ?_
          refine z_sub M [1, 2, 0] (lv' := [(0, .ref (a 30)), (1, .int v1), (2, .int (v2 + (1 : Int32)))]) rfl ?_
          exact ih σ (v2 + (1 : Int32)) h
        · have h := gIf hc h
          refine z_aload_n M dt_X8_measureWaste_1.2.1.1.1 rfl 0 rfl ?_
          refine gf_X8_numbers M u314 dt_X8_measureWaste_1.2.1.1.2 ?_
          refine z_iconst M dt_X8_measureWaste_1.2.1.2.1 ki_1 ?_
          refine z_iload_n M dt_X8_measureWaste_1.2.1.2.2 rfl 2 rfl ?_
          refine z_iload_n M dt_X8_measureWaste_1.2.2.1.1 rfl 1 rfl ?_
          obtain ⟨t3, hc, h⟩ := gBd h
          refine k_X4_of M hc u1067 (Nat.le_of_ble_eq_true rfl) (Nat.le_of_ble_eq_true rfl) dt_X8_measureWaste_1.2.2.1.2 ?_
          refine z_istore_n (lv' := [(3, .int t3), (0, .ref (a 30)), (1, .int v1), (2, .int v2)]) M dt_X8_measureWaste_1.2.2.2.1 rfl (by decide) rfl ?_
          refine z_aload_n M dt_X8_measureWaste_1.2.2.2.2 rfl 1 rfl ?_
          refine gf_X8_numbers M u314 dt_X8_measureWaste_2.1.1.1.1 ?_
          refine z_iconst M dt_X8_measureWaste_2.1.1.1.2 ki_0 ?_
          refine z_iload_n M dt_X8_measureWaste_2.1.1.2.1 rfl 3 rfl ?_
          refine z_iload_n M dt_X8_measureWaste_2.1.1.2.2 rfl 2 rfl ?_
          obtain ⟨t4, hc, h⟩ := gBd h
          refine k_X4_of M hc u1067 (Nat.le_of_ble_eq_true rfl) (Nat.le_of_ble_eq_true rfl) dt_X8_measureWaste_2.1.2.1.1 ?_
          refine z_iload_n M dt_X8_measureWaste_2.1.2.1.2 rfl 0 rfl ?_
          refine z_aload_n M dt_X8_measureWaste_2.1.2.2.1 rfl 1 rfl ?_
          refine gf_X8_town M u313 dt_X8_measureWaste_2.1.2.2.2 ?_
          refine z_iload_n M dt_X8_measureWaste_2.2.1.1.1 rfl 2 rfl ?_
          obtain ⟨t5, hc, h⟩ := gBd h
          refine k_X10_leavesOf M hc u1068 (Nat.le_of_ble_eq_true rfl) (Nat.le_of_ble_eq_true rfl) dt_X8_measureWaste_2.2.1.1.2 ?_
          refine z_imul M dt_X8_measureWaste_2.2.1.2.1 ?_
          refine z_bipush M dt_X8_measureWaste_2.2.1.2.2 kb_100 ?_
          refine z_idiv M dt_X8_measureWaste_2.2.2.1.1 (by decide) ?_
          refine z_isub M dt_X8_measureWaste_2.2.2.1.2 ?_
          refine z_istore (lv' := [(4, .int (t4 - ((t3 * t5) / (100 : Int32)))), (3, .int t3), (0, .ref (a 30)), (1, .int v1), (2, .int v2)]) M dt_X8_measureWaste_2.2.2.2.1 (by decide) rfl ?_
          refine z_aload_n M dt_X8_measureWaste_2.2.2.2.2 rfl 2 rfl ?_
          refine z_aload_n M dt_X8_measureWaste_3.1.1.1.1 rfl 2 rfl ?_
          refine gf_X8_town M u313 dt_X8_measureWaste_3.1.1.1.2 ?_
          refine z_iload_n M dt_X8_measureWaste_3.1.1.2.1 rfl 3 rfl ?_
          refine z_iload_n M dt_X8_measureWaste_3.1.1.2.2 rfl 4 rfl ?_
          refine z_bipush M dt_X8_measureWaste_3.1.2.1.1 kb_12 ?_
          refine z_irem M dt_X8_measureWaste_3.1.2.1.2 (by decide) ?_
          obtain ⟨t6, hc, h⟩ := gBd h
          refine k_X10_isLack M hc u1069 (Nat.le_of_ble_eq_true rfl) (Nat.le_of_ble_eq_true rfl) dt_X8_measureWaste_3.1.2.2.1 ?_
          have hJ8 : G σ [(4, .int (t4 - ((t3 * t5) / (100 : Int32)))), (3, .int t3), (0, .ref (a 30)), (1, .int v1), (2, .int v2)] 102 [.int (if t6 = (0 : Int32) then (1 : Int32) else (0 : Int32)), .ref (a 30)] := by
            refine z_iload M dt_X8_measureWaste_3.2.1.2.2 0 rfl ?_
            refine z_iload_n M dt_X8_measureWaste_3.2.2.1.1 rfl 1 rfl ?_
            obtain ⟨t9, hc, h⟩ := gBd h
            refine k_X8_addTo M hc u1070 (Nat.le_of_ble_eq_true rfl) (Nat.le_of_ble_eq_true rfl) dt_X8_measureWaste_3.2.2.1.2 ?_
            refine z_iinc (v := (v2 + (1 : Int32))) (lv' := [(2, .int (v2 + (1 : Int32))), (4, .int (t4 - ((t3 * t5) / (100 : Int32)))), (3, .int t3), (0, .ref (a 30)), (1, .int v1)]) M dt_X8_measureWaste_3.2.2.2.1 (k := 4) rfl (congrArg (fun q => v2 + q) ki_1) (by decide) rfl ?_
            refine z_goto (tgt := 7) M dt_X8_measureWaste_3.2.2.2.2 (by decide) ?_
            refine z_sub M [3, 4, 0] (lv' := [(0, .ref (a 30)), (1, .int v1), (2, .int (v2 + (1 : Int32)))]) rfl ?_
            exact ih t9 (v2 + (1 : Int32)) h
          refine z_if_eq (tgt := 101) M dt_X8_measureWaste_3.1.2.2.2 (by decide) (fun hc7 => ?_) (fun hc7 => ?_)
          · refine z_iconst M dt_X8_measureWaste_3.2.1.2.1 ki_1 ?_
            exact (zTt hc7 hJ8)
          · refine z_iconst M dt_X8_measureWaste_3.2.1.1.1 ki_0 ?_
            refine z_goto (tgt := 102) M dt_X8_measureWaste_3.2.1.1.2 (by decide) ?_
            exact (zTf hc7 hJ8)
set_option maxHeartbeats 4000000 in
set_option maxRecDepth 100000 in
theorem wJ_X8_measureWaste_136 {o : Zst} (M : zM l D zcl (zty cy) A ad (zR 4) (cW a cy) RX8 cX8_measureWaste 5 none o none G) (σ : Zst)   (h : J_X8_measureWaste_136 σ = some o) : G σ [(0, .ref (a 30))] 136 [] := by
  refine z_aload_n M dt_X8_measureWaste_4.2.2.2.1 rfl 0 rfl ?_
  refine z_iconst M dt_X8_measureWaste_4.2.2.2.2 ki_0 ?_
  obtain ⟨t10, hc, h⟩ := gBd h
  refine k_X8_clearThings M hc u1061 (Nat.le_of_ble_eq_true rfl) (Nat.le_of_ble_eq_true rfl) dt_X8_measureWaste_5.1 ?_
  obtain rfl := Option.some.inj h
  exact z_vret M dt_X8_measureWaste_5.2
set_option maxHeartbeats 4000000 in
set_option maxRecDepth 100000 in
theorem wJ_X8_measureWaste_114 {o : Zst} (M : zM l D zcl (zty cy) A ad (zR 4) (cW a cy) RX8 cX8_measureWaste 5 none o none G) (σ : Zst)   (h : J_X8_measureWaste_114 σ = some o) : G σ [(0, .ref (a 30))] 114 [] := by
  refine z_aload_n M dt_X8_measureWaste_4.1.1.1.1 rfl 0 rfl ?_
  refine gf_X8_lowers M u319 dt_X8_measureWaste_4.1.1.1.2 ?_
  refine z_iconst M dt_X8_measureWaste_4.1.1.2.1 ki_0 ?_
  refine al_C34 (σ := σ) M (f := (σ.2.2.1 4)) rfl (show ¬ (_ ∨ _) by decide) dt_X8_measureWaste_4.1.1.2.2 ?_
  refine z_lconst (v := 0) M dt_X8_measureWaste_4.1.2.1.1 (by decide) ?_
  refine z_lcmp_eq (tgt := 136) M dt_X8_measureWaste_4.1.2.1.2 dt_X8_measureWaste_4.1.2.2.1 (by decide) (fun hc => ?_) (fun hc => ?_)
  · have h := gIt hc h
    exact wJ_X8_measureWaste_136 M  σ h
  · have h := gIf hc h
    refine z_aload_n M dt_X8_measureWaste_4.1.2.2.2 rfl 0 rfl ?_
    refine gf_X8_lowers M u319 dt_X8_measureWaste_4.2.1.1.1 ?_
    refine z_iconst M dt_X8_measureWaste_4.2.1.1.2 ki_1 ?_
    refine al_C34 (σ := σ) M (f := (σ.2.2.1 4)) rfl (show ¬ (_ ∨ _) by decide) dt_X8_measureWaste_4.2.1.2.1 ?_
    refine z_lconst (v := 0) M dt_X8_measureWaste_4.2.1.2.2 (by decide) ?_
    refine z_lcmp_ne (tgt := 141) M dt_X8_measureWaste_4.2.2.1.1 dt_X8_measureWaste_4.2.2.1.2 (by decide) (fun hc => ?_) (fun hc => ?_)
    · have h := gIf hc h
      obtain rfl := Option.some.inj h
      exact z_vret M dt_X8_measureWaste_5.2
    · have h := gIt hc h
      exact wJ_X8_measureWaste_136 M  σ h
set_option maxHeartbeats 4000000 in
set_option maxRecDepth 100000 in
theorem m_X8_measureWaste (hD : ∀ σ, va_D A (cW a cy σ)) {σ : Zst} {p0 : Int32} {o : Zst} (h : f_X8_measureWaste σ p0 = some o) : zT l D zcl (zty cy) A ad (cW a cy) yX8_measureWaste cX8_measureWaste 5 none 4 [.ref (a 30), .int p0] σ o none := by
  refine z_met pn_X8 hD (Nat.le_of_ble_eq_true rfl) rfl (fun G M => ?_)
  refine z_aload_n M dt_X8_measureWaste_0.1.1.1.1 rfl 0 rfl ?_
  refine z_iconst M dt_X8_measureWaste_0.1.1.1.2 ki_0 ?_
  obtain ⟨t11, hc, h⟩ := gBd h
  refine k_X8_clearThings M hc u1061 (Nat.le_of_ble_eq_true rfl) (Nat.le_of_ble_eq_true rfl) dt_X8_measureWaste_0.1.1.2.1 ?_
  refine z_iconst M dt_X8_measureWaste_0.1.1.2.2 ki_0 ?_
  refine z_istore_n (lv' := [(2, .int (0 : Int32)), (0, .ref (a 30)), (1, .int p0)]) M dt_X8_measureWaste_0.1.2.1.1 rfl (by decide) rfl ?_
  refine z_sub M [1, 2, 0] (lv' := [(0, .ref (a 30)), (1, .int p0), (2, .int (0 : Int32))]) rfl ?_
  exact wL_X8_measureWaste_7 M (k114 := (fun σ12 => J_X8_measureWaste_114 σ12)) p0 (fun σ12 h => by
      exact wJ_X8_measureWaste_114 M  σ12 h) zFu t11 (0 : Int32) h
theorem k_X8_measureWaste {n : Nat} (M : zM l D zcl (zty cy) A ad (zR n) (cW a cy) own cc nL rt σo ov G) {p0 : Int32} {o : Zst} (h : f_X8_measureWaste σ p0 = some o) {index : Nat} (hl : Cond.methodLink own index yX8_measureWaste ∈ uw) (hR : 5 ≤ n) (hW : (st.map fun v => v.category).sum ≤ 8) (d : decode cc pc = .ok (.invokevirtual index, 3)) (kk : G o lv (pc + 3) (st)) : G σ lv pc (.int p0 :: .ref (a 30) :: st) := z_callV M [.int p0] (m_X8_measureWaste (zM_hD M) h) (hC30 σ) rfl hl u95 u1060 u1059 u23 hd_X8_measureWaste hR (by decide) rfl hW d kk
set_option maxHeartbeats 4000000 in
set_option maxRecDepth 100000 in
theorem m_X8_isHad (hD : ∀ σ, va_D A (cW a cy σ)) {σ0 : Zst} {p0 : Int32} {o : Int32} (h : f_X8_isHad σ0 p0 = some o) : zT l D zcl (zty cy) A ad (cW a cy) yX8_isHad cX8_isHad 2 (some .boolean) 1 [.ref (a 30), .int p0] σ0 σ0 (some (.int o)) := by
  refine z_met pn_X8 hD (Nat.le_of_ble_eq_true rfl) rfl (fun G M => ?_)
  refine z_iload_n M dt_X8_isHad_0.1.1.1.1 rfl 1 rfl ?_
  refine z_if_lt (tgt := 25) M dt_X8_isHad_0.1.1.1.2 (by decide) (fun hc => ?_) (fun hc => ?_)
  · have h := gIt hc h
    refine z_iconst M dt_X8_isHad_0.2.2.2.1 ki_0 ?_
    obtain rfl := Option.some.inj h
    exact z_zret M (nBo (Or.inl rfl)) dt_X8_isHad_0.2.2.2.2
  · have h := gIf hc h
    refine z_iload_n M dt_X8_isHad_0.1.1.2.1 rfl 1 rfl ?_
    refine z_bipush M dt_X8_isHad_0.1.1.2.2 kb_10 ?_
    refine z_icmp_ge (tgt := 25) M dt_X8_isHad_0.1.2.1.1 (by decide) (fun hc => ?_) (fun hc => ?_)
    · have h := gIt hc h
      refine z_iconst M dt_X8_isHad_0.2.2.2.1 ki_0 ?_
      obtain rfl := Option.some.inj h
      exact z_zret M (nBo (Or.inl rfl)) dt_X8_isHad_0.2.2.2.2
    · have h := gIf hc h
      refine z_aload_n M dt_X8_isHad_0.1.2.1.2 rfl 0 rfl ?_
      refine gf_X8_lowers M u319 dt_X8_isHad_0.1.2.2.1 ?_
      refine z_iload_n M dt_X8_isHad_0.1.2.2.2 rfl 1 rfl ?_
      have ⟨hg, h⟩ := gIx_s h
      refine al_C34 (σ := σ0) M (f := (σ0.2.2.1 4)) rfl hg dt_X8_isHad_0.2.1.1.1 ?_
      refine z_lconst (v := 0) M dt_X8_isHad_0.2.1.1.2 (by decide) ?_
      have hJ2 : G σ0 [(0, .ref (a 30)), (1, .int p0)] 26 [.int (if ((σ0.2.2.1 4) (Int32.toNatClampNeg p0)) ≤ (0 : Int64) then (0 : Int32) else (1 : Int32))] := by
        obtain rfl := Option.some.inj h
        exact z_zret M (nBo (boIte (Or.inl rfl) (Or.inr rfl))) dt_X8_isHad_0.2.2.2.2
      refine z_lcmp_le (tgt := 25) M dt_X8_isHad_0.2.1.2.1 dt_X8_isHad_0.2.1.2.2 (by decide) (fun hc1 => ?_) (fun hc1 => ?_)
      · refine z_iconst M dt_X8_isHad_0.2.2.2.1 ki_0 ?_
        exact (zTt hc1 hJ2)
      · refine z_iconst M dt_X8_isHad_0.2.2.1.1 ki_1 ?_
        refine z_goto (tgt := 26) M dt_X8_isHad_0.2.2.1.2 (by decide) ?_
        exact (zTf hc1 hJ2)
theorem k_X8_isHad {n : Nat} (M : zM l D zcl (zty cy) A ad (zR n) (cW a cy) own cc nL rt σo ov G) {p0 : Int32} {o : Int32} (h : f_X8_isHad σ p0 = some o) {index : Nat} (hl : Cond.methodLink own index yX8_isHad ∈ uw) (hR : 2 ≤ n) (hW : (st.map fun v => v.category).sum ≤ 8) (d : decode cc pc = .ok (.invokevirtual index, 3)) (kk : G σ lv (pc + 3) (.int o :: st)) : G σ lv pc (.int p0 :: .ref (a 30) :: st) := z_callV M [.int p0] (m_X8_isHad (zM_hD M) h) (hC30 σ) rfl hl u95 u1083 u1082 u27 hd_X8_isHad hR (by decide) rfl hW d kk
set_option maxHeartbeats 4000000 in
set_option maxRecDepth 100000 in
theorem m_X8_compareThings (hD : ∀ σ, va_D A (cW a cy σ)) {σ0 : Zst} {p0 : Int32} {p1 : Int32} {o : Int32} (h : f_X8_compareThings σ0 p0 p1 = some o) : zT l D zcl (zty cy) A ad (cW a cy) yX8_compareThings cX8_compareThings 4 (some .int) 3 [.ref (a 30), .int p0, .int p1] σ0 σ0 (some (.int o)) := by
  refine z_met pn_X8 hD (Nat.le_of_ble_eq_true rfl) rfl (fun G M => ?_)
  refine z_aload_n M dt_X8_compareThings_0.1.1.1.1 rfl 0 rfl ?_
  refine z_iload_n M dt_X8_compareThings_0.1.1.1.2 rfl 1 rfl ?_
  obtain ⟨t1, hc, h⟩ := gBd h
  refine k_X8_isHad M hc u1080 (Nat.le_of_ble_eq_true rfl) (Nat.le_of_ble_eq_true rfl) dt_X8_compareThings_0.1.1.2.1 ?_
  refine z_if_eq (tgt := 20) M dt_X8_compareThings_0.1.1.2.2 (by decide) (fun hc => ?_) (fun hc => ?_)
  · have h := gIt hc h
    refine z_iconst M dt_X8_compareThings_0.2.1.2.1 ki_0 ?_
    refine z_istore_n (lv' := [(3, .int (0 : Int32)), (0, .ref (a 30)), (1, .int p0), (2, .int p1)]) M dt_X8_compareThings_0.2.1.2.2 rfl (by decide) rfl ?_
    refine z_iload_n M dt_X8_compareThings_0.2.2.1.1 rfl 0 rfl ?_
    refine z_if_eq (tgt := 56) M dt_X8_compareThings_0.2.2.1.2 (by decide) (fun hc => ?_) (fun hc => ?_)
    · have h := gIt hc h
      refine z_iconst M dt_X8_compareThings_2.1 ki_0 ?_
      obtain rfl := Option.some.inj h
      exact z_iret M dt_X8_compareThings_2.2
    · have h := gIf hc h
      refine z_aload_n M dt_X8_compareThings_0.2.2.2.1 rfl 1 rfl ?_
      refine gf_X8_uppers M u318 dt_X8_compareThings_0.2.2.2.2 ?_
      refine z_iload_n M dt_X8_compareThings_1.1.1.1.1 rfl 2 rfl ?_
      have ⟨hg, h⟩ := gIx_s h
      refine al_C33 (σ := σ0) M (f := (σ0.2.2.1 3)) rfl hg dt_X8_compareThings_1.1.1.1.2 ?_
      refine z_aload_n M dt_X8_compareThings_1.1.1.2.1 rfl 1 rfl ?_
      refine gf_X8_lowers M u319 dt_X8_compareThings_1.1.1.2.2 ?_
      refine z_iload_n M dt_X8_compareThings_1.1.2.1.1 rfl 2 rfl ?_
      have ⟨hg, h⟩ := gIx_s h
      refine al_C34 (σ := σ0) M (f := (σ0.2.2.1 4)) rfl hg dt_X8_compareThings_1.1.2.1.2 ?_
      refine z_aload_n M dt_X8_compareThings_1.1.2.2.1 rfl 1 rfl ?_
      refine gf_X8_uppers M u318 dt_X8_compareThings_1.1.2.2.2 ?_
      refine z_iload_n M dt_X8_compareThings_1.2.1.1.1 rfl 3 rfl ?_
      have ⟨hg, h⟩ := gIx_s h
      refine al_C33 (σ := σ0) M (f := (σ0.2.2.1 3)) rfl hg dt_X8_compareThings_1.2.1.1.2 ?_
      refine z_aload_n M dt_X8_compareThings_1.2.1.2.1 rfl 1 rfl ?_
      refine gf_X8_lowers M u319 dt_X8_compareThings_1.2.1.2.2 ?_
      refine z_iload_n M dt_X8_compareThings_1.2.2.1.1 rfl 3 rfl ?_
      have ⟨hg, h⟩ := gIx_s h
      refine al_C34 (σ := σ0) M (f := (σ0.2.2.1 4)) rfl hg dt_X8_compareThings_1.2.2.1.2 ?_
      refine kn_X11_compareFractions M u1084 (Nat.le_of_ble_eq_true rfl) (Nat.le_of_ble_eq_true rfl) dt_X8_compareThings_1.2.2.2.1 ?_
      refine z_goto (tgt := 57) M dt_X8_compareThings_1.2.2.2.2 (by decide) ?_
      obtain rfl := Option.some.inj h
      exact z_iret M dt_X8_compareThings_2.2
  · have h := gIf hc h
    refine z_aload_n M dt_X8_compareThings_0.1.2.1.1 rfl 0 rfl ?_
    refine z_iload_n M dt_X8_compareThings_0.1.2.1.2 rfl 2 rfl ?_
    obtain ⟨t2, hc, h⟩ := gBd h
    refine k_X8_isHad M hc u1080 (Nat.le_of_ble_eq_true rfl) (Nat.le_of_ble_eq_true rfl) dt_X8_compareThings_0.1.2.2.1 ?_
    have hJ4 : G σ0 [(0, .ref (a 30)), (1, .int p0), (2, .int p1)] 21 [.int (if t2 = (0 : Int32) then (0 : Int32) else (1 : Int32))] := by
      refine z_istore_n (lv' := [(3, .int (if t2 = (0 : Int32) then (0 : Int32) else (1 : Int32))), (0, .ref (a 30)), (1, .int p0), (2, .int p1)]) M dt_X8_compareThings_0.2.1.2.2 rfl (by decide) rfl ?_
      refine z_iload_n M dt_X8_compareThings_0.2.2.1.1 rfl 0 rfl ?_
      refine z_if_eq (tgt := 56) M dt_X8_compareThings_0.2.2.1.2 (by decide) (fun hc => ?_) (fun hc => ?_)
      · have h := gIt hc h
        refine z_iconst M dt_X8_compareThings_2.1 ki_0 ?_
        obtain rfl := Option.some.inj h
        exact z_iret M dt_X8_compareThings_2.2
      · have h := gIf hc h
        refine z_aload_n M dt_X8_compareThings_0.2.2.2.1 rfl 1 rfl ?_
        refine gf_X8_uppers M u318 dt_X8_compareThings_0.2.2.2.2 ?_
        refine z_iload_n M dt_X8_compareThings_1.1.1.1.1 rfl 2 rfl ?_
        have ⟨hg, h⟩ := gIx_s h
        refine al_C33 (σ := σ0) M (f := (σ0.2.2.1 3)) rfl hg dt_X8_compareThings_1.1.1.1.2 ?_
        refine z_aload_n M dt_X8_compareThings_1.1.1.2.1 rfl 1 rfl ?_
        refine gf_X8_lowers M u319 dt_X8_compareThings_1.1.1.2.2 ?_
        refine z_iload_n M dt_X8_compareThings_1.1.2.1.1 rfl 2 rfl ?_
        have ⟨hg, h⟩ := gIx_s h
        refine al_C34 (σ := σ0) M (f := (σ0.2.2.1 4)) rfl hg dt_X8_compareThings_1.1.2.1.2 ?_
        refine z_aload_n M dt_X8_compareThings_1.1.2.2.1 rfl 1 rfl ?_
        refine gf_X8_uppers M u318 dt_X8_compareThings_1.1.2.2.2 ?_
        refine z_iload_n M dt_X8_compareThings_1.2.1.1.1 rfl 3 rfl ?_
        have ⟨hg, h⟩ := gIx_s h
        refine al_C33 (σ := σ0) M (f := (σ0.2.2.1 3)) rfl hg dt_X8_compareThings_1.2.1.1.2 ?_
        refine z_aload_n M dt_X8_compareThings_1.2.1.2.1 rfl 1 rfl ?_
        refine gf_X8_lowers M u319 dt_X8_compareThings_1.2.1.2.2 ?_
        refine z_iload_n M dt_X8_compareThings_1.2.2.1.1 rfl 3 rfl ?_
        have ⟨hg, h⟩ := gIx_s h
        refine al_C34 (σ := σ0) M (f := (σ0.2.2.1 4)) rfl hg dt_X8_compareThings_1.2.2.1.2 ?_
        refine kn_X11_compareFractions M u1084 (Nat.le_of_ble_eq_true rfl) (Nat.le_of_ble_eq_true rfl) dt_X8_compareThings_1.2.2.2.1 ?_
        refine z_goto (tgt := 57) M dt_X8_compareThings_1.2.2.2.2 (by decide) ?_
        obtain rfl := Option.some.inj h
        exact z_iret M dt_X8_compareThings_2.2
    refine z_if_eq (tgt := 20) M dt_X8_compareThings_0.1.2.2.2 (by decide) (fun hc3 => ?_) (fun hc3 => ?_)
    · refine z_iconst M dt_X8_compareThings_0.2.1.2.1 ki_0 ?_
      exact (zTt hc3 hJ4)
    · refine z_iconst M dt_X8_compareThings_0.2.1.1.1 ki_1 ?_
      refine z_goto (tgt := 21) M dt_X8_compareThings_0.2.1.1.2 (by decide) ?_
      exact (zTf hc3 hJ4)
theorem k_X8_compareThings {n : Nat} (M : zM l D zcl (zty cy) A ad (zR n) (cW a cy) own cc nL rt σo ov G) {p0 : Int32} {p1 : Int32} {o : Int32} (h : f_X8_compareThings σ p0 p1 = some o) {index : Nat} (hl : Cond.methodLink own index yX8_compareThings ∈ uw) (hR : 4 ≤ n) (hW : (st.map fun v => v.category).sum ≤ 8) (d : decode cc pc = .ok (.invokevirtual index, 3)) (kk : G σ lv (pc + 3) (.int o :: st)) : G σ lv pc (.int p1 :: .int p0 :: .ref (a 30) :: st) := z_callV M [.int p0, .int p1] (m_X8_compareThings (zM_hD M) h) (hC30 σ) rfl hl u95 u1079 u1078 u26 hd_X8_compareThings hR (by decide) rfl hW d kk
set_option maxHeartbeats 4000000 in
set_option maxRecDepth 100000 in
theorem m_X8_wasteInLack (hD : ∀ σ, va_D A (cW a cy σ)) {σ : Zst} {p0 : Int32} {o : (Zst × Int32)} (h : f_X8_wasteInLack σ p0 = some o) : zT l D zcl (zty cy) A ad (cW a cy) yX8_wasteInLack cX8_wasteInLack 3 (some .int) 5 [.ref (a 30), .int p0] σ o.1 (some (.int o.2)) := by
  refine z_met pn_X8 hD (Nat.le_of_ble_eq_true rfl) rfl (fun G M => ?_)
  refine z_aload_n M dt_X8_wasteInLack_0.1.1.1.1 rfl 0 rfl ?_
  refine gf_X8_town M u313 dt_X8_wasteInLack_0.1.1.1.2 ?_
  refine z_iload_n M dt_X8_wasteInLack_0.1.1.2.1 rfl 1 rfl ?_
  refine k_X10_hasSort M u1056 (Nat.le_of_ble_eq_true rfl) (Nat.le_of_ble_eq_true rfl) dt_X8_wasteInLack_0.1.1.2.2 ?_
  refine z_if_ne (tgt := 13) M dt_X8_wasteInLack_0.1.2.1.1 (by decide) (fun hc => ?_) (fun hc => ?_)
  · have h := gIf hc h
    refine z_aload_n M dt_X8_wasteInLack_0.1.2.2.2 rfl 0 rfl ?_
    refine z_iload_n M dt_X8_wasteInLack_0.2.1.1.1 rfl 1 rfl ?_
    obtain ⟨t1, hc, h⟩ := gBd h
    refine k_X8_measureWaste M hc u1057 (Nat.le_of_ble_eq_true rfl) (Nat.le_of_ble_eq_true rfl) dt_X8_wasteInLack_0.2.1.1.2 ?_
    refine z_aload_n M dt_X8_wasteInLack_0.2.1.2.1 rfl 0 rfl ?_
    refine gf_X8_lowers M u319 dt_X8_wasteInLack_0.2.1.2.2 ?_
    refine z_iconst M dt_X8_wasteInLack_0.2.2.1.1 ki_0 ?_
    refine al_C34 (σ := t1) M (f := (t1.2.2.1 4)) rfl (show ¬ (_ ∨ _) by decide) dt_X8_wasteInLack_0.2.2.1.2 ?_
    refine z_lconst (v := 0) M dt_X8_wasteInLack_0.2.2.2.1 (by decide) ?_
    refine z_lcmp_ne (tgt := 32) M dt_X8_wasteInLack_0.2.2.2.2 dt_X8_wasteInLack_1.1.1.1.1 (by decide) (fun hc => ?_) (fun hc => ?_)
    · have h := gIf hc h
      refine z_aload_n M dt_X8_wasteInLack_1.1.1.2.2 rfl 0 rfl ?_
      refine gf_X8_row M u315 dt_X8_wasteInLack_1.1.2.1.1 ?_
      obtain ⟨t2, hc, h⟩ := gBd h
      refine k_X5_clear M hc u1074 (Nat.le_of_ble_eq_true rfl) (Nat.le_of_ble_eq_true rfl) dt_X8_wasteInLack_1.1.2.1.2 ?_
      refine z_aload_n M dt_X8_wasteInLack_1.1.2.2.1 rfl 0 rfl ?_
      refine gf_X8_uppers M u318 dt_X8_wasteInLack_1.1.2.2.2 ?_
      refine z_iconst M dt_X8_wasteInLack_1.2.1.1.1 ki_0 ?_
      refine al_C33 (σ := t2) M (f := (t2.2.2.1 3)) rfl (show ¬ (_ ∨ _) by decide) dt_X8_wasteInLack_1.2.1.1.2 ?_
      refine z_aload_n M dt_X8_wasteInLack_1.2.1.2.1 rfl 0 rfl ?_
      refine gf_X8_lowers M u319 dt_X8_wasteInLack_1.2.1.2.2 ?_
      refine z_iconst M dt_X8_wasteInLack_1.2.2.1.1 ki_0 ?_
      refine al_C34 (σ := t2) M (f := (t2.2.2.1 4)) rfl (show ¬ (_ ∨ _) by decide) dt_X8_wasteInLack_1.2.2.1.2 ?_
      obtain ⟨t3, hc, h⟩ := gBd h
      refine k_X5_addFraction M hc u1075 (Nat.le_of_ble_eq_true rfl) (Nat.le_of_ble_eq_true rfl) dt_X8_wasteInLack_1.2.2.2.1 ?_
      refine z_aload_n M dt_X8_wasteInLack_1.2.2.2.2 rfl 0 rfl ?_
      refine gf_X8_uppers M u318 dt_X8_wasteInLack_2.1.1.1.1 ?_
      refine z_iconst M dt_X8_wasteInLack_2.1.1.1.2 ki_1 ?_
      refine al_C33 (σ := t3) M (f := (t3.2.2.1 3)) rfl (show ¬ (_ ∨ _) by decide) dt_X8_wasteInLack_2.1.1.2.1 ?_
      refine z_aload_n M dt_X8_wasteInLack_2.1.1.2.2 rfl 0 rfl ?_
      refine gf_X8_lowers M u319 dt_X8_wasteInLack_2.1.2.1.1 ?_
      refine z_iconst M dt_X8_wasteInLack_2.1.2.1.2 ki_1 ?_
      refine al_C34 (σ := t3) M (f := (t3.2.2.1 4)) rfl (show ¬ (_ ∨ _) by decide) dt_X8_wasteInLack_2.1.2.2.1 ?_
      obtain ⟨t4, hc, h⟩ := gBd h
      refine k_X5_addFraction M hc u1075 (Nat.le_of_ble_eq_true rfl) (Nat.le_of_ble_eq_true rfl) dt_X8_wasteInLack_2.1.2.2.2 ?_
      refine z_pop M dt_X8_wasteInLack_2.2.1.1.1 rfl ?_
      refine z_aload_n M dt_X8_wasteInLack_2.2.1.1.2 rfl 0 rfl ?_
      refine z_iconst M dt_X8_wasteInLack_2.2.1.2.1 ki_0 ?_
      refine z_iconst M dt_X8_wasteInLack_2.2.1.2.2 ki_1 ?_
      obtain ⟨t5, hc, h⟩ := gBd h
      refine k_X8_compareThings M hc u1076 (Nat.le_of_ble_eq_true rfl) (Nat.le_of_ble_eq_true rfl) dt_X8_wasteInLack_2.2.2.1.1 ?_
      refine z_istore_n (lv' := [(2, .int t5), (0, .ref (a 30)), (1, .int p0)]) M dt_X8_wasteInLack_2.2.2.1.2 rfl (by decide) rfl ?_
      refine z_iload_n M dt_X8_wasteInLack_2.2.2.2.1 rfl 0 rfl ?_
      have hJ8 : G t4 [(2, .int t5), (0, .ref (a 30)), (1, .int p0)] 94 [.int (if t5 ≤ (0 : Int32) then (if (0 : Int32) ≤ t5 then (0 : Int32) else (2 : Int32)) else (1 : Int32))] := by
        obtain rfl := Option.some.inj h
        exact z_iret M dt_X8_wasteInLack_3.2.2.2
      refine z_if_le (tgt := 85) M dt_X8_wasteInLack_2.2.2.2.2 (by decide) (fun hc6 => ?_) (fun hc6 => ?_)
      · refine z_iload_n M dt_X8_wasteInLack_3.1.2.1 rfl 0 rfl ?_
        refine z_if_ge (tgt := 93) M dt_X8_wasteInLack_3.1.2.2 (by decide) (fun hc7 => ?_) (fun hc7 => ?_)
        · refine z_iconst M dt_X8_wasteInLack_3.2.2.1 ki_0 ?_
          exact (zTt hc7 (zTt hc6 hJ8))
        · refine z_iconst M dt_X8_wasteInLack_3.2.1.1 ki_2 ?_
          refine z_goto (tgt := 94) M dt_X8_wasteInLack_3.2.1.2 (by decide) ?_
          exact (zTf hc7 (zTt hc6 hJ8))
      · refine z_iconst M dt_X8_wasteInLack_3.1.1.1 ki_1 ?_
        refine z_goto (tgt := 94) M dt_X8_wasteInLack_3.1.1.2 (by decide) ?_
        exact (zTf hc6 hJ8)
    · have h := gIt hc h
      refine z_bipush M dt_X8_wasteInLack_1.1.1.1.2 kb_m2 ?_
      obtain rfl := Option.some.inj h
      exact z_iret M dt_X8_wasteInLack_1.1.1.2.1
  · have h := gIt hc h
    refine z_iconst M dt_X8_wasteInLack_0.1.2.1.2 ki_m1 ?_
    obtain rfl := Option.some.inj h
    exact z_iret M dt_X8_wasteInLack_0.1.2.2.1
theorem k_X8_wasteInLack {n : Nat} (M : zM l D zcl (zty cy) A ad (zR n) (cW a cy) own cc nL rt σo ov G) {p0 : Int32} {o : (Zst × Int32)} (h : f_X8_wasteInLack σ p0 = some o) {index : Nat} (hl : Cond.methodLink own index yX8_wasteInLack ∈ uw) (hR : 6 ≤ n) (hW : (st.map fun v => v.category).sum ≤ 8) (d : decode cc pc = .ok (.invokevirtual index, 3)) (kk : G o.1 lv (pc + 3) (.int o.2 :: st)) : G σ lv pc (.int p0 :: .ref (a 30) :: st) := z_callV M [.int p0] (m_X8_wasteInLack (zM_hD M) h) (hC30 σ) rfl hl u95 u1055 u1053 u1054 hd_X8_wasteInLack hR (by decide) rfl hW d kk
set_option maxHeartbeats 4000000 in
set_option maxRecDepth 100000 in
theorem m_X11_waste (hD : ∀ σ, va_D A (cW a cy σ)) {σ : Zst} {p0 : Int32} {o : (Zst × Int32)} (h : f_X11_waste σ p0 = some o) : zT l D zcl (zty cy) A ad (cW a cy) yX11_waste cX11_waste 2 (some .int) 6 [.ref (a 0), .int p0] σ o.1 (some (.int o.2)) := by
  refine z_met pn_X11 hD (Nat.le_of_ble_eq_true rfl) rfl (fun G M => ?_)
  refine z_aload_n M dt_X11_waste_0.1.1.1 rfl 0 rfl ?_
  refine gf_X11_stories M u436 dt_X11_waste_0.1.1.2 ?_
  refine z_iload_n M dt_X11_waste_0.1.2 rfl 1 rfl ?_
  obtain ⟨t1, hc, h⟩ := gBd h
  refine k_X8_wasteInLack M hc u1052 (Nat.le_of_ble_eq_true rfl) (Nat.le_of_ble_eq_true rfl) dt_X11_waste_0.2.1 ?_
  obtain rfl := Option.some.inj h
  exact z_iret M dt_X11_waste_0.2.2
set_option maxHeartbeats 4000000 in
set_option maxRecDepth 100000 in
theorem m_X8_isFull (hD : ∀ σ, va_D A (cW a cy σ)) (σ0 : Zst) : zT l D zcl (zty cy) A ad (cW a cy) yX8_isFull cX8_isFull 1 (some .boolean) 1 [.ref (a 30)] σ0 σ0 (some (.int (f_X8_isFull σ0))) := by
  obtain ⟨o, h⟩ : ∃ o, f_X8_isFull σ0 = o := ⟨_, rfl⟩
  rw [h]
  refine z_met pn_X8 hD (Nat.le_of_ble_eq_true rfl) rfl (fun G M => ?_)
  refine z_aload_n M dt_X8_isFull_0.1.1.1 rfl 0 rfl ?_
  refine gf_X8_stories (σ := σ0) M u316 dt_X8_isFull_0.1.1.2 (v := (σ0.1 19)) rfl ?_
  refine z_bipush M dt_X8_isFull_0.1.2.1 kb_6 ?_
  have hJ2 : G σ0 [(0, .ref (a 30))] 14 [.int (if (σ0.1 19) < (6 : Int32) then (0 : Int32) else (1 : Int32))] := by
    subst h
    exact z_zret M (nBo (boIte (Or.inl rfl) (Or.inr rfl))) dt_X8_isFull_0.2.2.2
  refine z_icmp_lt (tgt := 13) M dt_X8_isFull_0.1.2.2 (by decide) (fun hc1 => ?_) (fun hc1 => ?_)
  · refine z_iconst M dt_X8_isFull_0.2.2.1 ki_0 ?_
    exact (zTt hc1 hJ2)
  · refine z_iconst M dt_X8_isFull_0.2.1.1 ki_1 ?_
    refine z_goto (tgt := 14) M dt_X8_isFull_0.2.1.2 (by decide) ?_
    exact (zTf hc1 hJ2)
theorem k_X8_isFull {n : Nat} (M : zM l D zcl (zty cy) A ad (zR n) (cW a cy) own cc nL rt σo ov G)  {index : Nat} (hl : Cond.methodLink own index yX8_isFull ∈ uw) (hR : 2 ≤ n) (hW : (st.map fun v => v.category).sum ≤ 8) (d : decode cc pc = .ok (.invokevirtual index, 3)) (kk : G σ lv (pc + 3) (.int (f_X8_isFull σ) :: st)) : G σ lv pc (.ref (a 30) :: st) := z_callV M [] (m_X8_isFull (zM_hD M) σ ) (hC30 σ) rfl hl u95 u1092 u1090 u1091 hd_X8_isFull hR (by decide) rfl hW d kk
set_option maxHeartbeats 4000000 in
set_option maxRecDepth 100000 in
theorem m_X8_begin (hD : ∀ σ, va_D A (cW a cy σ)) {σ : Zst}  {o : Zst} (h : f_X8_begin σ = some o) : zT l D zcl (zty cy) A ad (cW a cy) yX8_begin cX8_begin 1 none 1 [.ref (a 30)] σ o none := by
  refine z_met pn_X8 hD (Nat.le_of_ble_eq_true rfl) rfl (fun G M => ?_)
  refine z_aload_n M dt_X8_begin_0.1.1 rfl 0 rfl ?_
  refine z_iconst M dt_X8_begin_0.1.2 ki_0 ?_
  refine pf_X8_taken M u317 dt_X8_begin_0.2.1 ?_
  obtain rfl := Option.some.inj h
  exact z_vret M dt_X8_begin_0.2.2
theorem ku_Book_begin_X8_begin {n : Nat} (M : zM l D zcl (zty cy) A ad (zR n) (cW a cy) own cc nL rt σo ov G)  {o : Zst} (h : f_X8_begin σ = some o) {index : Nat} (hl : Cond.methodLink own index (⟨RX1, "begin", "()V"⟩ : MethodName) ∈ uw) (hR : 2 ≤ n) (hW : (st.map fun v => v.category).sum ≤ 8) (d : decode cc pc = .ok (.invokevirtual index, 3)) (kk : G o lv (pc + 3) (st)) : G σ lv pc (.ref (a 30) :: st) := z_callA M (owner := RX1) [] (m_X8_begin (zM_hD M) h) (hC30 σ) rfl hl u599 u603 u604 u95 u605 u598 (by refine ⟨by decide +kernel, by decide +kernel, ?_⟩; exact hp___V) hR (by decide) rfl hW d kk
set_option maxHeartbeats 4000000 in
set_option maxRecDepth 100000 in
theorem m_X8_couldEnd (hD : ∀ σ, va_D A (cW a cy σ)) (σ0 : Zst) : zT l D zcl (zty cy) A ad (cW a cy) yX8_couldEnd cX8_couldEnd 1 (some .boolean) 1 [.ref (a 30)] σ0 σ0 (some (.int (f_X8_couldEnd σ0))) := by
  obtain ⟨o, h⟩ : ∃ o, f_X8_couldEnd σ0 = o := ⟨_, rfl⟩
  rw [h]
  refine z_met pn_X8 hD (Nat.le_of_ble_eq_true rfl) rfl (fun G M => ?_)
  refine z_aload_n M dt_X8_couldEnd_0.1.1.1.1 rfl 0 rfl ?_
  refine gf_X8_taken (σ := σ0) M u317 dt_X8_couldEnd_0.1.1.1.2 (v := (σ0.1 20)) rfl ?_
  have hJ3 : G σ0 [(0, .ref (a 30))] 22 [.int (if (σ0.1 20) = (0 : Int32) then (1 : Int32) else (if (jRem (σ0.1 20) (4 : Int32)) = (3 : Int32) then (1 : Int32) else (0 : Int32)))] := by
    subst h
    exact z_zret M (nBo (boIte (Or.inr rfl) (boIte (Or.inr rfl) (Or.inl rfl)))) dt_X8_couldEnd_0.2.2.2
  refine z_if_eq (tgt := 17) M dt_X8_couldEnd_0.1.1.2.1 (by decide) (fun hc1 => ?_) (fun hc1 => ?_)
  · refine z_iconst M dt_X8_couldEnd_0.2.1.2 ki_1 ?_
    refine z_goto (tgt := 22) M dt_X8_couldEnd_0.2.2.1.1 (by decide) ?_
    exact (zTt hc1 hJ3)
  · refine z_aload_n M dt_X8_couldEnd_0.1.1.2.2 rfl 0 rfl ?_
    refine gf_X8_taken (σ := σ0) M u317 dt_X8_couldEnd_0.1.2.1.1 (v := (σ0.1 20)) rfl ?_
    refine z_iconst M dt_X8_couldEnd_0.1.2.1.2 ki_4 ?_
    refine z_irem M dt_X8_couldEnd_0.1.2.2 (by decide) ?_
    refine z_iconst M dt_X8_couldEnd_0.2.1.1.1 ki_3 ?_
    refine z_icmp_ne (tgt := 21) M dt_X8_couldEnd_0.2.1.1.2 (by decide) (fun hc2 => ?_) (fun hc2 => ?_)
    · refine z_iconst M dt_X8_couldEnd_0.2.2.1.2 ki_0 ?_
      exact (zTf hc2 (zTf hc1 hJ3))
    · refine z_iconst M dt_X8_couldEnd_0.2.1.2 ki_1 ?_
      refine z_goto (tgt := 22) M dt_X8_couldEnd_0.2.2.1.1 (by decide) ?_
      exact (zTt hc2 (zTf hc1 hJ3))
theorem ku_Book_couldEnd_X8_couldEnd {n : Nat} (M : zM l D zcl (zty cy) A ad (zR n) (cW a cy) own cc nL rt σo ov G)  {index : Nat} (hl : Cond.methodLink own index (⟨RX1, "couldEnd", "()Z"⟩ : MethodName) ∈ uw) (hR : 2 ≤ n) (hW : (st.map fun v => v.category).sum ≤ 8) (d : decode cc pc = .ok (.invokevirtual index, 3)) (kk : G σ lv (pc + 3) (.int (f_X8_couldEnd σ) :: st)) : G σ lv pc (.ref (a 30) :: st) := z_callA M (owner := RX1) [] (m_X8_couldEnd (zM_hD M) σ ) (hC30 σ) rfl hl u736 u740 u741 u95 u742 u735 (by refine ⟨by decide +kernel, by decide +kernel, ?_⟩; exact hp___Z) hR (by decide) rfl hW d kk
set_option maxHeartbeats 4000000 in
set_option maxRecDepth 100000 in
theorem m_X8_thingOf (hD : ∀ σ, va_D A (wf σ)) {σ0 : Zst} {p0 : Int32} {o : Int32} (h : f_X8_thingOf p0 = some o) : zT l D zcl0 tys A ad wf yX8_thingOf cX8_thingOf 1 (some .int) 7 [.int p0] σ0 σ0 (some (.int o)) := by
  refine z_met pn_X8 hD (Nat.le_of_ble_eq_true rfl) rfl (fun G M => ?_)
  refine z_iload_n M dt_X8_thingOf_0.1.1.1.1 rfl 0 rfl ?_
  refine z_if_lt (tgt := 21) M dt_X8_thingOf_0.1.1.1.2 (by decide) (fun hc => ?_) (fun hc => ?_)
  · have h := gIt hc h
    refine z_iconst M dt_X8_thingOf_0.2.2.1.2 ki_m1 ?_
    obtain rfl := Option.some.inj h
    exact z_iret M dt_X8_thingOf_0.2.2.2
  · have h := gIf hc h
    refine z_iload_n M dt_X8_thingOf_0.1.1.2 rfl 0 rfl ?_
    refine z_sipush M dt_X8_thingOf_0.1.2.1.1 ks_255 ?_
    refine z_icmp_gt (tgt := 21) M dt_X8_thingOf_0.1.2.1.2 (by decide) (fun hc => ?_) (fun hc => ?_)
    · have h := gIt hc h
      refine z_iconst M dt_X8_thingOf_0.2.2.1.2 ki_m1 ?_
      obtain rfl := Option.some.inj h
      exact z_iret M dt_X8_thingOf_0.2.2.2
    · have h := gIf hc h
      refine z_ldcS (tx := "WwBbEeNnSs") (i := 0) M (by decide +kernel) dt_X8_thingOf_0.1.2.2 ?_
      refine z_iload_n M dt_X8_thingOf_0.2.1.1.1 rfl 0 rfl ?_
      refine z_i2c M dt_X8_thingOf_0.2.1.1.2 rfl ?_
      have ⟨hg, h⟩ := gLe_s h
      have ⟨hg2, h⟩ := gIx_s h
      refine k_strix M hg hg2 u648 (Nat.le_of_ble_eq_true rfl) (Nat.le_of_ble_eq_true rfl) dt_X8_thingOf_0.2.1.2 ?_
      refine z_goto (tgt := 22) M dt_X8_thingOf_0.2.2.1.1 (by decide) ?_
      obtain rfl := Option.some.inj h
      exact z_iret M dt_X8_thingOf_0.2.2.2
theorem k_X8_thingOf {n : Nat} (M : zM l D zcl0 tys A ad (zR n) wf own cc nL rt σo ov G) {p0 : Int32} {o : Int32} (h : f_X8_thingOf p0 = some o) {index : Nat} (hl : Cond.methodLink own index yX8_thingOf ∈ uw) (hR : 8 ≤ n) (hW : (st.map fun v => v.category).sum ≤ 8) (d : decode cc pc = .ok (.invokestatic index, 3)) (kk : G σ lv (pc + 3) (.int o :: st)) : G σ lv pc (.int p0 :: st) := z_callS M [.int p0] (m_X8_thingOf (zM_hD M) h) hl u95 u646 u645 hd_X8_thingOf hR (by decide) rfl hW d kk
set_option maxHeartbeats 4000000 in
set_option maxRecDepth 100000 in
theorem m_X8_takes (hD : ∀ σ, va_D A (cW a cy σ)) {σ : Zst} {p0 : Int32} {o : (Zst × Int32)} (h : f_X8_takes σ p0 = some o) : zT l D zcl (zty cy) A ad (cW a cy) yX8_takes cX8_takes 3 (some .boolean) 8 [.ref (a 30), .int p0] σ o.1 (some (.int o.2)) := by
  refine z_met pn_X8 hD (Nat.le_of_ble_eq_true rfl) rfl (fun G M => ?_)
  refine z_aload_n M dt_X8_takes_0.1.1.1.1 rfl 0 rfl ?_
  refine gf_X8_taken (σ := σ) M u317 dt_X8_takes_0.1.1.1.2 (v := (σ.1 20)) rfl ?_
  refine z_iconst M dt_X8_takes_0.1.1.2.1 ki_4 ?_
  refine z_irem M dt_X8_takes_0.1.1.2.2 (by decide) ?_
  refine z_istore_n (lv' := [(2, .int (jRem (σ.1 20) (4 : Int32))), (0, .ref (a 30)), (1, .int p0)]) M dt_X8_takes_0.1.2.1.1 rfl (by decide) rfl ?_
  refine z_aload_n M dt_X8_takes_0.1.2.1.2 rfl 1 rfl ?_
  refine z_dup M dt_X8_takes_0.1.2.2.1 rfl ?_
  refine gf_X8_taken (σ := σ) M u317 dt_X8_takes_0.1.2.2.2 (v := (σ.1 20)) rfl ?_
  refine z_iconst M dt_X8_takes_0.2.1.1.1 ki_1 ?_
  refine z_iadd M dt_X8_takes_0.2.1.1.2 ?_
  refine pf_X8_taken M u317 dt_X8_takes_0.2.1.2.1 ?_
  refine z_iload_n M dt_X8_takes_0.2.1.2.2 rfl 0 rfl ?_
  refine z_iconst M dt_X8_takes_0.2.2.1.1 ki_1 ?_
  refine z_icmp_ne (tgt := 46) M dt_X8_takes_0.2.2.1.2 (by decide) (fun hc => ?_) (fun hc => ?_)
  · have h := gIf hc h
    refine z_iload_n M dt_X8_takes_1.2.1.2.2 rfl 0 rfl ?_
    refine z_iconst M dt_X8_takes_1.2.2.1.1 ki_3 ?_
    refine z_icmp_ne (tgt := 65) M dt_X8_takes_1.2.2.1.2 (by decide) (fun hc => ?_) (fun hc => ?_)
    · have h := gIf hc h
      refine z_iload_n M dt_X8_takes_2.1.2.2 rfl 2 rfl ?_
      obtain ⟨t5, hc, h⟩ := gBd h
      refine k_X8_thingOf M hc u644 (Nat.le_of_ble_eq_true rfl) (Nat.le_of_ble_eq_true rfl) dt_X8_takes_2.2.1.1.1 ?_
      refine z_if_lt (tgt := 76) M dt_X8_takes_2.2.1.1.2 (by decide) (fun hc => ?_) (fun hc => ?_)
      · have h := gIt hc h
        refine z_iconst M dt_X8_takes_2.2.2.1.2 ki_0 ?_
        obtain rfl := Option.some.inj h
        exact z_zret M (nBo (Or.inl rfl)) dt_X8_takes_2.2.2.2
      · have h := gIf hc h
        refine z_iconst M dt_X8_takes_2.2.1.2 ki_1 ?_
        refine z_goto (tgt := 77) M dt_X8_takes_2.2.2.1.1 (by decide) ?_
        obtain rfl := Option.some.inj h
        exact z_zret M (nBo (Or.inr rfl)) dt_X8_takes_2.2.2.2
    · have h := gIt hc h
      refine z_iload_n M dt_X8_takes_1.2.2.2.1 rfl 2 rfl ?_
      refine z_bipush M dt_X8_takes_1.2.2.2.2 kb_59 ?_
      refine z_icmp_ne (tgt := 61) M dt_X8_takes_2.1.1.1.1 (by decide) (fun hc => ?_) (fun hc => ?_)
      · have h := gIf hc h
        refine z_iconst M dt_X8_takes_2.1.2.1.1 ki_0 ?_
        refine z_goto (tgt := 77) M dt_X8_takes_2.1.2.1.2 (by decide) ?_
        obtain rfl := Option.some.inj h
        exact z_zret M (nBo (Or.inl rfl)) dt_X8_takes_2.2.2.2
      · have h := gIt hc h
        refine z_iconst M dt_X8_takes_2.1.1.1.2 ki_1 ?_
        refine z_goto (tgt := 77) M dt_X8_takes_2.1.1.2 (by decide) ?_
        obtain rfl := Option.some.inj h
        exact z_zret M (nBo (Or.inr rfl)) dt_X8_takes_2.2.2.2
  · have h := gIt hc h
    refine z_iload_n M dt_X8_takes_0.2.2.2.1 rfl 2 rfl ?_
    refine z_bipush M dt_X8_takes_0.2.2.2.2 kb_60 ?_
    have hJ4 : G (zI σ 20 ((σ.1 20) + (1 : Int32))) [(2, .int (jRem (σ.1 20) (4 : Int32))), (0, .ref (a 30)), (1, .int p0)] 45 [.int (if p0 = (60 : Int32) then (1 : Int32) else (if p0 = (62 : Int32) then (1 : Int32) else (if p0 = (61 : Int32) then (1 : Int32) else (0 : Int32))))] := by
      obtain rfl := Option.some.inj h
      exact z_zret M (nBo (boIte (Or.inr rfl) (boIte (Or.inr rfl) (boIte (Or.inr rfl) (Or.inl rfl))))) dt_X8_takes_1.2.1.2.1
    refine z_icmp_eq (tgt := 40) M dt_X8_takes_1.1.1.1.1 (by decide) (fun hc1 => ?_) (fun hc1 => ?_)
    · refine z_iconst M dt_X8_takes_1.1.2.2.2 ki_1 ?_
      refine z_goto (tgt := 45) M dt_X8_takes_1.2.1.1.1 (by decide) ?_
      exact (zTt hc1 hJ4)
    · refine z_iload_n M dt_X8_takes_1.1.1.1.2 rfl 2 rfl ?_
      refine z_bipush M dt_X8_takes_1.1.1.2.1 kb_62 ?_
      refine z_icmp_eq (tgt := 40) M dt_X8_takes_1.1.1.2.2 (by decide) (fun hc2 => ?_) (fun hc2 => ?_)
      · refine z_iconst M dt_X8_takes_1.1.2.2.2 ki_1 ?_
        refine z_goto (tgt := 45) M dt_X8_takes_1.2.1.1.1 (by decide) ?_
        exact (zTt hc2 (zTf hc1 hJ4))
      · refine z_iload_n M dt_X8_takes_1.1.2.1.1 rfl 2 rfl ?_
        refine z_bipush M dt_X8_takes_1.1.2.1.2 kb_61 ?_
        refine z_icmp_ne (tgt := 44) M dt_X8_takes_1.1.2.2.1 (by decide) (fun hc3 => ?_) (fun hc3 => ?_)
        · refine z_iconst M dt_X8_takes_1.2.1.1.2 ki_0 ?_
          exact (zTf hc3 (zTf hc2 (zTf hc1 hJ4)))
        · refine z_iconst M dt_X8_takes_1.1.2.2.2 ki_1 ?_
          refine z_goto (tgt := 45) M dt_X8_takes_1.2.1.1.1 (by decide) ?_
          exact (zTt hc3 (zTf hc2 (zTf hc1 hJ4)))
theorem ku_Book_takes_X8_takes {n : Nat} (M : zM l D zcl (zty cy) A ad (zR n) (cW a cy) own cc nL rt σo ov G) {p0 : Int32} {o : (Zst × Int32)} (h : f_X8_takes σ p0 = some o) {index : Nat} (hl : Cond.methodLink own index (⟨RX1, "takes", "(I)Z"⟩ : MethodName) ∈ uw) (hR : 9 ≤ n) (hW : (st.map fun v => v.category).sum ≤ 8) (d : decode cc pc = .ok (.invokevirtual index, 3)) (kk : G o.1 lv (pc + 3) (.int o.2 :: st)) : G σ lv pc (.int p0 :: .ref (a 30) :: st) := z_callA M (owner := RX1) [.int p0] (m_X8_takes (zM_hD M) h) (hC30 σ) rfl hl u616 u641 u642 u95 u643 u615 (by refine ⟨by decide +kernel, by decide +kernel, ?_⟩; exact hp__I_Z) hR (by decide) rfl hW d kk
set_option maxHeartbeats 4000000 in
set_option maxRecDepth 100000 in
theorem wL_X1_wrongPlace_S_6 {o : (Zst × Int32)} (M : zM l D zcl (zty cy) A ad (zR 9) (cW a cy) RX1 cX1_wrongPlace 3 (some .int) o.1 (some (.int o.2)) G) {k40 : Zst → Option (Zst × Int32)}   (Hk40 : ∀ (σ : Zst), k40 σ = some o → G σ [(0, .ref (a 30)), (1, .ref (a 3))] 40 []) :
    ∀ (n6 : Nat) (σ : Zst) (v2 : Int32), L_X1_wrongPlace_S_6 k40 n6 σ v2 = some o → G σ [(0, .ref (a 30)), (1, .ref (a 3)), (2, .int v2)] 6 [] := by
  intro n6
  induction n6 with
  | zero => intro σ v2 h; exact nomatch (show (none : Option (Zst × Int32)) = some _ from h)
  | succ n6 ih =>
    intro σ v2 h
    refine z_iload_n M dt_X1_wrongPlace_0.1.2.1.1 rfl 2 rfl ?_
    refine z_aload_n M dt_X1_wrongPlace_0.1.2.1.2 rfl 1 rfl ?_
    refine k_X9_size M u606 (Nat.le_of_ble_eq_true rfl) (Nat.le_of_ble_eq_true rfl) dt_X1_wrongPlace_0.1.2.2.1 ?_
    refine z_icmp_ge (tgt := 40) M dt_X1_wrongPlace_0.1.2.2.2 (by decide) (fun hc => ?_) (fun hc => ?_)
    · have h := gIt hc h
      refine z_sub M [0, 1] (lv' := [(0, .ref (a 30)), (1, .ref (a 3))]) rfl ?_
      exact Hk40 σ h
    · have h := gIf hc h
      refine z_iload_n M dt_X1_wrongPlace_0.2.1.1.1 rfl 2 rfl ?_
      refine z_bipush M dt_X1_wrongPlace_0.2.1.1.2 kb_40 ?_
      refine z_icmp_ge (tgt := 40) M dt_X1_wrongPlace_0.2.1.2.1 (by decide) (fun hc => ?_) (fun hc => ?_)
      · have h := gIt hc h
        refine z_sub M [0, 1] (lv' := [(0, .ref (a 30)), (1, .ref (a 3))]) rfl ?_
        exact Hk40 σ h
      · have h := gIf hc h
        refine z_aload_n M dt_X1_wrongPlace_0.2.1.2.2 rfl 0 rfl ?_
        refine z_aload_n M dt_X1_wrongPlace_0.2.2.1.1 rfl 1 rfl ?_
        refine z_iload_n M dt_X1_wrongPlace_0.2.2.1.2 rfl 2 rfl ?_
        obtain ⟨t1, hc, h⟩ := gBd h
        refine k_X9_at M hc u610 (Nat.le_of_ble_eq_true rfl) (Nat.le_of_ble_eq_true rfl) dt_X1_wrongPlace_0.2.2.2.1 ?_
        obtain ⟨t2, hc, h⟩ := gBd h
        refine ku_Book_takes_X8_takes M hc u614 (Nat.le_of_ble_eq_true rfl) (Nat.le_of_ble_eq_true rfl) dt_X1_wrongPlace_0.2.2.2.2 ?_
        refine z_if_ne (tgt := 34) M dt_X1_wrongPlace_1.1.1.1.1 (by decide) (fun hc => ?_) (fun hc => ?_)
        · have h := gIf hc h
          refine z_iinc (v := (v2 + (1 : Int32))) (lv' := [(2, .int (v2 + (1 : Int32))), (0, .ref (a 30)), (1, .ref (a 3))]) M dt_X1_wrongPlace_1.1.1.2.2 (k := 2) rfl (congrArg (fun q => v2 + q) ki_1) (by decide) rfl ?_
          refine z_goto (tgt := 6) M dt_X1_wrongPlace_1.1.2.1.1 (by decide) ?_
          refine z_sub M [1, 2, 0] (lv' := [(0, .ref (a 30)), (1, .ref (a 3)), (2, .int (v2 + (1 : Int32)))]) rfl ?_
          exact ih t2.1 (v2 + (1 : Int32)) h
        · have h := gIt hc h
          refine z_iload_n M dt_X1_wrongPlace_1.1.1.1.2 rfl 2 rfl ?_
          obtain rfl := Option.some.inj h
          exact z_iret M dt_X1_wrongPlace_1.1.1.2.1
set_option maxHeartbeats 4000000 in
set_option maxRecDepth 100000 in
theorem wJ_X1_wrongPlace_S_40 {o : (Zst × Int32)} (M : zM l D zcl (zty cy) A ad (zR 9) (cW a cy) RX1 cX1_wrongPlace 3 (some .int) o.1 (some (.int o.2)) G) (σ : Zst)   (h : J_X1_wrongPlace_S_40 σ = some o) : G σ [(0, .ref (a 30)), (1, .ref (a 3))] 40 [] := by
  refine z_aload_n M dt_X1_wrongPlace_1.1.2.1.2 rfl 1 rfl ?_
  refine k_X9_size M u606 (Nat.le_of_ble_eq_true rfl) (Nat.le_of_ble_eq_true rfl) dt_X1_wrongPlace_1.1.2.2.1 ?_
  refine z_bipush M dt_X1_wrongPlace_1.1.2.2.2 kb_40 ?_
  refine z_icmp_le (tgt := 52) M dt_X1_wrongPlace_1.2.1.1.1 (by decide) (fun hc => ?_) (fun hc => ?_)
  · have h := gIt hc h
    refine z_aload_n M dt_X1_wrongPlace_1.2.1.2.2 rfl 0 rfl ?_
    refine ku_Book_couldEnd_X8_couldEnd M u734 (Nat.le_of_ble_eq_true rfl) (Nat.le_of_ble_eq_true rfl) dt_X1_wrongPlace_1.2.2.1.1 ?_
    have hJ4 : G σ [(0, .ref (a 30)), (1, .ref (a 3))] 67 [.int (if (f_X8_couldEnd σ) = (0 : Int32) then (f_X9_size σ) else (-1 : Int32))] := by
      obtain rfl := Option.some.inj h
      exact z_iret M dt_X1_wrongPlace_2.2
    refine z_if_eq (tgt := 63) M dt_X1_wrongPlace_1.2.2.1.2 (by decide) (fun hc3 => ?_) (fun hc3 => ?_)
    · refine z_aload_n M dt_X1_wrongPlace_2.1.1 rfl 1 rfl ?_
      refine k_X9_size M u606 (Nat.le_of_ble_eq_true rfl) (Nat.le_of_ble_eq_true rfl) dt_X1_wrongPlace_2.1.2 ?_
      exact (zTt hc3 hJ4)
    · refine z_iconst M dt_X1_wrongPlace_1.2.2.2.1 ki_m1 ?_
      refine z_goto (tgt := 67) M dt_X1_wrongPlace_1.2.2.2.2 (by decide) ?_
      exact (zTf hc3 hJ4)
  · have h := gIf hc h
    refine z_bipush M dt_X1_wrongPlace_1.2.1.1.2 kb_40 ?_
    obtain rfl := Option.some.inj h
    exact z_iret M dt_X1_wrongPlace_1.2.1.2.1
set_option maxHeartbeats 4000000 in
set_option maxRecDepth 100000 in
theorem m_X1_wrongPlace_S (hD : ∀ σ, va_D A (cW a cy σ)) {σ : Zst}  {o : (Zst × Int32)} (h : f_X1_wrongPlace_S σ = some o) : zT l D zcl (zty cy) A ad (cW a cy) yX1_wrongPlace cX1_wrongPlace 3 (some .int) 9 [.ref (a 30), .ref (a 3)] σ o.1 (some (.int o.2)) := by
  refine z_met pn_X1 hD (Nat.le_of_ble_eq_true rfl) rfl (fun G M => ?_)
  refine z_aload_n M dt_X1_wrongPlace_0.1.1.1.1 rfl 0 rfl ?_
  obtain ⟨t5, hc, h⟩ := gBd h
  refine ku_Book_begin_X8_begin M hc u597 (Nat.le_of_ble_eq_true rfl) (Nat.le_of_ble_eq_true rfl) dt_X1_wrongPlace_0.1.1.1.2 ?_
  refine z_iconst M dt_X1_wrongPlace_0.1.1.2.1 ki_0 ?_
  refine z_istore_n (lv' := [(2, .int (0 : Int32)), (0, .ref (a 30)), (1, .ref (a 3))]) M dt_X1_wrongPlace_0.1.1.2.2 rfl (by decide) rfl ?_
  refine z_sub M [1, 2, 0] (lv' := [(0, .ref (a 30)), (1, .ref (a 3)), (2, .int (0 : Int32))]) rfl ?_
  exact wL_X1_wrongPlace_S_6 M (k40 := (fun σ6 => J_X1_wrongPlace_S_40 σ6)) (fun σ6 h => by
      exact wJ_X1_wrongPlace_S_40 M  σ6 h) zFu t5 (0 : Int32) h
theorem ku_X1_wrongPlace_X1_wrongPlace_S {n : Nat} (M : zM l D zcl (zty cy) A ad (zR n) (cW a cy) own cc nL rt σo ov G)  {o : (Zst × Int32)} (h : f_X1_wrongPlace_S σ = some o) {index : Nat} (hl : Cond.methodLink own index (⟨RX1, "wrongPlace", "(LBinsThatTell$Text;)I"⟩ : MethodName) ∈ uw) (hR : 10 ≤ n) (hW : (st.map fun v => v.category).sum ≤ 8) (d : decode cc pc = .ok (.invokevirtual index, 3)) (kk : G o.1 lv (pc + 3) (.int o.2 :: st)) : G σ lv pc (.ref (a 3) :: .ref (a 30) :: st) := z_callU M (owner := RX1) [.ref (a 3)] (m_X1_wrongPlace_S (zM_hD M) h) (hC30 σ) rfl hl u2163 uX1 u595 u91 u596 rfl (by refine ⟨by decide +kernel, by decide +kernel, ?_⟩; exact hp__LBinsThatTell_Text__I) hR (by decide) rfl hW d kk
set_option maxHeartbeats 4000000 in
set_option maxRecDepth 100000 in
theorem m_X1_isText_S (hD : ∀ σ, va_D A (cW a cy σ)) (σ0 : Zst) (p0 : Int32) : zT l D zcl (zty cy) A ad (cW a cy) yX1_isText cX1_isText 2 (some .boolean) 1 [.ref (a 30), .int p0] σ0 σ0 (some (.int (f_X1_isText_S p0))) := by
  obtain ⟨o, h⟩ : ∃ o, f_X1_isText_S p0 = o := ⟨_, rfl⟩
  rw [h]
  refine z_met pn_X1 hD (Nat.le_of_ble_eq_true rfl) rfl (fun G M => ?_)
  refine z_iload_n M dt_X1_isText_0.1.1.1.1 rfl 1 rfl ?_
  have hJ3 : G σ0 [(0, .ref (a 30)), (1, .int p0)] 15 [.int (if p0 < (0 : Int32) then (0 : Int32) else (if (6 : Int32) ≤ p0 then (0 : Int32) else (1 : Int32)))] := by
    subst h
    exact z_zret M (nBo (boIte (Or.inl rfl) (boIte (Or.inl rfl) (Or.inr rfl)))) dt_X1_isText_0.2.2.2
  refine z_if_lt (tgt := 14) M dt_X1_isText_0.1.1.1.2 (by decide) (fun hc1 => ?_) (fun hc1 => ?_)
  · refine z_iconst M dt_X1_isText_0.2.2.1 ki_0 ?_
    exact (zTt hc1 hJ3)
  · refine z_iload_n M dt_X1_isText_0.1.1.2 rfl 1 rfl ?_
    refine z_bipush M dt_X1_isText_0.1.2.1 kb_6 ?_
    refine z_icmp_ge (tgt := 14) M dt_X1_isText_0.1.2.2 (by decide) (fun hc2 => ?_) (fun hc2 => ?_)
    · refine z_iconst M dt_X1_isText_0.2.2.1 ki_0 ?_
      exact (zTt hc2 (zTf hc1 hJ3))
    · refine z_iconst M dt_X1_isText_0.2.1.1 ki_1 ?_
      refine z_goto (tgt := 15) M dt_X1_isText_0.2.1.2 (by decide) ?_
      exact (zTf hc2 (zTf hc1 hJ3))
theorem ku_X1_isText_X1_isText_S {n : Nat} (M : zM l D zcl (zty cy) A ad (zR n) (cW a cy) own cc nL rt σo ov G) {p0 : Int32} {index : Nat} (hl : Cond.methodLink own index (⟨RX1, "isText", "(I)Z"⟩ : MethodName) ∈ uw) (hR : 2 ≤ n) (hW : (st.map fun v => v.category).sum ≤ 8) (d : decode cc pc = .ok (.invokevirtual index, 3)) (kk : G σ lv (pc + 3) (.int (f_X1_isText_S p0) :: st)) : G σ lv pc (.int p0 :: .ref (a 30) :: st) := z_callA M (owner := RX1) [.int p0] (m_X1_isText_S (zM_hD M) σ p0) (hC30 σ) rfl hl u2164 u2166 u581 u91 u582 u579 (by refine ⟨by decide +kernel, by decide +kernel, ?_⟩; exact hp__I_Z) hR (by decide) rfl hW d kk
set_option maxHeartbeats 4000000 in
set_option maxRecDepth 100000 in
theorem wL_X1_write_S_25 {o : (Zst × Int32)} (M : zM l D zcl (zty cy) A ad (zR 10) (cW a cy) RX1 cX1_write 5 (some .int) o.1 (some (.int o.2)) G) {k65 : Zst → Option (Zst × Int32)}  (v1 : Int32) (Hk65 : ∀ (σ : Zst), k65 σ = some o → G σ [(0, .ref (a 30)), (1, .int v1), (2, .ref (a 3))] 65 []) :
    ∀ (n25 : Nat) (σ : Zst) (v4 : Int32), L_X1_write_S_25 k65 v1 n25 σ v4 = some o → G σ [(0, .ref (a 30)), (1, .int v1), (2, .ref (a 3)), (4, .int v4)] 25 [] := by
  intro n25
  induction n25 with
  | zero => intro σ v4 h; exact nomatch (show (none : Option (Zst × Int32)) = some _ from h)
  | succ n25 ih =>
    intro σ v4 h
    refine z_iload M dt_X1_write_1.1.1.1.1 3 rfl ?_
    refine z_aload_n M dt_X1_write_1.1.1.1.2 rfl 2 rfl ?_
    refine k_X9_size M u606 (Nat.le_of_ble_eq_true rfl) (Nat.le_of_ble_eq_true rfl) dt_X1_write_1.1.1.2.1 ?_
    refine z_icmp_ge (tgt := 65) M dt_X1_write_1.1.1.2.2 (by decide) (fun hc => ?_) (fun hc => ?_)
    · have h := gIt hc h
      refine z_sub M [0, 1, 2] (lv' := [(0, .ref (a 30)), (1, .int v1), (2, .ref (a 3))]) rfl ?_
      exact Hk65 σ h
    · have h := gIf hc h
      refine z_iload M dt_X1_write_1.1.2.1.1 3 rfl ?_
      refine z_bipush M dt_X1_write_1.1.2.1.2 kb_40 ?_
      refine z_icmp_ge (tgt := 65) M dt_X1_write_1.1.2.2.1 (by decide) (fun hc => ?_) (fun hc => ?_)
      · have h := gIt hc h
        refine z_sub M [0, 1, 2] (lv' := [(0, .ref (a 30)), (1, .int v1), (2, .ref (a 3))]) rfl ?_
        exact Hk65 σ h
      · have h := gIf hc h
        refine z_aload_n M dt_X1_write_1.1.2.2.2 rfl 0 rfl ?_
        refine gf_X8_signs M u193 dt_X1_write_1.2.1.1.1 ?_
        refine z_iload_n M dt_X1_write_1.2.1.1.2 rfl 1 rfl ?_
        refine z_bipush M dt_X1_write_1.2.1.2.1 kb_40 ?_
        refine z_imul M dt_X1_write_1.2.1.2.2 ?_
        refine z_iload M dt_X1_write_1.2.2.1.1 3 rfl ?_
        refine z_iadd M dt_X1_write_1.2.2.1.2 ?_
        refine z_aload_n M dt_X1_write_1.2.2.2.1 rfl 2 rfl ?_
        refine z_iload M dt_X1_write_1.2.2.2.2 3 rfl ?_
        obtain ⟨t1, hc, h⟩ := gBd h
        refine k_X9_at M hc u610 (Nat.le_of_ble_eq_true rfl) (Nat.le_of_ble_eq_true rfl) dt_X1_write_2.1.1.1.1 ?_
        have ⟨hg, h⟩ := gIx_s h
        refine as_C31 (σ := σ) M (f := (σ.2.1 19)) rfl hg dt_X1_write_2.1.1.1.2 ?_
        refine z_iinc (v := (v4 + (1 : Int32))) (lv' := [(4, .int (v4 + (1 : Int32))), (0, .ref (a 30)), (1, .int v1), (2, .ref (a 3))]) M dt_X1_write_2.1.1.2 (k := 3) rfl (congrArg (fun q => v4 + q) ki_1) (by decide) rfl ?_
        refine z_goto (tgt := 25) M dt_X1_write_2.1.2.1.1 (by decide) ?_
        refine z_sub M [1, 2, 3, 0] (lv' := [(0, .ref (a 30)), (1, .int v1), (2, .ref (a 3)), (4, .int (v4 + (1 : Int32)))]) rfl ?_
        exact ih (zA σ 19 (upd (σ.2.1 19) (Int32.toNatClampNeg ((v1 * (40 : Int32)) + v4)) t1)) (v4 + (1 : Int32)) h
set_option maxHeartbeats 4000000 in
set_option maxRecDepth 100000 in
theorem wJ_X1_write_S_65 {o : (Zst × Int32)} (M : zM l D zcl (zty cy) A ad (zR 10) (cW a cy) RX1 cX1_write 5 (some .int) o.1 (some (.int o.2)) G) (σ : Zst) (v1 : Int32)  (h : J_X1_write_S_65 σ v1 = some o) : G σ [(0, .ref (a 30)), (1, .int v1), (2, .ref (a 3))] 65 [] := by
  refine z_aload_n M dt_X1_write_2.1.2.1.2 rfl 0 rfl ?_
  refine gf_X8_sizes M u194 dt_X1_write_2.1.2.2 ?_
  refine z_iload_n M dt_X1_write_2.2.1.1.1 rfl 1 rfl ?_
  refine z_aload_n M dt_X1_write_2.2.1.1.2 rfl 2 rfl ?_
  refine k_X9_size M u606 (Nat.le_of_ble_eq_true rfl) (Nat.le_of_ble_eq_true rfl) dt_X1_write_2.2.1.2 ?_
  have ⟨hg, h⟩ := gIx_s h
  refine as_C32 (σ := σ) M (f := (σ.2.1 20)) rfl hg dt_X1_write_2.2.2.1.1 ?_
  refine z_iconst M dt_X1_write_2.2.2.1.2 ki_0 ?_
  obtain rfl := Option.some.inj h
  exact z_iret M dt_X1_write_2.2.2.2
set_option maxHeartbeats 4000000 in
set_option maxRecDepth 100000 in
theorem m_X1_write_S (hD : ∀ σ, va_D A (cW a cy σ)) {σ : Zst} {p0 : Int32} {o : (Zst × Int32)} (h : f_X1_write_S σ p0 = some o) : zT l D zcl (zty cy) A ad (cW a cy) yX1_write cX1_write 5 (some .int) 10 [.ref (a 30), .int p0, .ref (a 3)] σ o.1 (some (.int o.2)) := by
  refine z_met pn_X1 hD (Nat.le_of_ble_eq_true rfl) rfl (fun G M => ?_)
  refine z_aload_n M dt_X1_write_0.1.1.1.1 rfl 0 rfl ?_
  refine z_aload_n M dt_X1_write_0.1.1.1.2 rfl 2 rfl ?_
  obtain ⟨t2, hc, h⟩ := gBd h
  refine ku_X1_wrongPlace_X1_wrongPlace_S M hc u593 (Nat.le_of_ble_eq_true rfl) (Nat.le_of_ble_eq_true rfl) dt_X1_write_0.1.1.2.1 ?_
  refine z_istore_n (lv' := [(3, .int t2.2), (0, .ref (a 30)), (1, .int p0), (2, .ref (a 3))]) M dt_X1_write_0.1.1.2.2 rfl (by decide) rfl ?_
  refine z_iload_n M dt_X1_write_0.1.2.1.1 rfl 0 rfl ?_
  refine z_if_lt (tgt := 14) M dt_X1_write_0.1.2.1.2 (by decide) (fun hc => ?_) (fun hc => ?_)
  · have h := gIt hc h
    refine z_aload_n M dt_X1_write_0.2.1.2.1 rfl 1 rfl ?_
    refine z_iload_n M dt_X1_write_0.2.1.2.2 rfl 2 rfl ?_
    refine ku_X1_isText_X1_isText_S M u743 (Nat.le_of_ble_eq_true rfl) (Nat.le_of_ble_eq_true rfl) dt_X1_write_0.2.2.1.1 ?_
    refine z_if_eq (tgt := 75) M dt_X1_write_0.2.2.1.2 (by decide) (fun hc => ?_) (fun hc => ?_)
    · have h := gIt hc h
      refine z_iconst M dt_X1_write_2.2.2.1.2 ki_0 ?_
      obtain rfl := Option.some.inj h
      exact z_iret M dt_X1_write_2.2.2.2
    · have h := gIf hc h
      refine z_iconst M dt_X1_write_0.2.2.2.1 ki_0 ?_
      refine z_istore (lv' := [(4, .int (0 : Int32)), (3, .int t2.2), (0, .ref (a 30)), (1, .int p0), (2, .ref (a 3))]) M dt_X1_write_0.2.2.2.2 (by decide) rfl ?_
      refine z_sub M [2, 3, 4, 0] (lv' := [(0, .ref (a 30)), (1, .int p0), (2, .ref (a 3)), (4, .int (0 : Int32))]) rfl ?_
      exact wL_X1_write_S_25 M (k65 := (fun σ3 => J_X1_write_S_65 σ3 p0)) p0 (fun σ3 h => by
          exact wJ_X1_write_S_65 M  σ3 p0 h) zFu t2.1 (0 : Int32) h
  · have h := gIf hc h
    refine z_iconst M dt_X1_write_0.1.2.2.1 ki_m1 ?_
    refine z_iload_n M dt_X1_write_0.1.2.2.2 rfl 0 rfl ?_
    refine z_isub M dt_X1_write_0.2.1.1.1 ?_
    obtain rfl := Option.some.inj h
    exact z_iret M dt_X1_write_0.2.1.1.2
theorem ku_Stories_write_X1_write_S {n : Nat} (M : zM l D zcl (zty cy) A ad (zR n) (cW a cy) own cc nL rt σo ov G) {p0 : Int32} {o : (Zst × Int32)} (h : f_X1_write_S σ p0 = some o) {index : Nat} (hl : Cond.methodLink own index (⟨RX8, "write", "(ILBinsThatTell$Text;)I"⟩ : MethodName) ∈ uw) (hR : 11 ≤ n) (hW : (st.map fun v => v.category).sum ≤ 8) (d : decode cc pc = .ok (.invokevirtual index, 3)) (kk : G o.1 lv (pc + 3) (.int o.2 :: st)) : G σ lv pc (.ref (a 3) :: .int p0 :: .ref (a 30) :: st) := z_callU M (owner := RX1) [.int p0, .ref (a 3)] (m_X1_write_S (zM_hD M) h) (hC30 σ) rfl hl u1098 u1099 u591 u91 u592 rfl (by refine ⟨by decide +kernel, by decide +kernel, ?_⟩; exact hp__ILBinsThatTell_Text__I) hR (by decide) rfl hW d kk
set_option maxHeartbeats 4000000 in
set_option maxRecDepth 100000 in
theorem m_X8_listen (hD : ∀ σ, va_D A (cW a cy σ)) {σ : Zst}  {o : (Zst × Int32)} (h : f_X8_listen σ = some o) : zT l D zcl (zty cy) A ad (cW a cy) yX8_listen cX8_listen 3 (some .int) 11 [.ref (a 30), .ref (a 3)] σ o.1 (some (.int o.2)) := by
  refine z_met pn_X8 hD (Nat.le_of_ble_eq_true rfl) rfl (fun G M => ?_)
  refine z_aload_n M dt_X8_listen_0.1.1.1.1 rfl 0 rfl ?_
  refine z_aload_n M dt_X8_listen_0.1.1.1.2 rfl 0 rfl ?_
  refine gf_X8_stories (σ := σ) M u316 dt_X8_listen_0.1.1.2.1 (v := (σ.1 19)) rfl ?_
  refine z_aload_n M dt_X8_listen_0.1.1.2.2 rfl 1 rfl ?_
  obtain ⟨t1, hc, h⟩ := gBd h
  refine ku_Stories_write_X1_write_S M hc u1097 (Nat.le_of_ble_eq_true rfl) (Nat.le_of_ble_eq_true rfl) dt_X8_listen_0.1.2.1.1 ?_
  refine z_istore_n (lv' := [(2, .int t1.2), (0, .ref (a 30)), (1, .ref (a 3))]) M dt_X8_listen_0.1.2.1.2 rfl (by decide) rfl ?_
  refine z_iload_n M dt_X8_listen_0.1.2.2.1 rfl 0 rfl ?_
  refine z_if_ge (tgt := 16) M dt_X8_listen_0.1.2.2.2 (by decide) (fun hc => ?_) (fun hc => ?_)
  · have h := gIt hc h
    refine z_aload_n M dt_X8_listen_0.2.1.2.1 rfl 1 rfl ?_
    refine z_dup M dt_X8_listen_0.2.1.2.2 rfl ?_
    refine gf_X8_stories (σ := t1.1) M u316 dt_X8_listen_0.2.2.1.1 (v := (t1.1.1 19)) rfl ?_
    refine z_iconst M dt_X8_listen_0.2.2.1.2 ki_1 ?_
    refine z_iadd M dt_X8_listen_0.2.2.2.1 ?_
    refine pf_X8_stories M u316 dt_X8_listen_0.2.2.2.2 ?_
    refine z_aload_n M dt_X8_listen_1.1.1.1 rfl 1 rfl ?_
    refine gf_X8_stories (σ := (zI t1.1 19 ((t1.1.1 19) + (1 : Int32)))) M u316 dt_X8_listen_1.1.1.2 (v := ((t1.1.1 19) + (1 : Int32))) rfl ?_
    refine z_iconst M dt_X8_listen_1.1.2 ki_1 ?_
    refine z_isub M dt_X8_listen_1.2.1 ?_
    obtain rfl := Option.some.inj h
    exact z_iret M dt_X8_listen_1.2.2
  · have h := gIf hc h
    refine z_iload_n M dt_X8_listen_0.2.1.1.1 rfl 0 rfl ?_
    obtain rfl := Option.some.inj h
    exact z_iret M dt_X8_listen_0.2.1.1.2
theorem k_X8_listen {n : Nat} (M : zM l D zcl (zty cy) A ad (zR n) (cW a cy) own cc nL rt σo ov G)  {o : (Zst × Int32)} (h : f_X8_listen σ = some o) {index : Nat} (hl : Cond.methodLink own index yX8_listen ∈ uw) (hR : 12 ≤ n) (hW : (st.map fun v => v.category).sum ≤ 8) (d : decode cc pc = .ok (.invokevirtual index, 3)) (kk : G o.1 lv (pc + 3) (.int o.2 :: st)) : G σ lv pc (.ref (a 3) :: .ref (a 30) :: st) := z_callV M [.ref (a 3)] (m_X8_listen (zM_hD M) h) (hC30 σ) rfl hl u95 u1096 u1094 u1095 hd_X8_listen hR (by decide) rfl hW d kk
set_option maxHeartbeats 4000000 in
set_option maxRecDepth 100000 in
theorem wJ_X11_story_26 {o : (Zst × Int32)} (M : zM l D zcl (zty cy) A ad (zR 12) (cW a cy) RX11 cX11_story 2 (some .int) o.1 (some (.int o.2)) G) (σ : Zst) (s0 : Int32)  (h : J_X11_story_26 σ s0 = some o) : G σ [(0, .ref (a 0))] 26 [.int s0] := by
  refine z_istore_n (lv' := [(1, .int s0), (0, .ref (a 0))]) M dt_X11_story_0.2.1.2.2 rfl (by decide) rfl ?_
  refine z_aload_n M dt_X11_story_0.2.2.1.1 rfl 1 rfl ?_
  refine gf_X11_theText M u431 dt_X11_story_0.2.2.1.2 ?_
  refine z_iconst M dt_X11_story_0.2.2.2.1 ki_0 ?_
  obtain ⟨t1, hc, h⟩ := gBd h
  refine k_X9_cut M hc u565 (Nat.le_of_ble_eq_true rfl) (Nat.le_of_ble_eq_true rfl) dt_X11_story_0.2.2.2.2 ?_
  refine z_pop M dt_X11_story_1.1.1 rfl ?_
  refine z_iload_n M dt_X11_story_1.1.2 rfl 0 rfl ?_
  obtain rfl := Option.some.inj h
  exact z_iret M dt_X11_story_1.2
set_option maxHeartbeats 4000000 in
set_option maxRecDepth 100000 in
theorem m_X11_story (hD : ∀ σ, va_D A (cW a cy σ)) {σ : Zst}  {o : (Zst × Int32)} (h : f_X11_story σ = some o) : zT l D zcl (zty cy) A ad (cW a cy) yX11_story cX11_story 2 (some .int) 12 [.ref (a 0)] σ o.1 (some (.int o.2)) := by
  refine z_met pn_X11 hD (Nat.le_of_ble_eq_true rfl) rfl (fun G M => ?_)
  refine z_aload_n M dt_X11_story_0.1.1.1.1 rfl 0 rfl ?_
  refine gf_X11_stories M u436 dt_X11_story_0.1.1.1.2 ?_
  refine k_X8_isFull M u1089 (Nat.le_of_ble_eq_true rfl) (Nat.le_of_ble_eq_true rfl) dt_X11_story_0.1.1.2.1 ?_
  refine z_if_eq (tgt := 15) M dt_X11_story_0.1.1.2.2 (by decide) (fun hc => ?_) (fun hc => ?_)
  · have h := gIt hc h
    refine z_aload_n M dt_X11_story_0.1.2.2.1 rfl 0 rfl ?_
    refine gf_X11_stories M u436 dt_X11_story_0.1.2.2.2 ?_
    refine z_aload_n M dt_X11_story_0.2.1.1.1 rfl 0 rfl ?_
    refine gf_X11_theText M u431 dt_X11_story_0.2.1.1.2 ?_
    obtain ⟨t2, hc, h⟩ := gBd h
    refine k_X8_listen M hc u1093 (Nat.le_of_ble_eq_true rfl) (Nat.le_of_ble_eq_true rfl) dt_X11_story_0.2.1.2.1 ?_
    exact wJ_X11_story_26 M  t2.1 t2.2 h
  · have h := gIf hc h
    refine z_bipush M dt_X11_story_0.1.2.1.1 kb_m100 ?_
    refine z_goto (tgt := 26) M dt_X11_story_0.1.2.1.2 (by decide) ?_
    exact wJ_X11_story_26 M  σ (-100 : Int32) h
set_option maxHeartbeats 4000000 in
set_option maxRecDepth 100000 in
theorem wL_X8_measureMeans_8 {o : Zst} (M : zM l D zcl (zty cy) A ad (zR 4) (cW a cy) RX8 cX8_measureMeans 5 none o none G)  (v1 : Int32) (v2 : Int32) (v3 : Int32)  :
    ∀ (n8 : Nat) (σ : Zst) (v4 : Int32), L_X8_measureMeans_8 v1 v2 v3 n8 σ v4 = some o → G σ [(0, .ref (a 30)), (1, .int v1), (2, .int v2), (3, .int v3), (4, .int v4)] 8 [] := by
  intro n8
  induction n8 with
  | zero => intro σ v4 h; exact nomatch (show (none : Option Zst) = some _ from h)
  | succ n8 ih =>
    intro σ v4 h
    refine z_iload M dt_X8_measureMeans_0.1.2.1.2 4 rfl ?_
    refine z_aload_n M dt_X8_measureMeans_0.1.2.2.1 rfl 0 rfl ?_
    refine gf_X8_town M u313 dt_X8_measureMeans_0.1.2.2.2 ?_
    refine k_X10_cellCount M u1065 (Nat.le_of_ble_eq_true rfl) (Nat.le_of_ble_eq_true rfl) dt_X8_measureMeans_0.2.1.1.1 ?_
    refine z_icmp_ge (tgt := 79) M dt_X8_measureMeans_0.2.1.1.2 (by decide) (fun hc => ?_) (fun hc => ?_)
    · have h := gIt hc h
      obtain rfl := Option.some.inj h
      exact z_vret M dt_X8_measureMeans_2.2.2.2
    · have h := gIf hc h
      refine z_aload_n M dt_X8_measureMeans_0.2.1.2.1 rfl 0 rfl ?_
      refine gf_X8_numbers M u314 dt_X8_measureMeans_0.2.1.2.2 ?_
      refine z_iload_n M dt_X8_measureMeans_0.2.2.1.1 rfl 2 rfl ?_
      refine z_iload M dt_X8_measureMeans_0.2.2.1.2 4 rfl ?_
      refine z_iload_n M dt_X8_measureMeans_0.2.2.2.1 rfl 1 rfl ?_
      obtain ⟨t1, hc, h⟩ := gBd h
      refine k_X4_has M hc u1066 (Nat.le_of_ble_eq_true rfl) (Nat.le_of_ble_eq_true rfl) dt_X8_measureMeans_0.2.2.2.2 ?_
      refine z_if_eq (tgt := 73) M dt_X8_measureMeans_1.1.1.1.1 (by decide) (fun hc => ?_) (fun hc => ?_)
      · have h := gIt hc h
        refine z_iinc (v := (v4 + (1 : Int32))) (lv' := [(4, .int (v4 + (1 : Int32))), (0, .ref (a 30)), (1, .int v1), (2, .int v2), (3, .int v3)]) M dt_X8_measureMeans_2.2.1.2 (k := 4) rfl (congrArg (fun q => v4 + q) ki_1) (by decide) rfl ?_
        refine z_goto (tgt := 8) M dt_X8_measureMeans_2.2.2.1 (by decide) ?_
        refine z_sub M [1, 2, 3, 4, 0] (lv' := [(0, .ref (a 30)), (1, .int v1), (2, .int v2), (3, .int v3), (4, .int (v4 + (1 : Int32)))]) rfl ?_
        exact ih σ (v4 + (1 : Int32)) h
      · have h := gIf hc h
        refine z_aload_n M dt_X8_measureMeans_1.1.1.1.2 rfl 0 rfl ?_
        refine z_aload_n M dt_X8_measureMeans_1.1.1.2.1 rfl 0 rfl ?_
        refine gf_X8_town M u313 dt_X8_measureMeans_1.1.1.2.2 ?_
        refine z_iload_n M dt_X8_measureMeans_1.1.2.1.1 rfl 1 rfl ?_
        refine z_iload M dt_X8_measureMeans_1.1.2.1.2 4 rfl ?_
        refine z_bipush M dt_X8_measureMeans_1.1.2.2.1 kb_12 ?_
        refine z_irem M dt_X8_measureMeans_1.1.2.2.2 (by decide) ?_
        obtain ⟨t2, hc, h⟩ := gBd h
        refine k_X10_isLack M hc u1069 (Nat.le_of_ble_eq_true rfl) (Nat.le_of_ble_eq_true rfl) dt_X8_measureMeans_1.2.1.1.1 ?_
        have hJ4 : G σ [(0, .ref (a 30)), (1, .int v1), (2, .int v2), (3, .int v3), (4, .int v4)] 58 [.int (if t2 = (0 : Int32) then (v3 + (1 : Int32)) else v3), .ref (a 30)] := by
          refine z_aload_n M dt_X8_measureMeans_1.2.2.2.2 rfl 0 rfl ?_
          refine gf_X8_numbers M u314 dt_X8_measureMeans_2.1.1.1.1 ?_
          refine z_iload_n M dt_X8_measureMeans_2.1.1.1.2 rfl 2 rfl ?_
          refine z_iload M dt_X8_measureMeans_2.1.1.2 4 rfl ?_
          refine z_iload_n M dt_X8_measureMeans_2.1.2.1 rfl 1 rfl ?_
          obtain ⟨t5, hc, h⟩ := gBd h
          refine k_X4_of M hc u1067 (Nat.le_of_ble_eq_true rfl) (Nat.le_of_ble_eq_true rfl) dt_X8_measureMeans_2.1.2.2 ?_
          refine z_iconst M dt_X8_measureMeans_2.2.1.1.1 ki_1 ?_
          obtain ⟨t6, hc, h⟩ := gBd h
          refine k_X8_addTo M hc u1070 (Nat.le_of_ble_eq_true rfl) (Nat.le_of_ble_eq_true rfl) dt_X8_measureMeans_2.2.1.1.2 ?_
          refine z_iinc (v := (v4 + (1 : Int32))) (lv' := [(4, .int (v4 + (1 : Int32))), (0, .ref (a 30)), (1, .int v1), (2, .int v2), (3, .int v3)]) M dt_X8_measureMeans_2.2.1.2 (k := 4) rfl (congrArg (fun q => v4 + q) ki_1) (by decide) rfl ?_
          refine z_goto (tgt := 8) M dt_X8_measureMeans_2.2.2.1 (by decide) ?_
          refine z_sub M [1, 2, 3, 4, 0] (lv' := [(0, .ref (a 30)), (1, .int v1), (2, .int v2), (3, .int v3), (4, .int (v4 + (1 : Int32)))]) rfl ?_
          exact ih t6 (v4 + (1 : Int32)) h
        refine z_if_eq (tgt := 55) M dt_X8_measureMeans_1.2.1.1.2 (by decide) (fun hc3 => ?_) (fun hc3 => ?_)
        · refine z_iload_n M dt_X8_measureMeans_1.2.2.1.1 rfl 3 rfl ?_
          refine z_iconst M dt_X8_measureMeans_1.2.2.1.2 ki_1 ?_
          refine z_iadd M dt_X8_measureMeans_1.2.2.2.1 ?_
          exact (zTt hc3 hJ4)
        · refine z_iload_n M dt_X8_measureMeans_1.2.1.2.1 rfl 3 rfl ?_
          refine z_goto (tgt := 58) M dt_X8_measureMeans_1.2.1.2.2 (by decide) ?_
          exact (zTf hc3 hJ4)
set_option maxHeartbeats 4000000 in
set_option maxRecDepth 100000 in
theorem m_X8_measureMeans (hD : ∀ σ, va_D A (cW a cy σ)) {σ : Zst} {p0 : Int32} {p1 : Int32} {p2 : Int32} {o : Zst} (h : f_X8_measureMeans σ p0 p1 p2 = some o) : zT l D zcl (zty cy) A ad (cW a cy) yX8_measureMeans cX8_measureMeans 5 none 4 [.ref (a 30), .int p0, .int p1, .int p2] σ o none := by
  refine z_met pn_X8 hD (Nat.le_of_ble_eq_true rfl) rfl (fun G M => ?_)
  refine z_aload_n M dt_X8_measureMeans_0.1.1.1.1 rfl 0 rfl ?_
  refine z_iload_n M dt_X8_measureMeans_0.1.1.1.2 rfl 3 rfl ?_
  obtain ⟨t7, hc, h⟩ := gBd h
  refine k_X8_clearThings M hc u1061 (Nat.le_of_ble_eq_true rfl) (Nat.le_of_ble_eq_true rfl) dt_X8_measureMeans_0.1.1.2.1 ?_
  refine z_iconst M dt_X8_measureMeans_0.1.1.2.2 ki_0 ?_
  refine z_istore (lv' := [(4, .int (0 : Int32)), (0, .ref (a 30)), (1, .int p0), (2, .int p1), (3, .int p2)]) M dt_X8_measureMeans_0.1.2.1.1 (by decide) rfl ?_
  refine z_sub M [1, 2, 3, 4, 0] (lv' := [(0, .ref (a 30)), (1, .int p0), (2, .int p1), (3, .int p2), (4, .int (0 : Int32))]) rfl ?_
  exact wL_X8_measureMeans_8 M  p0 p1 p2 zFu t7 (0 : Int32) h
theorem k_X8_measureMeans {n : Nat} (M : zM l D zcl (zty cy) A ad (zR n) (cW a cy) own cc nL rt σo ov G) {p0 : Int32} {p1 : Int32} {p2 : Int32} {o : Zst} (h : f_X8_measureMeans σ p0 p1 p2 = some o) {index : Nat} (hl : Cond.methodLink own index yX8_measureMeans ∈ uw) (hR : 5 ≤ n) (hW : (st.map fun v => v.category).sum ≤ 8) (d : decode cc pc = .ok (.invokevirtual index, 3)) (kk : G o lv (pc + 3) (st)) : G σ lv pc (.int p2 :: .int p1 :: .int p0 :: .ref (a 30) :: st) := z_callV M [.int p0, .int p1, .int p2] (m_X8_measureMeans (zM_hD M) h) (hC30 σ) rfl hl u95 u1115 u1114 u29 hd_X8_measureMeans hR (by decide) rfl hW d kk
set_option maxHeartbeats 4000000 in
set_option maxRecDepth 100000 in
theorem m_X1_sizeOf_S (hD : ∀ σ, va_D A (cW a cy σ)) {σ0 : Zst} {p0 : Int32} {o : Int32} (h : f_X1_sizeOf_S σ0 p0 = some o) : zT l D zcl (zty cy) A ad (cW a cy) yX1_sizeOf cX1_sizeOf 2 (some .int) 2 [.ref (a 30), .int p0] σ0 σ0 (some (.int o)) := by
  refine z_met pn_X1 hD (Nat.le_of_ble_eq_true rfl) rfl (fun G M => ?_)
  refine z_aload_n M dt_X1_sizeOf_0.1.1.1.1 rfl 0 rfl ?_
  refine z_iload_n M dt_X1_sizeOf_0.1.1.1.2 rfl 1 rfl ?_
  refine ku_X1_isText_X1_isText_S M u743 (Nat.le_of_ble_eq_true rfl) (Nat.le_of_ble_eq_true rfl) dt_X1_sizeOf_0.1.1.2 ?_
  refine z_if_eq (tgt := 17) M dt_X1_sizeOf_0.1.2.1.1 (by decide) (fun hc => ?_) (fun hc => ?_)
  · have h := gIt hc h
    refine z_iconst M dt_X1_sizeOf_0.2.2.1 ki_0 ?_
    obtain rfl := Option.some.inj h
    exact z_iret M dt_X1_sizeOf_0.2.2.2
  · have h := gIf hc h
    refine z_aload_n M dt_X1_sizeOf_0.1.2.1.2 rfl 0 rfl ?_
    refine gf_X8_sizes M u194 dt_X1_sizeOf_0.1.2.2 ?_
    refine z_iload_n M dt_X1_sizeOf_0.2.1.1.1 rfl 1 rfl ?_
    have ⟨hg, h⟩ := gIx_s h
    refine al_C32 (σ := σ0) M (f := (σ0.2.1 20)) rfl hg dt_X1_sizeOf_0.2.1.1.2 ?_
    refine z_goto (tgt := 18) M dt_X1_sizeOf_0.2.1.2 (by decide) ?_
    obtain rfl := Option.some.inj h
    exact z_iret M dt_X1_sizeOf_0.2.2.2
theorem ku_Stories_sizeOf_X1_sizeOf_S {n : Nat} (M : zM l D zcl (zty cy) A ad (zR n) (cW a cy) own cc nL rt σo ov G) {p0 : Int32} {o : Int32} (h : f_X1_sizeOf_S σ p0 = some o) {index : Nat} (hl : Cond.methodLink own index (⟨RX8, "sizeOf", "(I)I"⟩ : MethodName) ∈ uw) (hR : 3 ≤ n) (hW : (st.map fun v => v.category).sum ≤ 8) (d : decode cc pc = .ok (.invokevirtual index, 3)) (kk : G σ lv (pc + 3) (.int o :: st)) : G σ lv pc (.int p0 :: .ref (a 30) :: st) := z_callU M (owner := RX1) [.int p0] (m_X1_sizeOf_S (zM_hD M) h) (hC30 σ) rfl hl u1121 u1122 u786 u91 u787 rfl (by refine ⟨by decide +kernel, by decide +kernel, ?_⟩; exact hp__I_I) hR (by decide) rfl hW d kk
set_option maxHeartbeats 4000000 in
set_option maxRecDepth 100000 in
theorem m_X1_signAt_S (hD : ∀ σ, va_D A (cW a cy σ)) {σ0 : Zst} {p0 : Int32} {p1 : Int32} {o : Int32} (h : f_X1_signAt_S σ0 p0 p1 = some o) : zT l D zcl (zty cy) A ad (cW a cy) yX1_signAt cX1_signAt 4 (some .int) 1 [.ref (a 30), .int p0, .int p1] σ0 σ0 (some (.int o)) := by
  refine z_met pn_X1 hD (Nat.le_of_ble_eq_true rfl) rfl (fun G M => ?_)
  refine z_iload_n M dt_X1_signAt_0.1.1.1.1 rfl 1 rfl ?_
  refine z_if_lt (tgt := 28) M dt_X1_signAt_0.1.1.1.2 (by decide) (fun hc => ?_) (fun hc => ?_)
  · have h := gIt hc h
    refine z_iconst M dt_X1_signAt_0.2.2.2.2 ki_0 ?_
    refine z_istore_n (lv' := [(3, .int (0 : Int32)), (0, .ref (a 30)), (1, .int p0), (2, .int p1)]) M dt_X1_signAt_1.1.1.1.1 rfl (by decide) rfl ?_
    refine z_iload_n M dt_X1_signAt_1.1.1.1.2 rfl 0 rfl ?_
    refine z_if_eq (tgt := 48) M dt_X1_signAt_1.1.1.2.1 (by decide) (fun hc => ?_) (fun hc => ?_)
    · have h := gIt hc h
      refine z_iconst M dt_X1_signAt_1.2.2.1.2 ki_m1 ?_
      obtain rfl := Option.some.inj h
      exact z_iret M dt_X1_signAt_1.2.2.2
    · have h := gIf hc h
      refine z_aload_n M dt_X1_signAt_1.1.1.2.2 rfl 1 rfl ?_
      refine gf_X8_signs M u193 dt_X1_signAt_1.1.2.1.1 ?_
      refine z_iload_n M dt_X1_signAt_1.1.2.1.2 rfl 2 rfl ?_
      refine z_bipush M dt_X1_signAt_1.1.2.2 kb_40 ?_
      refine z_imul M dt_X1_signAt_1.2.1.1.1 ?_
      refine z_iload_n M dt_X1_signAt_1.2.1.1.2 rfl 3 rfl ?_
      refine z_iadd M dt_X1_signAt_1.2.1.2.1 ?_
      have ⟨hg, h⟩ := gIx_s h
      refine al_C31 (σ := σ0) M (f := (σ0.2.1 19)) rfl hg dt_X1_signAt_1.2.1.2.2 ?_
      refine z_goto (tgt := 49) M dt_X1_signAt_1.2.2.1.1 (by decide) ?_
      obtain rfl := Option.some.inj h
      exact z_iret M dt_X1_signAt_1.2.2.2
  · have h := gIf hc h
    refine z_iload_n M dt_X1_signAt_0.1.1.2.1 rfl 1 rfl ?_
    refine z_bipush M dt_X1_signAt_0.1.1.2.2 kb_6 ?_
    refine z_icmp_ge (tgt := 28) M dt_X1_signAt_0.1.2.1.1 (by decide) (fun hc => ?_) (fun hc => ?_)
    · have h := gIt hc h
      refine z_iconst M dt_X1_signAt_0.2.2.2.2 ki_0 ?_
      refine z_istore_n (lv' := [(3, .int (0 : Int32)), (0, .ref (a 30)), (1, .int p0), (2, .int p1)]) M dt_X1_signAt_1.1.1.1.1 rfl (by decide) rfl ?_
      refine z_iload_n M dt_X1_signAt_1.1.1.1.2 rfl 0 rfl ?_
      refine z_if_eq (tgt := 48) M dt_X1_signAt_1.1.1.2.1 (by decide) (fun hc => ?_) (fun hc => ?_)
      · have h := gIt hc h
        refine z_iconst M dt_X1_signAt_1.2.2.1.2 ki_m1 ?_
        obtain rfl := Option.some.inj h
        exact z_iret M dt_X1_signAt_1.2.2.2
      · have h := gIf hc h
        refine z_aload_n M dt_X1_signAt_1.1.1.2.2 rfl 1 rfl ?_
        refine gf_X8_signs M u193 dt_X1_signAt_1.1.2.1.1 ?_
        refine z_iload_n M dt_X1_signAt_1.1.2.1.2 rfl 2 rfl ?_
        refine z_bipush M dt_X1_signAt_1.1.2.2 kb_40 ?_
        refine z_imul M dt_X1_signAt_1.2.1.1.1 ?_
        refine z_iload_n M dt_X1_signAt_1.2.1.1.2 rfl 3 rfl ?_
        refine z_iadd M dt_X1_signAt_1.2.1.2.1 ?_
        have ⟨hg, h⟩ := gIx_s h
        refine al_C31 (σ := σ0) M (f := (σ0.2.1 19)) rfl hg dt_X1_signAt_1.2.1.2.2 ?_
        refine z_goto (tgt := 49) M dt_X1_signAt_1.2.2.1.1 (by decide) ?_
        obtain rfl := Option.some.inj h
        exact z_iret M dt_X1_signAt_1.2.2.2
    · have h := gIf hc h
      refine z_iload_n M dt_X1_signAt_0.1.2.1.2 rfl 2 rfl ?_
      refine z_if_lt (tgt := 28) M dt_X1_signAt_0.1.2.2.1 (by decide) (fun hc => ?_) (fun hc => ?_)
      · have h := gIt hc h
        refine z_iconst M dt_X1_signAt_0.2.2.2.2 ki_0 ?_
        refine z_istore_n (lv' := [(3, .int (0 : Int32)), (0, .ref (a 30)), (1, .int p0), (2, .int p1)]) M dt_X1_signAt_1.1.1.1.1 rfl (by decide) rfl ?_
        refine z_iload_n M dt_X1_signAt_1.1.1.1.2 rfl 0 rfl ?_
        refine z_if_eq (tgt := 48) M dt_X1_signAt_1.1.1.2.1 (by decide) (fun hc => ?_) (fun hc => ?_)
        · have h := gIt hc h
          refine z_iconst M dt_X1_signAt_1.2.2.1.2 ki_m1 ?_
          obtain rfl := Option.some.inj h
          exact z_iret M dt_X1_signAt_1.2.2.2
        · have h := gIf hc h
          refine z_aload_n M dt_X1_signAt_1.1.1.2.2 rfl 1 rfl ?_
          refine gf_X8_signs M u193 dt_X1_signAt_1.1.2.1.1 ?_
          refine z_iload_n M dt_X1_signAt_1.1.2.1.2 rfl 2 rfl ?_
          refine z_bipush M dt_X1_signAt_1.1.2.2 kb_40 ?_
          refine z_imul M dt_X1_signAt_1.2.1.1.1 ?_
          refine z_iload_n M dt_X1_signAt_1.2.1.1.2 rfl 3 rfl ?_
          refine z_iadd M dt_X1_signAt_1.2.1.2.1 ?_
          have ⟨hg, h⟩ := gIx_s h
          refine al_C31 (σ := σ0) M (f := (σ0.2.1 19)) rfl hg dt_X1_signAt_1.2.1.2.2 ?_
          refine z_goto (tgt := 49) M dt_X1_signAt_1.2.2.1.1 (by decide) ?_
          obtain rfl := Option.some.inj h
          exact z_iret M dt_X1_signAt_1.2.2.2
      · have h := gIf hc h
        refine z_iload_n M dt_X1_signAt_0.1.2.2.2 rfl 2 rfl ?_
        refine z_aload_n M dt_X1_signAt_0.2.1.1.1 rfl 0 rfl ?_
        refine gf_X8_sizes M u194 dt_X1_signAt_0.2.1.1.2 ?_
        refine z_iload_n M dt_X1_signAt_0.2.1.2.1 rfl 1 rfl ?_
        have ⟨hg, h⟩ := gIx_s h
        refine al_C32 (σ := σ0) M (f := (σ0.2.1 20)) rfl hg dt_X1_signAt_0.2.1.2.2 ?_
        have hJ2 : G σ0 [(0, .ref (a 30)), (1, .int p0), (2, .int p1)] 29 [.int (if ((σ0.2.1 20) (Int32.toNatClampNeg p0)) ≤ p1 then (0 : Int32) else (1 : Int32))] := by
          refine z_istore_n (lv' := [(3, .int (if ((σ0.2.1 20) (Int32.toNatClampNeg p0)) ≤ p1 then (0 : Int32) else (1 : Int32))), (0, .ref (a 30)), (1, .int p0), (2, .int p1)]) M dt_X1_signAt_1.1.1.1.1 rfl (by decide) rfl ?_
          refine z_iload_n M dt_X1_signAt_1.1.1.1.2 rfl 0 rfl ?_
          refine z_if_eq (tgt := 48) M dt_X1_signAt_1.1.1.2.1 (by decide) (fun hc => ?_) (fun hc => ?_)
          · have h := gIt hc h
            refine z_iconst M dt_X1_signAt_1.2.2.1.2 ki_m1 ?_
            obtain rfl := Option.some.inj h
            exact z_iret M dt_X1_signAt_1.2.2.2
          · have h := gIf hc h
            refine z_aload_n M dt_X1_signAt_1.1.1.2.2 rfl 1 rfl ?_
            refine gf_X8_signs M u193 dt_X1_signAt_1.1.2.1.1 ?_
            refine z_iload_n M dt_X1_signAt_1.1.2.1.2 rfl 2 rfl ?_
            refine z_bipush M dt_X1_signAt_1.1.2.2 kb_40 ?_
            refine z_imul M dt_X1_signAt_1.2.1.1.1 ?_
            refine z_iload_n M dt_X1_signAt_1.2.1.1.2 rfl 3 rfl ?_
            refine z_iadd M dt_X1_signAt_1.2.1.2.1 ?_
            have ⟨hg, h⟩ := gIx_s h
            refine al_C31 (σ := σ0) M (f := (σ0.2.1 19)) rfl hg dt_X1_signAt_1.2.1.2.2 ?_
            refine z_goto (tgt := 49) M dt_X1_signAt_1.2.2.1.1 (by decide) ?_
            obtain rfl := Option.some.inj h
            exact z_iret M dt_X1_signAt_1.2.2.2
        refine z_icmp_ge (tgt := 28) M dt_X1_signAt_0.2.2.1.1 (by decide) (fun hc1 => ?_) (fun hc1 => ?_)
        · refine z_iconst M dt_X1_signAt_0.2.2.2.2 ki_0 ?_
          exact (zTt hc1 hJ2)
        · refine z_iconst M dt_X1_signAt_0.2.2.1.2 ki_1 ?_
          refine z_goto (tgt := 29) M dt_X1_signAt_0.2.2.2.1 (by decide) ?_
          exact (zTf hc1 hJ2)
theorem ku_Stories_signAt_X1_signAt_S {n : Nat} (M : zM l D zcl (zty cy) A ad (zR n) (cW a cy) own cc nL rt σo ov G) {p0 : Int32} {p1 : Int32} {o : Int32} (h : f_X1_signAt_S σ p0 p1 = some o) {index : Nat} (hl : Cond.methodLink own index (⟨RX8, "signAt", "(II)I"⟩ : MethodName) ∈ uw) (hR : 2 ≤ n) (hW : (st.map fun v => v.category).sum ≤ 8) (d : decode cc pc = .ok (.invokevirtual index, 3)) (kk : G σ lv (pc + 3) (.int o :: st)) : G σ lv pc (.int p1 :: .int p0 :: .ref (a 30) :: st) := z_callU M (owner := RX1) [.int p0, .int p1] (m_X1_signAt_S (zM_hD M) h) (hC30 σ) rfl hl u1124 u1125 u820 u91 u821 rfl (by refine ⟨by decide +kernel, by decide +kernel, ?_⟩; exact hp__II_I) hR (by decide) rfl hW d kk
set_option maxHeartbeats 4000000 in
set_option maxRecDepth 100000 in
theorem m_X8_isSo (hD : ∀ σ, va_D A (cW a cy σ)) {σ0 : Zst} {p0 : Int32} {p1 : Int32} {p2 : Int32} {o : Int32} (h : f_X8_isSo σ0 p0 p1 p2 = some o) : zT l D zcl (zty cy) A ad (cW a cy) yX8_isSo cX8_isSo 5 (some .boolean) 4 [.ref (a 30), .int p0, .int p1, .int p2] σ0 σ0 (some (.int o)) := by
  refine z_met pn_X8 hD (Nat.le_of_ble_eq_true rfl) rfl (fun G M => ?_)
  refine z_aload_n M dt_X8_isSo_0.1.1.1.1 rfl 0 rfl ?_
  refine z_iload_n M dt_X8_isSo_0.1.1.1.2 rfl 1 rfl ?_
  obtain ⟨t1, hc, h⟩ := gBd h
  refine k_X8_isHad M hc u1080 (Nat.le_of_ble_eq_true rfl) (Nat.le_of_ble_eq_true rfl) dt_X8_isSo_0.1.1.2.1 ?_
  refine z_if_eq (tgt := 16) M dt_X8_isSo_0.1.1.2.2 (by decide) (fun hc => ?_) (fun hc => ?_)
  · have h := gIt hc h
    refine z_iconst M dt_X8_isSo_0.2.1.1.1 ki_0 ?_
    obtain rfl := Option.some.inj h
    exact z_zret M (nBo (Or.inl rfl)) dt_X8_isSo_0.2.1.1.2
  · have h := gIf hc h
    refine z_aload_n M dt_X8_isSo_0.1.2.1.1 rfl 0 rfl ?_
    refine z_iload_n M dt_X8_isSo_0.1.2.1.2 rfl 3 rfl ?_
    obtain ⟨t2, hc, h⟩ := gBd h
    refine k_X8_isHad M hc u1080 (Nat.le_of_ble_eq_true rfl) (Nat.le_of_ble_eq_true rfl) dt_X8_isSo_0.1.2.2.1 ?_
    refine z_if_ne (tgt := 18) M dt_X8_isSo_0.1.2.2.2 (by decide) (fun hc => ?_) (fun hc => ?_)
    · have h := gIf hc h
      refine z_aload_n M dt_X8_isSo_0.2.1.2.1 rfl 0 rfl ?_
      refine z_iload_n M dt_X8_isSo_0.2.1.2.2 rfl 1 rfl ?_
      refine z_iload_n M dt_X8_isSo_0.2.2.1.1 rfl 3 rfl ?_
      obtain ⟨t3, hc, h⟩ := gBd h
      refine k_X8_compareThings M hc u1076 (Nat.le_of_ble_eq_true rfl) (Nat.le_of_ble_eq_true rfl) dt_X8_isSo_0.2.2.1.2 ?_
      refine z_istore (lv' := [(4, .int t3), (0, .ref (a 30)), (1, .int p0), (2, .int p1), (3, .int p2)]) M dt_X8_isSo_0.2.2.2.1 (by decide) rfl ?_
      refine z_iload_n M dt_X8_isSo_0.2.2.2.2 rfl 3 rfl ?_
      refine z_bipush M dt_X8_isSo_1.1.1.1.1 kb_60 ?_
      have hJ9 : G σ0 [(4, .int t3), (0, .ref (a 30)), (1, .int p0), (2, .int p1), (3, .int p2)] 74 [.int (if p1 = (60 : Int32) then (if (0 : Int32) ≤ t3 then (0 : Int32) else (1 : Int32)) else (if p1 = (62 : Int32) then (if t3 ≤ (0 : Int32) then (0 : Int32) else (1 : Int32)) else (if t3 = (0 : Int32) then (1 : Int32) else (0 : Int32))))] := by
        obtain rfl := Option.some.inj h
        exact z_zret M (nBo (boIte (boIte (Or.inl rfl) (Or.inr rfl)) (boIte (boIte (Or.inl rfl) (Or.inr rfl)) (boIte (Or.inr rfl) (Or.inl rfl))))) dt_X8_isSo_2.2.2
      refine z_icmp_ne (tgt := 45) M dt_X8_isSo_1.1.1.1.2 (by decide) (fun hc4 => ?_) (fun hc4 => ?_)
      · refine z_iload_n M dt_X8_isSo_1.2.1.1.1 rfl 3 rfl ?_
        refine z_bipush M dt_X8_isSo_1.2.1.1.2 kb_62 ?_
        refine z_icmp_ne (tgt := 64) M dt_X8_isSo_1.2.1.2.1 (by decide) (fun hc6 => ?_) (fun hc6 => ?_)
        · refine z_iload M dt_X8_isSo_2.1.1.2 0 rfl ?_
          refine z_if_ne (tgt := 73) M dt_X8_isSo_2.1.2.1 (by decide) (fun hc8 => ?_) (fun hc8 => ?_)
          · refine z_iconst M dt_X8_isSo_2.2.1.2 ki_0 ?_
            exact (zTf hc8 (zTf hc6 (zTf hc4 hJ9)))
          · refine z_iconst M dt_X8_isSo_2.1.2.2 ki_1 ?_
            refine z_goto (tgt := 74) M dt_X8_isSo_2.2.1.1 (by decide) ?_
            exact (zTt hc8 (zTf hc6 (zTf hc4 hJ9)))
        · refine z_iload M dt_X8_isSo_1.2.1.2.2 0 rfl ?_
          refine z_if_le (tgt := 60) M dt_X8_isSo_1.2.2.1.1 (by decide) (fun hc7 => ?_) (fun hc7 => ?_)
          · refine z_iconst M dt_X8_isSo_1.2.2.2.2 ki_0 ?_
            refine z_goto (tgt := 74) M dt_X8_isSo_2.1.1.1 (by decide) ?_
            exact (zTt hc7 (zTt hc6 (zTf hc4 hJ9)))
          · refine z_iconst M dt_X8_isSo_1.2.2.1.2 ki_1 ?_
            refine z_goto (tgt := 74) M dt_X8_isSo_1.2.2.2.1 (by decide) ?_
            exact (zTf hc7 (zTt hc6 (zTf hc4 hJ9)))
      · refine z_iload M dt_X8_isSo_1.1.1.2.1 0 rfl ?_
        refine z_if_ge (tgt := 41) M dt_X8_isSo_1.1.1.2.2 (by decide) (fun hc5 => ?_) (fun hc5 => ?_)
        · refine z_iconst M dt_X8_isSo_1.1.2.2.1 ki_0 ?_
          refine z_goto (tgt := 74) M dt_X8_isSo_1.1.2.2.2 (by decide) ?_
          exact (zTt hc5 (zTt hc4 hJ9))
        · refine z_iconst M dt_X8_isSo_1.1.2.1.1 ki_1 ?_
          refine z_goto (tgt := 74) M dt_X8_isSo_1.1.2.1.2 (by decide) ?_
          exact (zTf hc5 (zTt hc4 hJ9))
    · have h := gIt hc h
      refine z_iconst M dt_X8_isSo_0.2.1.1.1 ki_0 ?_
      obtain rfl := Option.some.inj h
      exact z_zret M (nBo (Or.inl rfl)) dt_X8_isSo_0.2.1.1.2
theorem k_X8_isSo {n : Nat} (M : zM l D zcl (zty cy) A ad (zR n) (cW a cy) own cc nL rt σo ov G) {p0 : Int32} {p1 : Int32} {p2 : Int32} {o : Int32} (h : f_X8_isSo σ p0 p1 p2 = some o) {index : Nat} (hl : Cond.methodLink own index yX8_isSo ∈ uw) (hR : 5 ≤ n) (hW : (st.map fun v => v.category).sum ≤ 8) (d : decode cc pc = .ok (.invokevirtual index, 3)) (kk : G σ lv (pc + 3) (.int o :: st)) : G σ lv pc (.int p2 :: .int p1 :: .int p0 :: .ref (a 30) :: st) := z_callV M [.int p0, .int p1, .int p2] (m_X8_isSo (zM_hD M) h) (hC30 σ) rfl hl u95 u1129 u1128 u31 hd_X8_isSo hR (by decide) rfl hW d kk
set_option maxHeartbeats 4000000 in
set_option maxRecDepth 100000 in
theorem wL_X8_failingOf_4 {o : Int32} (M : zM l D zcl (zty cy) A ad (zR 8) (cW a cy) RX8 cX8_failingOf 4 (some .int) σ0 (some (.int o)) G)  (v1 : Int32)  :
    ∀ (n4 : Nat) (v2 : Int32) (v3 : Int32), L_X8_failingOf_4 σ0 v1 n4 v2 v3 = some o → G σ0 [(0, .ref (a 30)), (1, .int v1), (2, .int v2), (3, .int v3)] 4 [] := by
  intro n4
  induction n4 with
  | zero => intro v2 v3 h; exact nomatch (show (none : Option Int32) = some _ from h)
  | succ n4 ih =>
    intro v2 v3 h
    refine z_iload_n M dt_X8_failingOf_0.1.2.1.1 rfl 3 rfl ?_
    refine z_aload_n M dt_X8_failingOf_0.1.2.1.2 rfl 0 rfl ?_
    refine z_iload_n M dt_X8_failingOf_0.1.2.2.1 rfl 1 rfl ?_
    obtain ⟨t1, hc, h⟩ := gBd h
    refine ku_Stories_sizeOf_X1_sizeOf_S M hc u1120 (Nat.le_of_ble_eq_true rfl) (Nat.le_of_ble_eq_true rfl) dt_X8_failingOf_0.1.2.2.2 ?_
    refine z_icmp_ge (tgt := 57) M dt_X8_failingOf_0.2.1.1.1 (by decide) (fun hc => ?_) (fun hc => ?_)
    · have h := gIt hc h
      refine z_iload_n M dt_X8_failingOf_2.1.2 rfl 2 rfl ?_
      obtain rfl := Option.some.inj h
      exact z_iret M dt_X8_failingOf_2.2
    · have h := gIf hc h
      refine z_aload_n M dt_X8_failingOf_0.2.1.1.2 rfl 0 rfl ?_
      refine z_aload_n M dt_X8_failingOf_0.2.1.2.1 rfl 0 rfl ?_
      refine z_iload_n M dt_X8_failingOf_0.2.1.2.2 rfl 1 rfl ?_
      refine z_iload_n M dt_X8_failingOf_0.2.2.1.1 rfl 3 rfl ?_
      obtain ⟨t2, hc, h⟩ := gBd h
      refine ku_Stories_signAt_X1_signAt_S M hc u1123 (Nat.le_of_ble_eq_true rfl) (Nat.le_of_ble_eq_true rfl) dt_X8_failingOf_0.2.2.1.2 ?_
      obtain ⟨t3, hc, h⟩ := gBd h
      refine k_X8_thingOf M hc u644 (Nat.le_of_ble_eq_true rfl) (Nat.le_of_ble_eq_true rfl) dt_X8_failingOf_0.2.2.2.1 ?_
      refine z_aload_n M dt_X8_failingOf_0.2.2.2.2 rfl 0 rfl ?_
      refine z_iload_n M dt_X8_failingOf_1.1.1.1.1 rfl 1 rfl ?_
      refine z_iload_n M dt_X8_failingOf_1.1.1.1.2 rfl 3 rfl ?_
      refine z_iconst M dt_X8_failingOf_1.1.1.2.1 ki_1 ?_
      refine z_iadd M dt_X8_failingOf_1.1.1.2.2 ?_
      obtain ⟨t4, hc, h⟩ := gBd h
      refine ku_Stories_signAt_X1_signAt_S M hc u1123 (Nat.le_of_ble_eq_true rfl) (Nat.le_of_ble_eq_true rfl) dt_X8_failingOf_1.1.2.1.1 ?_
      refine z_aload_n M dt_X8_failingOf_1.1.2.1.2 rfl 0 rfl ?_
      refine z_iload_n M dt_X8_failingOf_1.1.2.2.1 rfl 1 rfl ?_
      refine z_iload_n M dt_X8_failingOf_1.1.2.2.2 rfl 3 rfl ?_
      refine z_iconst M dt_X8_failingOf_1.2.1.1.1 ki_2 ?_
      refine z_iadd M dt_X8_failingOf_1.2.1.1.2 ?_
      obtain ⟨t5, hc, h⟩ := gBd h
      refine ku_Stories_signAt_X1_signAt_S M hc u1123 (Nat.le_of_ble_eq_true rfl) (Nat.le_of_ble_eq_true rfl) dt_X8_failingOf_1.2.1.2.1 ?_
      obtain ⟨t6, hc, h⟩ := gBd h
      refine k_X8_thingOf M hc u644 (Nat.le_of_ble_eq_true rfl) (Nat.le_of_ble_eq_true rfl) dt_X8_failingOf_1.2.1.2.2 ?_
      obtain ⟨t7, hc, h⟩ := gBd h
      refine k_X8_isSo M hc u1126 (Nat.le_of_ble_eq_true rfl) (Nat.le_of_ble_eq_true rfl) dt_X8_failingOf_1.2.2.1.1 ?_
      refine z_if_ne (tgt := 51) M dt_X8_failingOf_1.2.2.1.2 (by decide) (fun hc => ?_) (fun hc => ?_)
      · have h := gIf hc h
        refine z_iinc (v := (v3 + (4 : Int32))) (lv' := [(3, .int (v3 + (4 : Int32))), (0, .ref (a 30)), (1, .int v1), (2, .int v2)]) M dt_X8_failingOf_1.2.2.2.2 (k := 3) rfl (congrArg (fun q => v3 + q) ki_4) (by decide) rfl ?_
        refine z_goto (tgt := 4) M dt_X8_failingOf_2.1.1 (by decide) ?_
        refine z_sub M [1, 2, 3, 0] (lv' := [(0, .ref (a 30)), (1, .int v1), (2, .int v2), (3, .int (v3 + (4 : Int32)))]) rfl ?_
        exact ih v2 (v3 + (4 : Int32)) h
      · have h := gIt hc h
        refine z_iinc (v := (v2 + (1 : Int32))) (lv' := [(2, .int (v2 + (1 : Int32))), (0, .ref (a 30)), (1, .int v1), (3, .int v3)]) M dt_X8_failingOf_1.2.2.2.1 (k := 2) rfl (congrArg (fun q => v2 + q) ki_1) (by decide) rfl ?_
        refine z_iinc (v := (v3 + (4 : Int32))) (lv' := [(3, .int (v3 + (4 : Int32))), (2, .int (v2 + (1 : Int32))), (0, .ref (a 30)), (1, .int v1)]) M dt_X8_failingOf_1.2.2.2.2 (k := 3) rfl (congrArg (fun q => v3 + q) ki_4) (by decide) rfl ?_
        refine z_goto (tgt := 4) M dt_X8_failingOf_2.1.1 (by decide) ?_
        refine z_sub M [2, 3, 1, 0] (lv' := [(0, .ref (a 30)), (1, .int v1), (2, .int (v2 + (1 : Int32))), (3, .int (v3 + (4 : Int32)))]) rfl ?_
        exact ih (v2 + (1 : Int32)) (v3 + (4 : Int32)) h
set_option maxHeartbeats 4000000 in
set_option maxRecDepth 100000 in
theorem m_X8_failingOf (hD : ∀ σ, va_D A (cW a cy σ)) {σ0 : Zst} {p0 : Int32} {o : Int32} (h : f_X8_failingOf σ0 p0 = some o) : zT l D zcl (zty cy) A ad (cW a cy) yX8_failingOf cX8_failingOf 4 (some .int) 8 [.ref (a 30), .int p0] σ0 σ0 (some (.int o)) := by
  refine z_met pn_X8 hD (Nat.le_of_ble_eq_true rfl) rfl (fun G M => ?_)
  refine z_iconst M dt_X8_failingOf_0.1.1.1.1 ki_0 ?_
  refine z_istore_n (lv' := [(2, .int (0 : Int32)), (0, .ref (a 30)), (1, .int p0)]) M dt_X8_failingOf_0.1.1.1.2 rfl (by decide) rfl ?_
  refine z_iconst M dt_X8_failingOf_0.1.1.2.1 ki_0 ?_
  refine z_istore_n (lv' := [(3, .int (0 : Int32)), (2, .int (0 : Int32)), (0, .ref (a 30)), (1, .int p0)]) M dt_X8_failingOf_0.1.1.2.2 rfl (by decide) rfl ?_
  refine z_sub M [2, 3, 1, 0] (lv' := [(0, .ref (a 30)), (1, .int p0), (2, .int (0 : Int32)), (3, .int (0 : Int32))]) rfl ?_
  exact wL_X8_failingOf_4 M  p0 zFu (0 : Int32) (0 : Int32) h
theorem k_X8_failingOf {n : Nat} (M : zM l D zcl (zty cy) A ad (zR n) (cW a cy) own cc nL rt σo ov G) {p0 : Int32} {o : Int32} (h : f_X8_failingOf σ p0 = some o) {index : Nat} (hl : Cond.methodLink own index yX8_failingOf ∈ uw) (hR : 9 ≤ n) (hW : (st.map fun v => v.category).sum ≤ 8) (d : decode cc pc = .ok (.invokevirtual index, 3)) (kk : G σ lv (pc + 3) (.int o :: st)) : G σ lv pc (.int p0 :: .ref (a 30) :: st) := z_callV M [.int p0] (m_X8_failingOf (zM_hD M) h) (hC30 σ) rfl hl u95 u1119 u1118 u30 hd_X8_failingOf hR (by decide) rfl hW d kk
set_option maxHeartbeats 4000000 in
set_option maxRecDepth 100000 in
theorem wL_X8_judge_39 {o : (Zst × Int32)} (M : zM l D zcl (zty cy) A ad (zR 9) (cW a cy) RX8 cX8_judge 4 (some .int) o.1 (some (.int o.2)) G)    :
    ∀ (n39 : Nat) (σ : Zst) (v2 : Int32) (v3 : Int32), L_X8_judge_39  n39 σ v2 v3 = some o → G σ [(0, .ref (a 30)), (2, .int v2), (3, .int v3)] 39 [] := by
  intro n39
  induction n39 with
  | zero => intro σ v2 v3 h; exact nomatch (show (none : Option (Zst × Int32)) = some _ from h)
  | succ n39 ih =>
    intro σ v2 v3 h
    refine z_iload_n M dt_X8_judge_1.2.1.2.2 rfl 2 rfl ?_
    refine z_aload_n M dt_X8_judge_1.2.2.1.1 rfl 0 rfl ?_
    refine gf_X8_stories (σ := σ) M u316 dt_X8_judge_1.2.2.1.2 (v := (σ.1 19)) rfl ?_
    refine z_icmp_ge (tgt := 85) M dt_X8_judge_1.2.2.2.1 (by decide) (fun hc => ?_) (fun hc => ?_)
    · have h := gIt hc h
      refine z_iload_n M dt_X8_judge_3.2.2.1 rfl 1 rfl ?_
      obtain rfl := Option.some.inj h
      exact z_iret M dt_X8_judge_3.2.2.2
    · have h := gIf hc h
      refine z_iload_n M dt_X8_judge_1.2.2.2.2 rfl 2 rfl ?_
      refine z_bipush M dt_X8_judge_2.1.1.1.1 kb_6 ?_
      refine z_icmp_ge (tgt := 85) M dt_X8_judge_2.1.1.1.2 (by decide) (fun hc => ?_) (fun hc => ?_)
      · have h := gIt hc h
        refine z_iload_n M dt_X8_judge_3.2.2.1 rfl 1 rfl ?_
        obtain rfl := Option.some.inj h
        exact z_iret M dt_X8_judge_3.2.2.2
      · have h := gIf hc h
        refine z_aload_n M dt_X8_judge_2.1.1.2.1 rfl 0 rfl ?_
        refine gf_X8_failing M u320 dt_X8_judge_2.1.1.2.2 ?_
        refine z_iload_n M dt_X8_judge_2.1.2.1.1 rfl 2 rfl ?_
        refine z_aload_n M dt_X8_judge_2.1.2.1.2 rfl 0 rfl ?_
        refine z_iload_n M dt_X8_judge_2.1.2.2.1 rfl 2 rfl ?_
        obtain ⟨t1, hc, h⟩ := gBd h
        refine k_X8_failingOf M hc u1116 (Nat.le_of_ble_eq_true rfl) (Nat.le_of_ble_eq_true rfl) dt_X8_judge_2.1.2.2.2 ?_
        have ⟨hg, h⟩ := gIx_s h
        refine as_C35 (σ := σ) M (f := (σ.2.1 21)) rfl hg dt_X8_judge_2.2.1.1.1 ?_
        refine z_aload_n M dt_X8_judge_2.2.1.1.2 rfl 0 rfl ?_
        refine gf_X8_failing M u320 dt_X8_judge_2.2.1.2.1 ?_
        refine z_iload_n M dt_X8_judge_2.2.1.2.2 rfl 2 rfl ?_
        have ⟨hg, h⟩ := gIx_s h
        refine al_C35 (σ := (zA σ 21 (upd (σ.2.1 21) (Int32.toNatClampNeg v3) t1))) M (f := (upd (σ.2.1 21) (Int32.toNatClampNeg v3) t1)) rfl hg dt_X8_judge_2.2.2.1.1 ?_
        refine z_if_ne (tgt := 79) M dt_X8_judge_2.2.2.1.2 (by decide) (fun hc => ?_) (fun hc => ?_)
        · have h := gIf hc h
          refine z_iinc (v := (v3 + (1 : Int32))) (lv' := [(3, .int (v3 + (1 : Int32))), (0, .ref (a 30)), (2, .int v2)]) M dt_X8_judge_3.2.1.1 (k := 2) rfl (congrArg (fun q => v3 + q) ki_1) (by decide) rfl ?_
          refine z_goto (tgt := 39) M dt_X8_judge_3.2.1.2 (by decide) ?_
          refine z_sub M [1, 2, 0] (lv' := [(0, .ref (a 30)), (2, .int v2), (3, .int (v3 + (1 : Int32)))]) rfl ?_
          exact ih (zA σ 21 (upd (σ.2.1 21) (Int32.toNatClampNeg v3) t1)) v2 (v3 + (1 : Int32)) h
        · have h := gIt hc h
          refine z_iload_n M dt_X8_judge_2.2.2.2.1 rfl 1 rfl ?_
          refine z_iconst M dt_X8_judge_2.2.2.2.2 ki_1 ?_
          refine z_iload_n M dt_X8_judge_3.1.1.1 rfl 2 rfl ?_
          refine z_ishl M dt_X8_judge_3.1.1.2 ?_
          refine z_ior M dt_X8_judge_3.1.2.1 ?_
          refine z_istore_n (lv' := [(2, .int (v2 ||| (jShl (1 : Int32) v3))), (0, .ref (a 30)), (3, .int v3)]) M dt_X8_judge_3.1.2.2 rfl (by decide) rfl ?_
          refine z_iinc (v := (v3 + (1 : Int32))) (lv' := [(3, .int (v3 + (1 : Int32))), (2, .int (v2 ||| (jShl (1 : Int32) v3))), (0, .ref (a 30))]) M dt_X8_judge_3.2.1.1 (k := 2) rfl (congrArg (fun q => v3 + q) ki_1) (by decide) rfl ?_
          refine z_goto (tgt := 39) M dt_X8_judge_3.2.1.2 (by decide) ?_
          refine z_sub M [2, 1, 0] (lv' := [(0, .ref (a 30)), (2, .int (v2 ||| (jShl (1 : Int32) v3))), (3, .int (v3 + (1 : Int32)))]) rfl ?_
          exact ih (zA σ 21 (upd (σ.2.1 21) (Int32.toNatClampNeg v3) t1)) (v2 ||| (jShl (1 : Int32) v3)) (v3 + (1 : Int32)) h
set_option maxHeartbeats 4000000 in
set_option maxRecDepth 100000 in
theorem m_X8_judge (hD : ∀ σ, va_D A (cW a cy σ)) {σ : Zst} {p0 : Int32} {o : (Zst × Int32)} (h : f_X8_judge σ p0 = some o) : zT l D zcl (zty cy) A ad (cW a cy) yX8_judge cX8_judge 4 (some .int) 9 [.ref (a 30), .int p0] σ o.1 (some (.int o.2)) := by
  refine z_met pn_X8 hD (Nat.le_of_ble_eq_true rfl) rfl (fun G M => ?_)
  refine z_aload_n M dt_X8_judge_0.1.1.1.1 rfl 0 rfl ?_
  refine z_iload_n M dt_X8_judge_0.1.1.1.2 rfl 1 rfl ?_
  obtain ⟨t2, hc, h⟩ := gBd h
  refine k_X8_measureWaste M hc u1057 (Nat.le_of_ble_eq_true rfl) (Nat.le_of_ble_eq_true rfl) dt_X8_judge_0.1.1.2.1 ?_
  refine z_aload_n M dt_X8_judge_0.1.1.2.2 rfl 0 rfl ?_
  refine z_iload_n M dt_X8_judge_0.1.2.1.1 rfl 1 rfl ?_
  refine z_iconst M dt_X8_judge_0.1.2.1.2 ki_1 ?_
  refine z_iconst M dt_X8_judge_0.1.2.2.1 ki_2 ?_
  obtain ⟨t3, hc, h⟩ := gBd h
  refine k_X8_measureMeans M hc u1112 (Nat.le_of_ble_eq_true rfl) (Nat.le_of_ble_eq_true rfl) dt_X8_judge_0.1.2.2.2 ?_
  refine z_aload_n M dt_X8_judge_0.2.1.1.1 rfl 0 rfl ?_
  refine z_iload_n M dt_X8_judge_0.2.1.1.2 rfl 1 rfl ?_
  refine z_iconst M dt_X8_judge_0.2.1.2.1 ki_0 ?_
  refine z_iconst M dt_X8_judge_0.2.1.2.2 ki_4 ?_
  obtain ⟨t4, hc, h⟩ := gBd h
  refine k_X8_measureMeans M hc u1112 (Nat.le_of_ble_eq_true rfl) (Nat.le_of_ble_eq_true rfl) dt_X8_judge_0.2.2.1.1 ?_
  refine z_aload_n M dt_X8_judge_0.2.2.1.2 rfl 0 rfl ?_
  refine z_iload_n M dt_X8_judge_0.2.2.2.1 rfl 1 rfl ?_
  refine z_iconst M dt_X8_judge_0.2.2.2.2 ki_5 ?_
  refine z_bipush M dt_X8_judge_1.1.1.1.1 kb_6 ?_
  obtain ⟨t5, hc, h⟩ := gBd h
  refine k_X8_measureMeans M hc u1112 (Nat.le_of_ble_eq_true rfl) (Nat.le_of_ble_eq_true rfl) dt_X8_judge_1.1.1.1.2 ?_
  refine z_aload_n M dt_X8_judge_1.1.1.2.1 rfl 0 rfl ?_
  refine z_iload_n M dt_X8_judge_1.1.1.2.2 rfl 1 rfl ?_
  refine z_iconst M dt_X8_judge_1.1.2.1.1 ki_2 ?_
  refine z_bipush M dt_X8_judge_1.1.2.1.2 kb_8 ?_
  obtain ⟨t6, hc, h⟩ := gBd h
  refine k_X8_measureMeans M hc u1112 (Nat.le_of_ble_eq_true rfl) (Nat.le_of_ble_eq_true rfl) dt_X8_judge_1.1.2.2.1 ?_
  refine z_iconst M dt_X8_judge_1.1.2.2.2 ki_0 ?_
  refine z_istore_n (lv' := [(2, .int (0 : Int32)), (0, .ref (a 30)), (1, .int p0)]) M dt_X8_judge_1.2.1.1.1 rfl (by decide) rfl ?_
  refine z_iconst M dt_X8_judge_1.2.1.1.2 ki_0 ?_
  refine z_istore_n (lv' := [(3, .int (0 : Int32)), (2, .int (0 : Int32)), (0, .ref (a 30)), (1, .int p0)]) M dt_X8_judge_1.2.1.2.1 rfl (by decide) rfl ?_
  refine z_sub M [2, 1, 0] (lv' := [(0, .ref (a 30)), (2, .int (0 : Int32)), (3, .int (0 : Int32))]) rfl ?_
  exact wL_X8_judge_39 M   zFu t6 (0 : Int32) (0 : Int32) h
theorem k_X8_judge {n : Nat} (M : zM l D zcl (zty cy) A ad (zR n) (cW a cy) own cc nL rt σo ov G) {p0 : Int32} {o : (Zst × Int32)} (h : f_X8_judge σ p0 = some o) {index : Nat} (hl : Cond.methodLink own index yX8_judge ∈ uw) (hR : 10 ≤ n) (hW : (st.map fun v => v.category).sum ≤ 8) (d : decode cc pc = .ok (.invokevirtual index, 3)) (kk : G o.1 lv (pc + 3) (.int o.2 :: st)) : G σ lv pc (.int p0 :: .ref (a 30) :: st) := z_callV M [.int p0] (m_X8_judge (zM_hD M) h) (hC30 σ) rfl hl u95 u1111 u1110 u28 hd_X8_judge hR (by decide) rfl hW d kk
set_option maxHeartbeats 4000000 in
set_option maxRecDepth 100000 in
theorem wL_X8_standing_29 {o : (Zst × Int32)} (M : zM l D zcl (zty cy) A ad (zR 10) (cW a cy) RX8 cX8_standing 4 (some .int) o.1 (some (.int o.2)) G)  (v2 : Int32)  :
    ∀ (n29 : Nat) (σ : Zst) (v3 : Int32), L_X8_standing_29 v2 n29 σ v3 = some o → G σ [(0, .ref (a 30)), (2, .int v2), (3, .int v3)] 29 [] := by
  intro n29
  induction n29 with
  | zero => intro σ v3 h; exact nomatch (show (none : Option (Zst × Int32)) = some _ from h)
  | succ n29 ih =>
    intro σ v3 h
    refine z_iload_n M dt_X8_standing_1.1.1.1.2 rfl 2 rfl ?_
    refine z_aload_n M dt_X8_standing_1.1.1.2.1 rfl 0 rfl ?_
    refine gf_X8_stories (σ := σ) M u316 dt_X8_standing_1.1.1.2.2 (v := (σ.1 19)) rfl ?_
    refine z_icmp_ge (tgt := 64) M dt_X8_standing_1.1.2.1.1 (by decide) (fun hc => ?_) (fun hc => ?_)
    · have h := gIt hc h
      refine z_iload_n M dt_X8_standing_2.2.1 rfl 1 rfl ?_
      obtain rfl := Option.some.inj h
      exact z_iret M dt_X8_standing_2.2.2
    · have h := gIf hc h
      refine z_iload_n M dt_X8_standing_1.1.2.1.2 rfl 2 rfl ?_
      refine z_bipush M dt_X8_standing_1.1.2.2.1 kb_6 ?_
      refine z_icmp_ge (tgt := 64) M dt_X8_standing_1.1.2.2.2 (by decide) (fun hc => ?_) (fun hc => ?_)
      · have h := gIt hc h
        refine z_iload_n M dt_X8_standing_2.2.1 rfl 1 rfl ?_
        obtain rfl := Option.some.inj h
        exact z_iret M dt_X8_standing_2.2.2
      · have h := gIf hc h
        refine z_aload_n M dt_X8_standing_1.2.1.1.1 rfl 0 rfl ?_
        refine gf_X8_row M u315 dt_X8_standing_1.2.1.1.2 ?_
        refine z_aload_n M dt_X8_standing_1.2.1.2.1 rfl 0 rfl ?_
        refine gf_X8_failing M u320 dt_X8_standing_1.2.1.2.2 ?_
        refine z_iload_n M dt_X8_standing_1.2.2.1.1 rfl 2 rfl ?_
        have ⟨hg, h⟩ := gIx_s h
        refine al_C35 (σ := σ) M (f := (σ.2.1 21)) rfl hg dt_X8_standing_1.2.2.1.2 ?_
        refine z_i2l M dt_X8_standing_1.2.2.2.1 ?_
        obtain ⟨t1, hc, h⟩ := gBd h
        refine k_X5_add M hc u1130 (Nat.le_of_ble_eq_true rfl) (Nat.le_of_ble_eq_true rfl) dt_X8_standing_1.2.2.2.2 ?_
        refine z_pop M dt_X8_standing_2.1.1.1 rfl ?_
        refine z_iinc (v := (v3 + (1 : Int32))) (lv' := [(3, .int (v3 + (1 : Int32))), (0, .ref (a 30)), (2, .int v2)]) M dt_X8_standing_2.1.1.2 (k := 2) rfl (congrArg (fun q => v3 + q) ki_1) (by decide) rfl ?_
        refine z_goto (tgt := 29) M dt_X8_standing_2.1.2 (by decide) ?_
        refine z_sub M [1, 2, 0] (lv' := [(0, .ref (a 30)), (2, .int v2), (3, .int (v3 + (1 : Int32)))]) rfl ?_
        exact ih t1 (v3 + (1 : Int32)) h
set_option maxHeartbeats 4000000 in
set_option maxRecDepth 100000 in
theorem m_X8_standing (hD : ∀ σ, va_D A (cW a cy σ)) {σ : Zst} {p0 : Int32} {o : (Zst × Int32)} (h : f_X8_standing σ p0 = some o) : zT l D zcl (zty cy) A ad (cW a cy) yX8_standing cX8_standing 4 (some .int) 10 [.ref (a 30), .int p0] σ o.1 (some (.int o.2)) := by
  refine z_met pn_X8 hD (Nat.le_of_ble_eq_true rfl) rfl (fun G M => ?_)
  refine z_aload_n M dt_X8_standing_0.1.1.1.1 rfl 0 rfl ?_
  refine gf_X8_town M u313 dt_X8_standing_0.1.1.1.2 ?_
  refine z_iload_n M dt_X8_standing_0.1.1.2.1 rfl 1 rfl ?_
  refine k_X10_hasSort M u1056 (Nat.le_of_ble_eq_true rfl) (Nat.le_of_ble_eq_true rfl) dt_X8_standing_0.1.1.2.2 ?_
  refine z_if_ne (tgt := 13) M dt_X8_standing_0.1.2.1.1 (by decide) (fun hc => ?_) (fun hc => ?_)
  · have h := gIf hc h
    refine z_aload_n M dt_X8_standing_0.1.2.2.2 rfl 0 rfl ?_
    refine z_iload_n M dt_X8_standing_0.2.1.1.1 rfl 1 rfl ?_
    obtain ⟨t2, hc, h⟩ := gBd h
    refine k_X8_judge M hc u1108 (Nat.le_of_ble_eq_true rfl) (Nat.le_of_ble_eq_true rfl) dt_X8_standing_0.2.1.1.2 ?_
    refine z_istore_n (lv' := [(2, .int t2.2), (0, .ref (a 30)), (1, .int p0)]) M dt_X8_standing_0.2.1.2.1 rfl (by decide) rfl ?_
    refine z_aload_n M dt_X8_standing_0.2.1.2.2 rfl 1 rfl ?_
    refine gf_X8_row M u315 dt_X8_standing_0.2.2.1.1 ?_
    obtain ⟨t3, hc, h⟩ := gBd h
    refine k_X5_clear M hc u1074 (Nat.le_of_ble_eq_true rfl) (Nat.le_of_ble_eq_true rfl) dt_X8_standing_0.2.2.1.2 ?_
    refine z_pop M dt_X8_standing_0.2.2.2.1 rfl ?_
    refine z_iconst M dt_X8_standing_0.2.2.2.2 ki_0 ?_
    refine z_istore_n (lv' := [(3, .int (0 : Int32)), (2, .int t2.2), (0, .ref (a 30)), (1, .int p0)]) M dt_X8_standing_1.1.1.1.1 rfl (by decide) rfl ?_
    refine z_sub M [2, 1, 0] (lv' := [(0, .ref (a 30)), (2, .int t2.2), (3, .int (0 : Int32))]) rfl ?_
    exact wL_X8_standing_29 M  t2.2 zFu t3 (0 : Int32) h
  · have h := gIt hc h
    refine z_iconst M dt_X8_standing_0.1.2.1.2 ki_m1 ?_
    obtain rfl := Option.some.inj h
    exact z_iret M dt_X8_standing_0.1.2.2.1
theorem k_X8_standing {n : Nat} (M : zM l D zcl (zty cy) A ad (zR n) (cW a cy) own cc nL rt σo ov G) {p0 : Int32} {o : (Zst × Int32)} (h : f_X8_standing σ p0 = some o) {index : Nat} (hl : Cond.methodLink own index yX8_standing ∈ uw) (hR : 11 ≤ n) (hW : (st.map fun v => v.category).sum ≤ 8) (d : decode cc pc = .ok (.invokevirtual index, 3)) (kk : G o.1 lv (pc + 3) (.int o.2 :: st)) : G σ lv pc (.int p0 :: .ref (a 30) :: st) := z_callV M [.int p0] (m_X8_standing (zM_hD M) h) (hC30 σ) rfl hl u95 u1107 u1105 u1106 hd_X8_standing hR (by decide) rfl hW d kk
set_option maxHeartbeats 4000000 in
set_option maxRecDepth 100000 in
theorem m_X11_holds (hD : ∀ σ, va_D A (cW a cy σ)) {σ : Zst} {p0 : Int32} {o : (Zst × Int32)} (h : f_X11_holds σ p0 = some o) : zT l D zcl (zty cy) A ad (cW a cy) yX11_holds cX11_holds 2 (some .int) 11 [.ref (a 0), .int p0] σ o.1 (some (.int o.2)) := by
  refine z_met pn_X11 hD (Nat.le_of_ble_eq_true rfl) rfl (fun G M => ?_)
  refine z_aload_n M dt_X11_holds_0.1.1.1 rfl 0 rfl ?_
  refine gf_X11_stories M u436 dt_X11_holds_0.1.1.2 ?_
  refine z_iload_n M dt_X11_holds_0.1.2 rfl 1 rfl ?_
  obtain ⟨t1, hc, h⟩ := gBd h
  refine k_X8_standing M hc u1104 (Nat.le_of_ble_eq_true rfl) (Nat.le_of_ble_eq_true rfl) dt_X11_holds_0.2.1 ?_
  obtain rfl := Option.some.inj h
  exact z_iret M dt_X11_holds_0.2.2
set_option maxHeartbeats 4000000 in
set_option maxRecDepth 100000 in
theorem m_J6_bitCount_0f7a4 (hD : ∀ σ, va_D A (wf σ)) (σ0 : Zst) (p0 : Int32) : zT l D zcl0 tys A ad wf yJ6_bitCount_0f7a4 cJ6_bitCount_0f7a4 1 (some .int) 1 [.int p0] σ0 σ0 (some (.int (f_J6_bitCount_0f7a4 p0))) := by
  obtain ⟨o, h⟩ : ∃ o, f_J6_bitCount_0f7a4 p0 = o := ⟨_, rfl⟩
  rw [h]
  refine z_met pn_J6 hD (Nat.le_of_ble_eq_true rfl) rfl (fun G M => ?_)
  refine z_iload_n M dt_J6_bitCount_0f7a4_0.1.1.1.1 rfl 0 rfl ?_
  refine z_iload_n M dt_J6_bitCount_0f7a4_0.1.1.1.2 rfl 0 rfl ?_
  refine z_iconst M dt_J6_bitCount_0f7a4_0.1.1.2.1 ki_1 ?_
  refine z_iushr M dt_J6_bitCount_0f7a4_0.1.1.2.2 ?_
  refine z_ldcw M dt_J6_bitCount_0f7a4_0.1.2.1.1 u1143 ?_
  refine z_iand M dt_J6_bitCount_0f7a4_0.1.2.1.2 ?_
  refine z_isub M dt_J6_bitCount_0f7a4_0.1.2.2.1 ?_
  refine z_istore_n (lv' := [(0, .int (p0 - ((jUshr p0 (1 : Int32)) &&& (1431655765 : Int32))))]) M dt_J6_bitCount_0f7a4_0.1.2.2.2 rfl (by decide) rfl ?_
  refine z_iload_n M dt_J6_bitCount_0f7a4_0.2.1.1.1 rfl 0 rfl ?_
  refine z_ldcw M dt_J6_bitCount_0f7a4_0.2.1.1.2 u1144 ?_
  refine z_iand M dt_J6_bitCount_0f7a4_0.2.1.2.1 ?_
  refine z_iload_n M dt_J6_bitCount_0f7a4_0.2.1.2.2 rfl 0 rfl ?_
  refine z_iconst M dt_J6_bitCount_0f7a4_0.2.2.1.1 ki_2 ?_
  refine z_iushr M dt_J6_bitCount_0f7a4_0.2.2.1.2 ?_
  refine z_ldcw M dt_J6_bitCount_0f7a4_0.2.2.2.1 u1144 ?_
  refine z_iand M dt_J6_bitCount_0f7a4_0.2.2.2.2 ?_
  refine z_iadd M dt_J6_bitCount_0f7a4_1.1.1.1.1 ?_
  refine z_istore_n (lv' := [(0, .int (((p0 - ((jUshr p0 (1 : Int32)) &&& (1431655765 : Int32))) &&& (858993459 : Int32)) + ((jUshr (p0 - ((jUshr p0 (1 : Int32)) &&& (1431655765 : Int32))) (2 : Int32)) &&& (858993459 : Int32))))]) M dt_J6_bitCount_0f7a4_1.1.1.1.2 rfl (by decide) rfl ?_
  refine z_iload_n M dt_J6_bitCount_0f7a4_1.1.1.2.1 rfl 0 rfl ?_
  refine z_iload_n M dt_J6_bitCount_0f7a4_1.1.1.2.2 rfl 0 rfl ?_
  refine z_iconst M dt_J6_bitCount_0f7a4_1.1.2.1.1 ki_4 ?_
  refine z_iushr M dt_J6_bitCount_0f7a4_1.1.2.1.2 ?_
  refine z_iadd M dt_J6_bitCount_0f7a4_1.1.2.2.1 ?_
  refine z_ldcw M dt_J6_bitCount_0f7a4_1.1.2.2.2 u1145 ?_
  refine z_iand M dt_J6_bitCount_0f7a4_1.2.1.1.1 ?_
  refine z_istore_n (lv' := [(0, .int (((((p0 - ((jUshr p0 (1 : Int32)) &&& (1431655765 : Int32))) &&& (858993459 : Int32)) + ((jUshr (p0 - ((jUshr p0 (1 : Int32)) &&& (1431655765 : Int32))) (2 : Int32)) &&& (858993459 : Int32))) + (jUshr (((p0 - ((jUshr p0 (1 : Int32)) &&& (1431655765 : Int32))) &&& (858993459 : Int32)) + ((jUshr (p0 - ((jUshr p0 (1 : Int32)) &&& (1431655765 : Int32))) (2 : Int32)) &&& (858993459 : Int32))) (4 : Int32))) &&& (252645135 : Int32)))]) M dt_J6_bitCount_0f7a4_1.2.1.1.2 rfl (by decide) rfl ?_
  refine z_iload_n M dt_J6_bitCount_0f7a4_1.2.1.2.1 rfl 0 rfl ?_
  refine z_iload_n M dt_J6_bitCount_0f7a4_1.2.1.2.2 rfl 0 rfl ?_
  refine z_bipush M dt_J6_bitCount_0f7a4_1.2.2.1.1 kb_8 ?_
  refine z_iushr M dt_J6_bitCount_0f7a4_1.2.2.1.2 ?_
  refine z_iadd M dt_J6_bitCount_0f7a4_1.2.2.2.1 ?_
  refine z_istore_n (lv' := [(0, .int ((((((p0 - ((jUshr p0 (1 : Int32)) &&& (1431655765 : Int32))) &&& (858993459 : Int32)) + ((jUshr (p0 - ((jUshr p0 (1 : Int32)) &&& (1431655765 : Int32))) (2 : Int32)) &&& (858993459 : Int32))) + (jUshr (((p0 - ((jUshr p0 (1 : Int32)) &&& (1431655765 : Int32))) &&& (858993459 : Int32)) + ((jUshr (p0 - ((jUshr p0 (1 : Int32)) &&& (1431655765 : Int32))) (2 : Int32)) &&& (858993459 : Int32))) (4 : Int32))) &&& (252645135 : Int32)) + (jUshr (((((p0 - ((jUshr p0 (1 : Int32)) &&& (1431655765 : Int32))) &&& (858993459 : Int32)) + ((jUshr (p0 - ((jUshr p0 (1 : Int32)) &&& (1431655765 : Int32))) (2 : Int32)) &&& (858993459 : Int32))) + (jUshr (((p0 - ((jUshr p0 (1 : Int32)) &&& (1431655765 : Int32))) &&& (858993459 : Int32)) + ((jUshr (p0 - ((jUshr p0 (1 : Int32)) &&& (1431655765 : Int32))) (2 : Int32)) &&& (858993459 : Int32))) (4 : Int32))) &&& (252645135 : Int32)) (8 : Int32))))]) M dt_J6_bitCount_0f7a4_1.2.2.2.2 rfl (by decide) rfl ?_
  refine z_iload_n M dt_J6_bitCount_0f7a4_2.1.1.1.1 rfl 0 rfl ?_
  refine z_iload_n M dt_J6_bitCount_0f7a4_2.1.1.1.2 rfl 0 rfl ?_
  refine z_bipush M dt_J6_bitCount_0f7a4_2.1.1.2 kb_16 ?_
  refine z_iushr M dt_J6_bitCount_0f7a4_2.1.2.1 ?_
  refine z_iadd M dt_J6_bitCount_0f7a4_2.1.2.2 ?_
  refine z_istore_n (lv' := [(0, .int (((((((p0 - ((jUshr p0 (1 : Int32)) &&& (1431655765 : Int32))) &&& (858993459 : Int32)) + ((jUshr (p0 - ((jUshr p0 (1 : Int32)) &&& (1431655765 : Int32))) (2 : Int32)) &&& (858993459 : Int32))) + (jUshr (((p0 - ((jUshr p0 (1 : Int32)) &&& (1431655765 : Int32))) &&& (858993459 : Int32)) + ((jUshr (p0 - ((jUshr p0 (1 : Int32)) &&& (1431655765 : Int32))) (2 : Int32)) &&& (858993459 : Int32))) (4 : Int32))) &&& (252645135 : Int32)) + (jUshr (((((p0 - ((jUshr p0 (1 : Int32)) &&& (1431655765 : Int32))) &&& (858993459 : Int32)) + ((jUshr (p0 - ((jUshr p0 (1 : Int32)) &&& (1431655765 : Int32))) (2 : Int32)) &&& (858993459 : Int32))) + (jUshr (((p0 - ((jUshr p0 (1 : Int32)) &&& (1431655765 : Int32))) &&& (858993459 : Int32)) + ((jUshr (p0 - ((jUshr p0 (1 : Int32)) &&& (1431655765 : Int32))) (2 : Int32)) &&& (858993459 : Int32))) (4 : Int32))) &&& (252645135 : Int32)) (8 : Int32))) + (jUshr ((((((p0 - ((jUshr p0 (1 : Int32)) &&& (1431655765 : Int32))) &&& (858993459 : Int32)) + ((jUshr (p0 - ((jUshr p0 (1 : Int32)) &&& (1431655765 : Int32))) (2 : Int32)) &&& (858993459 : Int32))) + (jUshr (((p0 - ((jUshr p0 (1 : Int32)) &&& (1431655765 : Int32))) &&& (858993459 : Int32)) + ((jUshr (p0 - ((jUshr p0 (1 : Int32)) &&& (1431655765 : Int32))) (2 : Int32)) &&& (858993459 : Int32))) (4 : Int32))) &&& (252645135 : Int32)) + (jUshr (((((p0 - ((jUshr p0 (1 : Int32)) &&& (1431655765 : Int32))) &&& (858993459 : Int32)) + ((jUshr (p0 - ((jUshr p0 (1 : Int32)) &&& (1431655765 : Int32))) (2 : Int32)) &&& (858993459 : Int32))) + (jUshr (((p0 - ((jUshr p0 (1 : Int32)) &&& (1431655765 : Int32))) &&& (858993459 : Int32)) + ((jUshr (p0 - ((jUshr p0 (1 : Int32)) &&& (1431655765 : Int32))) (2 : Int32)) &&& (858993459 : Int32))) (4 : Int32))) &&& (252645135 : Int32)) (8 : Int32))) (16 : Int32))))]) M dt_J6_bitCount_0f7a4_2.2.1.1.1 rfl (by decide) rfl ?_
  refine z_iload_n M dt_J6_bitCount_0f7a4_2.2.1.1.2 rfl 0 rfl ?_
  refine z_bipush M dt_J6_bitCount_0f7a4_2.2.1.2 kb_63 ?_
  refine z_iand M dt_J6_bitCount_0f7a4_2.2.2.1 ?_
  subst h
  exact z_iret M dt_J6_bitCount_0f7a4_2.2.2.2
theorem k_J6_bitCount_0f7a4 {n : Nat} (M : zM l D zcl0 tys A ad (zR n) wf own cc nL rt σo ov G) {p0 : Int32} {index : Nat} (hl : Cond.methodLink own index yJ6_bitCount_0f7a4 ∈ uw) (hR : 2 ≤ n) (hW : (st.map fun v => v.category).sum ≤ 8) (d : decode cc pc = .ok (.invokestatic index, 3)) (kk : G σ lv (pc + 3) (.int (f_J6_bitCount_0f7a4 p0) :: st)) : G σ lv pc (.int p0 :: st) := z_callS M [.int p0] (m_J6_bitCount_0f7a4 (zM_hD M) σ p0) hl u107 u1142 u1141 hd_J6_bitCount_0f7a4 hR (by decide) rfl hW d kk
end ZWK
