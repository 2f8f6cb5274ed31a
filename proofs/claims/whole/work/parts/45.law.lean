theorem l_in0 {t L : Nat} (ht : 6 * t + 5 < L) (hL : L ≤ 3072) : vp_in (nI (6 * t)) L := by
  exact vp_in_nI (by omega) (by omega)
theorem l_in1 {t L : Nat} (ht : 6 * t + 5 < L) (hL : L ≤ 3072) : vp_in (nI (6 * t) + (1 : Int32)) L := by
  rw [show (1 : Int32) = nI 1 from rfl, nI_add]
  exact vp_in_nI (by omega) (by omega)
theorem l_in2 {t L : Nat} (ht : 6 * t + 5 < L) (hL : L ≤ 3072) : vp_in (nI (6 * t) + (2 : Int32)) L := by
  rw [show (2 : Int32) = nI 2 from rfl, nI_add]
  exact vp_in_nI (by omega) (by omega)
theorem l_in3 {t L : Nat} (ht : 6 * t + 5 < L) (hL : L ≤ 3072) : vp_in (nI (6 * t) + (3 : Int32)) L := by
  rw [show (3 : Int32) = nI 3 from rfl, nI_add]
  exact vp_in_nI (by omega) (by omega)
theorem l_in4 {t L : Nat} (ht : 6 * t + 5 < L) (hL : L ≤ 3072) : vp_in (nI (6 * t) + (4 : Int32)) L := by
  rw [show (4 : Int32) = nI 4 from rfl, nI_add]
  exact vp_in_nI (by omega) (by omega)
theorem l_in5 {t L : Nat} (ht : 6 * t + 5 < L) (hL : L ≤ 3072) : vp_in (nI (6 * t) + (5 : Int32)) L := by
  rw [show (5 : Int32) = nI 5 from rfl, nI_add]
  exact vp_in_nI (by omega) (by omega)
section LCS
variable {l : Launch} {D : va_G} {a b : Nat → Nat} {qo : Nat} {cy : ClassId × (ClassId × (ClassId × ClassId))} {ad : (Nat → Nat) × (Nat → Nat)} {b0 L : Nat} {xs : Nat → Int32} {G : Zst → Zst → (Nat → Int64) → Nat → Nat → List (Nat × Value) → Nat → List Value → Prop}
variable {σc σm : Zst} {f : Nat → Int64} {k n : Nat} {t : Nat}
set_option maxHeartbeats 2000000 in
theorem lc_sort (M : lM l D a b qo cy ad b0 L xs G) (ht : 6 * t + 5 < L) (hL : L ≤ 3072) (hk9 : k ≤ 601024) (hn9 : n ≤ 7293033) {oc : (Zst × Int32)} {om : (Zst × Int32)} (hc : f_X11_sort σc (xs (Int32.toNatClampNeg (nI (6 * t) + (1 : Int32)))) (xs (Int32.toNatClampNeg (nI (6 * t) + (2 : Int32)))) (xs (Int32.toNatClampNeg (nI (6 * t) + (3 : Int32)))) = some oc) (hm : f_X12_sort σm (xs (Int32.toNatClampNeg (nI (6 * t) + (1 : Int32)))) (xs (Int32.toNatClampNeg (nI (6 * t) + (2 : Int32)))) (xs (Int32.toNatClampNeg (nI (6 * t) + (3 : Int32)))) = some om) (he : oc.2 = om.2) (kk : G oc.1 om.1 f k n [(4, .int (nI (6 * t))), (3, .ref qo), (2, .ref (b 0)), (1, .ref (a 0)), (0, .ref b0)] 1983 []) : G σc σm f k n [(4, .int (nI (6 * t))), (3, .ref qo), (2, .ref (b 0)), (1, .ref (a 0)), (0, .ref b0)] 240 [] := by
  refine l_aload_n M dt_L_law_1.2.1.1.2 rfl 3 rfl ?_
  refine l_aload_n M dt_L_law_1.2.1.2.1 rfl 4 rfl ?_
  refine l_iload M dt_L_law_1.2.1.2.2 0 rfl ?_
  refine l_iconst M dt_L_law_1.2.2.1.1 ki_1 ?_
  refine l_iadd M dt_L_law_1.2.2.1.2 ?_
  refine l_sld M (l_in1 ht hL) dt_L_law_1.2.2.2.1 ?_
  refine l_aload_n M dt_L_law_1.2.2.2.2 rfl 4 rfl ?_
  refine l_iload M dt_L_law_2.1.1.1.1 0 rfl ?_
  refine l_iconst M dt_L_law_2.1.1.1.2 ki_2 ?_
  refine l_iadd M dt_L_law_2.1.1.2.1 ?_
  refine l_sld M (l_in2 ht hL) dt_L_law_2.1.1.2.2 ?_
  refine l_aload_n M dt_L_law_2.1.2.1.1 rfl 4 rfl ?_
  refine l_iload M dt_L_law_2.1.2.1.2 0 rfl ?_
  refine l_iconst M dt_L_law_2.1.2.2.1 ki_3 ?_
  refine l_iadd M dt_L_law_2.1.2.2.2 ?_
  refine l_sld M (l_in3 ht hL) dt_L_law_2.2.1.1.1 ?_
  refine l_callC M [.int (xs (Int32.toNatClampNeg (nI (6 * t) + (1 : Int32)))), .int (xs (Int32.toNatClampNeg (nI (6 * t) + (2 : Int32)))), .int (xs (Int32.toNatClampNeg (nI (6 * t) + (3 : Int32))))] (rest := []) (fun A hD => m_X11_sort hD hc) rfl u461 u87 u464 u462 u463 hd_X11_sort (Nat.le_of_ble_eq_true rfl) (Nat.le_of_ble_eq_true rfl) hk9 hn9 rfl (Nat.le_of_ble_eq_true rfl) dt_L_law_2.2.1.1.2 ?_
  show G oc.1 σm f k n [(4, .int (nI (6 * t))), (3, .ref qo), (2, .ref (b 0)), (1, .ref (a 0)), (0, .ref b0)] 262 [.int oc.2]
  refine l_aload_n M dt_L_law_2.2.1.2.1 rfl 2 rfl ?_
  refine l_aload_n M dt_L_law_2.2.1.2.2 rfl 4 rfl ?_
  refine l_iload M dt_L_law_2.2.2.1.1 0 rfl ?_
  refine l_iconst M dt_L_law_2.2.2.1.2 ki_1 ?_
  refine l_iadd M dt_L_law_2.2.2.2.1 ?_
  refine l_sld M (l_in1 ht hL) dt_L_law_2.2.2.2.2 ?_
  refine l_aload_n M dt_L_law_3.1.1.1.1 rfl 4 rfl ?_
  refine l_iload M dt_L_law_3.1.1.1.2 0 rfl ?_
  refine l_iconst M dt_L_law_3.1.1.2.1 ki_2 ?_
  refine l_iadd M dt_L_law_3.1.1.2.2 ?_
  refine l_sld M (l_in2 ht hL) dt_L_law_3.1.2.1.1 ?_
  refine l_aload_n M dt_L_law_3.1.2.1.2 rfl 4 rfl ?_
  refine l_iload M dt_L_law_3.1.2.2.1 0 rfl ?_
  refine l_iconst M dt_L_law_3.1.2.2.2 ki_3 ?_
  refine l_iadd M dt_L_law_3.2.1.1.1 ?_
  refine l_sld M (l_in3 ht hL) dt_L_law_3.2.1.1.2 ?_
  refine l_callM M [.int (xs (Int32.toNatClampNeg (nI (6 * t) + (1 : Int32)))), .int (xs (Int32.toNatClampNeg (nI (6 * t) + (2 : Int32)))), .int (xs (Int32.toNatClampNeg (nI (6 * t) + (3 : Int32))))] (rest := [.int oc.2]) (fun A hD => m_X12_sort hD hm) rfl u1512 u99 u1515 u1513 u1514 hd_X12_sort (Nat.le_of_ble_eq_true rfl) (Nat.le_of_ble_eq_true rfl) hk9 hn9 rfl (Nat.le_of_ble_eq_true rfl) dt_L_law_3.2.1.2.1 ?_
  show G oc.1 om.1 f k n [(4, .int (nI (6 * t))), (3, .ref qo), (2, .ref (b 0)), (1, .ref (a 0)), (0, .ref b0)] 284 [.int om.2, .int oc.2]
  exact l_icmp_eq (tgt := 1983) M dt_L_law_3.2.1.2.2 (by decide) (fun _ => kk) (fun q => absurd he q)
set_option maxHeartbeats 2000000 in
theorem lc_goes (M : lM l D a b qo cy ad b0 L xs G) (ht : 6 * t + 5 < L) (hL : L ≤ 3072) (hk9 : k ≤ 601024) (hn9 : n ≤ 7293033) {oc : (Zst × Int32)} {om : (Zst × Int32)} (hc : f_X11_goes σc (xs (Int32.toNatClampNeg (nI (6 * t) + (1 : Int32)))) (xs (Int32.toNatClampNeg (nI (6 * t) + (2 : Int32)))) (xs (Int32.toNatClampNeg (nI (6 * t) + (3 : Int32)))) (xs (Int32.toNatClampNeg (nI (6 * t) + (4 : Int32)))) = some oc) (hm : f_X12_goes σm (xs (Int32.toNatClampNeg (nI (6 * t) + (1 : Int32)))) (xs (Int32.toNatClampNeg (nI (6 * t) + (2 : Int32)))) (xs (Int32.toNatClampNeg (nI (6 * t) + (3 : Int32)))) (xs (Int32.toNatClampNeg (nI (6 * t) + (4 : Int32)))) = some om) (he : oc.2 = om.2) (kk : G oc.1 om.1 f k n [(4, .int (nI (6 * t))), (3, .ref qo), (2, .ref (b 0)), (1, .ref (a 0)), (0, .ref b0)] 1983 []) : G σc σm f k n [(4, .int (nI (6 * t))), (3, .ref qo), (2, .ref (b 0)), (1, .ref (a 0)), (0, .ref b0)] 289 [] := by
  refine l_aload_n M dt_L_law_3.2.2.2.1 rfl 3 rfl ?_
  refine l_aload_n M dt_L_law_3.2.2.2.2 rfl 4 rfl ?_
  refine l_iload M dt_L_law_4.1.1.1.1 0 rfl ?_
  refine l_iconst M dt_L_law_4.1.1.1.2 ki_1 ?_
  refine l_iadd M dt_L_law_4.1.1.2.1 ?_
  refine l_sld M (l_in1 ht hL) dt_L_law_4.1.1.2.2 ?_
  refine l_aload_n M dt_L_law_4.1.2.1.1 rfl 4 rfl ?_
  refine l_iload M dt_L_law_4.1.2.1.2 0 rfl ?_
  refine l_iconst M dt_L_law_4.1.2.2.1 ki_2 ?_
  refine l_iadd M dt_L_law_4.1.2.2.2 ?_
  refine l_sld M (l_in2 ht hL) dt_L_law_4.2.1.1.1 ?_
  refine l_aload_n M dt_L_law_4.2.1.1.2 rfl 4 rfl ?_
  refine l_iload M dt_L_law_4.2.1.2.1 0 rfl ?_
  refine l_iconst M dt_L_law_4.2.1.2.2 ki_3 ?_
  refine l_iadd M dt_L_law_4.2.2.1.1 ?_
  refine l_sld M (l_in3 ht hL) dt_L_law_4.2.2.1.2 ?_
  refine l_aload_n M dt_L_law_4.2.2.2.1 rfl 4 rfl ?_
  refine l_iload M dt_L_law_4.2.2.2.2 0 rfl ?_
  refine l_iconst M dt_L_law_5.1.1.1.1 ki_4 ?_
  refine l_iadd M dt_L_law_5.1.1.1.2 ?_
  refine l_sld M (l_in4 ht hL) dt_L_law_5.1.1.2.1 ?_
  refine l_callC M [.int (xs (Int32.toNatClampNeg (nI (6 * t) + (1 : Int32)))), .int (xs (Int32.toNatClampNeg (nI (6 * t) + (2 : Int32)))), .int (xs (Int32.toNatClampNeg (nI (6 * t) + (3 : Int32)))), .int (xs (Int32.toNatClampNeg (nI (6 * t) + (4 : Int32))))] (rest := []) (fun A hD => m_X11_goes hD hc) rfl u472 u87 u475 u473 u474 hd_X11_goes (Nat.le_of_ble_eq_true rfl) (Nat.le_of_ble_eq_true rfl) hk9 hn9 rfl (Nat.le_of_ble_eq_true rfl) dt_L_law_5.1.1.2.2 ?_
  show G oc.1 σm f k n [(4, .int (nI (6 * t))), (3, .ref qo), (2, .ref (b 0)), (1, .ref (a 0)), (0, .ref b0)] 317 [.int oc.2]
  refine l_aload_n M dt_L_law_5.1.2.1.1 rfl 2 rfl ?_
  refine l_aload_n M dt_L_law_5.1.2.1.2 rfl 4 rfl ?_
  refine l_iload M dt_L_law_5.1.2.2.1 0 rfl ?_
  refine l_iconst M dt_L_law_5.1.2.2.2 ki_1 ?_
  refine l_iadd M dt_L_law_5.2.1.1.1 ?_
  refine l_sld M (l_in1 ht hL) dt_L_law_5.2.1.1.2 ?_
  refine l_aload_n M dt_L_law_5.2.1.2.1 rfl 4 rfl ?_
  refine l_iload M dt_L_law_5.2.1.2.2 0 rfl ?_
  refine l_iconst M dt_L_law_5.2.2.1.1 ki_2 ?_
  refine l_iadd M dt_L_law_5.2.2.1.2 ?_
  refine l_sld M (l_in2 ht hL) dt_L_law_5.2.2.2.1 ?_
  refine l_aload_n M dt_L_law_5.2.2.2.2 rfl 4 rfl ?_
  refine l_iload M dt_L_law_6.1.1.1.1 0 rfl ?_
  refine l_iconst M dt_L_law_6.1.1.1.2 ki_3 ?_
  refine l_iadd M dt_L_law_6.1.1.2.1 ?_
  refine l_sld M (l_in3 ht hL) dt_L_law_6.1.1.2.2 ?_
  refine l_aload_n M dt_L_law_6.1.2.1.1 rfl 4 rfl ?_
  refine l_iload M dt_L_law_6.1.2.1.2 0 rfl ?_
  refine l_iconst M dt_L_law_6.1.2.2.1 ki_4 ?_
  refine l_iadd M dt_L_law_6.1.2.2.2 ?_
  refine l_sld M (l_in4 ht hL) dt_L_law_6.2.1.1.1 ?_
  refine l_callM M [.int (xs (Int32.toNatClampNeg (nI (6 * t) + (1 : Int32)))), .int (xs (Int32.toNatClampNeg (nI (6 * t) + (2 : Int32)))), .int (xs (Int32.toNatClampNeg (nI (6 * t) + (3 : Int32)))), .int (xs (Int32.toNatClampNeg (nI (6 * t) + (4 : Int32))))] (rest := [.int oc.2]) (fun A hD => m_X12_goes hD hm) rfl u1522 u99 u1525 u1523 u1524 hd_X12_goes (Nat.le_of_ble_eq_true rfl) (Nat.le_of_ble_eq_true rfl) hk9 hn9 rfl (Nat.le_of_ble_eq_true rfl) dt_L_law_6.2.1.1.2 ?_
  show G oc.1 om.1 f k n [(4, .int (nI (6 * t))), (3, .ref qo), (2, .ref (b 0)), (1, .ref (a 0)), (0, .ref b0)] 345 [.int om.2, .int oc.2]
  exact l_icmp_eq (tgt := 1983) M dt_L_law_6.2.1.2.1 (by decide) (fun _ => kk) (fun q => absurd he q)
set_option maxHeartbeats 2000000 in
theorem lc_street (M : lM l D a b qo cy ad b0 L xs G) (ht : 6 * t + 5 < L) (hL : L ≤ 3072) (hk9 : k ≤ 601024) (hn9 : n ≤ 7293033) {oc : (Zst × Int32)} {om : (Zst × Int32)} (hc : f_X11_street σc (xs (Int32.toNatClampNeg (nI (6 * t) + (1 : Int32)))) = some oc) (hm : f_X12_street σm (xs (Int32.toNatClampNeg (nI (6 * t) + (1 : Int32)))) = some om) (he : oc.2 = om.2) (kk : G oc.1 om.1 f k n [(4, .int (nI (6 * t))), (3, .ref qo), (2, .ref (b 0)), (1, .ref (a 0)), (0, .ref b0)] 1983 []) : G σc σm f k n [(4, .int (nI (6 * t))), (3, .ref qo), (2, .ref (b 0)), (1, .ref (a 0)), (0, .ref b0)] 350 [] := by
  refine l_aload_n M dt_L_law_6.2.2.1.2 rfl 3 rfl ?_
  refine l_aload_n M dt_L_law_6.2.2.2.1 rfl 4 rfl ?_
  refine l_iload M dt_L_law_6.2.2.2.2 0 rfl ?_
  refine l_iconst M dt_L_law_7.1.1.1.1 ki_1 ?_
  refine l_iadd M dt_L_law_7.1.1.1.2 ?_
  refine l_sld M (l_in1 ht hL) dt_L_law_7.1.1.2.1 ?_
  refine l_callC M [.int (xs (Int32.toNatClampNeg (nI (6 * t) + (1 : Int32))))] (rest := []) (fun A hD => m_X11_street hD hc) rfl u484 u87 u487 u485 u486 hd_X11_street (Nat.le_of_ble_eq_true rfl) (Nat.le_of_ble_eq_true rfl) hk9 hn9 rfl (Nat.le_of_ble_eq_true rfl) dt_L_law_7.1.1.2.2 ?_
  show G oc.1 σm f k n [(4, .int (nI (6 * t))), (3, .ref qo), (2, .ref (b 0)), (1, .ref (a 0)), (0, .ref b0)] 360 [.int oc.2]
  refine l_aload_n M dt_L_law_7.1.2.1.1 rfl 2 rfl ?_
  refine l_aload_n M dt_L_law_7.1.2.1.2 rfl 4 rfl ?_
  refine l_iload M dt_L_law_7.1.2.2.1 0 rfl ?_
  refine l_iconst M dt_L_law_7.1.2.2.2 ki_1 ?_
  refine l_iadd M dt_L_law_7.2.1.1.1 ?_
  refine l_sld M (l_in1 ht hL) dt_L_law_7.2.1.1.2 ?_
  refine l_callM M [.int (xs (Int32.toNatClampNeg (nI (6 * t) + (1 : Int32))))] (rest := [.int oc.2]) (fun A hD => m_X12_street hD hm) rfl u1531 u99 u1534 u1532 u1533 hd_X12_street (Nat.le_of_ble_eq_true rfl) (Nat.le_of_ble_eq_true rfl) hk9 hn9 rfl (Nat.le_of_ble_eq_true rfl) dt_L_law_7.2.1.2.1 ?_
  show G oc.1 om.1 f k n [(4, .int (nI (6 * t))), (3, .ref qo), (2, .ref (b 0)), (1, .ref (a 0)), (0, .ref b0)] 370 [.int om.2, .int oc.2]
  exact l_icmp_eq (tgt := 1983) M dt_L_law_7.2.1.2.2 (by decide) (fun _ => kk) (fun q => absurd he q)
set_option maxHeartbeats 2000000 in
theorem lc_lackt (M : lM l D a b qo cy ad b0 L xs G) (ht : 6 * t + 5 < L) (hL : L ≤ 3072) (hk9 : k ≤ 601024) (hn9 : n ≤ 7293033) (h0 : (xs (Int32.toNatClampNeg (nI (6 * t) + (3 : Int32)))) = 0) {oc : (Zst × Int32)} {om : (Zst × Int32)} (hc : f_X11_lack σc (xs (Int32.toNatClampNeg (nI (6 * t) + (1 : Int32)))) (xs (Int32.toNatClampNeg (nI (6 * t) + (2 : Int32)))) (0 : Int32) = some oc) (hm : f_X12_lack σm (xs (Int32.toNatClampNeg (nI (6 * t) + (1 : Int32)))) (xs (Int32.toNatClampNeg (nI (6 * t) + (2 : Int32)))) (0 : Int32) = some om) (he : oc.2 = om.2) (kk : G oc.1 om.1 f k n [(4, .int (nI (6 * t))), (3, .ref qo), (2, .ref (b 0)), (1, .ref (a 0)), (0, .ref b0)] 1983 []) : G σc σm f k n [(4, .int (nI (6 * t))), (3, .ref qo), (2, .ref (b 0)), (1, .ref (a 0)), (0, .ref b0)] 375 [] := by
  refine l_aload_n M dt_L_law_7.2.2.2.1 rfl 3 rfl ?_
  refine l_aload_n M dt_L_law_7.2.2.2.2 rfl 4 rfl ?_
  refine l_iload M dt_L_law_8.1.1.1.1 0 rfl ?_
  refine l_iconst M dt_L_law_8.1.1.1.2 ki_1 ?_
  refine l_iadd M dt_L_law_8.1.1.2.1 ?_
  refine l_sld M (l_in1 ht hL) dt_L_law_8.1.1.2.2 ?_
  refine l_aload_n M dt_L_law_8.1.2.1.1 rfl 4 rfl ?_
  refine l_iload M dt_L_law_8.1.2.1.2 0 rfl ?_
  refine l_iconst M dt_L_law_8.1.2.2.1 ki_2 ?_
  refine l_iadd M dt_L_law_8.1.2.2.2 ?_
  refine l_sld M (l_in2 ht hL) dt_L_law_8.2.1.1.1 ?_
  refine l_aload_n M dt_L_law_8.2.1.1.2 rfl 4 rfl ?_
  refine l_iload M dt_L_law_8.2.1.2.1 0 rfl ?_
  refine l_iconst M dt_L_law_8.2.1.2.2 ki_3 ?_
  refine l_iadd M dt_L_law_8.2.2.1.1 ?_
  refine l_sld M (l_in3 ht hL) dt_L_law_8.2.2.1.2 ?_
  refine l_if_eq (tgt := 401) M dt_L_law_8.2.2.2.1 (by decide) (fun _ => ?_) (fun q => absurd h0 q)
  refine l_iconst M dt_L_law_9.1.1.1.2 ki_0 ?_
  refine l_callC M [.int (xs (Int32.toNatClampNeg (nI (6 * t) + (1 : Int32)))), .int (xs (Int32.toNatClampNeg (nI (6 * t) + (2 : Int32)))), .int (0 : Int32)] (rest := []) (fun A hD => m_X11_lack hD hc) rfl u492 u87 u495 u493 u494 hd_X11_lack (Nat.le_of_ble_eq_true rfl) (Nat.le_of_ble_eq_true rfl) hk9 hn9 rfl (Nat.le_of_ble_eq_true rfl) dt_L_law_9.1.1.2.1 ?_
  show G oc.1 σm f k n [(4, .int (nI (6 * t))), (3, .ref qo), (2, .ref (b 0)), (1, .ref (a 0)), (0, .ref b0)] 405 [.int oc.2]
  refine l_aload_n M dt_L_law_9.1.1.2.2 rfl 2 rfl ?_
  refine l_aload_n M dt_L_law_9.1.2.1.1 rfl 4 rfl ?_
  refine l_iload M dt_L_law_9.1.2.1.2 0 rfl ?_
  refine l_iconst M dt_L_law_9.1.2.2.1 ki_1 ?_
  refine l_iadd M dt_L_law_9.1.2.2.2 ?_
  refine l_sld M (l_in1 ht hL) dt_L_law_9.2.1.1.1 ?_
  refine l_aload_n M dt_L_law_9.2.1.1.2 rfl 4 rfl ?_
  refine l_iload M dt_L_law_9.2.1.2.1 0 rfl ?_
  refine l_iconst M dt_L_law_9.2.1.2.2 ki_2 ?_
  refine l_iadd M dt_L_law_9.2.2.1.1 ?_
  refine l_sld M (l_in2 ht hL) dt_L_law_9.2.2.1.2 ?_
  refine l_aload_n M dt_L_law_9.2.2.2.1 rfl 4 rfl ?_
  refine l_iload M dt_L_law_9.2.2.2.2 0 rfl ?_
  refine l_iconst M dt_L_law_10.1.1.1.1 ki_3 ?_
  refine l_iadd M dt_L_law_10.1.1.1.2 ?_
  refine l_sld M (l_in3 ht hL) dt_L_law_10.1.1.2.1 ?_
  refine l_if_eq (tgt := 431) M dt_L_law_10.1.1.2.2 (by decide) (fun _ => ?_) (fun q => absurd h0 q)
  refine l_iconst M dt_L_law_10.1.2.2.1 ki_0 ?_
  refine l_callM M [.int (xs (Int32.toNatClampNeg (nI (6 * t) + (1 : Int32)))), .int (xs (Int32.toNatClampNeg (nI (6 * t) + (2 : Int32)))), .int (0 : Int32)] (rest := [.int oc.2]) (fun A hD => m_X12_lack hD hm) rfl u1535 u99 u1538 u1536 u1537 hd_X12_lack (Nat.le_of_ble_eq_true rfl) (Nat.le_of_ble_eq_true rfl) hk9 hn9 rfl (Nat.le_of_ble_eq_true rfl) dt_L_law_10.1.2.2.2 ?_
  show G oc.1 om.1 f k n [(4, .int (nI (6 * t))), (3, .ref qo), (2, .ref (b 0)), (1, .ref (a 0)), (0, .ref b0)] 435 [.int om.2, .int oc.2]
  exact l_icmp_eq (tgt := 1983) M dt_L_law_10.2.1.1.1 (by decide) (fun _ => kk) (fun q => absurd he q)
set_option maxHeartbeats 2000000 in
theorem lc_lackf (M : lM l D a b qo cy ad b0 L xs G) (ht : 6 * t + 5 < L) (hL : L ≤ 3072) (hk9 : k ≤ 601024) (hn9 : n ≤ 7293033) (h0 : ¬ (xs (Int32.toNatClampNeg (nI (6 * t) + (3 : Int32)))) = 0) {oc : (Zst × Int32)} {om : (Zst × Int32)} (hc : f_X11_lack σc (xs (Int32.toNatClampNeg (nI (6 * t) + (1 : Int32)))) (xs (Int32.toNatClampNeg (nI (6 * t) + (2 : Int32)))) (1 : Int32) = some oc) (hm : f_X12_lack σm (xs (Int32.toNatClampNeg (nI (6 * t) + (1 : Int32)))) (xs (Int32.toNatClampNeg (nI (6 * t) + (2 : Int32)))) (1 : Int32) = some om) (he : oc.2 = om.2) (kk : G oc.1 om.1 f k n [(4, .int (nI (6 * t))), (3, .ref qo), (2, .ref (b 0)), (1, .ref (a 0)), (0, .ref b0)] 1983 []) : G σc σm f k n [(4, .int (nI (6 * t))), (3, .ref qo), (2, .ref (b 0)), (1, .ref (a 0)), (0, .ref b0)] 375 [] := by
  refine l_aload_n M dt_L_law_7.2.2.2.1 rfl 3 rfl ?_
  refine l_aload_n M dt_L_law_7.2.2.2.2 rfl 4 rfl ?_
  refine l_iload M dt_L_law_8.1.1.1.1 0 rfl ?_
  refine l_iconst M dt_L_law_8.1.1.1.2 ki_1 ?_
  refine l_iadd M dt_L_law_8.1.1.2.1 ?_
  refine l_sld M (l_in1 ht hL) dt_L_law_8.1.1.2.2 ?_
  refine l_aload_n M dt_L_law_8.1.2.1.1 rfl 4 rfl ?_
  refine l_iload M dt_L_law_8.1.2.1.2 0 rfl ?_
  refine l_iconst M dt_L_law_8.1.2.2.1 ki_2 ?_
  refine l_iadd M dt_L_law_8.1.2.2.2 ?_
  refine l_sld M (l_in2 ht hL) dt_L_law_8.2.1.1.1 ?_
  refine l_aload_n M dt_L_law_8.2.1.1.2 rfl 4 rfl ?_
  refine l_iload M dt_L_law_8.2.1.2.1 0 rfl ?_
  refine l_iconst M dt_L_law_8.2.1.2.2 ki_3 ?_
  refine l_iadd M dt_L_law_8.2.2.1.1 ?_
  refine l_sld M (l_in3 ht hL) dt_L_law_8.2.2.1.2 ?_
  refine l_if_eq (tgt := 401) M dt_L_law_8.2.2.2.1 (by decide) (fun q => absurd q h0) (fun _ => ?_)
  refine l_iconst M dt_L_law_8.2.2.2.2 ki_1 ?_
  refine l_goto (tgt := 402) M dt_L_law_9.1.1.1.1 (by decide) ?_
  refine l_callC M [.int (xs (Int32.toNatClampNeg (nI (6 * t) + (1 : Int32)))), .int (xs (Int32.toNatClampNeg (nI (6 * t) + (2 : Int32)))), .int (1 : Int32)] (rest := []) (fun A hD => m_X11_lack hD hc) rfl u492 u87 u495 u493 u494 hd_X11_lack (Nat.le_of_ble_eq_true rfl) (Nat.le_of_ble_eq_true rfl) hk9 hn9 rfl (Nat.le_of_ble_eq_true rfl) dt_L_law_9.1.1.2.1 ?_
  show G oc.1 σm f k n [(4, .int (nI (6 * t))), (3, .ref qo), (2, .ref (b 0)), (1, .ref (a 0)), (0, .ref b0)] 405 [.int oc.2]
  refine l_aload_n M dt_L_law_9.1.1.2.2 rfl 2 rfl ?_
  refine l_aload_n M dt_L_law_9.1.2.1.1 rfl 4 rfl ?_
  refine l_iload M dt_L_law_9.1.2.1.2 0 rfl ?_
  refine l_iconst M dt_L_law_9.1.2.2.1 ki_1 ?_
  refine l_iadd M dt_L_law_9.1.2.2.2 ?_
  refine l_sld M (l_in1 ht hL) dt_L_law_9.2.1.1.1 ?_
  refine l_aload_n M dt_L_law_9.2.1.1.2 rfl 4 rfl ?_
  refine l_iload M dt_L_law_9.2.1.2.1 0 rfl ?_
  refine l_iconst M dt_L_law_9.2.1.2.2 ki_2 ?_
  refine l_iadd M dt_L_law_9.2.2.1.1 ?_
  refine l_sld M (l_in2 ht hL) dt_L_law_9.2.2.1.2 ?_
  refine l_aload_n M dt_L_law_9.2.2.2.1 rfl 4 rfl ?_
  refine l_iload M dt_L_law_9.2.2.2.2 0 rfl ?_
  refine l_iconst M dt_L_law_10.1.1.1.1 ki_3 ?_
  refine l_iadd M dt_L_law_10.1.1.1.2 ?_
  refine l_sld M (l_in3 ht hL) dt_L_law_10.1.1.2.1 ?_
  refine l_if_eq (tgt := 431) M dt_L_law_10.1.1.2.2 (by decide) (fun q => absurd q h0) (fun _ => ?_)
  refine l_iconst M dt_L_law_10.1.2.1.1 ki_1 ?_
  refine l_goto (tgt := 432) M dt_L_law_10.1.2.1.2 (by decide) ?_
  refine l_callM M [.int (xs (Int32.toNatClampNeg (nI (6 * t) + (1 : Int32)))), .int (xs (Int32.toNatClampNeg (nI (6 * t) + (2 : Int32)))), .int (1 : Int32)] (rest := [.int oc.2]) (fun A hD => m_X12_lack hD hm) rfl u1535 u99 u1538 u1536 u1537 hd_X12_lack (Nat.le_of_ble_eq_true rfl) (Nat.le_of_ble_eq_true rfl) hk9 hn9 rfl (Nat.le_of_ble_eq_true rfl) dt_L_law_10.1.2.2.2 ?_
  show G oc.1 om.1 f k n [(4, .int (nI (6 * t))), (3, .ref qo), (2, .ref (b 0)), (1, .ref (a 0)), (0, .ref b0)] 435 [.int om.2, .int oc.2]
  exact l_icmp_eq (tgt := 1983) M dt_L_law_10.2.1.1.1 (by decide) (fun _ => kk) (fun q => absurd he q)
set_option maxHeartbeats 2000000 in
theorem lc_put (M : lM l D a b qo cy ad b0 L xs G) (ht : 6 * t + 5 < L) (hL : L ≤ 3072) (hk9 : k ≤ 601024) (hn9 : n ≤ 7293033) {oc : (Zst × Int32)} {om : (Zst × Int32)} (hc : f_X11_put σc (xs (Int32.toNatClampNeg (nI (6 * t) + (1 : Int32)))) (xs (Int32.toNatClampNeg (nI (6 * t) + (2 : Int32)))) (xs (Int32.toNatClampNeg (nI (6 * t) + (3 : Int32)))) (xs (Int32.toNatClampNeg (nI (6 * t) + (4 : Int32)))) = some oc) (hm : f_X12_put σm (xs (Int32.toNatClampNeg (nI (6 * t) + (1 : Int32)))) (xs (Int32.toNatClampNeg (nI (6 * t) + (2 : Int32)))) (xs (Int32.toNatClampNeg (nI (6 * t) + (3 : Int32)))) (xs (Int32.toNatClampNeg (nI (6 * t) + (4 : Int32)))) = some om) (he : oc.2 = om.2) (kk : G oc.1 om.1 f k n [(4, .int (nI (6 * t))), (3, .ref qo), (2, .ref (b 0)), (1, .ref (a 0)), (0, .ref b0)] 1983 []) : G σc σm f k n [(4, .int (nI (6 * t))), (3, .ref qo), (2, .ref (b 0)), (1, .ref (a 0)), (0, .ref b0)] 440 [] := by
  refine l_aload_n M dt_L_law_10.2.1.2.2 rfl 3 rfl ?_
  refine l_aload_n M dt_L_law_10.2.2.1.1 rfl 4 rfl ?_
  refine l_iload M dt_L_law_10.2.2.1.2 0 rfl ?_
  refine l_iconst M dt_L_law_10.2.2.2.1 ki_1 ?_
  refine l_iadd M dt_L_law_10.2.2.2.2 ?_
  refine l_sld M (l_in1 ht hL) dt_L_law_11.1.1.1.1 ?_
  refine l_aload_n M dt_L_law_11.1.1.1.2 rfl 4 rfl ?_
  refine l_iload M dt_L_law_11.1.1.2.1 0 rfl ?_
  refine l_iconst M dt_L_law_11.1.1.2.2 ki_2 ?_
  refine l_iadd M dt_L_law_11.1.2.1.1 ?_
  refine l_sld M (l_in2 ht hL) dt_L_law_11.1.2.1.2 ?_
  refine l_aload_n M dt_L_law_11.1.2.2.1 rfl 4 rfl ?_
  refine l_iload M dt_L_law_11.1.2.2.2 0 rfl ?_
  refine l_iconst M dt_L_law_11.2.1.1.1 ki_3 ?_
  refine l_iadd M dt_L_law_11.2.1.1.2 ?_
  refine l_sld M (l_in3 ht hL) dt_L_law_11.2.1.2.1 ?_
  refine l_aload_n M dt_L_law_11.2.1.2.2 rfl 4 rfl ?_
  refine l_iload M dt_L_law_11.2.2.1.1 0 rfl ?_
  refine l_iconst M dt_L_law_11.2.2.1.2 ki_4 ?_
  refine l_iadd M dt_L_law_11.2.2.2.1 ?_
  refine l_sld M (l_in4 ht hL) dt_L_law_11.2.2.2.2 ?_
  refine l_callC M [.int (xs (Int32.toNatClampNeg (nI (6 * t) + (1 : Int32)))), .int (xs (Int32.toNatClampNeg (nI (6 * t) + (2 : Int32)))), .int (xs (Int32.toNatClampNeg (nI (6 * t) + (3 : Int32)))), .int (xs (Int32.toNatClampNeg (nI (6 * t) + (4 : Int32))))] (rest := []) (fun A hD => m_X11_put hD hc) rfl u504 u87 u507 u505 u506 hd_X11_put (Nat.le_of_ble_eq_true rfl) (Nat.le_of_ble_eq_true rfl) hk9 hn9 rfl (Nat.le_of_ble_eq_true rfl) dt_L_law_12.1.1.1.1 ?_
  show G oc.1 σm f k n [(4, .int (nI (6 * t))), (3, .ref qo), (2, .ref (b 0)), (1, .ref (a 0)), (0, .ref b0)] 468 [.int oc.2]
  refine l_aload_n M dt_L_law_12.1.1.1.2 rfl 2 rfl ?_
  refine l_aload_n M dt_L_law_12.1.1.2.1 rfl 4 rfl ?_
  refine l_iload M dt_L_law_12.1.1.2.2 0 rfl ?_
  refine l_iconst M dt_L_law_12.1.2.1.1 ki_1 ?_
  refine l_iadd M dt_L_law_12.1.2.1.2 ?_
  refine l_sld M (l_in1 ht hL) dt_L_law_12.1.2.2.1 ?_
  refine l_aload_n M dt_L_law_12.1.2.2.2 rfl 4 rfl ?_
  refine l_iload M dt_L_law_12.2.1.1.1 0 rfl ?_
  refine l_iconst M dt_L_law_12.2.1.1.2 ki_2 ?_
  refine l_iadd M dt_L_law_12.2.1.2.1 ?_
  refine l_sld M (l_in2 ht hL) dt_L_law_12.2.1.2.2 ?_
  refine l_aload_n M dt_L_law_12.2.2.1.1 rfl 4 rfl ?_
  refine l_iload M dt_L_law_12.2.2.1.2 0 rfl ?_
  refine l_iconst M dt_L_law_12.2.2.2.1 ki_3 ?_
  refine l_iadd M dt_L_law_12.2.2.2.2 ?_
  refine l_sld M (l_in3 ht hL) dt_L_law_13.1.1.1.1 ?_
  refine l_aload_n M dt_L_law_13.1.1.1.2 rfl 4 rfl ?_
  refine l_iload M dt_L_law_13.1.1.2.1 0 rfl ?_
  refine l_iconst M dt_L_law_13.1.1.2.2 ki_4 ?_
  refine l_iadd M dt_L_law_13.1.2.1.1 ?_
  refine l_sld M (l_in4 ht hL) dt_L_law_13.1.2.1.2 ?_
  refine l_callM M [.int (xs (Int32.toNatClampNeg (nI (6 * t) + (1 : Int32)))), .int (xs (Int32.toNatClampNeg (nI (6 * t) + (2 : Int32)))), .int (xs (Int32.toNatClampNeg (nI (6 * t) + (3 : Int32)))), .int (xs (Int32.toNatClampNeg (nI (6 * t) + (4 : Int32))))] (rest := [.int oc.2]) (fun A hD => m_X12_put hD hm) rfl u1543 u99 u1546 u1544 u1545 hd_X12_put (Nat.le_of_ble_eq_true rfl) (Nat.le_of_ble_eq_true rfl) hk9 hn9 rfl (Nat.le_of_ble_eq_true rfl) dt_L_law_13.1.2.2.1 ?_
  show G oc.1 om.1 f k n [(4, .int (nI (6 * t))), (3, .ref qo), (2, .ref (b 0)), (1, .ref (a 0)), (0, .ref b0)] 496 [.int om.2, .int oc.2]
  exact l_icmp_eq (tgt := 1983) M dt_L_law_13.1.2.2.2 (by decide) (fun _ => kk) (fun q => absurd he q)
set_option maxHeartbeats 2000000 in
theorem lc_get (M : lM l D a b qo cy ad b0 L xs G) (ht : 6 * t + 5 < L) (hL : L ≤ 3072) (hk9 : k ≤ 601024) (hn9 : n ≤ 7293033) {oc : Int32} {om : (Zst × Int32)} (hc : f_X11_get σc (xs (Int32.toNatClampNeg (nI (6 * t) + (1 : Int32)))) (xs (Int32.toNatClampNeg (nI (6 * t) + (2 : Int32)))) (xs (Int32.toNatClampNeg (nI (6 * t) + (3 : Int32)))) = some oc) (hm : f_X12_get σm (xs (Int32.toNatClampNeg (nI (6 * t) + (1 : Int32)))) (xs (Int32.toNatClampNeg (nI (6 * t) + (2 : Int32)))) (xs (Int32.toNatClampNeg (nI (6 * t) + (3 : Int32)))) = some om) (he : oc = om.2) (kk : G σc om.1 f k n [(4, .int (nI (6 * t))), (3, .ref qo), (2, .ref (b 0)), (1, .ref (a 0)), (0, .ref b0)] 1983 []) : G σc σm f k n [(4, .int (nI (6 * t))), (3, .ref qo), (2, .ref (b 0)), (1, .ref (a 0)), (0, .ref b0)] 501 [] := by
  refine l_aload_n M dt_L_law_13.2.1.2.1 rfl 3 rfl ?_
  refine l_aload_n M dt_L_law_13.2.1.2.2 rfl 4 rfl ?_
  refine l_iload M dt_L_law_13.2.2.1.1 0 rfl ?_
  refine l_iconst M dt_L_law_13.2.2.1.2 ki_1 ?_
  refine l_iadd M dt_L_law_13.2.2.2.1 ?_
  refine l_sld M (l_in1 ht hL) dt_L_law_13.2.2.2.2 ?_
  refine l_aload_n M dt_L_law_14.1.1.1.1 rfl 4 rfl ?_
  refine l_iload M dt_L_law_14.1.1.1.2 0 rfl ?_
  refine l_iconst M dt_L_law_14.1.1.2.1 ki_2 ?_
  refine l_iadd M dt_L_law_14.1.1.2.2 ?_
  refine l_sld M (l_in2 ht hL) dt_L_law_14.1.2.1.1 ?_
  refine l_aload_n M dt_L_law_14.1.2.1.2 rfl 4 rfl ?_
  refine l_iload M dt_L_law_14.1.2.2.1 0 rfl ?_
  refine l_iconst M dt_L_law_14.1.2.2.2 ki_3 ?_
  refine l_iadd M dt_L_law_14.2.1.1.1 ?_
  refine l_sld M (l_in3 ht hL) dt_L_law_14.2.1.1.2 ?_
  refine l_callC M [.int (xs (Int32.toNatClampNeg (nI (6 * t) + (1 : Int32)))), .int (xs (Int32.toNatClampNeg (nI (6 * t) + (2 : Int32)))), .int (xs (Int32.toNatClampNeg (nI (6 * t) + (3 : Int32))))] (rest := []) (fun A hD => m_X11_get hD hc) rfl u534 u87 u537 u535 u536 hd_X11_get (Nat.le_of_ble_eq_true rfl) (Nat.le_of_ble_eq_true rfl) hk9 hn9 rfl (Nat.le_of_ble_eq_true rfl) dt_L_law_14.2.1.2.1 ?_
  show G σc σm f k n [(4, .int (nI (6 * t))), (3, .ref qo), (2, .ref (b 0)), (1, .ref (a 0)), (0, .ref b0)] 523 [.int oc]
  refine l_aload_n M dt_L_law_14.2.1.2.2 rfl 2 rfl ?_
  refine l_aload_n M dt_L_law_14.2.2.1.1 rfl 4 rfl ?_
  refine l_iload M dt_L_law_14.2.2.1.2 0 rfl ?_
  refine l_iconst M dt_L_law_14.2.2.2.1 ki_1 ?_
  refine l_iadd M dt_L_law_14.2.2.2.2 ?_
  refine l_sld M (l_in1 ht hL) dt_L_law_15.1.1.1.1 ?_
  refine l_aload_n M dt_L_law_15.1.1.1.2 rfl 4 rfl ?_
  refine l_iload M dt_L_law_15.1.1.2.1 0 rfl ?_
  refine l_iconst M dt_L_law_15.1.1.2.2 ki_2 ?_
  refine l_iadd M dt_L_law_15.1.2.1.1 ?_
  refine l_sld M (l_in2 ht hL) dt_L_law_15.1.2.1.2 ?_
  refine l_aload_n M dt_L_law_15.1.2.2.1 rfl 4 rfl ?_
  refine l_iload M dt_L_law_15.1.2.2.2 0 rfl ?_
  refine l_iconst M dt_L_law_15.2.1.1.1 ki_3 ?_
  refine l_iadd M dt_L_law_15.2.1.1.2 ?_
  refine l_sld M (l_in3 ht hL) dt_L_law_15.2.1.2.1 ?_
  refine l_callM M [.int (xs (Int32.toNatClampNeg (nI (6 * t) + (1 : Int32)))), .int (xs (Int32.toNatClampNeg (nI (6 * t) + (2 : Int32)))), .int (xs (Int32.toNatClampNeg (nI (6 * t) + (3 : Int32))))] (rest := [.int oc]) (fun A hD => m_X12_get hD hm) rfl u1567 u99 u1570 u1568 u1569 hd_X12_get (Nat.le_of_ble_eq_true rfl) (Nat.le_of_ble_eq_true rfl) hk9 hn9 rfl (Nat.le_of_ble_eq_true rfl) dt_L_law_15.2.1.2.2 ?_
  show G σc om.1 f k n [(4, .int (nI (6 * t))), (3, .ref qo), (2, .ref (b 0)), (1, .ref (a 0)), (0, .ref b0)] 545 [.int om.2, .int oc]
  exact l_icmp_eq (tgt := 1983) M dt_L_law_15.2.2.1.1 (by decide) (fun _ => kk) (fun q => absurd he q)
set_option maxHeartbeats 2000000 in
theorem lc_sheet (M : lM l D a b qo cy ad b0 L xs G) (ht : 6 * t + 5 < L) (hL : L ≤ 3072) (hk9 : k ≤ 601024) (hn9 : n ≤ 7293033) {oc : (Zst × Int32)} {om : (Zst × Int32)} (hc : f_X11_sheet σc (xs (Int32.toNatClampNeg (nI (6 * t) + (1 : Int32)))) (xs (Int32.toNatClampNeg (nI (6 * t) + (2 : Int32)))) (xs (Int32.toNatClampNeg (nI (6 * t) + (3 : Int32)))) (xs (Int32.toNatClampNeg (nI (6 * t) + (4 : Int32)))) (xs (Int32.toNatClampNeg (nI (6 * t) + (5 : Int32)))) = some oc) (hm : f_X12_sheet σm (xs (Int32.toNatClampNeg (nI (6 * t) + (1 : Int32)))) (xs (Int32.toNatClampNeg (nI (6 * t) + (2 : Int32)))) (xs (Int32.toNatClampNeg (nI (6 * t) + (3 : Int32)))) (xs (Int32.toNatClampNeg (nI (6 * t) + (4 : Int32)))) (xs (Int32.toNatClampNeg (nI (6 * t) + (5 : Int32)))) = some om) (he : oc.2 = om.2) (kk : G oc.1 om.1 f k n [(4, .int (nI (6 * t))), (3, .ref qo), (2, .ref (b 0)), (1, .ref (a 0)), (0, .ref b0)] 1983 []) : G σc σm f k n [(4, .int (nI (6 * t))), (3, .ref qo), (2, .ref (b 0)), (1, .ref (a 0)), (0, .ref b0)] 550 [] := by
  refine l_aload_n M dt_L_law_15.2.2.2.2 rfl 3 rfl ?_
  refine l_aload_n M dt_L_law_16.1.1.1.1 rfl 4 rfl ?_
  refine l_iload M dt_L_law_16.1.1.1.2 0 rfl ?_
  refine l_iconst M dt_L_law_16.1.1.2.1 ki_1 ?_
  refine l_iadd M dt_L_law_16.1.1.2.2 ?_
  refine l_sld M (l_in1 ht hL) dt_L_law_16.1.2.1.1 ?_
  refine l_aload_n M dt_L_law_16.1.2.1.2 rfl 4 rfl ?_
  refine l_iload M dt_L_law_16.1.2.2.1 0 rfl ?_
  refine l_iconst M dt_L_law_16.1.2.2.2 ki_2 ?_
  refine l_iadd M dt_L_law_16.2.1.1.1 ?_
  refine l_sld M (l_in2 ht hL) dt_L_law_16.2.1.1.2 ?_
  refine l_aload_n M dt_L_law_16.2.1.2.1 rfl 4 rfl ?_
  refine l_iload M dt_L_law_16.2.1.2.2 0 rfl ?_
  refine l_iconst M dt_L_law_16.2.2.1.1 ki_3 ?_
  refine l_iadd M dt_L_law_16.2.2.1.2 ?_
  refine l_sld M (l_in3 ht hL) dt_L_law_16.2.2.2.1 ?_
  refine l_aload_n M dt_L_law_16.2.2.2.2 rfl 4 rfl ?_
  refine l_iload M dt_L_law_17.1.1.1.1 0 rfl ?_
  refine l_iconst M dt_L_law_17.1.1.1.2 ki_4 ?_
  refine l_iadd M dt_L_law_17.1.1.2.1 ?_
  refine l_sld M (l_in4 ht hL) dt_L_law_17.1.1.2.2 ?_
  refine l_aload_n M dt_L_law_17.1.2.1.1 rfl 4 rfl ?_
  refine l_iload M dt_L_law_17.1.2.1.2 0 rfl ?_
  refine l_iconst M dt_L_law_17.1.2.2.1 ki_5 ?_
  refine l_iadd M dt_L_law_17.1.2.2.2 ?_
  refine l_sld M (l_in5 ht hL) dt_L_law_17.2.1.1.1 ?_
  refine l_callC M [.int (xs (Int32.toNatClampNeg (nI (6 * t) + (1 : Int32)))), .int (xs (Int32.toNatClampNeg (nI (6 * t) + (2 : Int32)))), .int (xs (Int32.toNatClampNeg (nI (6 * t) + (3 : Int32)))), .int (xs (Int32.toNatClampNeg (nI (6 * t) + (4 : Int32)))), .int (xs (Int32.toNatClampNeg (nI (6 * t) + (5 : Int32))))] (rest := []) (fun A hD => m_X11_sheet hD hc) rfl u538 u87 u541 u539 u540 hd_X11_sheet (Nat.le_of_ble_eq_true rfl) (Nat.le_of_ble_eq_true rfl) hk9 hn9 rfl (Nat.le_of_ble_eq_true rfl) dt_L_law_17.2.1.1.2 ?_
  show G oc.1 σm f k n [(4, .int (nI (6 * t))), (3, .ref qo), (2, .ref (b 0)), (1, .ref (a 0)), (0, .ref b0)] 584 [.int oc.2]
  refine l_aload_n M dt_L_law_17.2.1.2.1 rfl 2 rfl ?_
  refine l_aload_n M dt_L_law_17.2.1.2.2 rfl 4 rfl ?_
  refine l_iload M dt_L_law_17.2.2.1.1 0 rfl ?_
  refine l_iconst M dt_L_law_17.2.2.1.2 ki_1 ?_
  refine l_iadd M dt_L_law_17.2.2.2.1 ?_
  refine l_sld M (l_in1 ht hL) dt_L_law_17.2.2.2.2 ?_
  refine l_aload_n M dt_L_law_18.1.1.1.1 rfl 4 rfl ?_
  refine l_iload M dt_L_law_18.1.1.1.2 0 rfl ?_
  refine l_iconst M dt_L_law_18.1.1.2.1 ki_2 ?_
  refine l_iadd M dt_L_law_18.1.1.2.2 ?_
  refine l_sld M (l_in2 ht hL) dt_L_law_18.1.2.1.1 ?_
  refine l_aload_n M dt_L_law_18.1.2.1.2 rfl 4 rfl ?_
  refine l_iload M dt_L_law_18.1.2.2.1 0 rfl ?_
  refine l_iconst M dt_L_law_18.1.2.2.2 ki_3 ?_
  refine l_iadd M dt_L_law_18.2.1.1.1 ?_
  refine l_sld M (l_in3 ht hL) dt_L_law_18.2.1.1.2 ?_
  refine l_aload_n M dt_L_law_18.2.1.2.1 rfl 4 rfl ?_
  refine l_iload M dt_L_law_18.2.1.2.2 0 rfl ?_
  refine l_iconst M dt_L_law_18.2.2.1.1 ki_4 ?_
  refine l_iadd M dt_L_law_18.2.2.1.2 ?_
  refine l_sld M (l_in4 ht hL) dt_L_law_18.2.2.2.1 ?_
  refine l_aload_n M dt_L_law_18.2.2.2.2 rfl 4 rfl ?_
  refine l_iload M dt_L_law_19.1.1.1.1 0 rfl ?_
  refine l_iconst M dt_L_law_19.1.1.1.2 ki_5 ?_
  refine l_iadd M dt_L_law_19.1.1.2.1 ?_
  refine l_sld M (l_in5 ht hL) dt_L_law_19.1.1.2.2 ?_
  refine l_callM M [.int (xs (Int32.toNatClampNeg (nI (6 * t) + (1 : Int32)))), .int (xs (Int32.toNatClampNeg (nI (6 * t) + (2 : Int32)))), .int (xs (Int32.toNatClampNeg (nI (6 * t) + (3 : Int32)))), .int (xs (Int32.toNatClampNeg (nI (6 * t) + (4 : Int32)))), .int (xs (Int32.toNatClampNeg (nI (6 * t) + (5 : Int32))))] (rest := [.int oc.2]) (fun A hD => m_X12_sheet hD hm) rfl u1571 u99 u1574 u1572 u1573 hd_X12_sheet (Nat.le_of_ble_eq_true rfl) (Nat.le_of_ble_eq_true rfl) hk9 hn9 rfl (Nat.le_of_ble_eq_true rfl) dt_L_law_19.1.2.1.1 ?_
  show G oc.1 om.1 f k n [(4, .int (nI (6 * t))), (3, .ref qo), (2, .ref (b 0)), (1, .ref (a 0)), (0, .ref b0)] 618 [.int om.2, .int oc.2]
  exact l_icmp_eq (tgt := 1983) M dt_L_law_19.1.2.1.2 (by decide) (fun _ => kk) (fun q => absurd he q)
set_option maxHeartbeats 2000000 in
theorem lc_sign (M : lM l D a b qo cy ad b0 L xs G) (ht : 6 * t + 5 < L) (hL : L ≤ 3072) (hk9 : k ≤ 601024) (hn9 : n ≤ 7293033) {oc : (Zst × Int32)} {om : (Zst × Int32)} (hc : f_X11_sign σc (xs (Int32.toNatClampNeg (nI (6 * t) + (1 : Int32)))) = some oc) (hm : f_X12_sign σm (xs (Int32.toNatClampNeg (nI (6 * t) + (1 : Int32)))) = some om) (he : oc.2 = om.2) (kk : G oc.1 om.1 f k n [(4, .int (nI (6 * t))), (3, .ref qo), (2, .ref (b 0)), (1, .ref (a 0)), (0, .ref b0)] 1983 []) : G σc σm f k n [(4, .int (nI (6 * t))), (3, .ref qo), (2, .ref (b 0)), (1, .ref (a 0)), (0, .ref b0)] 623 [] := by
  refine l_aload_n M dt_L_law_19.2.1.1.1 rfl 3 rfl ?_
  refine l_aload_n M dt_L_law_19.2.1.1.2 rfl 4 rfl ?_
  refine l_iload M dt_L_law_19.2.1.2.1 0 rfl ?_
  refine l_iconst M dt_L_law_19.2.1.2.2 ki_1 ?_
  refine l_iadd M dt_L_law_19.2.2.1.1 ?_
  refine l_sld M (l_in1 ht hL) dt_L_law_19.2.2.1.2 ?_
  refine l_callC M [.int (xs (Int32.toNatClampNeg (nI (6 * t) + (1 : Int32))))] (rest := []) (fun A hD => m_X11_sign hD hc) rfl u553 u87 u556 u554 u555 hd_X11_sign (Nat.le_of_ble_eq_true rfl) (Nat.le_of_ble_eq_true rfl) hk9 hn9 rfl (Nat.le_of_ble_eq_true rfl) dt_L_law_19.2.2.2.1 ?_
  show G oc.1 σm f k n [(4, .int (nI (6 * t))), (3, .ref qo), (2, .ref (b 0)), (1, .ref (a 0)), (0, .ref b0)] 633 [.int oc.2]
  refine l_aload_n M dt_L_law_19.2.2.2.2 rfl 2 rfl ?_
  refine l_aload_n M dt_L_law_20.1.1.1.1 rfl 4 rfl ?_
  refine l_iload M dt_L_law_20.1.1.1.2 0 rfl ?_
  refine l_iconst M dt_L_law_20.1.1.2.1 ki_1 ?_
  refine l_iadd M dt_L_law_20.1.1.2.2 ?_
  refine l_sld M (l_in1 ht hL) dt_L_law_20.1.2.1.1 ?_
  refine l_callM M [.int (xs (Int32.toNatClampNeg (nI (6 * t) + (1 : Int32))))] (rest := [.int oc.2]) (fun A hD => m_X12_sign hD hm) rfl u1577 u99 u1580 u1578 u1579 hd_X12_sign (Nat.le_of_ble_eq_true rfl) (Nat.le_of_ble_eq_true rfl) hk9 hn9 rfl (Nat.le_of_ble_eq_true rfl) dt_L_law_20.1.2.1.2 ?_
  show G oc.1 om.1 f k n [(4, .int (nI (6 * t))), (3, .ref qo), (2, .ref (b 0)), (1, .ref (a 0)), (0, .ref b0)] 643 [.int om.2, .int oc.2]
  exact l_icmp_eq (tgt := 1983) M dt_L_law_20.1.2.2.1 (by decide) (fun _ => kk) (fun q => absurd he q)
set_option maxHeartbeats 2000000 in
theorem lc_end (M : lM l D a b qo cy ad b0 L xs G) (ht : 6 * t + 5 < L) (hL : L ≤ 3072) (hk9 : k ≤ 601024) (hn9 : n ≤ 7293033) {oc : (Zst × Int32)} {om : (Zst × Int32)} (hc : f_X11_end σc (xs (Int32.toNatClampNeg (nI (6 * t) + (1 : Int32)))) = some oc) (hm : f_X12_end σm (xs (Int32.toNatClampNeg (nI (6 * t) + (1 : Int32)))) = some om) (he : oc.2 = om.2) (kk : G oc.1 om.1 f k n [(4, .int (nI (6 * t))), (3, .ref qo), (2, .ref (b 0)), (1, .ref (a 0)), (0, .ref b0)] 1983 []) : G σc σm f k n [(4, .int (nI (6 * t))), (3, .ref qo), (2, .ref (b 0)), (1, .ref (a 0)), (0, .ref b0)] 648 [] := by
  refine l_aload_n M dt_L_law_20.2.1.1.2 rfl 3 rfl ?_
  refine l_aload_n M dt_L_law_20.2.1.2.1 rfl 4 rfl ?_
  refine l_iload M dt_L_law_20.2.1.2.2 0 rfl ?_
  refine l_iconst M dt_L_law_20.2.2.1.1 ki_1 ?_
  refine l_iadd M dt_L_law_20.2.2.1.2 ?_
  refine l_sld M (l_in1 ht hL) dt_L_law_20.2.2.2.1 ?_
  refine l_callC M [.int (xs (Int32.toNatClampNeg (nI (6 * t) + (1 : Int32))))] (rest := []) (fun A hD => m_X11_end hD hc) rfl u561 u87 u564 u562 u563 hd_X11_end (Nat.le_of_ble_eq_true rfl) (Nat.le_of_ble_eq_true rfl) hk9 hn9 rfl (Nat.le_of_ble_eq_true rfl) dt_L_law_20.2.2.2.2 ?_
  show G oc.1 σm f k n [(4, .int (nI (6 * t))), (3, .ref qo), (2, .ref (b 0)), (1, .ref (a 0)), (0, .ref b0)] 658 [.int oc.2]
  refine l_aload_n M dt_L_law_21.1.1.1.1 rfl 2 rfl ?_
  refine l_aload_n M dt_L_law_21.1.1.1.2 rfl 4 rfl ?_
  refine l_iload M dt_L_law_21.1.1.2.1 0 rfl ?_
  refine l_iconst M dt_L_law_21.1.1.2.2 ki_1 ?_
  refine l_iadd M dt_L_law_21.1.2.1.1 ?_
  refine l_sld M (l_in1 ht hL) dt_L_law_21.1.2.1.2 ?_
  refine l_callM M [.int (xs (Int32.toNatClampNeg (nI (6 * t) + (1 : Int32))))] (rest := [.int oc.2]) (fun A hD => m_X12_end hD hm) rfl u1581 u99 u1584 u1582 u1583 hd_X12_end (Nat.le_of_ble_eq_true rfl) (Nat.le_of_ble_eq_true rfl) hk9 hn9 rfl (Nat.le_of_ble_eq_true rfl) dt_L_law_21.1.2.2.1 ?_
  show G oc.1 om.1 f k n [(4, .int (nI (6 * t))), (3, .ref qo), (2, .ref (b 0)), (1, .ref (a 0)), (0, .ref b0)] 668 [.int om.2, .int oc.2]
  exact l_icmp_eq (tgt := 1983) M dt_L_law_21.1.2.2.2 (by decide) (fun _ => kk) (fun q => absurd he q)
set_option maxHeartbeats 2000000 in
theorem lc_law (M : lM l D a b qo cy ad b0 L xs G) (ht : 6 * t + 5 < L) (hL : L ≤ 3072) (hk9 : k ≤ 601024) (hn9 : n ≤ 7293033) {oc : (Zst × Int32)} {om : (Zst × Int32)} (hc : f_X11_law σc (xs (Int32.toNatClampNeg (nI (6 * t) + (1 : Int32)))) = some oc) (hm : f_X12_law σm (xs (Int32.toNatClampNeg (nI (6 * t) + (1 : Int32)))) = some om) (he : oc.2 = om.2) (kk : G oc.1 om.1 f k n [(4, .int (nI (6 * t))), (3, .ref qo), (2, .ref (b 0)), (1, .ref (a 0)), (0, .ref b0)] 1983 []) : G σc σm f k n [(4, .int (nI (6 * t))), (3, .ref qo), (2, .ref (b 0)), (1, .ref (a 0)), (0, .ref b0)] 673 [] := by
  refine l_aload_n M dt_L_law_21.2.1.2.1 rfl 3 rfl ?_
  refine l_aload_n M dt_L_law_21.2.1.2.2 rfl 4 rfl ?_
  refine l_iload M dt_L_law_21.2.2.1.1 0 rfl ?_
  refine l_iconst M dt_L_law_21.2.2.1.2 ki_1 ?_
  refine l_iadd M dt_L_law_21.2.2.2.1 ?_
  refine l_sld M (l_in1 ht hL) dt_L_law_21.2.2.2.2 ?_
  refine l_callC M [.int (xs (Int32.toNatClampNeg (nI (6 * t) + (1 : Int32))))] (rest := []) (fun A hD => m_X11_law hD hc) rfl u569 u87 u572 u570 u571 hd_X11_law (Nat.le_of_ble_eq_true rfl) (Nat.le_of_ble_eq_true rfl) hk9 hn9 rfl (Nat.le_of_ble_eq_true rfl) dt_L_law_22.1.1.1.1 ?_
  show G oc.1 σm f k n [(4, .int (nI (6 * t))), (3, .ref qo), (2, .ref (b 0)), (1, .ref (a 0)), (0, .ref b0)] 683 [.int oc.2]
  refine l_aload_n M dt_L_law_22.1.1.1.2 rfl 2 rfl ?_
  refine l_aload_n M dt_L_law_22.1.1.2.1 rfl 4 rfl ?_
  refine l_iload M dt_L_law_22.1.1.2.2 0 rfl ?_
  refine l_iconst M dt_L_law_22.1.2.1.1 ki_1 ?_
  refine l_iadd M dt_L_law_22.1.2.1.2 ?_
  refine l_sld M (l_in1 ht hL) dt_L_law_22.1.2.2.1 ?_
  refine l_callM M [.int (xs (Int32.toNatClampNeg (nI (6 * t) + (1 : Int32))))] (rest := [.int oc.2]) (fun A hD => m_X12_law hD hm) rfl u1585 u99 u1588 u1586 u1587 hd_X12_law (Nat.le_of_ble_eq_true rfl) (Nat.le_of_ble_eq_true rfl) hk9 hn9 rfl (Nat.le_of_ble_eq_true rfl) dt_L_law_22.1.2.2.2 ?_
  show G oc.1 om.1 f k n [(4, .int (nI (6 * t))), (3, .ref qo), (2, .ref (b 0)), (1, .ref (a 0)), (0, .ref b0)] 693 [.int om.2, .int oc.2]
  exact l_icmp_eq (tgt := 1983) M dt_L_law_22.2.1.1.1 (by decide) (fun _ => kk) (fun q => absurd he q)
set_option maxHeartbeats 2000000 in
theorem lc_live (M : lM l D a b qo cy ad b0 L xs G) (ht : 6 * t + 5 < L) (hL : L ≤ 3072) (hk9 : k ≤ 601024) (hn9 : n ≤ 7293033) {oc : (Zst × Int32)} {om : (Zst × Int32)} (hc : f_X11_live σc (xs (Int32.toNatClampNeg (nI (6 * t) + (1 : Int32)))) (xs (Int32.toNatClampNeg (nI (6 * t) + (2 : Int32)))) = some oc) (hm : f_X12_live σm (xs (Int32.toNatClampNeg (nI (6 * t) + (1 : Int32)))) (xs (Int32.toNatClampNeg (nI (6 * t) + (2 : Int32)))) = some om) (he : oc.2 = om.2) (kk : G oc.1 om.1 f k n [(4, .int (nI (6 * t))), (3, .ref qo), (2, .ref (b 0)), (1, .ref (a 0)), (0, .ref b0)] 1983 []) : G σc σm f k n [(4, .int (nI (6 * t))), (3, .ref qo), (2, .ref (b 0)), (1, .ref (a 0)), (0, .ref b0)] 698 [] := by
  refine l_aload_n M dt_L_law_22.2.1.2.2 rfl 3 rfl ?_
  refine l_aload_n M dt_L_law_22.2.2.1.1 rfl 4 rfl ?_
  refine l_iload M dt_L_law_22.2.2.1.2 0 rfl ?_
  refine l_iconst M dt_L_law_22.2.2.2.1 ki_1 ?_
  refine l_iadd M dt_L_law_22.2.2.2.2 ?_
  refine l_sld M (l_in1 ht hL) dt_L_law_23.1.1.1.1 ?_
  refine l_aload_n M dt_L_law_23.1.1.1.2 rfl 4 rfl ?_
  refine l_iload M dt_L_law_23.1.1.2.1 0 rfl ?_
  refine l_iconst M dt_L_law_23.1.1.2.2 ki_2 ?_
  refine l_iadd M dt_L_law_23.1.2.1.1 ?_
  refine l_sld M (l_in2 ht hL) dt_L_law_23.1.2.1.2 ?_
  refine l_callC M [.int (xs (Int32.toNatClampNeg (nI (6 * t) + (1 : Int32)))), .int (xs (Int32.toNatClampNeg (nI (6 * t) + (2 : Int32))))] (rest := []) (fun A hD => m_X11_live hD hc) rfl u745 u87 u748 u746 u747 hd_X11_live (Nat.le_of_ble_eq_true rfl) (Nat.le_of_ble_eq_true rfl) hk9 hn9 rfl (Nat.le_of_ble_eq_true rfl) dt_L_law_23.1.2.2.1 ?_
  show G oc.1 σm f k n [(4, .int (nI (6 * t))), (3, .ref qo), (2, .ref (b 0)), (1, .ref (a 0)), (0, .ref b0)] 714 [.int oc.2]
  refine l_aload_n M dt_L_law_23.1.2.2.2 rfl 2 rfl ?_
  refine l_aload_n M dt_L_law_23.2.1.1.1 rfl 4 rfl ?_
  refine l_iload M dt_L_law_23.2.1.1.2 0 rfl ?_
  refine l_iconst M dt_L_law_23.2.1.2.1 ki_1 ?_
  refine l_iadd M dt_L_law_23.2.1.2.2 ?_
  refine l_sld M (l_in1 ht hL) dt_L_law_23.2.2.1.1 ?_
  refine l_aload_n M dt_L_law_23.2.2.1.2 rfl 4 rfl ?_
  refine l_iload M dt_L_law_23.2.2.2.1 0 rfl ?_
  refine l_iconst M dt_L_law_23.2.2.2.2 ki_2 ?_
  refine l_iadd M dt_L_law_24.1.1.1.1 ?_
  refine l_sld M (l_in2 ht hL) dt_L_law_24.1.1.1.2 ?_
  refine l_callM M [.int (xs (Int32.toNatClampNeg (nI (6 * t) + (1 : Int32)))), .int (xs (Int32.toNatClampNeg (nI (6 * t) + (2 : Int32))))] (rest := [.int oc.2]) (fun A hD => m_X12_live hD hm) rfl u1655 u99 u1658 u1656 u1657 hd_X12_live (Nat.le_of_ble_eq_true rfl) (Nat.le_of_ble_eq_true rfl) hk9 hn9 rfl (Nat.le_of_ble_eq_true rfl) dt_L_law_24.1.1.2.1 ?_
  show G oc.1 om.1 f k n [(4, .int (nI (6 * t))), (3, .ref qo), (2, .ref (b 0)), (1, .ref (a 0)), (0, .ref b0)] 730 [.int om.2, .int oc.2]
  exact l_icmp_eq (tgt := 1983) M dt_L_law_24.1.1.2.2 (by decide) (fun _ => kk) (fun q => absurd he q)
set_option maxHeartbeats 2000000 in
theorem lc_seed (M : lM l D a b qo cy ad b0 L xs G) (ht : 6 * t + 5 < L) (hL : L ≤ 3072) (hk9 : k ≤ 601024) (hn9 : n ≤ 7293033) {oc : (Zst × Int32)} {om : (Zst × Int32)} (hc : f_X11_seed σc (xs (Int32.toNatClampNeg (nI (6 * t) + (1 : Int32)))) = some oc) (hm : f_X12_seed σm (xs (Int32.toNatClampNeg (nI (6 * t) + (1 : Int32)))) = some om) (he : oc.2 = om.2) (kk : G oc.1 om.1 f k n [(4, .int (nI (6 * t))), (3, .ref qo), (2, .ref (b 0)), (1, .ref (a 0)), (0, .ref b0)] 1983 []) : G σc σm f k n [(4, .int (nI (6 * t))), (3, .ref qo), (2, .ref (b 0)), (1, .ref (a 0)), (0, .ref b0)] 735 [] := by
  refine l_aload_n M dt_L_law_24.1.2.2.1 rfl 3 rfl ?_
  refine l_aload_n M dt_L_law_24.1.2.2.2 rfl 4 rfl ?_
  refine l_iload M dt_L_law_24.2.1.1.1 0 rfl ?_
  refine l_iconst M dt_L_law_24.2.1.1.2 ki_1 ?_
  refine l_iadd M dt_L_law_24.2.1.2.1 ?_
  refine l_sld M (l_in1 ht hL) dt_L_law_24.2.1.2.2 ?_
  refine l_callC M [.int (xs (Int32.toNatClampNeg (nI (6 * t) + (1 : Int32))))] (rest := []) (fun A hD => m_X11_seed hD hc) rfl u843 u87 u846 u844 u845 hd_X11_seed (Nat.le_of_ble_eq_true rfl) (Nat.le_of_ble_eq_true rfl) hk9 hn9 rfl (Nat.le_of_ble_eq_true rfl) dt_L_law_24.2.2.1.1 ?_
  show G oc.1 σm f k n [(4, .int (nI (6 * t))), (3, .ref qo), (2, .ref (b 0)), (1, .ref (a 0)), (0, .ref b0)] 745 [.int oc.2]
  refine l_aload_n M dt_L_law_24.2.2.1.2 rfl 2 rfl ?_
  refine l_aload_n M dt_L_law_24.2.2.2.1 rfl 4 rfl ?_
  refine l_iload M dt_L_law_24.2.2.2.2 0 rfl ?_
  refine l_iconst M dt_L_law_25.1.1.1.1 ki_1 ?_
  refine l_iadd M dt_L_law_25.1.1.1.2 ?_
  refine l_sld M (l_in1 ht hL) dt_L_law_25.1.1.2.1 ?_
  refine l_callM M [.int (xs (Int32.toNatClampNeg (nI (6 * t) + (1 : Int32))))] (rest := [.int oc.2]) (fun A hD => m_X12_seed hD hm) rfl u1691 u99 u1694 u1692 u1693 hd_X12_seed (Nat.le_of_ble_eq_true rfl) (Nat.le_of_ble_eq_true rfl) hk9 hn9 rfl (Nat.le_of_ble_eq_true rfl) dt_L_law_25.1.1.2.2 ?_
  show G oc.1 om.1 f k n [(4, .int (nI (6 * t))), (3, .ref qo), (2, .ref (b 0)), (1, .ref (a 0)), (0, .ref b0)] 755 [.int om.2, .int oc.2]
  exact l_icmp_eq (tgt := 1983) M dt_L_law_25.1.2.1.1 (by decide) (fun _ => kk) (fun q => absurd he q)
set_option maxHeartbeats 2000000 in
theorem lc_sum (M : lM l D a b qo cy ad b0 L xs G) (ht : 6 * t + 5 < L) (hL : L ≤ 3072) (hk9 : k ≤ 601024) (hn9 : n ≤ 7293033) {oc : (Zst × Int32)} {om : (Zst × Int32)} (hc : f_X11_sum σc (xs (Int32.toNatClampNeg (nI (6 * t) + (1 : Int32)))) (xs (Int32.toNatClampNeg (nI (6 * t) + (2 : Int32)))) (xs (Int32.toNatClampNeg (nI (6 * t) + (3 : Int32)))) (xs (Int32.toNatClampNeg (nI (6 * t) + (4 : Int32)))) = some oc) (hm : f_X12_sum σm (xs (Int32.toNatClampNeg (nI (6 * t) + (1 : Int32)))) (xs (Int32.toNatClampNeg (nI (6 * t) + (2 : Int32)))) (xs (Int32.toNatClampNeg (nI (6 * t) + (3 : Int32)))) (xs (Int32.toNatClampNeg (nI (6 * t) + (4 : Int32)))) = some om) (he : oc.2 = om.2) (kk : G oc.1 om.1 f k n [(4, .int (nI (6 * t))), (3, .ref qo), (2, .ref (b 0)), (1, .ref (a 0)), (0, .ref b0)] 1983 []) : G σc σm f k n [(4, .int (nI (6 * t))), (3, .ref qo), (2, .ref (b 0)), (1, .ref (a 0)), (0, .ref b0)] 760 [] := by
  refine l_aload_n M dt_L_law_25.1.2.2.2 rfl 3 rfl ?_
  refine l_aload_n M dt_L_law_25.2.1.1.1 rfl 4 rfl ?_
  refine l_iload M dt_L_law_25.2.1.1.2 0 rfl ?_
  refine l_iconst M dt_L_law_25.2.1.2.1 ki_1 ?_
  refine l_iadd M dt_L_law_25.2.1.2.2 ?_
  refine l_sld M (l_in1 ht hL) dt_L_law_25.2.2.1.1 ?_
  refine l_aload_n M dt_L_law_25.2.2.1.2 rfl 4 rfl ?_
  refine l_iload M dt_L_law_25.2.2.2.1 0 rfl ?_
  refine l_iconst M dt_L_law_25.2.2.2.2 ki_2 ?_
  refine l_iadd M dt_L_law_26.1.1.1.1 ?_
  refine l_sld M (l_in2 ht hL) dt_L_law_26.1.1.1.2 ?_
  refine l_aload_n M dt_L_law_26.1.1.2.1 rfl 4 rfl ?_
  refine l_iload M dt_L_law_26.1.1.2.2 0 rfl ?_
  refine l_iconst M dt_L_law_26.1.2.1.1 ki_3 ?_
  refine l_iadd M dt_L_law_26.1.2.1.2 ?_
  refine l_sld M (l_in3 ht hL) dt_L_law_26.1.2.2.1 ?_
  refine l_aload_n M dt_L_law_26.1.2.2.2 rfl 4 rfl ?_
  refine l_iload M dt_L_law_26.2.1.1.1 0 rfl ?_
  refine l_iconst M dt_L_law_26.2.1.1.2 ki_4 ?_
  refine l_iadd M dt_L_law_26.2.1.2.1 ?_
  refine l_sld M (l_in4 ht hL) dt_L_law_26.2.1.2.2 ?_
  refine l_callC M [.int (xs (Int32.toNatClampNeg (nI (6 * t) + (1 : Int32)))), .int (xs (Int32.toNatClampNeg (nI (6 * t) + (2 : Int32)))), .int (xs (Int32.toNatClampNeg (nI (6 * t) + (3 : Int32)))), .int (xs (Int32.toNatClampNeg (nI (6 * t) + (4 : Int32))))] (rest := []) (fun A hD => m_X11_sum hD hc) rfl u851 u87 u854 u852 u853 hd_X11_sum (Nat.le_of_ble_eq_true rfl) (Nat.le_of_ble_eq_true rfl) hk9 hn9 rfl (Nat.le_of_ble_eq_true rfl) dt_L_law_26.2.2.1.1 ?_
  show G oc.1 σm f k n [(4, .int (nI (6 * t))), (3, .ref qo), (2, .ref (b 0)), (1, .ref (a 0)), (0, .ref b0)] 788 [.int oc.2]
  refine l_aload_n M dt_L_law_26.2.2.1.2 rfl 2 rfl ?_
  refine l_aload_n M dt_L_law_26.2.2.2.1 rfl 4 rfl ?_
  refine l_iload M dt_L_law_26.2.2.2.2 0 rfl ?_
  refine l_iconst M dt_L_law_27.1.1.1.1 ki_1 ?_
  refine l_iadd M dt_L_law_27.1.1.1.2 ?_
  refine l_sld M (l_in1 ht hL) dt_L_law_27.1.1.2.1 ?_
  refine l_aload_n M dt_L_law_27.1.1.2.2 rfl 4 rfl ?_
  refine l_iload M dt_L_law_27.1.2.1.1 0 rfl ?_
  refine l_iconst M dt_L_law_27.1.2.1.2 ki_2 ?_
  refine l_iadd M dt_L_law_27.1.2.2.1 ?_
  refine l_sld M (l_in2 ht hL) dt_L_law_27.1.2.2.2 ?_
  refine l_aload_n M dt_L_law_27.2.1.1.1 rfl 4 rfl ?_
  refine l_iload M dt_L_law_27.2.1.1.2 0 rfl ?_
  refine l_iconst M dt_L_law_27.2.1.2.1 ki_3 ?_
  refine l_iadd M dt_L_law_27.2.1.2.2 ?_
  refine l_sld M (l_in3 ht hL) dt_L_law_27.2.2.1.1 ?_
  refine l_aload_n M dt_L_law_27.2.2.1.2 rfl 4 rfl ?_
  refine l_iload M dt_L_law_27.2.2.2.1 0 rfl ?_
  refine l_iconst M dt_L_law_27.2.2.2.2 ki_4 ?_
  refine l_iadd M dt_L_law_28.1.1.1.1 ?_
  refine l_sld M (l_in4 ht hL) dt_L_law_28.1.1.1.2 ?_
  refine l_callM M [.int (xs (Int32.toNatClampNeg (nI (6 * t) + (1 : Int32)))), .int (xs (Int32.toNatClampNeg (nI (6 * t) + (2 : Int32)))), .int (xs (Int32.toNatClampNeg (nI (6 * t) + (3 : Int32)))), .int (xs (Int32.toNatClampNeg (nI (6 * t) + (4 : Int32))))] (rest := [.int oc.2]) (fun A hD => m_X12_sum hD hm) rfl u1695 u99 u1698 u1696 u1697 hd_X12_sum (Nat.le_of_ble_eq_true rfl) (Nat.le_of_ble_eq_true rfl) hk9 hn9 rfl (Nat.le_of_ble_eq_true rfl) dt_L_law_28.1.1.2.1 ?_
  show G oc.1 om.1 f k n [(4, .int (nI (6 * t))), (3, .ref qo), (2, .ref (b 0)), (1, .ref (a 0)), (0, .ref b0)] 816 [.int om.2, .int oc.2]
  exact l_icmp_eq (tgt := 1983) M dt_L_law_28.1.1.2.2 (by decide) (fun _ => kk) (fun q => absurd he q)
set_option maxHeartbeats 2000000 in
theorem lc_bounds (M : lM l D a b qo cy ad b0 L xs G) (ht : 6 * t + 5 < L) (hL : L ≤ 3072) (hk9 : k ≤ 601024) (hn9 : n ≤ 7293033) {oc : (Zst × Int32)} {om : (Zst × Int32)} (hc : f_X11_bounds σc (xs (Int32.toNatClampNeg (nI (6 * t) + (1 : Int32)))) (xs (Int32.toNatClampNeg (nI (6 * t) + (2 : Int32)))) (xs (Int32.toNatClampNeg (nI (6 * t) + (3 : Int32)))) = some oc) (hm : f_X12_bounds σm (xs (Int32.toNatClampNeg (nI (6 * t) + (1 : Int32)))) (xs (Int32.toNatClampNeg (nI (6 * t) + (2 : Int32)))) (xs (Int32.toNatClampNeg (nI (6 * t) + (3 : Int32)))) = some om) (he : oc.2 = om.2) (kk : G oc.1 om.1 f k n [(4, .int (nI (6 * t))), (3, .ref qo), (2, .ref (b 0)), (1, .ref (a 0)), (0, .ref b0)] 1983 []) : G σc σm f k n [(4, .int (nI (6 * t))), (3, .ref qo), (2, .ref (b 0)), (1, .ref (a 0)), (0, .ref b0)] 821 [] := by
  refine l_aload_n M dt_L_law_28.1.2.2.1 rfl 3 rfl ?_
  refine l_aload_n M dt_L_law_28.1.2.2.2 rfl 4 rfl ?_
  refine l_iload M dt_L_law_28.2.1.1.1 0 rfl ?_
  refine l_iconst M dt_L_law_28.2.1.1.2 ki_1 ?_
  refine l_iadd M dt_L_law_28.2.1.2.1 ?_
  refine l_sld M (l_in1 ht hL) dt_L_law_28.2.1.2.2 ?_
  refine l_aload_n M dt_L_law_28.2.2.1.1 rfl 4 rfl ?_
  refine l_iload M dt_L_law_28.2.2.1.2 0 rfl ?_
  refine l_iconst M dt_L_law_28.2.2.2.1 ki_2 ?_
  refine l_iadd M dt_L_law_28.2.2.2.2 ?_
  refine l_sld M (l_in2 ht hL) dt_L_law_29.1.1.1.1 ?_
  refine l_aload_n M dt_L_law_29.1.1.1.2 rfl 4 rfl ?_
  refine l_iload M dt_L_law_29.1.1.2.1 0 rfl ?_
  refine l_iconst M dt_L_law_29.1.1.2.2 ki_3 ?_
  refine l_iadd M dt_L_law_29.1.2.1.1 ?_
  refine l_sld M (l_in3 ht hL) dt_L_law_29.1.2.1.2 ?_
  refine l_callC M [.int (xs (Int32.toNatClampNeg (nI (6 * t) + (1 : Int32)))), .int (xs (Int32.toNatClampNeg (nI (6 * t) + (2 : Int32)))), .int (xs (Int32.toNatClampNeg (nI (6 * t) + (3 : Int32))))] (rest := []) (fun A hD => m_X11_bounds hD hc) rfl u877 u87 u880 u878 u879 hd_X11_bounds (Nat.le_of_ble_eq_true rfl) (Nat.le_of_ble_eq_true rfl) hk9 hn9 rfl (Nat.le_of_ble_eq_true rfl) dt_L_law_29.1.2.2.1 ?_
  show G oc.1 σm f k n [(4, .int (nI (6 * t))), (3, .ref qo), (2, .ref (b 0)), (1, .ref (a 0)), (0, .ref b0)] 843 [.int oc.2]
  refine l_aload_n M dt_L_law_29.1.2.2.2 rfl 2 rfl ?_
  refine l_aload_n M dt_L_law_29.2.1.1.1 rfl 4 rfl ?_
  refine l_iload M dt_L_law_29.2.1.1.2 0 rfl ?_
  refine l_iconst M dt_L_law_29.2.1.2.1 ki_1 ?_
  refine l_iadd M dt_L_law_29.2.1.2.2 ?_
  refine l_sld M (l_in1 ht hL) dt_L_law_29.2.2.1.1 ?_
  refine l_aload_n M dt_L_law_29.2.2.1.2 rfl 4 rfl ?_
  refine l_iload M dt_L_law_29.2.2.2.1 0 rfl ?_
  refine l_iconst M dt_L_law_29.2.2.2.2 ki_2 ?_
  refine l_iadd M dt_L_law_30.1.1.1.1 ?_
  refine l_sld M (l_in2 ht hL) dt_L_law_30.1.1.1.2 ?_
  refine l_aload_n M dt_L_law_30.1.1.2.1 rfl 4 rfl ?_
  refine l_iload M dt_L_law_30.1.1.2.2 0 rfl ?_
  refine l_iconst M dt_L_law_30.1.2.1.1 ki_3 ?_
  refine l_iadd M dt_L_law_30.1.2.1.2 ?_
  refine l_sld M (l_in3 ht hL) dt_L_law_30.1.2.2.1 ?_
  refine l_callM M [.int (xs (Int32.toNatClampNeg (nI (6 * t) + (1 : Int32)))), .int (xs (Int32.toNatClampNeg (nI (6 * t) + (2 : Int32)))), .int (xs (Int32.toNatClampNeg (nI (6 * t) + (3 : Int32))))] (rest := [.int oc.2]) (fun A hD => m_X12_bounds hD hm) rfl u1712 u99 u1715 u1713 u1714 hd_X12_bounds (Nat.le_of_ble_eq_true rfl) (Nat.le_of_ble_eq_true rfl) hk9 hn9 rfl (Nat.le_of_ble_eq_true rfl) dt_L_law_30.1.2.2.2 ?_
  show G oc.1 om.1 f k n [(4, .int (nI (6 * t))), (3, .ref qo), (2, .ref (b 0)), (1, .ref (a 0)), (0, .ref b0)] 865 [.int om.2, .int oc.2]
  exact l_icmp_eq (tgt := 1983) M dt_L_law_30.2.1.1.1 (by decide) (fun _ => kk) (fun q => absurd he q)
set_option maxHeartbeats 2000000 in
theorem lc_line (M : lM l D a b qo cy ad b0 L xs G) (ht : 6 * t + 5 < L) (hL : L ≤ 3072) (hk9 : k ≤ 601024) (hn9 : n ≤ 7293033) {oc : (Zst × Int32)} {om : (Zst × Int32)} (hc : f_X11_line σc (xs (Int32.toNatClampNeg (nI (6 * t) + (1 : Int32)))) (xs (Int32.toNatClampNeg (nI (6 * t) + (2 : Int32)))) (xs (Int32.toNatClampNeg (nI (6 * t) + (3 : Int32)))) = some oc) (hm : f_X12_line σm (xs (Int32.toNatClampNeg (nI (6 * t) + (1 : Int32)))) (xs (Int32.toNatClampNeg (nI (6 * t) + (2 : Int32)))) (xs (Int32.toNatClampNeg (nI (6 * t) + (3 : Int32)))) = some om) (he : oc.2 = om.2) (kk : G oc.1 om.1 f k n [(4, .int (nI (6 * t))), (3, .ref qo), (2, .ref (b 0)), (1, .ref (a 0)), (0, .ref b0)] 1983 []) : G σc σm f k n [(4, .int (nI (6 * t))), (3, .ref qo), (2, .ref (b 0)), (1, .ref (a 0)), (0, .ref b0)] 870 [] := by
  refine l_aload_n M dt_L_law_30.2.1.2.2 rfl 3 rfl ?_
  refine l_aload_n M dt_L_law_30.2.2.1.1 rfl 4 rfl ?_
  refine l_iload M dt_L_law_30.2.2.1.2 0 rfl ?_
  refine l_iconst M dt_L_law_30.2.2.2.1 ki_1 ?_
  refine l_iadd M dt_L_law_30.2.2.2.2 ?_
  refine l_sld M (l_in1 ht hL) dt_L_law_31.1.1.1.1 ?_
  refine l_aload_n M dt_L_law_31.1.1.1.2 rfl 4 rfl ?_
  refine l_iload M dt_L_law_31.1.1.2.1 0 rfl ?_
  refine l_iconst M dt_L_law_31.1.1.2.2 ki_2 ?_
  refine l_iadd M dt_L_law_31.1.2.1.1 ?_
  refine l_sld M (l_in2 ht hL) dt_L_law_31.1.2.1.2 ?_
  refine l_aload_n M dt_L_law_31.1.2.2.1 rfl 4 rfl ?_
  refine l_iload M dt_L_law_31.1.2.2.2 0 rfl ?_
  refine l_iconst M dt_L_law_31.2.1.1.1 ki_3 ?_
  refine l_iadd M dt_L_law_31.2.1.1.2 ?_
  refine l_sld M (l_in3 ht hL) dt_L_law_31.2.1.2.1 ?_
  refine l_callC M [.int (xs (Int32.toNatClampNeg (nI (6 * t) + (1 : Int32)))), .int (xs (Int32.toNatClampNeg (nI (6 * t) + (2 : Int32)))), .int (xs (Int32.toNatClampNeg (nI (6 * t) + (3 : Int32))))] (rest := []) (fun A hD => m_X11_line hD hc) rfl u903 u87 u906 u904 u905 hd_X11_line (Nat.le_of_ble_eq_true rfl) (Nat.le_of_ble_eq_true rfl) hk9 hn9 rfl (Nat.le_of_ble_eq_true rfl) dt_L_law_31.2.1.2.2 ?_
  show G oc.1 σm f k n [(4, .int (nI (6 * t))), (3, .ref qo), (2, .ref (b 0)), (1, .ref (a 0)), (0, .ref b0)] 892 [.int oc.2]
  refine l_aload_n M dt_L_law_31.2.2.1.1 rfl 2 rfl ?_
  refine l_aload_n M dt_L_law_31.2.2.1.2 rfl 4 rfl ?_
  refine l_iload M dt_L_law_31.2.2.2.1 0 rfl ?_
  refine l_iconst M dt_L_law_31.2.2.2.2 ki_1 ?_
  refine l_iadd M dt_L_law_32.1.1.1.1 ?_
  refine l_sld M (l_in1 ht hL) dt_L_law_32.1.1.1.2 ?_
  refine l_aload_n M dt_L_law_32.1.1.2.1 rfl 4 rfl ?_
  refine l_iload M dt_L_law_32.1.1.2.2 0 rfl ?_
  refine l_iconst M dt_L_law_32.1.2.1.1 ki_2 ?_
  refine l_iadd M dt_L_law_32.1.2.1.2 ?_
  refine l_sld M (l_in2 ht hL) dt_L_law_32.1.2.2.1 ?_
  refine l_aload_n M dt_L_law_32.1.2.2.2 rfl 4 rfl ?_
  refine l_iload M dt_L_law_32.2.1.1.1 0 rfl ?_
  refine l_iconst M dt_L_law_32.2.1.1.2 ki_3 ?_
  refine l_iadd M dt_L_law_32.2.1.2.1 ?_
  refine l_sld M (l_in3 ht hL) dt_L_law_32.2.1.2.2 ?_
  refine l_callM M [.int (xs (Int32.toNatClampNeg (nI (6 * t) + (1 : Int32)))), .int (xs (Int32.toNatClampNeg (nI (6 * t) + (2 : Int32)))), .int (xs (Int32.toNatClampNeg (nI (6 * t) + (3 : Int32))))] (rest := [.int oc.2]) (fun A hD => m_X12_line hD hm) rfl u1728 u99 u1731 u1729 u1730 hd_X12_line (Nat.le_of_ble_eq_true rfl) (Nat.le_of_ble_eq_true rfl) hk9 hn9 rfl (Nat.le_of_ble_eq_true rfl) dt_L_law_32.2.2.1.1 ?_
  show G oc.1 om.1 f k n [(4, .int (nI (6 * t))), (3, .ref qo), (2, .ref (b 0)), (1, .ref (a 0)), (0, .ref b0)] 914 [.int om.2, .int oc.2]
  exact l_icmp_eq (tgt := 1983) M dt_L_law_32.2.2.1.2 (by decide) (fun _ => kk) (fun q => absurd he q)
set_option maxHeartbeats 2000000 in
theorem lc_off (M : lM l D a b qo cy ad b0 L xs G) (ht : 6 * t + 5 < L) (hL : L ≤ 3072) (hk9 : k ≤ 601024) (hn9 : n ≤ 7293033) {oc : (Zst × Int32)} {om : (Zst × Int32)} (hc : f_X11_off σc (xs (Int32.toNatClampNeg (nI (6 * t) + (1 : Int32)))) (xs (Int32.toNatClampNeg (nI (6 * t) + (2 : Int32)))) = some oc) (hm : f_X12_off σm (xs (Int32.toNatClampNeg (nI (6 * t) + (1 : Int32)))) (xs (Int32.toNatClampNeg (nI (6 * t) + (2 : Int32)))) = some om) (he : oc.2 = om.2) (kk : G oc.1 om.1 f k n [(4, .int (nI (6 * t))), (3, .ref qo), (2, .ref (b 0)), (1, .ref (a 0)), (0, .ref b0)] 1983 []) : G σc σm f k n [(4, .int (nI (6 * t))), (3, .ref qo), (2, .ref (b 0)), (1, .ref (a 0)), (0, .ref b0)] 919 [] := by
  refine l_aload_n M dt_L_law_33.1.1.1.1 rfl 3 rfl ?_
  refine l_aload_n M dt_L_law_33.1.1.1.2 rfl 4 rfl ?_
  refine l_iload M dt_L_law_33.1.1.2.1 0 rfl ?_
  refine l_iconst M dt_L_law_33.1.1.2.2 ki_1 ?_
  refine l_iadd M dt_L_law_33.1.2.1.1 ?_
  refine l_sld M (l_in1 ht hL) dt_L_law_33.1.2.1.2 ?_
  refine l_aload_n M dt_L_law_33.1.2.2.1 rfl 4 rfl ?_
  refine l_iload M dt_L_law_33.1.2.2.2 0 rfl ?_
  refine l_iconst M dt_L_law_33.2.1.1.1 ki_2 ?_
  refine l_iadd M dt_L_law_33.2.1.1.2 ?_
  refine l_sld M (l_in2 ht hL) dt_L_law_33.2.1.2.1 ?_
  refine l_callC M [.int (xs (Int32.toNatClampNeg (nI (6 * t) + (1 : Int32)))), .int (xs (Int32.toNatClampNeg (nI (6 * t) + (2 : Int32))))] (rest := []) (fun A hD => m_X11_off hD hc) rfl u914 u87 u917 u915 u916 hd_X11_off (Nat.le_of_ble_eq_true rfl) (Nat.le_of_ble_eq_true rfl) hk9 hn9 rfl (Nat.le_of_ble_eq_true rfl) dt_L_law_33.2.1.2.2 ?_
  show G oc.1 σm f k n [(4, .int (nI (6 * t))), (3, .ref qo), (2, .ref (b 0)), (1, .ref (a 0)), (0, .ref b0)] 935 [.int oc.2]
  refine l_aload_n M dt_L_law_33.2.2.1.1 rfl 2 rfl ?_
  refine l_aload_n M dt_L_law_33.2.2.1.2 rfl 4 rfl ?_
  refine l_iload M dt_L_law_33.2.2.2.1 0 rfl ?_
  refine l_iconst M dt_L_law_33.2.2.2.2 ki_1 ?_
  refine l_iadd M dt_L_law_34.1.1.1.1 ?_
  refine l_sld M (l_in1 ht hL) dt_L_law_34.1.1.1.2 ?_
  refine l_aload_n M dt_L_law_34.1.1.2.1 rfl 4 rfl ?_
  refine l_iload M dt_L_law_34.1.1.2.2 0 rfl ?_
  refine l_iconst M dt_L_law_34.1.2.1.1 ki_2 ?_
  refine l_iadd M dt_L_law_34.1.2.1.2 ?_
  refine l_sld M (l_in2 ht hL) dt_L_law_34.1.2.2.1 ?_
  refine l_callM M [.int (xs (Int32.toNatClampNeg (nI (6 * t) + (1 : Int32)))), .int (xs (Int32.toNatClampNeg (nI (6 * t) + (2 : Int32))))] (rest := [.int oc.2]) (fun A hD => m_X12_off hD hm) rfl u1735 u99 u1738 u1736 u1737 hd_X12_off (Nat.le_of_ble_eq_true rfl) (Nat.le_of_ble_eq_true rfl) hk9 hn9 rfl (Nat.le_of_ble_eq_true rfl) dt_L_law_34.1.2.2.2 ?_
  show G oc.1 om.1 f k n [(4, .int (nI (6 * t))), (3, .ref qo), (2, .ref (b 0)), (1, .ref (a 0)), (0, .ref b0)] 951 [.int om.2, .int oc.2]
  exact l_icmp_eq (tgt := 1983) M dt_L_law_34.2.1.1.1 (by decide) (fun _ => kk) (fun q => absurd he q)
set_option maxHeartbeats 2000000 in
theorem lc_nearest (M : lM l D a b qo cy ad b0 L xs G) (ht : 6 * t + 5 < L) (hL : L ≤ 3072) (hk9 : k ≤ 601024) (hn9 : n ≤ 7293033) {oc : (Zst × Int32)} {om : (Zst × Int32)} (hc : f_X11_nearest σc (xs (Int32.toNatClampNeg (nI (6 * t) + (1 : Int32)))) = some oc) (hm : f_X12_nearest σm (xs (Int32.toNatClampNeg (nI (6 * t) + (1 : Int32)))) = some om) (he : oc.2 = om.2) (kk : G oc.1 om.1 f k n [(4, .int (nI (6 * t))), (3, .ref qo), (2, .ref (b 0)), (1, .ref (a 0)), (0, .ref b0)] 1983 []) : G σc σm f k n [(4, .int (nI (6 * t))), (3, .ref qo), (2, .ref (b 0)), (1, .ref (a 0)), (0, .ref b0)] 956 [] := by
  refine l_aload_n M dt_L_law_34.2.1.2.2 rfl 3 rfl ?_
  refine l_aload_n M dt_L_law_34.2.2.1.1 rfl 4 rfl ?_
  refine l_iload M dt_L_law_34.2.2.1.2 0 rfl ?_
  refine l_iconst M dt_L_law_34.2.2.2.1 ki_1 ?_
  refine l_iadd M dt_L_law_34.2.2.2.2 ?_
  refine l_sld M (l_in1 ht hL) dt_L_law_35.1.1.1.1 ?_
  refine l_callC M [.int (xs (Int32.toNatClampNeg (nI (6 * t) + (1 : Int32))))] (rest := []) (fun A hD => m_X11_nearest hD hc) rfl u930 u87 u933 u931 u932 hd_X11_nearest (Nat.le_of_ble_eq_true rfl) (Nat.le_of_ble_eq_true rfl) hk9 hn9 rfl (Nat.le_of_ble_eq_true rfl) dt_L_law_35.1.1.1.2 ?_
  show G oc.1 σm f k n [(4, .int (nI (6 * t))), (3, .ref qo), (2, .ref (b 0)), (1, .ref (a 0)), (0, .ref b0)] 966 [.int oc.2]
  refine l_aload_n M dt_L_law_35.1.1.2.1 rfl 2 rfl ?_
  refine l_aload_n M dt_L_law_35.1.1.2.2 rfl 4 rfl ?_
  refine l_iload M dt_L_law_35.1.2.1.1 0 rfl ?_
  refine l_iconst M dt_L_law_35.1.2.1.2 ki_1 ?_
  refine l_iadd M dt_L_law_35.1.2.2.1 ?_
  refine l_sld M (l_in1 ht hL) dt_L_law_35.1.2.2.2 ?_
  refine l_callM M [.int (xs (Int32.toNatClampNeg (nI (6 * t) + (1 : Int32))))] (rest := [.int oc.2]) (fun A hD => m_X12_nearest hD hm) rfl u1743 u99 u1746 u1744 u1745 hd_X12_nearest (Nat.le_of_ble_eq_true rfl) (Nat.le_of_ble_eq_true rfl) hk9 hn9 rfl (Nat.le_of_ble_eq_true rfl) dt_L_law_35.2.1.1.1 ?_
  show G oc.1 om.1 f k n [(4, .int (nI (6 * t))), (3, .ref qo), (2, .ref (b 0)), (1, .ref (a 0)), (0, .ref b0)] 976 [.int om.2, .int oc.2]
  exact l_icmp_eq (tgt := 1983) M dt_L_law_35.2.1.1.2 (by decide) (fun _ => kk) (fun q => absurd he q)
set_option maxHeartbeats 2000000 in
theorem lc_worst (M : lM l D a b qo cy ad b0 L xs G) (ht : 6 * t + 5 < L) (hL : L ≤ 3072) (hk9 : k ≤ 601024) (hn9 : n ≤ 7293033) {oc : (Zst × Int32)} {om : (Zst × Int32)} (hc : f_X11_worst σc (xs (Int32.toNatClampNeg (nI (6 * t) + (1 : Int32)))) (xs (Int32.toNatClampNeg (nI (6 * t) + (2 : Int32)))) = some oc) (hm : f_X12_worst σm (xs (Int32.toNatClampNeg (nI (6 * t) + (1 : Int32)))) (xs (Int32.toNatClampNeg (nI (6 * t) + (2 : Int32)))) = some om) (he : oc.2 = om.2) (kk : G oc.1 om.1 f k n [(4, .int (nI (6 * t))), (3, .ref qo), (2, .ref (b 0)), (1, .ref (a 0)), (0, .ref b0)] 1983 []) : G σc σm f k n [(4, .int (nI (6 * t))), (3, .ref qo), (2, .ref (b 0)), (1, .ref (a 0)), (0, .ref b0)] 981 [] := by
  refine l_aload_n M dt_L_law_35.2.2.1.1 rfl 3 rfl ?_
  refine l_aload_n M dt_L_law_35.2.2.1.2 rfl 4 rfl ?_
  refine l_iload M dt_L_law_35.2.2.2.1 0 rfl ?_
  refine l_iconst M dt_L_law_35.2.2.2.2 ki_1 ?_
  refine l_iadd M dt_L_law_36.1.1.1.1 ?_
  refine l_sld M (l_in1 ht hL) dt_L_law_36.1.1.1.2 ?_
  refine l_aload_n M dt_L_law_36.1.1.2.1 rfl 4 rfl ?_
  refine l_iload M dt_L_law_36.1.1.2.2 0 rfl ?_
  refine l_iconst M dt_L_law_36.1.2.1.1 ki_2 ?_
  refine l_iadd M dt_L_law_36.1.2.1.2 ?_
  refine l_sld M (l_in2 ht hL) dt_L_law_36.1.2.2.1 ?_
  refine l_callC M [.int (xs (Int32.toNatClampNeg (nI (6 * t) + (1 : Int32)))), .int (xs (Int32.toNatClampNeg (nI (6 * t) + (2 : Int32))))] (rest := []) (fun A hD => m_X11_worst hD hc) rfl u947 u87 u950 u948 u949 hd_X11_worst (Nat.le_of_ble_eq_true rfl) (Nat.le_of_ble_eq_true rfl) hk9 hn9 rfl (Nat.le_of_ble_eq_true rfl) dt_L_law_36.1.2.2.2 ?_
  show G oc.1 σm f k n [(4, .int (nI (6 * t))), (3, .ref qo), (2, .ref (b 0)), (1, .ref (a 0)), (0, .ref b0)] 997 [.int oc.2]
  refine l_aload_n M dt_L_law_36.2.1.1.1 rfl 2 rfl ?_
  refine l_aload_n M dt_L_law_36.2.1.1.2 rfl 4 rfl ?_
  refine l_iload M dt_L_law_36.2.1.2.1 0 rfl ?_
  refine l_iconst M dt_L_law_36.2.1.2.2 ki_1 ?_
  refine l_iadd M dt_L_law_36.2.2.1.1 ?_
  refine l_sld M (l_in1 ht hL) dt_L_law_36.2.2.1.2 ?_
  refine l_aload_n M dt_L_law_36.2.2.2.1 rfl 4 rfl ?_
  refine l_iload M dt_L_law_36.2.2.2.2 0 rfl ?_
  refine l_iconst M dt_L_law_37.1.1.1.1 ki_2 ?_
  refine l_iadd M dt_L_law_37.1.1.1.2 ?_
  refine l_sld M (l_in2 ht hL) dt_L_law_37.1.1.2.1 ?_
  refine l_callM M [.int (xs (Int32.toNatClampNeg (nI (6 * t) + (1 : Int32)))), .int (xs (Int32.toNatClampNeg (nI (6 * t) + (2 : Int32))))] (rest := [.int oc.2]) (fun A hD => m_X12_worst hD hm) rfl u1748 u99 u1751 u1749 u1750 hd_X12_worst (Nat.le_of_ble_eq_true rfl) (Nat.le_of_ble_eq_true rfl) hk9 hn9 rfl (Nat.le_of_ble_eq_true rfl) dt_L_law_37.1.1.2.2 ?_
  show G oc.1 om.1 f k n [(4, .int (nI (6 * t))), (3, .ref qo), (2, .ref (b 0)), (1, .ref (a 0)), (0, .ref b0)] 1013 [.int om.2, .int oc.2]
  exact l_icmp_eq (tgt := 1983) M dt_L_law_37.1.2.1.1 (by decide) (fun _ => kk) (fun q => absurd he q)
set_option maxHeartbeats 2000000 in
theorem lc_right (M : lM l D a b qo cy ad b0 L xs G) (ht : 6 * t + 5 < L) (hL : L ≤ 3072) (hk9 : k ≤ 601024) (hn9 : n ≤ 7293033) {oc : (Zst × Int32)} {om : (Zst × Int32)} (hc : f_X11_right σc (xs (Int32.toNatClampNeg (nI (6 * t) + (1 : Int32)))) = some oc) (hm : f_X12_right σm (xs (Int32.toNatClampNeg (nI (6 * t) + (1 : Int32)))) = some om) (he : oc.2 = om.2) (kk : G oc.1 om.1 f k n [(4, .int (nI (6 * t))), (3, .ref qo), (2, .ref (b 0)), (1, .ref (a 0)), (0, .ref b0)] 1983 []) : G σc σm f k n [(4, .int (nI (6 * t))), (3, .ref qo), (2, .ref (b 0)), (1, .ref (a 0)), (0, .ref b0)] 1018 [] := by
  refine l_aload_n M dt_L_law_37.1.2.2.2 rfl 3 rfl ?_
  refine l_aload_n M dt_L_law_37.2.1.1.1 rfl 4 rfl ?_
  refine l_iload M dt_L_law_37.2.1.1.2 0 rfl ?_
  refine l_iconst M dt_L_law_37.2.1.2.1 ki_1 ?_
  refine l_iadd M dt_L_law_37.2.1.2.2 ?_
  refine l_sld M (l_in1 ht hL) dt_L_law_37.2.2.1.1 ?_
  refine l_callC M [.int (xs (Int32.toNatClampNeg (nI (6 * t) + (1 : Int32))))] (rest := []) (fun A hD => m_X11_right hD hc) rfl u959 u87 u962 u960 u961 hd_X11_right (Nat.le_of_ble_eq_true rfl) (Nat.le_of_ble_eq_true rfl) hk9 hn9 rfl (Nat.le_of_ble_eq_true rfl) dt_L_law_37.2.2.1.2 ?_
  show G oc.1 σm f k n [(4, .int (nI (6 * t))), (3, .ref qo), (2, .ref (b 0)), (1, .ref (a 0)), (0, .ref b0)] 1028 [.int oc.2]
  refine l_aload_n M dt_L_law_37.2.2.2.1 rfl 2 rfl ?_
  refine l_aload_n M dt_L_law_37.2.2.2.2 rfl 4 rfl ?_
  refine l_iload M dt_L_law_38.1.1.1.1 0 rfl ?_
  refine l_iconst M dt_L_law_38.1.1.1.2 ki_1 ?_
  refine l_iadd M dt_L_law_38.1.1.2.1 ?_
  refine l_sld M (l_in1 ht hL) dt_L_law_38.1.1.2.2 ?_
  refine l_callM M [.int (xs (Int32.toNatClampNeg (nI (6 * t) + (1 : Int32))))] (rest := [.int oc.2]) (fun A hD => m_X12_right hD hm) rfl u1752 u99 u1755 u1753 u1754 hd_X12_right (Nat.le_of_ble_eq_true rfl) (Nat.le_of_ble_eq_true rfl) hk9 hn9 rfl (Nat.le_of_ble_eq_true rfl) dt_L_law_38.1.2.1.1 ?_
  show G oc.1 om.1 f k n [(4, .int (nI (6 * t))), (3, .ref qo), (2, .ref (b 0)), (1, .ref (a 0)), (0, .ref b0)] 1038 [.int om.2, .int oc.2]
  exact l_icmp_eq (tgt := 1983) M dt_L_law_38.1.2.1.2 (by decide) (fun _ => kk) (fun q => absurd he q)
set_option maxHeartbeats 2000000 in
theorem lc_three (M : lM l D a b qo cy ad b0 L xs G) (ht : 6 * t + 5 < L) (hL : L ≤ 3072) (hk9 : k ≤ 601024) (hn9 : n ≤ 7293033) {oc : (Zst × Int32)} {om : (Zst × Int32)} (hc : f_X11_three σc (xs (Int32.toNatClampNeg (nI (6 * t) + (1 : Int32)))) (xs (Int32.toNatClampNeg (nI (6 * t) + (2 : Int32)))) = some oc) (hm : f_X12_three σm (xs (Int32.toNatClampNeg (nI (6 * t) + (1 : Int32)))) (xs (Int32.toNatClampNeg (nI (6 * t) + (2 : Int32)))) = some om) (he : oc.2 = om.2) (kk : G oc.1 om.1 f k n [(4, .int (nI (6 * t))), (3, .ref qo), (2, .ref (b 0)), (1, .ref (a 0)), (0, .ref b0)] 1983 []) : G σc σm f k n [(4, .int (nI (6 * t))), (3, .ref qo), (2, .ref (b 0)), (1, .ref (a 0)), (0, .ref b0)] 1043 [] := by
  refine l_aload_n M dt_L_law_38.2.1.1.1 rfl 3 rfl ?_
  refine l_aload_n M dt_L_law_38.2.1.1.2 rfl 4 rfl ?_
  refine l_iload M dt_L_law_38.2.1.2.1 0 rfl ?_
  refine l_iconst M dt_L_law_38.2.1.2.2 ki_1 ?_
  refine l_iadd M dt_L_law_38.2.2.1.1 ?_
  refine l_sld M (l_in1 ht hL) dt_L_law_38.2.2.1.2 ?_
  refine l_aload_n M dt_L_law_38.2.2.2.1 rfl 4 rfl ?_
  refine l_iload M dt_L_law_38.2.2.2.2 0 rfl ?_
  refine l_iconst M dt_L_law_39.1.1.1.1 ki_2 ?_
  refine l_iadd M dt_L_law_39.1.1.1.2 ?_
  refine l_sld M (l_in2 ht hL) dt_L_law_39.1.1.2.1 ?_
  refine l_callC M [.int (xs (Int32.toNatClampNeg (nI (6 * t) + (1 : Int32)))), .int (xs (Int32.toNatClampNeg (nI (6 * t) + (2 : Int32))))] (rest := []) (fun A hD => m_X11_three hD hc) rfl u975 u87 u978 u976 u977 hd_X11_three (Nat.le_of_ble_eq_true rfl) (Nat.le_of_ble_eq_true rfl) hk9 hn9 rfl (Nat.le_of_ble_eq_true rfl) dt_L_law_39.1.1.2.2 ?_
  show G oc.1 σm f k n [(4, .int (nI (6 * t))), (3, .ref qo), (2, .ref (b 0)), (1, .ref (a 0)), (0, .ref b0)] 1059 [.int oc.2]
  refine l_aload_n M dt_L_law_39.1.2.1.1 rfl 2 rfl ?_
  refine l_aload_n M dt_L_law_39.1.2.1.2 rfl 4 rfl ?_
  refine l_iload M dt_L_law_39.1.2.2.1 0 rfl ?_
  refine l_iconst M dt_L_law_39.1.2.2.2 ki_1 ?_
  refine l_iadd M dt_L_law_39.2.1.1.1 ?_
  refine l_sld M (l_in1 ht hL) dt_L_law_39.2.1.1.2 ?_
  refine l_aload_n M dt_L_law_39.2.1.2.1 rfl 4 rfl ?_
  refine l_iload M dt_L_law_39.2.1.2.2 0 rfl ?_
  refine l_iconst M dt_L_law_39.2.2.1.1 ki_2 ?_
  refine l_iadd M dt_L_law_39.2.2.1.2 ?_
  refine l_sld M (l_in2 ht hL) dt_L_law_39.2.2.2.1 ?_
  refine l_callM M [.int (xs (Int32.toNatClampNeg (nI (6 * t) + (1 : Int32)))), .int (xs (Int32.toNatClampNeg (nI (6 * t) + (2 : Int32))))] (rest := [.int oc.2]) (fun A hD => m_X12_three hD hm) rfl u1762 u99 u1765 u1763 u1764 hd_X12_three (Nat.le_of_ble_eq_true rfl) (Nat.le_of_ble_eq_true rfl) hk9 hn9 rfl (Nat.le_of_ble_eq_true rfl) dt_L_law_39.2.2.2.2 ?_
  show G oc.1 om.1 f k n [(4, .int (nI (6 * t))), (3, .ref qo), (2, .ref (b 0)), (1, .ref (a 0)), (0, .ref b0)] 1075 [.int om.2, .int oc.2]
  exact l_icmp_eq (tgt := 1983) M dt_L_law_40.1.1.1.1 (by decide) (fun _ => kk) (fun q => absurd he q)
set_option maxHeartbeats 2000000 in
theorem lc_slope (M : lM l D a b qo cy ad b0 L xs G) (ht : 6 * t + 5 < L) (hL : L ≤ 3072) (hk9 : k ≤ 601024) (hn9 : n ≤ 7293033) {oc : (Zst × Int32)} {om : (Zst × Int32)} (hc : f_X11_slope σc (xs (Int32.toNatClampNeg (nI (6 * t) + (1 : Int32)))) (xs (Int32.toNatClampNeg (nI (6 * t) + (2 : Int32)))) = some oc) (hm : f_X12_slope σm (xs (Int32.toNatClampNeg (nI (6 * t) + (1 : Int32)))) (xs (Int32.toNatClampNeg (nI (6 * t) + (2 : Int32)))) = some om) (he : oc.2 = om.2) (kk : G oc.1 om.1 f k n [(4, .int (nI (6 * t))), (3, .ref qo), (2, .ref (b 0)), (1, .ref (a 0)), (0, .ref b0)] 1983 []) : G σc σm f k n [(4, .int (nI (6 * t))), (3, .ref qo), (2, .ref (b 0)), (1, .ref (a 0)), (0, .ref b0)] 1080 [] := by
  refine l_aload_n M dt_L_law_40.1.1.2.2 rfl 3 rfl ?_
  refine l_aload_n M dt_L_law_40.1.2.1.1 rfl 4 rfl ?_
  refine l_iload M dt_L_law_40.1.2.1.2 0 rfl ?_
  refine l_iconst M dt_L_law_40.1.2.2.1 ki_1 ?_
  refine l_iadd M dt_L_law_40.1.2.2.2 ?_
  refine l_sld M (l_in1 ht hL) dt_L_law_40.2.1.1.1 ?_
  refine l_aload_n M dt_L_law_40.2.1.1.2 rfl 4 rfl ?_
  refine l_iload M dt_L_law_40.2.1.2.1 0 rfl ?_
  refine l_iconst M dt_L_law_40.2.1.2.2 ki_2 ?_
  refine l_iadd M dt_L_law_40.2.2.1.1 ?_
  refine l_sld M (l_in2 ht hL) dt_L_law_40.2.2.1.2 ?_
  refine l_callC M [.int (xs (Int32.toNatClampNeg (nI (6 * t) + (1 : Int32)))), .int (xs (Int32.toNatClampNeg (nI (6 * t) + (2 : Int32))))] (rest := []) (fun A hD => m_X11_slope hD hc) rfl u1014 u87 u1017 u1015 u1016 hd_X11_slope (Nat.le_of_ble_eq_true rfl) (Nat.le_of_ble_eq_true rfl) hk9 hn9 rfl (Nat.le_of_ble_eq_true rfl) dt_L_law_40.2.2.2.1 ?_
  show G oc.1 σm f k n [(4, .int (nI (6 * t))), (3, .ref qo), (2, .ref (b 0)), (1, .ref (a 0)), (0, .ref b0)] 1096 [.int oc.2]
  refine l_aload_n M dt_L_law_40.2.2.2.2 rfl 2 rfl ?_
  refine l_aload_n M dt_L_law_41.1.1.1.1 rfl 4 rfl ?_
  refine l_iload M dt_L_law_41.1.1.1.2 0 rfl ?_
  refine l_iconst M dt_L_law_41.1.1.2.1 ki_1 ?_
  refine l_iadd M dt_L_law_41.1.1.2.2 ?_
  refine l_sld M (l_in1 ht hL) dt_L_law_41.1.2.1.1 ?_
  refine l_aload_n M dt_L_law_41.1.2.1.2 rfl 4 rfl ?_
  refine l_iload M dt_L_law_41.1.2.2.1 0 rfl ?_
  refine l_iconst M dt_L_law_41.1.2.2.2 ki_2 ?_
  refine l_iadd M dt_L_law_41.2.1.1.1 ?_
  refine l_sld M (l_in2 ht hL) dt_L_law_41.2.1.1.2 ?_
  refine l_callM M [.int (xs (Int32.toNatClampNeg (nI (6 * t) + (1 : Int32)))), .int (xs (Int32.toNatClampNeg (nI (6 * t) + (2 : Int32))))] (rest := [.int oc.2]) (fun A hD => m_X12_slope hD hm) rfl u1782 u99 u1785 u1783 u1784 hd_X12_slope (Nat.le_of_ble_eq_true rfl) (Nat.le_of_ble_eq_true rfl) hk9 hn9 rfl (Nat.le_of_ble_eq_true rfl) dt_L_law_41.2.1.2.1 ?_
  show G oc.1 om.1 f k n [(4, .int (nI (6 * t))), (3, .ref qo), (2, .ref (b 0)), (1, .ref (a 0)), (0, .ref b0)] 1112 [.int om.2, .int oc.2]
  exact l_icmp_eq (tgt := 1983) M dt_L_law_41.2.1.2.2 (by decide) (fun _ => kk) (fun q => absurd he q)
set_option maxHeartbeats 2000000 in
theorem lc_others (M : lM l D a b qo cy ad b0 L xs G) (ht : 6 * t + 5 < L) (hL : L ≤ 3072) (hk9 : k ≤ 601024) (hn9 : n ≤ 7293033) {oc : (Zst × Int32)} {om : (Zst × Int32)} (hc : f_X11_others σc (xs (Int32.toNatClampNeg (nI (6 * t) + (1 : Int32)))) (xs (Int32.toNatClampNeg (nI (6 * t) + (2 : Int32)))) = some oc) (hm : f_X12_others σm (xs (Int32.toNatClampNeg (nI (6 * t) + (1 : Int32)))) (xs (Int32.toNatClampNeg (nI (6 * t) + (2 : Int32)))) = some om) (he : oc.2 = om.2) (kk : G oc.1 om.1 f k n [(4, .int (nI (6 * t))), (3, .ref qo), (2, .ref (b 0)), (1, .ref (a 0)), (0, .ref b0)] 1983 []) : G σc σm f k n [(4, .int (nI (6 * t))), (3, .ref qo), (2, .ref (b 0)), (1, .ref (a 0)), (0, .ref b0)] 1117 [] := by
  refine l_aload_n M dt_L_law_41.2.2.2.1 rfl 3 rfl ?_
  refine l_aload_n M dt_L_law_41.2.2.2.2 rfl 4 rfl ?_
  refine l_iload M dt_L_law_42.1.1.1.1 0 rfl ?_
  refine l_iconst M dt_L_law_42.1.1.1.2 ki_1 ?_
  refine l_iadd M dt_L_law_42.1.1.2.1 ?_
  refine l_sld M (l_in1 ht hL) dt_L_law_42.1.1.2.2 ?_
  refine l_aload_n M dt_L_law_42.1.2.1.1 rfl 4 rfl ?_
  refine l_iload M dt_L_law_42.1.2.1.2 0 rfl ?_
  refine l_iconst M dt_L_law_42.1.2.2.1 ki_2 ?_
  refine l_iadd M dt_L_law_42.1.2.2.2 ?_
  refine l_sld M (l_in2 ht hL) dt_L_law_42.2.1.1.1 ?_
  refine l_callC M [.int (xs (Int32.toNatClampNeg (nI (6 * t) + (1 : Int32)))), .int (xs (Int32.toNatClampNeg (nI (6 * t) + (2 : Int32))))] (rest := []) (fun A hD => m_X11_others hD hc) rfl u1022 u87 u1025 u1023 u1024 hd_X11_others (Nat.le_of_ble_eq_true rfl) (Nat.le_of_ble_eq_true rfl) hk9 hn9 rfl (Nat.le_of_ble_eq_true rfl) dt_L_law_42.2.1.1.2 ?_
  show G oc.1 σm f k n [(4, .int (nI (6 * t))), (3, .ref qo), (2, .ref (b 0)), (1, .ref (a 0)), (0, .ref b0)] 1133 [.int oc.2]
  refine l_aload_n M dt_L_law_42.2.1.2.1 rfl 2 rfl ?_
  refine l_aload_n M dt_L_law_42.2.1.2.2 rfl 4 rfl ?_
  refine l_iload M dt_L_law_42.2.2.1.1 0 rfl ?_
  refine l_iconst M dt_L_law_42.2.2.1.2 ki_1 ?_
  refine l_iadd M dt_L_law_42.2.2.2.1 ?_
  refine l_sld M (l_in1 ht hL) dt_L_law_42.2.2.2.2 ?_
  refine l_aload_n M dt_L_law_43.1.1.1.1 rfl 4 rfl ?_
  refine l_iload M dt_L_law_43.1.1.1.2 0 rfl ?_
  refine l_iconst M dt_L_law_43.1.1.2.1 ki_2 ?_
  refine l_iadd M dt_L_law_43.1.1.2.2 ?_
  refine l_sld M (l_in2 ht hL) dt_L_law_43.1.2.1.1 ?_
  refine l_callM M [.int (xs (Int32.toNatClampNeg (nI (6 * t) + (1 : Int32)))), .int (xs (Int32.toNatClampNeg (nI (6 * t) + (2 : Int32))))] (rest := [.int oc.2]) (fun A hD => m_X12_others hD hm) rfl u1786 u99 u1789 u1787 u1788 hd_X12_others (Nat.le_of_ble_eq_true rfl) (Nat.le_of_ble_eq_true rfl) hk9 hn9 rfl (Nat.le_of_ble_eq_true rfl) dt_L_law_43.1.2.1.2 ?_
  show G oc.1 om.1 f k n [(4, .int (nI (6 * t))), (3, .ref qo), (2, .ref (b 0)), (1, .ref (a 0)), (0, .ref b0)] 1149 [.int om.2, .int oc.2]
  exact l_icmp_eq (tgt := 1983) M dt_L_law_43.1.2.2.1 (by decide) (fun _ => kk) (fun q => absurd he q)
set_option maxHeartbeats 2000000 in
theorem lc_worth (M : lM l D a b qo cy ad b0 L xs G) (ht : 6 * t + 5 < L) (hL : L ≤ 3072) (hk9 : k ≤ 601024) (hn9 : n ≤ 7293033) {oc : (Zst × Int32)} {om : (Zst × Int32)} (hc : f_X11_worth σc (xs (Int32.toNatClampNeg (nI (6 * t) + (1 : Int32)))) (xs (Int32.toNatClampNeg (nI (6 * t) + (2 : Int32)))) = some oc) (hm : f_X12_worth σm (xs (Int32.toNatClampNeg (nI (6 * t) + (1 : Int32)))) (xs (Int32.toNatClampNeg (nI (6 * t) + (2 : Int32)))) = some om) (he : oc.2 = om.2) (kk : G oc.1 om.1 f k n [(4, .int (nI (6 * t))), (3, .ref qo), (2, .ref (b 0)), (1, .ref (a 0)), (0, .ref b0)] 1983 []) : G σc σm f k n [(4, .int (nI (6 * t))), (3, .ref qo), (2, .ref (b 0)), (1, .ref (a 0)), (0, .ref b0)] 1154 [] := by
  refine l_aload_n M dt_L_law_43.2.1.1.2 rfl 3 rfl ?_
  refine l_aload_n M dt_L_law_43.2.1.2.1 rfl 4 rfl ?_
  refine l_iload M dt_L_law_43.2.1.2.2 0 rfl ?_
  refine l_iconst M dt_L_law_43.2.2.1.1 ki_1 ?_
  refine l_iadd M dt_L_law_43.2.2.1.2 ?_
  refine l_sld M (l_in1 ht hL) dt_L_law_43.2.2.2.1 ?_
  refine l_aload_n M dt_L_law_43.2.2.2.2 rfl 4 rfl ?_
  refine l_iload M dt_L_law_44.1.1.1.1 0 rfl ?_
  refine l_iconst M dt_L_law_44.1.1.1.2 ki_2 ?_
  refine l_iadd M dt_L_law_44.1.1.2.1 ?_
  refine l_sld M (l_in2 ht hL) dt_L_law_44.1.1.2.2 ?_
  refine l_callC M [.int (xs (Int32.toNatClampNeg (nI (6 * t) + (1 : Int32)))), .int (xs (Int32.toNatClampNeg (nI (6 * t) + (2 : Int32))))] (rest := []) (fun A hD => m_X11_worth hD hc) rfl u1035 u87 u1038 u1036 u1037 hd_X11_worth (Nat.le_of_ble_eq_true rfl) (Nat.le_of_ble_eq_true rfl) hk9 hn9 rfl (Nat.le_of_ble_eq_true rfl) dt_L_law_44.1.2.1.1 ?_
  show G oc.1 σm f k n [(4, .int (nI (6 * t))), (3, .ref qo), (2, .ref (b 0)), (1, .ref (a 0)), (0, .ref b0)] 1170 [.int oc.2]
  refine l_aload_n M dt_L_law_44.1.2.1.2 rfl 2 rfl ?_
  refine l_aload_n M dt_L_law_44.1.2.2.1 rfl 4 rfl ?_
  refine l_iload M dt_L_law_44.1.2.2.2 0 rfl ?_
  refine l_iconst M dt_L_law_44.2.1.1.1 ki_1 ?_
  refine l_iadd M dt_L_law_44.2.1.1.2 ?_
  refine l_sld M (l_in1 ht hL) dt_L_law_44.2.1.2.1 ?_
  refine l_aload_n M dt_L_law_44.2.1.2.2 rfl 4 rfl ?_
  refine l_iload M dt_L_law_44.2.2.1.1 0 rfl ?_
  refine l_iconst M dt_L_law_44.2.2.1.2 ki_2 ?_
  refine l_iadd M dt_L_law_44.2.2.2.1 ?_
  refine l_sld M (l_in2 ht hL) dt_L_law_44.2.2.2.2 ?_
  refine l_callM M [.int (xs (Int32.toNatClampNeg (nI (6 * t) + (1 : Int32)))), .int (xs (Int32.toNatClampNeg (nI (6 * t) + (2 : Int32))))] (rest := [.int oc.2]) (fun A hD => m_X12_worth hD hm) rfl u1795 u99 u1798 u1796 u1797 hd_X12_worth (Nat.le_of_ble_eq_true rfl) (Nat.le_of_ble_eq_true rfl) hk9 hn9 rfl (Nat.le_of_ble_eq_true rfl) dt_L_law_45.1.1.1.1 ?_
  show G oc.1 om.1 f k n [(4, .int (nI (6 * t))), (3, .ref qo), (2, .ref (b 0)), (1, .ref (a 0)), (0, .ref b0)] 1186 [.int om.2, .int oc.2]
  exact l_icmp_eq (tgt := 1983) M dt_L_law_45.1.1.1.2 (by decide) (fun _ => kk) (fun q => absurd he q)
set_option maxHeartbeats 2000000 in
theorem lc_waste (M : lM l D a b qo cy ad b0 L xs G) (ht : 6 * t + 5 < L) (hL : L ≤ 3072) (hk9 : k ≤ 601024) (hn9 : n ≤ 7293033) {oc : (Zst × Int32)} {om : (Zst × Int32)} (hc : f_X11_waste σc (xs (Int32.toNatClampNeg (nI (6 * t) + (1 : Int32)))) = some oc) (hm : f_X12_waste σm (xs (Int32.toNatClampNeg (nI (6 * t) + (1 : Int32)))) = some om) (he : oc.2 = om.2) (kk : G oc.1 om.1 f k n [(4, .int (nI (6 * t))), (3, .ref qo), (2, .ref (b 0)), (1, .ref (a 0)), (0, .ref b0)] 1983 []) : G σc σm f k n [(4, .int (nI (6 * t))), (3, .ref qo), (2, .ref (b 0)), (1, .ref (a 0)), (0, .ref b0)] 1191 [] := by
  refine l_aload_n M dt_L_law_45.1.2.1.1 rfl 3 rfl ?_
  refine l_aload_n M dt_L_law_45.1.2.1.2 rfl 4 rfl ?_
  refine l_iload M dt_L_law_45.1.2.2.1 0 rfl ?_
  refine l_iconst M dt_L_law_45.1.2.2.2 ki_1 ?_
  refine l_iadd M dt_L_law_45.2.1.1.1 ?_
  refine l_sld M (l_in1 ht hL) dt_L_law_45.2.1.1.2 ?_
  refine l_callC M [.int (xs (Int32.toNatClampNeg (nI (6 * t) + (1 : Int32))))] (rest := []) (fun A hD => m_X11_waste hD hc) rfl u1048 u87 u1051 u1049 u1050 hd_X11_waste (Nat.le_of_ble_eq_true rfl) (Nat.le_of_ble_eq_true rfl) hk9 hn9 rfl (Nat.le_of_ble_eq_true rfl) dt_L_law_45.2.1.2.1 ?_
  show G oc.1 σm f k n [(4, .int (nI (6 * t))), (3, .ref qo), (2, .ref (b 0)), (1, .ref (a 0)), (0, .ref b0)] 1201 [.int oc.2]
  refine l_aload_n M dt_L_law_45.2.1.2.2 rfl 2 rfl ?_
  refine l_aload_n M dt_L_law_45.2.2.1.1 rfl 4 rfl ?_
  refine l_iload M dt_L_law_45.2.2.1.2 0 rfl ?_
  refine l_iconst M dt_L_law_45.2.2.2.1 ki_1 ?_
  refine l_iadd M dt_L_law_45.2.2.2.2 ?_
  refine l_sld M (l_in1 ht hL) dt_L_law_46.1.1.1.1 ?_
  refine l_callM M [.int (xs (Int32.toNatClampNeg (nI (6 * t) + (1 : Int32))))] (rest := [.int oc.2]) (fun A hD => m_X12_waste hD hm) rfl u1799 u99 u1802 u1800 u1801 hd_X12_waste (Nat.le_of_ble_eq_true rfl) (Nat.le_of_ble_eq_true rfl) hk9 hn9 rfl (Nat.le_of_ble_eq_true rfl) dt_L_law_46.1.1.1.2 ?_
  show G oc.1 om.1 f k n [(4, .int (nI (6 * t))), (3, .ref qo), (2, .ref (b 0)), (1, .ref (a 0)), (0, .ref b0)] 1211 [.int om.2, .int oc.2]
  exact l_icmp_eq (tgt := 1983) M dt_L_law_46.1.1.2.1 (by decide) (fun _ => kk) (fun q => absurd he q)
set_option maxHeartbeats 2000000 in
theorem lc_story (M : lM l D a b qo cy ad b0 L xs G) (ht : 6 * t + 5 < L) (hL : L ≤ 3072) (hk9 : k ≤ 601024) (hn9 : n ≤ 7293033) {oc : (Zst × Int32)} {om : (Zst × Int32)} (hc : f_X11_story σc  = some oc) (hm : f_X12_story σm  = some om) (he : oc.2 = om.2) (kk : G oc.1 om.1 f k n [(4, .int (nI (6 * t))), (3, .ref qo), (2, .ref (b 0)), (1, .ref (a 0)), (0, .ref b0)] 1983 []) : G σc σm f k n [(4, .int (nI (6 * t))), (3, .ref qo), (2, .ref (b 0)), (1, .ref (a 0)), (0, .ref b0)] 1216 [] := by
  refine l_aload_n M dt_L_law_46.1.2.1.2 rfl 3 rfl ?_
  refine l_callC M [] (rest := []) (fun A hD => m_X11_story hD hc) rfl u1085 u87 u1088 u1086 u1087 hd_X11_story (Nat.le_of_ble_eq_true rfl) (Nat.le_of_ble_eq_true rfl) hk9 hn9 rfl (Nat.le_of_ble_eq_true rfl) dt_L_law_46.1.2.2.1 ?_
  show G oc.1 σm f k n [(4, .int (nI (6 * t))), (3, .ref qo), (2, .ref (b 0)), (1, .ref (a 0)), (0, .ref b0)] 1220 [.int oc.2]
  refine l_aload_n M dt_L_law_46.1.2.2.2 rfl 2 rfl ?_
  refine l_callM M [] (rest := [.int oc.2]) (fun A hD => m_X12_story hD hm) rfl u1807 u99 u1810 u1808 u1809 hd_X12_story (Nat.le_of_ble_eq_true rfl) (Nat.le_of_ble_eq_true rfl) hk9 hn9 rfl (Nat.le_of_ble_eq_true rfl) dt_L_law_46.2.1.1.1 ?_
  show G oc.1 om.1 f k n [(4, .int (nI (6 * t))), (3, .ref qo), (2, .ref (b 0)), (1, .ref (a 0)), (0, .ref b0)] 1224 [.int om.2, .int oc.2]
  exact l_icmp_eq (tgt := 1983) M dt_L_law_46.2.1.1.2 (by decide) (fun _ => kk) (fun q => absurd he q)
set_option maxHeartbeats 2000000 in
theorem lc_holds (M : lM l D a b qo cy ad b0 L xs G) (ht : 6 * t + 5 < L) (hL : L ≤ 3072) (hk9 : k ≤ 601024) (hn9 : n ≤ 7293033) {oc : (Zst × Int32)} {om : (Zst × Int32)} (hc : f_X11_holds σc (xs (Int32.toNatClampNeg (nI (6 * t) + (1 : Int32)))) = some oc) (hm : f_X12_holds σm (xs (Int32.toNatClampNeg (nI (6 * t) + (1 : Int32)))) = some om) (he : oc.2 = om.2) (kk : G oc.1 om.1 f k n [(4, .int (nI (6 * t))), (3, .ref qo), (2, .ref (b 0)), (1, .ref (a 0)), (0, .ref b0)] 1983 []) : G σc σm f k n [(4, .int (nI (6 * t))), (3, .ref qo), (2, .ref (b 0)), (1, .ref (a 0)), (0, .ref b0)] 1229 [] := by
  refine l_aload_n M dt_L_law_46.2.2.1.1 rfl 3 rfl ?_
  refine l_aload_n M dt_L_law_46.2.2.1.2 rfl 4 rfl ?_
  refine l_iload M dt_L_law_46.2.2.2.1 0 rfl ?_
  refine l_iconst M dt_L_law_46.2.2.2.2 ki_1 ?_
  refine l_iadd M dt_L_law_47.1.1.1.1 ?_
  refine l_sld M (l_in1 ht hL) dt_L_law_47.1.1.1.2 ?_
  refine l_callC M [.int (xs (Int32.toNatClampNeg (nI (6 * t) + (1 : Int32))))] (rest := []) (fun A hD => m_X11_holds hD hc) rfl u1100 u87 u1103 u1101 u1102 hd_X11_holds (Nat.le_of_ble_eq_true rfl) (Nat.le_of_ble_eq_true rfl) hk9 hn9 rfl (Nat.le_of_ble_eq_true rfl) dt_L_law_47.1.1.2.1 ?_
  show G oc.1 σm f k n [(4, .int (nI (6 * t))), (3, .ref qo), (2, .ref (b 0)), (1, .ref (a 0)), (0, .ref b0)] 1239 [.int oc.2]
  refine l_aload_n M dt_L_law_47.1.1.2.2 rfl 2 rfl ?_
  refine l_aload_n M dt_L_law_47.1.2.1.1 rfl 4 rfl ?_
  refine l_iload M dt_L_law_47.1.2.1.2 0 rfl ?_
  refine l_iconst M dt_L_law_47.1.2.2.1 ki_1 ?_
  refine l_iadd M dt_L_law_47.1.2.2.2 ?_
  refine l_sld M (l_in1 ht hL) dt_L_law_47.2.1.1.1 ?_
  refine l_callM M [.int (xs (Int32.toNatClampNeg (nI (6 * t) + (1 : Int32))))] (rest := [.int oc.2]) (fun A hD => m_X12_holds hD hm) rfl u1817 u99 u1820 u1818 u1819 hd_X12_holds (Nat.le_of_ble_eq_true rfl) (Nat.le_of_ble_eq_true rfl) hk9 hn9 rfl (Nat.le_of_ble_eq_true rfl) dt_L_law_47.2.1.1.2 ?_
  show G oc.1 om.1 f k n [(4, .int (nI (6 * t))), (3, .ref qo), (2, .ref (b 0)), (1, .ref (a 0)), (0, .ref b0)] 1249 [.int om.2, .int oc.2]
  exact l_icmp_eq (tgt := 1983) M dt_L_law_47.2.1.2.1 (by decide) (fun _ => kk) (fun q => absurd he q)
set_option maxHeartbeats 2000000 in
theorem lc_parts (M : lM l D a b qo cy ad b0 L xs G) (ht : 6 * t + 5 < L) (hL : L ≤ 3072) (hk9 : k ≤ 601024) (hn9 : n ≤ 7293033) {oc : (Zst × Int32)} {om : (Zst × Int32)} (hc : f_X11_parts σc  = some oc) (hm : f_X12_parts σm  = some om) (he : oc.2 = om.2) (kk : G oc.1 om.1 f k n [(4, .int (nI (6 * t))), (3, .ref qo), (2, .ref (b 0)), (1, .ref (a 0)), (0, .ref b0)] 1983 []) : G σc σm f k n [(4, .int (nI (6 * t))), (3, .ref qo), (2, .ref (b 0)), (1, .ref (a 0)), (0, .ref b0)] 1254 [] := by
  refine l_aload_n M dt_L_law_47.2.2.1.2 rfl 3 rfl ?_
  refine l_callC M [] (rest := []) (fun A hD => m_X11_parts hD hc) rfl u1131 u87 u1134 u1132 u1133 hd_X11_parts (Nat.le_of_ble_eq_true rfl) (Nat.le_of_ble_eq_true rfl) hk9 hn9 rfl (Nat.le_of_ble_eq_true rfl) dt_L_law_47.2.2.2.1 ?_
  show G oc.1 σm f k n [(4, .int (nI (6 * t))), (3, .ref qo), (2, .ref (b 0)), (1, .ref (a 0)), (0, .ref b0)] 1258 [.int oc.2]
  refine l_aload_n M dt_L_law_47.2.2.2.2 rfl 2 rfl ?_
  refine l_callM M [] (rest := [.int oc.2]) (fun A hD => m_X12_parts hD hm) rfl u1833 u99 u1836 u1834 u1835 hd_X12_parts (Nat.le_of_ble_eq_true rfl) (Nat.le_of_ble_eq_true rfl) hk9 hn9 rfl (Nat.le_of_ble_eq_true rfl) dt_L_law_48.1.1.1.1 ?_
  show G oc.1 om.1 f k n [(4, .int (nI (6 * t))), (3, .ref qo), (2, .ref (b 0)), (1, .ref (a 0)), (0, .ref b0)] 1262 [.int om.2, .int oc.2]
  exact l_icmp_eq (tgt := 1983) M dt_L_law_48.1.1.1.2 (by decide) (fun _ => kk) (fun q => absurd he q)
set_option maxHeartbeats 2000000 in
theorem lc_twice (M : lM l D a b qo cy ad b0 L xs G) (ht : 6 * t + 5 < L) (hL : L ≤ 3072) (hk9 : k ≤ 601024) (hn9 : n ≤ 7293033) {oc : (Zst × Int32)} {om : (Zst × Int32)} (hc : f_X11_twice σc (xs (Int32.toNatClampNeg (nI (6 * t) + (1 : Int32)))) (xs (Int32.toNatClampNeg (nI (6 * t) + (2 : Int32)))) (xs (Int32.toNatClampNeg (nI (6 * t) + (3 : Int32)))) = some oc) (hm : f_X12_twice σm (xs (Int32.toNatClampNeg (nI (6 * t) + (1 : Int32)))) (xs (Int32.toNatClampNeg (nI (6 * t) + (2 : Int32)))) (xs (Int32.toNatClampNeg (nI (6 * t) + (3 : Int32)))) = some om) (he : oc.2 = om.2) (kk : G oc.1 om.1 f k n [(4, .int (nI (6 * t))), (3, .ref qo), (2, .ref (b 0)), (1, .ref (a 0)), (0, .ref b0)] 1983 []) : G σc σm f k n [(4, .int (nI (6 * t))), (3, .ref qo), (2, .ref (b 0)), (1, .ref (a 0)), (0, .ref b0)] 1267 [] := by
  refine l_aload_n M dt_L_law_48.1.2.1.1 rfl 3 rfl ?_
  refine l_aload_n M dt_L_law_48.1.2.1.2 rfl 4 rfl ?_
  refine l_iload M dt_L_law_48.1.2.2.1 0 rfl ?_
  refine l_iconst M dt_L_law_48.1.2.2.2 ki_1 ?_
  refine l_iadd M dt_L_law_48.2.1.1.1 ?_
  refine l_sld M (l_in1 ht hL) dt_L_law_48.2.1.1.2 ?_
  refine l_aload_n M dt_L_law_48.2.1.2.1 rfl 4 rfl ?_
  refine l_iload M dt_L_law_48.2.1.2.2 0 rfl ?_
  refine l_iconst M dt_L_law_48.2.2.1.1 ki_2 ?_
  refine l_iadd M dt_L_law_48.2.2.1.2 ?_
  refine l_sld M (l_in2 ht hL) dt_L_law_48.2.2.2.1 ?_
  refine l_aload_n M dt_L_law_48.2.2.2.2 rfl 4 rfl ?_
  refine l_iload M dt_L_law_49.1.1.1.1 0 rfl ?_
  refine l_iconst M dt_L_law_49.1.1.1.2 ki_3 ?_
  refine l_iadd M dt_L_law_49.1.1.2.1 ?_
  refine l_sld M (l_in3 ht hL) dt_L_law_49.1.1.2.2 ?_
  refine l_callC M [.int (xs (Int32.toNatClampNeg (nI (6 * t) + (1 : Int32)))), .int (xs (Int32.toNatClampNeg (nI (6 * t) + (2 : Int32)))), .int (xs (Int32.toNatClampNeg (nI (6 * t) + (3 : Int32))))] (rest := []) (fun A hD => m_X11_twice hD hc) rfl u1146 u87 u1149 u1147 u1148 hd_X11_twice (Nat.le_of_ble_eq_true rfl) (Nat.le_of_ble_eq_true rfl) hk9 hn9 rfl (Nat.le_of_ble_eq_true rfl) dt_L_law_49.1.2.1.1 ?_
  show G oc.1 σm f k n [(4, .int (nI (6 * t))), (3, .ref qo), (2, .ref (b 0)), (1, .ref (a 0)), (0, .ref b0)] 1289 [.int oc.2]
  refine l_aload_n M dt_L_law_49.1.2.1.2 rfl 2 rfl ?_
  refine l_aload_n M dt_L_law_49.1.2.2.1 rfl 4 rfl ?_
  refine l_iload M dt_L_law_49.1.2.2.2 0 rfl ?_
  refine l_iconst M dt_L_law_49.2.1.1.1 ki_1 ?_
  refine l_iadd M dt_L_law_49.2.1.1.2 ?_
  refine l_sld M (l_in1 ht hL) dt_L_law_49.2.1.2.1 ?_
  refine l_aload_n M dt_L_law_49.2.1.2.2 rfl 4 rfl ?_
  refine l_iload M dt_L_law_49.2.2.1.1 0 rfl ?_
  refine l_iconst M dt_L_law_49.2.2.1.2 ki_2 ?_
  refine l_iadd M dt_L_law_49.2.2.2.1 ?_
  refine l_sld M (l_in2 ht hL) dt_L_law_49.2.2.2.2 ?_
  refine l_aload_n M dt_L_law_50.1.1.1.1 rfl 4 rfl ?_
  refine l_iload M dt_L_law_50.1.1.1.2 0 rfl ?_
  refine l_iconst M dt_L_law_50.1.1.2.1 ki_3 ?_
  refine l_iadd M dt_L_law_50.1.1.2.2 ?_
  refine l_sld M (l_in3 ht hL) dt_L_law_50.1.2.1.1 ?_
  refine l_callM M [.int (xs (Int32.toNatClampNeg (nI (6 * t) + (1 : Int32)))), .int (xs (Int32.toNatClampNeg (nI (6 * t) + (2 : Int32)))), .int (xs (Int32.toNatClampNeg (nI (6 * t) + (3 : Int32))))] (rest := [.int oc.2]) (fun A hD => m_X12_twice hD hm) rfl u1838 u99 u1841 u1839 u1840 hd_X12_twice (Nat.le_of_ble_eq_true rfl) (Nat.le_of_ble_eq_true rfl) hk9 hn9 rfl (Nat.le_of_ble_eq_true rfl) dt_L_law_50.1.2.1.2 ?_
  show G oc.1 om.1 f k n [(4, .int (nI (6 * t))), (3, .ref qo), (2, .ref (b 0)), (1, .ref (a 0)), (0, .ref b0)] 1311 [.int om.2, .int oc.2]
  exact l_icmp_eq (tgt := 1983) M dt_L_law_50.1.2.2.1 (by decide) (fun _ => kk) (fun q => absurd he q)
set_option maxHeartbeats 2000000 in
theorem lc_alike (M : lM l D a b qo cy ad b0 L xs G) (ht : 6 * t + 5 < L) (hL : L ≤ 3072) (hk9 : k ≤ 601024) (hn9 : n ≤ 7293033) {oc : (Zst × Int32)} {om : (Zst × Int32)} (hc : f_X11_alike σc  = some oc) (hm : f_X12_alike σm  = some om) (he : oc.2 = om.2) (kk : G oc.1 om.1 f k n [(4, .int (nI (6 * t))), (3, .ref qo), (2, .ref (b 0)), (1, .ref (a 0)), (0, .ref b0)] 1983 []) : G σc σm f k n [(4, .int (nI (6 * t))), (3, .ref qo), (2, .ref (b 0)), (1, .ref (a 0)), (0, .ref b0)] 1316 [] := by
  refine l_aload_n M dt_L_law_50.2.1.1.2 rfl 3 rfl ?_
  refine l_callC M [] (rest := []) (fun A hD => m_X11_alike hD hc) rfl u1156 u87 u1159 u1157 u1158 hd_X11_alike (Nat.le_of_ble_eq_true rfl) (Nat.le_of_ble_eq_true rfl) hk9 hn9 rfl (Nat.le_of_ble_eq_true rfl) dt_L_law_50.2.1.2.1 ?_
  show G oc.1 σm f k n [(4, .int (nI (6 * t))), (3, .ref qo), (2, .ref (b 0)), (1, .ref (a 0)), (0, .ref b0)] 1320 [.int oc.2]
  refine l_aload_n M dt_L_law_50.2.1.2.2 rfl 2 rfl ?_
  refine l_callM M [] (rest := [.int oc.2]) (fun A hD => m_X12_alike hD hm) rfl u1843 u99 u1846 u1844 u1845 hd_X12_alike (Nat.le_of_ble_eq_true rfl) (Nat.le_of_ble_eq_true rfl) hk9 hn9 rfl (Nat.le_of_ble_eq_true rfl) dt_L_law_50.2.2.1.1 ?_
  show G oc.1 om.1 f k n [(4, .int (nI (6 * t))), (3, .ref qo), (2, .ref (b 0)), (1, .ref (a 0)), (0, .ref b0)] 1324 [.int om.2, .int oc.2]
  exact l_icmp_eq (tgt := 1983) M dt_L_law_50.2.2.1.2 (by decide) (fun _ => kk) (fun q => absurd he q)
set_option maxHeartbeats 2000000 in
theorem lc_mixed (M : lM l D a b qo cy ad b0 L xs G) (ht : 6 * t + 5 < L) (hL : L ≤ 3072) (hk9 : k ≤ 601024) (hn9 : n ≤ 7293033) {oc : (Zst × Int32)} {om : (Zst × Int32)} (hc : f_X11_mixed σc  = some oc) (hm : f_X12_mixed σm  = some om) (he : oc.2 = om.2) (kk : G oc.1 om.1 f k n [(4, .int (nI (6 * t))), (3, .ref qo), (2, .ref (b 0)), (1, .ref (a 0)), (0, .ref b0)] 1983 []) : G σc σm f k n [(4, .int (nI (6 * t))), (3, .ref qo), (2, .ref (b 0)), (1, .ref (a 0)), (0, .ref b0)] 1329 [] := by
  refine l_aload_n M dt_L_law_51.1.1.1.1 rfl 3 rfl ?_
  refine l_callC M [] (rest := []) (fun A hD => m_X11_mixed hD hc) rfl u1179 u87 u1182 u1180 u1181 hd_X11_mixed (Nat.le_of_ble_eq_true rfl) (Nat.le_of_ble_eq_true rfl) hk9 hn9 rfl (Nat.le_of_ble_eq_true rfl) dt_L_law_51.1.1.1.2 ?_
  show G oc.1 σm f k n [(4, .int (nI (6 * t))), (3, .ref qo), (2, .ref (b 0)), (1, .ref (a 0)), (0, .ref b0)] 1333 [.int oc.2]
  refine l_aload_n M dt_L_law_51.1.1.2.1 rfl 2 rfl ?_
  refine l_callM M [] (rest := [.int oc.2]) (fun A hD => m_X12_mixed hD hm) rfl u1851 u99 u1854 u1852 u1853 hd_X12_mixed (Nat.le_of_ble_eq_true rfl) (Nat.le_of_ble_eq_true rfl) hk9 hn9 rfl (Nat.le_of_ble_eq_true rfl) dt_L_law_51.1.1.2.2 ?_
  show G oc.1 om.1 f k n [(4, .int (nI (6 * t))), (3, .ref qo), (2, .ref (b 0)), (1, .ref (a 0)), (0, .ref b0)] 1337 [.int om.2, .int oc.2]
  exact l_icmp_eq (tgt := 1983) M dt_L_law_51.1.2.1.1 (by decide) (fun _ => kk) (fun q => absurd he q)
set_option maxHeartbeats 2000000 in
theorem lc_truly (M : lM l D a b qo cy ad b0 L xs G) (ht : 6 * t + 5 < L) (hL : L ≤ 3072) (hk9 : k ≤ 601024) (hn9 : n ≤ 7293033) {oc : (Zst × Int32)} {om : (Zst × Int32)} (hc : f_X11_truly σc (xs (Int32.toNatClampNeg (nI (6 * t) + (1 : Int32)))) (xs (Int32.toNatClampNeg (nI (6 * t) + (2 : Int32)))) = some oc) (hm : f_X12_truly σm (xs (Int32.toNatClampNeg (nI (6 * t) + (1 : Int32)))) (xs (Int32.toNatClampNeg (nI (6 * t) + (2 : Int32)))) = some om) (he : oc.2 = om.2) (kk : G oc.1 om.1 f k n [(4, .int (nI (6 * t))), (3, .ref qo), (2, .ref (b 0)), (1, .ref (a 0)), (0, .ref b0)] 1983 []) : G σc σm f k n [(4, .int (nI (6 * t))), (3, .ref qo), (2, .ref (b 0)), (1, .ref (a 0)), (0, .ref b0)] 1398 [] := by
  refine l_aload_n M dt_L_law_53.2.1.2.1 rfl 3 rfl ?_
  refine l_aload_n M dt_L_law_53.2.1.2.2 rfl 4 rfl ?_
  refine l_iload M dt_L_law_53.2.2.1.1 0 rfl ?_
  refine l_iconst M dt_L_law_53.2.2.1.2 ki_1 ?_
  refine l_iadd M dt_L_law_53.2.2.2.1 ?_
  refine l_sld M (l_in1 ht hL) dt_L_law_53.2.2.2.2 ?_
  refine l_aload_n M dt_L_law_54.1.1.1.1 rfl 4 rfl ?_
  refine l_iload M dt_L_law_54.1.1.1.2 0 rfl ?_
  refine l_iconst M dt_L_law_54.1.1.2.1 ki_2 ?_
  refine l_iadd M dt_L_law_54.1.1.2.2 ?_
  refine l_sld M (l_in2 ht hL) dt_L_law_54.1.2.1.1 ?_
  refine l_callC M [.int (xs (Int32.toNatClampNeg (nI (6 * t) + (1 : Int32)))), .int (xs (Int32.toNatClampNeg (nI (6 * t) + (2 : Int32))))] (rest := []) (fun A hD => m_X11_truly hD hc) rfl u1188 u87 u1191 u1189 u1190 hd_X11_truly (Nat.le_of_ble_eq_true rfl) (Nat.le_of_ble_eq_true rfl) hk9 hn9 rfl (Nat.le_of_ble_eq_true rfl) dt_L_law_54.1.2.1.2 ?_
  show G oc.1 σm f k n [(4, .int (nI (6 * t))), (3, .ref qo), (2, .ref (b 0)), (1, .ref (a 0)), (0, .ref b0)] 1414 [.int oc.2]
  refine l_aload_n M dt_L_law_54.1.2.2.1 rfl 2 rfl ?_
  refine l_aload_n M dt_L_law_54.1.2.2.2 rfl 4 rfl ?_
  refine l_iload M dt_L_law_54.2.1.1.1 0 rfl ?_
  refine l_iconst M dt_L_law_54.2.1.1.2 ki_1 ?_
  refine l_iadd M dt_L_law_54.2.1.2.1 ?_
  refine l_sld M (l_in1 ht hL) dt_L_law_54.2.1.2.2 ?_
  refine l_aload_n M dt_L_law_54.2.2.1.1 rfl 4 rfl ?_
  refine l_iload M dt_L_law_54.2.2.1.2 0 rfl ?_
  refine l_iconst M dt_L_law_54.2.2.2.1 ki_2 ?_
  refine l_iadd M dt_L_law_54.2.2.2.2 ?_
  refine l_sld M (l_in2 ht hL) dt_L_law_55.1.1.1.1 ?_
  refine l_callM M [.int (xs (Int32.toNatClampNeg (nI (6 * t) + (1 : Int32)))), .int (xs (Int32.toNatClampNeg (nI (6 * t) + (2 : Int32))))] (rest := [.int oc.2]) (fun A hD => m_X12_truly hD hm) rfl u1859 u99 u1862 u1860 u1861 hd_X12_truly (Nat.le_of_ble_eq_true rfl) (Nat.le_of_ble_eq_true rfl) hk9 hn9 rfl (Nat.le_of_ble_eq_true rfl) dt_L_law_55.1.1.1.2 ?_
  show G oc.1 om.1 f k n [(4, .int (nI (6 * t))), (3, .ref qo), (2, .ref (b 0)), (1, .ref (a 0)), (0, .ref b0)] 1430 [.int om.2, .int oc.2]
  exact l_icmp_eq (tgt := 1983) M dt_L_law_55.1.1.2.1 (by decide) (fun _ => kk) (fun q => absurd he q)
set_option maxHeartbeats 2000000 in
theorem lc_moved (M : lM l D a b qo cy ad b0 L xs G) (ht : 6 * t + 5 < L) (hL : L ≤ 3072) (hk9 : k ≤ 601024) (hn9 : n ≤ 7293033) {oc : (Zst × Int32)} {om : (Zst × Int32)} (hc : f_X11_moved σc (xs (Int32.toNatClampNeg (nI (6 * t) + (1 : Int32)))) (xs (Int32.toNatClampNeg (nI (6 * t) + (2 : Int32)))) = some oc) (hm : f_X12_moved σm (xs (Int32.toNatClampNeg (nI (6 * t) + (1 : Int32)))) (xs (Int32.toNatClampNeg (nI (6 * t) + (2 : Int32)))) = some om) (he : oc.2 = om.2) (kk : G oc.1 om.1 f k n [(4, .int (nI (6 * t))), (3, .ref qo), (2, .ref (b 0)), (1, .ref (a 0)), (0, .ref b0)] 1983 []) : G σc σm f k n [(4, .int (nI (6 * t))), (3, .ref qo), (2, .ref (b 0)), (1, .ref (a 0)), (0, .ref b0)] 1435 [] := by
  refine l_aload_n M dt_L_law_55.1.2.1.2 rfl 3 rfl ?_
  refine l_aload_n M dt_L_law_55.1.2.2.1 rfl 4 rfl ?_
  refine l_iload M dt_L_law_55.1.2.2.2 0 rfl ?_
  refine l_iconst M dt_L_law_55.2.1.1.1 ki_1 ?_
  refine l_iadd M dt_L_law_55.2.1.1.2 ?_
  refine l_sld M (l_in1 ht hL) dt_L_law_55.2.1.2.1 ?_
  refine l_aload_n M dt_L_law_55.2.1.2.2 rfl 4 rfl ?_
  refine l_iload M dt_L_law_55.2.2.1.1 0 rfl ?_
  refine l_iconst M dt_L_law_55.2.2.1.2 ki_2 ?_
  refine l_iadd M dt_L_law_55.2.2.2.1 ?_
  refine l_sld M (l_in2 ht hL) dt_L_law_55.2.2.2.2 ?_
  refine l_callC M [.int (xs (Int32.toNatClampNeg (nI (6 * t) + (1 : Int32)))), .int (xs (Int32.toNatClampNeg (nI (6 * t) + (2 : Int32))))] (rest := []) (fun A hD => m_X11_moved hD hc) rfl u1199 u87 u1202 u1200 u1201 hd_X11_moved (Nat.le_of_ble_eq_true rfl) (Nat.le_of_ble_eq_true rfl) hk9 hn9 rfl (Nat.le_of_ble_eq_true rfl) dt_L_law_56.1.1.1.1 ?_
  show G oc.1 σm f k n [(4, .int (nI (6 * t))), (3, .ref qo), (2, .ref (b 0)), (1, .ref (a 0)), (0, .ref b0)] 1451 [.int oc.2]
  refine l_aload_n M dt_L_law_56.1.1.1.2 rfl 2 rfl ?_
  refine l_aload_n M dt_L_law_56.1.1.2.1 rfl 4 rfl ?_
  refine l_iload M dt_L_law_56.1.1.2.2 0 rfl ?_
  refine l_iconst M dt_L_law_56.1.2.1.1 ki_1 ?_
  refine l_iadd M dt_L_law_56.1.2.1.2 ?_
  refine l_sld M (l_in1 ht hL) dt_L_law_56.1.2.2.1 ?_
  refine l_aload_n M dt_L_law_56.1.2.2.2 rfl 4 rfl ?_
  refine l_iload M dt_L_law_56.2.1.1.1 0 rfl ?_
  refine l_iconst M dt_L_law_56.2.1.1.2 ki_2 ?_
  refine l_iadd M dt_L_law_56.2.1.2.1 ?_
  refine l_sld M (l_in2 ht hL) dt_L_law_56.2.1.2.2 ?_
  refine l_callM M [.int (xs (Int32.toNatClampNeg (nI (6 * t) + (1 : Int32)))), .int (xs (Int32.toNatClampNeg (nI (6 * t) + (2 : Int32))))] (rest := [.int oc.2]) (fun A hD => m_X12_moved hD hm) rfl u1863 u99 u1866 u1864 u1865 hd_X12_moved (Nat.le_of_ble_eq_true rfl) (Nat.le_of_ble_eq_true rfl) hk9 hn9 rfl (Nat.le_of_ble_eq_true rfl) dt_L_law_56.2.2.1.1 ?_
  show G oc.1 om.1 f k n [(4, .int (nI (6 * t))), (3, .ref qo), (2, .ref (b 0)), (1, .ref (a 0)), (0, .ref b0)] 1467 [.int om.2, .int oc.2]
  exact l_icmp_eq (tgt := 1983) M dt_L_law_56.2.2.1.2 (by decide) (fun _ => kk) (fun q => absurd he q)
set_option maxHeartbeats 2000000 in
theorem lc_feasts (M : lM l D a b qo cy ad b0 L xs G) (ht : 6 * t + 5 < L) (hL : L ≤ 3072) (hk9 : k ≤ 601024) (hn9 : n ≤ 7293033) {oc : (Zst × Int32)} {om : (Zst × Int32)} (hc : f_X11_feasts σc (xs (Int32.toNatClampNeg (nI (6 * t) + (1 : Int32)))) = some oc) (hm : f_X12_feasts σm (xs (Int32.toNatClampNeg (nI (6 * t) + (1 : Int32)))) = some om) (he : oc.2 = om.2) (kk : G oc.1 om.1 f k n [(4, .int (nI (6 * t))), (3, .ref qo), (2, .ref (b 0)), (1, .ref (a 0)), (0, .ref b0)] 1983 []) : G σc σm f k n [(4, .int (nI (6 * t))), (3, .ref qo), (2, .ref (b 0)), (1, .ref (a 0)), (0, .ref b0)] 1472 [] := by
  refine l_aload_n M dt_L_law_57.1.1.1.1 rfl 3 rfl ?_
  refine l_aload_n M dt_L_law_57.1.1.1.2 rfl 4 rfl ?_
  refine l_iload M dt_L_law_57.1.1.2.1 0 rfl ?_
  refine l_iconst M dt_L_law_57.1.1.2.2 ki_1 ?_
  refine l_iadd M dt_L_law_57.1.2.1.1 ?_
  refine l_sld M (l_in1 ht hL) dt_L_law_57.1.2.1.2 ?_
  refine l_callC M [.int (xs (Int32.toNatClampNeg (nI (6 * t) + (1 : Int32))))] (rest := []) (fun A hD => m_X11_feasts hD hc) rfl u1218 u87 u1221 u1219 u1220 hd_X11_feasts (Nat.le_of_ble_eq_true rfl) (Nat.le_of_ble_eq_true rfl) hk9 hn9 rfl (Nat.le_of_ble_eq_true rfl) dt_L_law_57.1.2.2.1 ?_
  show G oc.1 σm f k n [(4, .int (nI (6 * t))), (3, .ref qo), (2, .ref (b 0)), (1, .ref (a 0)), (0, .ref b0)] 1482 [.int oc.2]
  refine l_aload_n M dt_L_law_57.1.2.2.2 rfl 2 rfl ?_
  refine l_aload_n M dt_L_law_57.2.1.1.1 rfl 4 rfl ?_
  refine l_iload M dt_L_law_57.2.1.1.2 0 rfl ?_
  refine l_iconst M dt_L_law_57.2.1.2.1 ki_1 ?_
  refine l_iadd M dt_L_law_57.2.1.2.2 ?_
  refine l_sld M (l_in1 ht hL) dt_L_law_57.2.2.1.1 ?_
  refine l_callM M [.int (xs (Int32.toNatClampNeg (nI (6 * t) + (1 : Int32))))] (rest := [.int oc.2]) (fun A hD => m_X12_feasts hD hm) rfl u1867 u99 u1870 u1868 u1869 hd_X12_feasts (Nat.le_of_ble_eq_true rfl) (Nat.le_of_ble_eq_true rfl) hk9 hn9 rfl (Nat.le_of_ble_eq_true rfl) dt_L_law_57.2.2.1.2 ?_
  show G oc.1 om.1 f k n [(4, .int (nI (6 * t))), (3, .ref qo), (2, .ref (b 0)), (1, .ref (a 0)), (0, .ref b0)] 1492 [.int om.2, .int oc.2]
  exact l_icmp_eq (tgt := 1983) M dt_L_law_57.2.2.2.1 (by decide) (fun _ => kk) (fun q => absurd he q)
set_option maxHeartbeats 2000000 in
theorem lc_need (M : lM l D a b qo cy ad b0 L xs G) (ht : 6 * t + 5 < L) (hL : L ≤ 3072) (hk9 : k ≤ 601024) (hn9 : n ≤ 7293033) {oc : (Zst × Int32)} {om : (Zst × Int32)} (hc : f_X11_need σc (xs (Int32.toNatClampNeg (nI (6 * t) + (1 : Int32)))) (xs (Int32.toNatClampNeg (nI (6 * t) + (2 : Int32)))) (xs (Int32.toNatClampNeg (nI (6 * t) + (3 : Int32)))) (xs (Int32.toNatClampNeg (nI (6 * t) + (4 : Int32)))) = some oc) (hm : f_X12_need σm (xs (Int32.toNatClampNeg (nI (6 * t) + (1 : Int32)))) (xs (Int32.toNatClampNeg (nI (6 * t) + (2 : Int32)))) (xs (Int32.toNatClampNeg (nI (6 * t) + (3 : Int32)))) (xs (Int32.toNatClampNeg (nI (6 * t) + (4 : Int32)))) = some om) (he : oc.2 = om.2) (kk : G oc.1 om.1 f k n [(4, .int (nI (6 * t))), (3, .ref qo), (2, .ref (b 0)), (1, .ref (a 0)), (0, .ref b0)] 1983 []) : G σc σm f k n [(4, .int (nI (6 * t))), (3, .ref qo), (2, .ref (b 0)), (1, .ref (a 0)), (0, .ref b0)] 1497 [] := by
  refine l_aload_n M dt_L_law_58.1.1.1.2 rfl 3 rfl ?_
  refine l_aload_n M dt_L_law_58.1.1.2.1 rfl 4 rfl ?_
  refine l_iload M dt_L_law_58.1.1.2.2 0 rfl ?_
  refine l_iconst M dt_L_law_58.1.2.1.1 ki_1 ?_
  refine l_iadd M dt_L_law_58.1.2.1.2 ?_
  refine l_sld M (l_in1 ht hL) dt_L_law_58.1.2.2.1 ?_
  refine l_aload_n M dt_L_law_58.1.2.2.2 rfl 4 rfl ?_
  refine l_iload M dt_L_law_58.2.1.1.1 0 rfl ?_
  refine l_iconst M dt_L_law_58.2.1.1.2 ki_2 ?_
  refine l_iadd M dt_L_law_58.2.1.2.1 ?_
  refine l_sld M (l_in2 ht hL) dt_L_law_58.2.1.2.2 ?_
  refine l_aload_n M dt_L_law_58.2.2.1.1 rfl 4 rfl ?_
  refine l_iload M dt_L_law_58.2.2.1.2 0 rfl ?_
  refine l_iconst M dt_L_law_58.2.2.2.1 ki_3 ?_
  refine l_iadd M dt_L_law_58.2.2.2.2 ?_
  refine l_sld M (l_in3 ht hL) dt_L_law_59.1.1.1.1 ?_
  refine l_aload_n M dt_L_law_59.1.1.1.2 rfl 4 rfl ?_
  refine l_iload M dt_L_law_59.1.1.2.1 0 rfl ?_
  refine l_iconst M dt_L_law_59.1.1.2.2 ki_4 ?_
  refine l_iadd M dt_L_law_59.1.2.1.1 ?_
  refine l_sld M (l_in4 ht hL) dt_L_law_59.1.2.1.2 ?_
  refine l_callC M [.int (xs (Int32.toNatClampNeg (nI (6 * t) + (1 : Int32)))), .int (xs (Int32.toNatClampNeg (nI (6 * t) + (2 : Int32)))), .int (xs (Int32.toNatClampNeg (nI (6 * t) + (3 : Int32)))), .int (xs (Int32.toNatClampNeg (nI (6 * t) + (4 : Int32))))] (rest := []) (fun A hD => m_X11_need hD hc) rfl u1236 u87 u1239 u1237 u1238 hd_X11_need (Nat.le_of_ble_eq_true rfl) (Nat.le_of_ble_eq_true rfl) hk9 hn9 rfl (Nat.le_of_ble_eq_true rfl) dt_L_law_59.1.2.2.1 ?_
  show G oc.1 σm f k n [(4, .int (nI (6 * t))), (3, .ref qo), (2, .ref (b 0)), (1, .ref (a 0)), (0, .ref b0)] 1525 [.int oc.2]
  refine l_aload_n M dt_L_law_59.1.2.2.2 rfl 2 rfl ?_
  refine l_aload_n M dt_L_law_59.2.1.1.1 rfl 4 rfl ?_
  refine l_iload M dt_L_law_59.2.1.1.2 0 rfl ?_
  refine l_iconst M dt_L_law_59.2.1.2.1 ki_1 ?_
  refine l_iadd M dt_L_law_59.2.1.2.2 ?_
  refine l_sld M (l_in1 ht hL) dt_L_law_59.2.2.1.1 ?_
  refine l_aload_n M dt_L_law_59.2.2.1.2 rfl 4 rfl ?_
  refine l_iload M dt_L_law_59.2.2.2.1 0 rfl ?_
  refine l_iconst M dt_L_law_59.2.2.2.2 ki_2 ?_
  refine l_iadd M dt_L_law_60.1.1.1.1 ?_
  refine l_sld M (l_in2 ht hL) dt_L_law_60.1.1.1.2 ?_
  refine l_aload_n M dt_L_law_60.1.1.2.1 rfl 4 rfl ?_
  refine l_iload M dt_L_law_60.1.1.2.2 0 rfl ?_
  refine l_iconst M dt_L_law_60.1.2.1.1 ki_3 ?_
  refine l_iadd M dt_L_law_60.1.2.1.2 ?_
  refine l_sld M (l_in3 ht hL) dt_L_law_60.1.2.2.1 ?_
  refine l_aload_n M dt_L_law_60.1.2.2.2 rfl 4 rfl ?_
  refine l_iload M dt_L_law_60.2.1.1.1 0 rfl ?_
  refine l_iconst M dt_L_law_60.2.1.1.2 ki_4 ?_
  refine l_iadd M dt_L_law_60.2.1.2.1 ?_
  refine l_sld M (l_in4 ht hL) dt_L_law_60.2.1.2.2 ?_
  refine l_callM M [.int (xs (Int32.toNatClampNeg (nI (6 * t) + (1 : Int32)))), .int (xs (Int32.toNatClampNeg (nI (6 * t) + (2 : Int32)))), .int (xs (Int32.toNatClampNeg (nI (6 * t) + (3 : Int32)))), .int (xs (Int32.toNatClampNeg (nI (6 * t) + (4 : Int32))))] (rest := [.int oc.2]) (fun A hD => m_X12_need hD hm) rfl u1871 u99 u1874 u1872 u1873 hd_X12_need (Nat.le_of_ble_eq_true rfl) (Nat.le_of_ble_eq_true rfl) hk9 hn9 rfl (Nat.le_of_ble_eq_true rfl) dt_L_law_60.2.2.1.1 ?_
  show G oc.1 om.1 f k n [(4, .int (nI (6 * t))), (3, .ref qo), (2, .ref (b 0)), (1, .ref (a 0)), (0, .ref b0)] 1553 [.int om.2, .int oc.2]
  exact l_icmp_eq (tgt := 1983) M dt_L_law_60.2.2.1.2 (by decide) (fun _ => kk) (fun q => absurd he q)
set_option maxHeartbeats 2000000 in
theorem lc_weeks (M : lM l D a b qo cy ad b0 L xs G) (ht : 6 * t + 5 < L) (hL : L ≤ 3072) (hk9 : k ≤ 601024) (hn9 : n ≤ 7293033) {oc : (Zst × Int32)} {om : (Zst × Int32)} (hc : f_X11_weeks σc (xs (Int32.toNatClampNeg (nI (6 * t) + (1 : Int32)))) (xs (Int32.toNatClampNeg (nI (6 * t) + (2 : Int32)))) (xs (Int32.toNatClampNeg (nI (6 * t) + (3 : Int32)))) (xs (Int32.toNatClampNeg (nI (6 * t) + (4 : Int32)))) = some oc) (hm : f_X12_weeks σm (xs (Int32.toNatClampNeg (nI (6 * t) + (1 : Int32)))) (xs (Int32.toNatClampNeg (nI (6 * t) + (2 : Int32)))) (xs (Int32.toNatClampNeg (nI (6 * t) + (3 : Int32)))) (xs (Int32.toNatClampNeg (nI (6 * t) + (4 : Int32)))) = some om) (he : oc.2 = om.2) (kk : G oc.1 om.1 f k n [(4, .int (nI (6 * t))), (3, .ref qo), (2, .ref (b 0)), (1, .ref (a 0)), (0, .ref b0)] 1983 []) : G σc σm f k n [(4, .int (nI (6 * t))), (3, .ref qo), (2, .ref (b 0)), (1, .ref (a 0)), (0, .ref b0)] 1558 [] := by
  refine l_aload_n M dt_L_law_61.1.1.1.1 rfl 3 rfl ?_
  refine l_aload_n M dt_L_law_61.1.1.1.2 rfl 4 rfl ?_
  refine l_iload M dt_L_law_61.1.1.2.1 0 rfl ?_
  refine l_iconst M dt_L_law_61.1.1.2.2 ki_1 ?_
  refine l_iadd M dt_L_law_61.1.2.1.1 ?_
  refine l_sld M (l_in1 ht hL) dt_L_law_61.1.2.1.2 ?_
  refine l_aload_n M dt_L_law_61.1.2.2.1 rfl 4 rfl ?_
  refine l_iload M dt_L_law_61.1.2.2.2 0 rfl ?_
  refine l_iconst M dt_L_law_61.2.1.1.1 ki_2 ?_
  refine l_iadd M dt_L_law_61.2.1.1.2 ?_
  refine l_sld M (l_in2 ht hL) dt_L_law_61.2.1.2.1 ?_
  refine l_aload_n M dt_L_law_61.2.1.2.2 rfl 4 rfl ?_
  refine l_iload M dt_L_law_61.2.2.1.1 0 rfl ?_
  refine l_iconst M dt_L_law_61.2.2.1.2 ki_3 ?_
  refine l_iadd M dt_L_law_61.2.2.2.1 ?_
  refine l_sld M (l_in3 ht hL) dt_L_law_61.2.2.2.2 ?_
  refine l_aload_n M dt_L_law_62.1.1.1.1 rfl 4 rfl ?_
  refine l_iload M dt_L_law_62.1.1.1.2 0 rfl ?_
  refine l_iconst M dt_L_law_62.1.1.2.1 ki_4 ?_
  refine l_iadd M dt_L_law_62.1.1.2.2 ?_
  refine l_sld M (l_in4 ht hL) dt_L_law_62.1.2.1.1 ?_
  refine l_callC M [.int (xs (Int32.toNatClampNeg (nI (6 * t) + (1 : Int32)))), .int (xs (Int32.toNatClampNeg (nI (6 * t) + (2 : Int32)))), .int (xs (Int32.toNatClampNeg (nI (6 * t) + (3 : Int32)))), .int (xs (Int32.toNatClampNeg (nI (6 * t) + (4 : Int32))))] (rest := []) (fun A hD => m_X11_weeks hD hc) rfl u1265 u87 u1268 u1266 u1267 hd_X11_weeks (Nat.le_of_ble_eq_true rfl) (Nat.le_of_ble_eq_true rfl) hk9 hn9 rfl (Nat.le_of_ble_eq_true rfl) dt_L_law_62.1.2.1.2 ?_
  show G oc.1 σm f k n [(4, .int (nI (6 * t))), (3, .ref qo), (2, .ref (b 0)), (1, .ref (a 0)), (0, .ref b0)] 1586 [.int oc.2]
  refine l_aload_n M dt_L_law_62.1.2.2.1 rfl 2 rfl ?_
  refine l_aload_n M dt_L_law_62.1.2.2.2 rfl 4 rfl ?_
  refine l_iload M dt_L_law_62.2.1.1.1 0 rfl ?_
  refine l_iconst M dt_L_law_62.2.1.1.2 ki_1 ?_
  refine l_iadd M dt_L_law_62.2.1.2.1 ?_
  refine l_sld M (l_in1 ht hL) dt_L_law_62.2.1.2.2 ?_
  refine l_aload_n M dt_L_law_62.2.2.1.1 rfl 4 rfl ?_
  refine l_iload M dt_L_law_62.2.2.1.2 0 rfl ?_
  refine l_iconst M dt_L_law_62.2.2.2.1 ki_2 ?_
  refine l_iadd M dt_L_law_62.2.2.2.2 ?_
  refine l_sld M (l_in2 ht hL) dt_L_law_63.1.1.1.1 ?_
  refine l_aload_n M dt_L_law_63.1.1.1.2 rfl 4 rfl ?_
  refine l_iload M dt_L_law_63.1.1.2.1 0 rfl ?_
  refine l_iconst M dt_L_law_63.1.1.2.2 ki_3 ?_
  refine l_iadd M dt_L_law_63.1.2.1.1 ?_
  refine l_sld M (l_in3 ht hL) dt_L_law_63.1.2.1.2 ?_
  refine l_aload_n M dt_L_law_63.1.2.2.1 rfl 4 rfl ?_
  refine l_iload M dt_L_law_63.1.2.2.2 0 rfl ?_
  refine l_iconst M dt_L_law_63.2.1.1.1 ki_4 ?_
  refine l_iadd M dt_L_law_63.2.1.1.2 ?_
  refine l_sld M (l_in4 ht hL) dt_L_law_63.2.1.2.1 ?_
  refine l_callM M [.int (xs (Int32.toNatClampNeg (nI (6 * t) + (1 : Int32)))), .int (xs (Int32.toNatClampNeg (nI (6 * t) + (2 : Int32)))), .int (xs (Int32.toNatClampNeg (nI (6 * t) + (3 : Int32)))), .int (xs (Int32.toNatClampNeg (nI (6 * t) + (4 : Int32))))] (rest := [.int oc.2]) (fun A hD => m_X12_weeks hD hm) rfl u1889 u99 u1892 u1890 u1891 hd_X12_weeks (Nat.le_of_ble_eq_true rfl) (Nat.le_of_ble_eq_true rfl) hk9 hn9 rfl (Nat.le_of_ble_eq_true rfl) dt_L_law_63.2.1.2.2 ?_
  show G oc.1 om.1 f k n [(4, .int (nI (6 * t))), (3, .ref qo), (2, .ref (b 0)), (1, .ref (a 0)), (0, .ref b0)] 1614 [.int om.2, .int oc.2]
  exact l_icmp_eq (tgt := 1983) M dt_L_law_63.2.2.1.1 (by decide) (fun _ => kk) (fun q => absurd he q)
set_option maxHeartbeats 2000000 in
theorem lc_paper (M : lM l D a b qo cy ad b0 L xs G) (ht : 6 * t + 5 < L) (hL : L ≤ 3072) (hk9 : k ≤ 601024) (hn9 : n ≤ 7293033) {oc : (Zst × Int32)} {om : (Zst × Int32)} (hc : f_X11_paper σc (xs (Int32.toNatClampNeg (nI (6 * t) + (1 : Int32)))) (xs (Int32.toNatClampNeg (nI (6 * t) + (2 : Int32)))) (xs (Int32.toNatClampNeg (nI (6 * t) + (3 : Int32)))) = some oc) (hm : f_X12_paper σm (xs (Int32.toNatClampNeg (nI (6 * t) + (1 : Int32)))) (xs (Int32.toNatClampNeg (nI (6 * t) + (2 : Int32)))) (xs (Int32.toNatClampNeg (nI (6 * t) + (3 : Int32)))) = some om) (he : oc.2 = om.2) (kk : G oc.1 om.1 f k n [(4, .int (nI (6 * t))), (3, .ref qo), (2, .ref (b 0)), (1, .ref (a 0)), (0, .ref b0)] 1983 []) : G σc σm f k n [(4, .int (nI (6 * t))), (3, .ref qo), (2, .ref (b 0)), (1, .ref (a 0)), (0, .ref b0)] 1619 [] := by
  refine l_aload_n M dt_L_law_63.2.2.2.2 rfl 3 rfl ?_
  refine l_aload_n M dt_L_law_64.1.1.1.1 rfl 4 rfl ?_
  refine l_iload M dt_L_law_64.1.1.1.2 0 rfl ?_
  refine l_iconst M dt_L_law_64.1.1.2.1 ki_1 ?_
  refine l_iadd M dt_L_law_64.1.1.2.2 ?_
  refine l_sld M (l_in1 ht hL) dt_L_law_64.1.2.1.1 ?_
  refine l_aload_n M dt_L_law_64.1.2.1.2 rfl 4 rfl ?_
  refine l_iload M dt_L_law_64.1.2.2.1 0 rfl ?_
  refine l_iconst M dt_L_law_64.1.2.2.2 ki_2 ?_
  refine l_iadd M dt_L_law_64.2.1.1.1 ?_
  refine l_sld M (l_in2 ht hL) dt_L_law_64.2.1.1.2 ?_
  refine l_aload_n M dt_L_law_64.2.1.2.1 rfl 4 rfl ?_
  refine l_iload M dt_L_law_64.2.1.2.2 0 rfl ?_
  refine l_iconst M dt_L_law_64.2.2.1.1 ki_3 ?_
  refine l_iadd M dt_L_law_64.2.2.1.2 ?_
  refine l_sld M (l_in3 ht hL) dt_L_law_64.2.2.2.1 ?_
  refine l_callC M [.int (xs (Int32.toNatClampNeg (nI (6 * t) + (1 : Int32)))), .int (xs (Int32.toNatClampNeg (nI (6 * t) + (2 : Int32)))), .int (xs (Int32.toNatClampNeg (nI (6 * t) + (3 : Int32))))] (rest := []) (fun A hD => m_X11_paper hD hc) rfl u1269 u87 u1272 u1270 u1271 hd_X11_paper (Nat.le_of_ble_eq_true rfl) (Nat.le_of_ble_eq_true rfl) hk9 hn9 rfl (Nat.le_of_ble_eq_true rfl) dt_L_law_64.2.2.2.2 ?_
  show G oc.1 σm f k n [(4, .int (nI (6 * t))), (3, .ref qo), (2, .ref (b 0)), (1, .ref (a 0)), (0, .ref b0)] 1641 [.int oc.2]
  refine l_aload_n M dt_L_law_65.1.1.1.1 rfl 2 rfl ?_
  refine l_aload_n M dt_L_law_65.1.1.1.2 rfl 4 rfl ?_
  refine l_iload M dt_L_law_65.1.1.2.1 0 rfl ?_
  refine l_iconst M dt_L_law_65.1.1.2.2 ki_1 ?_
  refine l_iadd M dt_L_law_65.1.2.1.1 ?_
  refine l_sld M (l_in1 ht hL) dt_L_law_65.1.2.1.2 ?_
  refine l_aload_n M dt_L_law_65.1.2.2.1 rfl 4 rfl ?_
  refine l_iload M dt_L_law_65.1.2.2.2 0 rfl ?_
  refine l_iconst M dt_L_law_65.2.1.1.1 ki_2 ?_
  refine l_iadd M dt_L_law_65.2.1.1.2 ?_
  refine l_sld M (l_in2 ht hL) dt_L_law_65.2.1.2.1 ?_
  refine l_aload_n M dt_L_law_65.2.1.2.2 rfl 4 rfl ?_
  refine l_iload M dt_L_law_65.2.2.1.1 0 rfl ?_
  refine l_iconst M dt_L_law_65.2.2.1.2 ki_3 ?_
  refine l_iadd M dt_L_law_65.2.2.2.1 ?_
  refine l_sld M (l_in3 ht hL) dt_L_law_65.2.2.2.2 ?_
  refine l_callM M [.int (xs (Int32.toNatClampNeg (nI (6 * t) + (1 : Int32)))), .int (xs (Int32.toNatClampNeg (nI (6 * t) + (2 : Int32)))), .int (xs (Int32.toNatClampNeg (nI (6 * t) + (3 : Int32))))] (rest := [.int oc.2]) (fun A hD => m_X12_paper hD hm) rfl u1893 u99 u1896 u1894 u1895 hd_X12_paper (Nat.le_of_ble_eq_true rfl) (Nat.le_of_ble_eq_true rfl) hk9 hn9 rfl (Nat.le_of_ble_eq_true rfl) dt_L_law_66.1.1.1.1 ?_
  show G oc.1 om.1 f k n [(4, .int (nI (6 * t))), (3, .ref qo), (2, .ref (b 0)), (1, .ref (a 0)), (0, .ref b0)] 1663 [.int om.2, .int oc.2]
  exact l_icmp_eq (tgt := 1983) M dt_L_law_66.1.1.1.2 (by decide) (fun _ => kk) (fun q => absurd he q)
set_option maxHeartbeats 2000000 in
theorem lc_year (M : lM l D a b qo cy ad b0 L xs G) (ht : 6 * t + 5 < L) (hL : L ≤ 3072) (hk9 : k ≤ 601024) (hn9 : n ≤ 7293033) {oc : (Zst × Int32)} {om : (Zst × Int32)} (hc : f_X11_year σc (xs (Int32.toNatClampNeg (nI (6 * t) + (1 : Int32)))) = some oc) (hm : f_X12_year σm (xs (Int32.toNatClampNeg (nI (6 * t) + (1 : Int32)))) = some om) (he : oc.2 = om.2) (kk : G oc.1 om.1 f k n [(4, .int (nI (6 * t))), (3, .ref qo), (2, .ref (b 0)), (1, .ref (a 0)), (0, .ref b0)] 1983 []) : G σc σm f k n [(4, .int (nI (6 * t))), (3, .ref qo), (2, .ref (b 0)), (1, .ref (a 0)), (0, .ref b0)] 1668 [] := by
  refine l_aload_n M dt_L_law_66.1.2.1.1 rfl 3 rfl ?_
  refine l_aload_n M dt_L_law_66.1.2.1.2 rfl 4 rfl ?_
  refine l_iload M dt_L_law_66.1.2.2.1 0 rfl ?_
  refine l_iconst M dt_L_law_66.1.2.2.2 ki_1 ?_
  refine l_iadd M dt_L_law_66.2.1.1.1 ?_
  refine l_sld M (l_in1 ht hL) dt_L_law_66.2.1.1.2 ?_
  refine l_callC M [.int (xs (Int32.toNatClampNeg (nI (6 * t) + (1 : Int32))))] (rest := []) (fun A hD => m_X11_year hD hc) rfl u1285 u87 u1288 u1286 u1287 hd_X11_year (Nat.le_of_ble_eq_true rfl) (Nat.le_of_ble_eq_true rfl) hk9 hn9 rfl (Nat.le_of_ble_eq_true rfl) dt_L_law_66.2.1.2.1 ?_
  show G oc.1 σm f k n [(4, .int (nI (6 * t))), (3, .ref qo), (2, .ref (b 0)), (1, .ref (a 0)), (0, .ref b0)] 1678 [.int oc.2]
  refine l_aload_n M dt_L_law_66.2.1.2.2 rfl 2 rfl ?_
  refine l_aload_n M dt_L_law_66.2.2.1.1 rfl 4 rfl ?_
  refine l_iload M dt_L_law_66.2.2.1.2 0 rfl ?_
  refine l_iconst M dt_L_law_66.2.2.2.1 ki_1 ?_
  refine l_iadd M dt_L_law_66.2.2.2.2 ?_
  refine l_sld M (l_in1 ht hL) dt_L_law_67.1.1.1.1 ?_
  refine l_callM M [.int (xs (Int32.toNatClampNeg (nI (6 * t) + (1 : Int32))))] (rest := [.int oc.2]) (fun A hD => m_X12_year hD hm) rfl u1903 u99 u1906 u1904 u1905 hd_X12_year (Nat.le_of_ble_eq_true rfl) (Nat.le_of_ble_eq_true rfl) hk9 hn9 rfl (Nat.le_of_ble_eq_true rfl) dt_L_law_67.1.1.1.2 ?_
  show G oc.1 om.1 f k n [(4, .int (nI (6 * t))), (3, .ref qo), (2, .ref (b 0)), (1, .ref (a 0)), (0, .ref b0)] 1688 [.int om.2, .int oc.2]
  exact l_icmp_eq (tgt := 1983) M dt_L_law_67.1.1.2.1 (by decide) (fun _ => kk) (fun q => absurd he q)
set_option maxHeartbeats 2000000 in
theorem lc_stray (M : lM l D a b qo cy ad b0 L xs G) (ht : 6 * t + 5 < L) (hL : L ≤ 3072) (hk9 : k ≤ 601024) (hn9 : n ≤ 7293033) {oc : (Zst × Int32)} {om : (Zst × Int32)} (hc : f_X11_stray σc  = some oc) (hm : f_X12_stray σm  = some om) (he : oc.2 = om.2) (kk : G oc.1 om.1 f k n [(4, .int (nI (6 * t))), (3, .ref qo), (2, .ref (b 0)), (1, .ref (a 0)), (0, .ref b0)] 1983 []) : G σc σm f k n [(4, .int (nI (6 * t))), (3, .ref qo), (2, .ref (b 0)), (1, .ref (a 0)), (0, .ref b0)] 1693 [] := by
  refine l_aload_n M dt_L_law_67.1.2.1.2 rfl 3 rfl ?_
  refine l_callC M [] (rest := []) (fun A hD => m_X11_stray hD hc) rfl u1314 u87 u1317 u1315 u1316 hd_X11_stray (Nat.le_of_ble_eq_true rfl) (Nat.le_of_ble_eq_true rfl) hk9 hn9 rfl (Nat.le_of_ble_eq_true rfl) dt_L_law_67.1.2.2.1 ?_
  show G oc.1 σm f k n [(4, .int (nI (6 * t))), (3, .ref qo), (2, .ref (b 0)), (1, .ref (a 0)), (0, .ref b0)] 1697 [.int oc.2]
  refine l_aload_n M dt_L_law_67.1.2.2.2 rfl 2 rfl ?_
  refine l_callM M [] (rest := [.int oc.2]) (fun A hD => m_X12_stray hD hm) rfl u1911 u99 u1914 u1912 u1913 hd_X12_stray (Nat.le_of_ble_eq_true rfl) (Nat.le_of_ble_eq_true rfl) hk9 hn9 rfl (Nat.le_of_ble_eq_true rfl) dt_L_law_67.2.1.1.1 ?_
  show G oc.1 om.1 f k n [(4, .int (nI (6 * t))), (3, .ref qo), (2, .ref (b 0)), (1, .ref (a 0)), (0, .ref b0)] 1701 [.int om.2, .int oc.2]
  exact l_icmp_eq (tgt := 1983) M dt_L_law_67.2.1.1.2 (by decide) (fun _ => kk) (fun q => absurd he q)
set_option maxHeartbeats 2000000 in
theorem lc_was (M : lM l D a b qo cy ad b0 L xs G) (ht : 6 * t + 5 < L) (hL : L ≤ 3072) (hk9 : k ≤ 601024) (hn9 : n ≤ 7293033) {oc : (Zst × Int32)} {om : (Zst × Int32)} (hc : f_X11_was σc (xs (Int32.toNatClampNeg (nI (6 * t) + (1 : Int32)))) (xs (Int32.toNatClampNeg (nI (6 * t) + (2 : Int32)))) (xs (Int32.toNatClampNeg (nI (6 * t) + (3 : Int32)))) (xs (Int32.toNatClampNeg (nI (6 * t) + (4 : Int32)))) = some oc) (hm : f_X12_was σm (xs (Int32.toNatClampNeg (nI (6 * t) + (1 : Int32)))) (xs (Int32.toNatClampNeg (nI (6 * t) + (2 : Int32)))) (xs (Int32.toNatClampNeg (nI (6 * t) + (3 : Int32)))) (xs (Int32.toNatClampNeg (nI (6 * t) + (4 : Int32)))) = some om) (he : oc.2 = om.2) (kk : G oc.1 om.1 f k n [(4, .int (nI (6 * t))), (3, .ref qo), (2, .ref (b 0)), (1, .ref (a 0)), (0, .ref b0)] 1983 []) : G σc σm f k n [(4, .int (nI (6 * t))), (3, .ref qo), (2, .ref (b 0)), (1, .ref (a 0)), (0, .ref b0)] 1706 [] := by
  refine l_aload_n M dt_L_law_67.2.2.1.1 rfl 3 rfl ?_
  refine l_aload_n M dt_L_law_67.2.2.1.2 rfl 4 rfl ?_
  refine l_iload M dt_L_law_67.2.2.2.1 0 rfl ?_
  refine l_iconst M dt_L_law_67.2.2.2.2 ki_1 ?_
  refine l_iadd M dt_L_law_68.1.1.1.1 ?_
  refine l_sld M (l_in1 ht hL) dt_L_law_68.1.1.1.2 ?_
  refine l_aload_n M dt_L_law_68.1.1.2.1 rfl 4 rfl ?_
  refine l_iload M dt_L_law_68.1.1.2.2 0 rfl ?_
  refine l_iconst M dt_L_law_68.1.2.1.1 ki_2 ?_
  refine l_iadd M dt_L_law_68.1.2.1.2 ?_
  refine l_sld M (l_in2 ht hL) dt_L_law_68.1.2.2.1 ?_
  refine l_aload_n M dt_L_law_68.1.2.2.2 rfl 4 rfl ?_
  refine l_iload M dt_L_law_68.2.1.1.1 0 rfl ?_
  refine l_iconst M dt_L_law_68.2.1.1.2 ki_3 ?_
  refine l_iadd M dt_L_law_68.2.1.2.1 ?_
  refine l_sld M (l_in3 ht hL) dt_L_law_68.2.1.2.2 ?_
  refine l_aload_n M dt_L_law_68.2.2.1.1 rfl 4 rfl ?_
  refine l_iload M dt_L_law_68.2.2.1.2 0 rfl ?_
  refine l_iconst M dt_L_law_68.2.2.2.1 ki_4 ?_
  refine l_iadd M dt_L_law_68.2.2.2.2 ?_
  refine l_sld M (l_in4 ht hL) dt_L_law_69.1.1.1.1 ?_
  refine l_callC M [.int (xs (Int32.toNatClampNeg (nI (6 * t) + (1 : Int32)))), .int (xs (Int32.toNatClampNeg (nI (6 * t) + (2 : Int32)))), .int (xs (Int32.toNatClampNeg (nI (6 * t) + (3 : Int32)))), .int (xs (Int32.toNatClampNeg (nI (6 * t) + (4 : Int32))))] (rest := []) (fun A hD => m_X11_was hD hc) rfl u1323 u87 u1326 u1324 u1325 hd_X11_was (Nat.le_of_ble_eq_true rfl) (Nat.le_of_ble_eq_true rfl) hk9 hn9 rfl (Nat.le_of_ble_eq_true rfl) dt_L_law_69.1.1.1.2 ?_
  show G oc.1 σm f k n [(4, .int (nI (6 * t))), (3, .ref qo), (2, .ref (b 0)), (1, .ref (a 0)), (0, .ref b0)] 1734 [.int oc.2]
  refine l_aload_n M dt_L_law_69.1.1.2.1 rfl 2 rfl ?_
  refine l_aload_n M dt_L_law_69.1.1.2.2 rfl 4 rfl ?_
  refine l_iload M dt_L_law_69.1.2.1.1 0 rfl ?_
  refine l_iconst M dt_L_law_69.1.2.1.2 ki_1 ?_
  refine l_iadd M dt_L_law_69.1.2.2.1 ?_
  refine l_sld M (l_in1 ht hL) dt_L_law_69.1.2.2.2 ?_
  refine l_aload_n M dt_L_law_69.2.1.1.1 rfl 4 rfl ?_
  refine l_iload M dt_L_law_69.2.1.1.2 0 rfl ?_
  refine l_iconst M dt_L_law_69.2.1.2.1 ki_2 ?_
  refine l_iadd M dt_L_law_69.2.1.2.2 ?_
  refine l_sld M (l_in2 ht hL) dt_L_law_69.2.2.1.1 ?_
  refine l_aload_n M dt_L_law_69.2.2.1.2 rfl 4 rfl ?_
  refine l_iload M dt_L_law_69.2.2.2.1 0 rfl ?_
  refine l_iconst M dt_L_law_69.2.2.2.2 ki_3 ?_
  refine l_iadd M dt_L_law_70.1.1.1.1 ?_
  refine l_sld M (l_in3 ht hL) dt_L_law_70.1.1.1.2 ?_
  refine l_aload_n M dt_L_law_70.1.1.2.1 rfl 4 rfl ?_
  refine l_iload M dt_L_law_70.1.1.2.2 0 rfl ?_
  refine l_iconst M dt_L_law_70.1.2.1.1 ki_4 ?_
  refine l_iadd M dt_L_law_70.1.2.1.2 ?_
  refine l_sld M (l_in4 ht hL) dt_L_law_70.1.2.2.1 ?_
  refine l_callM M [.int (xs (Int32.toNatClampNeg (nI (6 * t) + (1 : Int32)))), .int (xs (Int32.toNatClampNeg (nI (6 * t) + (2 : Int32)))), .int (xs (Int32.toNatClampNeg (nI (6 * t) + (3 : Int32)))), .int (xs (Int32.toNatClampNeg (nI (6 * t) + (4 : Int32))))] (rest := [.int oc.2]) (fun A hD => m_X12_was hD hm) rfl u1915 u99 u1918 u1916 u1917 hd_X12_was (Nat.le_of_ble_eq_true rfl) (Nat.le_of_ble_eq_true rfl) hk9 hn9 rfl (Nat.le_of_ble_eq_true rfl) dt_L_law_70.1.2.2.2 ?_
  show G oc.1 om.1 f k n [(4, .int (nI (6 * t))), (3, .ref qo), (2, .ref (b 0)), (1, .ref (a 0)), (0, .ref b0)] 1762 [.int om.2, .int oc.2]
  exact l_icmp_eq (tgt := 1983) M dt_L_law_70.2.1.1.1 (by decide) (fun _ => kk) (fun q => absurd he q)
set_option maxHeartbeats 2000000 in
theorem lc_told (M : lM l D a b qo cy ad b0 L xs G) (ht : 6 * t + 5 < L) (hL : L ≤ 3072) (hk9 : k ≤ 601024) (hn9 : n ≤ 7293033) {oc : (Zst × Int32)} {om : (Zst × Int32)} (hc : f_X11_told σc (xs (Int32.toNatClampNeg (nI (6 * t) + (1 : Int32)))) (xs (Int32.toNatClampNeg (nI (6 * t) + (2 : Int32)))) = some oc) (hm : f_X12_told σm (xs (Int32.toNatClampNeg (nI (6 * t) + (1 : Int32)))) (xs (Int32.toNatClampNeg (nI (6 * t) + (2 : Int32)))) = some om) (he : oc.2 = om.2) (kk : G oc.1 om.1 f k n [(4, .int (nI (6 * t))), (3, .ref qo), (2, .ref (b 0)), (1, .ref (a 0)), (0, .ref b0)] 1983 []) : G σc σm f k n [(4, .int (nI (6 * t))), (3, .ref qo), (2, .ref (b 0)), (1, .ref (a 0)), (0, .ref b0)] 1767 [] := by
  refine l_aload_n M dt_L_law_70.2.1.2.2 rfl 3 rfl ?_
  refine l_aload_n M dt_L_law_70.2.2.1.1 rfl 4 rfl ?_
  refine l_iload M dt_L_law_70.2.2.1.2 0 rfl ?_
  refine l_iconst M dt_L_law_70.2.2.2.1 ki_1 ?_
  refine l_iadd M dt_L_law_70.2.2.2.2 ?_
  refine l_sld M (l_in1 ht hL) dt_L_law_71.1.1.1.1 ?_
  refine l_aload_n M dt_L_law_71.1.1.1.2 rfl 4 rfl ?_
  refine l_iload M dt_L_law_71.1.1.2.1 0 rfl ?_
  refine l_iconst M dt_L_law_71.1.1.2.2 ki_2 ?_
  refine l_iadd M dt_L_law_71.1.2.1.1 ?_
  refine l_sld M (l_in2 ht hL) dt_L_law_71.1.2.1.2 ?_
  refine l_callC M [.int (xs (Int32.toNatClampNeg (nI (6 * t) + (1 : Int32)))), .int (xs (Int32.toNatClampNeg (nI (6 * t) + (2 : Int32))))] (rest := []) (fun A hD => m_X11_told hD hc) rfl u1341 u87 u1344 u1342 u1343 hd_X11_told (Nat.le_of_ble_eq_true rfl) (Nat.le_of_ble_eq_true rfl) hk9 hn9 rfl (Nat.le_of_ble_eq_true rfl) dt_L_law_71.1.2.2.1 ?_
  show G oc.1 σm f k n [(4, .int (nI (6 * t))), (3, .ref qo), (2, .ref (b 0)), (1, .ref (a 0)), (0, .ref b0)] 1783 [.int oc.2]
  refine l_aload_n M dt_L_law_71.1.2.2.2 rfl 2 rfl ?_
  refine l_aload_n M dt_L_law_71.2.1.1.1 rfl 4 rfl ?_
  refine l_iload M dt_L_law_71.2.1.1.2 0 rfl ?_
  refine l_iconst M dt_L_law_71.2.1.2.1 ki_1 ?_
  refine l_iadd M dt_L_law_71.2.1.2.2 ?_
  refine l_sld M (l_in1 ht hL) dt_L_law_71.2.2.1.1 ?_
  refine l_aload_n M dt_L_law_71.2.2.1.2 rfl 4 rfl ?_
  refine l_iload M dt_L_law_71.2.2.2.1 0 rfl ?_
  refine l_iconst M dt_L_law_71.2.2.2.2 ki_2 ?_
  refine l_iadd M dt_L_law_72.1.1.1.1 ?_
  refine l_sld M (l_in2 ht hL) dt_L_law_72.1.1.1.2 ?_
  refine l_callM M [.int (xs (Int32.toNatClampNeg (nI (6 * t) + (1 : Int32)))), .int (xs (Int32.toNatClampNeg (nI (6 * t) + (2 : Int32))))] (rest := [.int oc.2]) (fun A hD => m_X12_told hD hm) rfl u1927 u99 u1930 u1928 u1929 hd_X12_told (Nat.le_of_ble_eq_true rfl) (Nat.le_of_ble_eq_true rfl) hk9 hn9 rfl (Nat.le_of_ble_eq_true rfl) dt_L_law_72.1.1.2.1 ?_
  show G oc.1 om.1 f k n [(4, .int (nI (6 * t))), (3, .ref qo), (2, .ref (b 0)), (1, .ref (a 0)), (0, .ref b0)] 1799 [.int om.2, .int oc.2]
  exact l_icmp_eq (tgt := 1983) M dt_L_law_72.1.1.2.2 (by decide) (fun _ => kk) (fun q => absurd he q)
set_option maxHeartbeats 2000000 in
theorem lc_does (M : lM l D a b qo cy ad b0 L xs G) (ht : 6 * t + 5 < L) (hL : L ≤ 3072) (hk9 : k ≤ 601024) (hn9 : n ≤ 7293033) {oc : (Zst × Int32)} {om : (Zst × Int32)} (hc : f_X11_does σc (xs (Int32.toNatClampNeg (nI (6 * t) + (1 : Int32)))) (xs (Int32.toNatClampNeg (nI (6 * t) + (2 : Int32)))) (xs (Int32.toNatClampNeg (nI (6 * t) + (3 : Int32)))) = some oc) (hm : f_X12_does σm (xs (Int32.toNatClampNeg (nI (6 * t) + (1 : Int32)))) (xs (Int32.toNatClampNeg (nI (6 * t) + (2 : Int32)))) (xs (Int32.toNatClampNeg (nI (6 * t) + (3 : Int32)))) = some om) (he : oc.2 = om.2) (kk : G oc.1 om.1 f k n [(4, .int (nI (6 * t))), (3, .ref qo), (2, .ref (b 0)), (1, .ref (a 0)), (0, .ref b0)] 1983 []) : G σc σm f k n [(4, .int (nI (6 * t))), (3, .ref qo), (2, .ref (b 0)), (1, .ref (a 0)), (0, .ref b0)] 1804 [] := by
  refine l_aload_n M dt_L_law_72.1.2.2.1 rfl 3 rfl ?_
  refine l_aload_n M dt_L_law_72.1.2.2.2 rfl 4 rfl ?_
  refine l_iload M dt_L_law_72.2.1.1.1 0 rfl ?_
  refine l_iconst M dt_L_law_72.2.1.1.2 ki_1 ?_
  refine l_iadd M dt_L_law_72.2.1.2.1 ?_
  refine l_sld M (l_in1 ht hL) dt_L_law_72.2.1.2.2 ?_
  refine l_aload_n M dt_L_law_72.2.2.1.1 rfl 4 rfl ?_
  refine l_iload M dt_L_law_72.2.2.1.2 0 rfl ?_
  refine l_iconst M dt_L_law_72.2.2.2.1 ki_2 ?_
  refine l_iadd M dt_L_law_72.2.2.2.2 ?_
  refine l_sld M (l_in2 ht hL) dt_L_law_73.1.1.1.1 ?_
  refine l_aload_n M dt_L_law_73.1.1.1.2 rfl 4 rfl ?_
  refine l_iload M dt_L_law_73.1.1.2.1 0 rfl ?_
  refine l_iconst M dt_L_law_73.1.1.2.2 ki_3 ?_
  refine l_iadd M dt_L_law_73.1.2.1.1 ?_
  refine l_sld M (l_in3 ht hL) dt_L_law_73.1.2.1.2 ?_
  refine l_callC M [.int (xs (Int32.toNatClampNeg (nI (6 * t) + (1 : Int32)))), .int (xs (Int32.toNatClampNeg (nI (6 * t) + (2 : Int32)))), .int (xs (Int32.toNatClampNeg (nI (6 * t) + (3 : Int32))))] (rest := []) (fun A hD => m_X11_does hD hc) rfl u1349 u87 u1352 u1350 u1351 hd_X11_does (Nat.le_of_ble_eq_true rfl) (Nat.le_of_ble_eq_true rfl) hk9 hn9 rfl (Nat.le_of_ble_eq_true rfl) dt_L_law_73.1.2.2.1 ?_
  show G oc.1 σm f k n [(4, .int (nI (6 * t))), (3, .ref qo), (2, .ref (b 0)), (1, .ref (a 0)), (0, .ref b0)] 1826 [.int oc.2]
  refine l_aload_n M dt_L_law_73.1.2.2.2 rfl 2 rfl ?_
  refine l_aload_n M dt_L_law_73.2.1.1.1 rfl 4 rfl ?_
  refine l_iload M dt_L_law_73.2.1.1.2 0 rfl ?_
  refine l_iconst M dt_L_law_73.2.1.2.1 ki_1 ?_
  refine l_iadd M dt_L_law_73.2.1.2.2 ?_
  refine l_sld M (l_in1 ht hL) dt_L_law_73.2.2.1.1 ?_
  refine l_aload_n M dt_L_law_73.2.2.1.2 rfl 4 rfl ?_
  refine l_iload M dt_L_law_73.2.2.2.1 0 rfl ?_
  refine l_iconst M dt_L_law_73.2.2.2.2 ki_2 ?_
  refine l_iadd M dt_L_law_74.1.1.1.1 ?_
  refine l_sld M (l_in2 ht hL) dt_L_law_74.1.1.1.2 ?_
  refine l_aload_n M dt_L_law_74.1.1.2.1 rfl 4 rfl ?_
  refine l_iload M dt_L_law_74.1.1.2.2 0 rfl ?_
  refine l_iconst M dt_L_law_74.1.2.1.1 ki_3 ?_
  refine l_iadd M dt_L_law_74.1.2.1.2 ?_
  refine l_sld M (l_in3 ht hL) dt_L_law_74.1.2.2.1 ?_
  refine l_callM M [.int (xs (Int32.toNatClampNeg (nI (6 * t) + (1 : Int32)))), .int (xs (Int32.toNatClampNeg (nI (6 * t) + (2 : Int32)))), .int (xs (Int32.toNatClampNeg (nI (6 * t) + (3 : Int32))))] (rest := [.int oc.2]) (fun A hD => m_X12_does hD hm) rfl u1931 u99 u1934 u1932 u1933 hd_X12_does (Nat.le_of_ble_eq_true rfl) (Nat.le_of_ble_eq_true rfl) hk9 hn9 rfl (Nat.le_of_ble_eq_true rfl) dt_L_law_74.1.2.2.2 ?_
  show G oc.1 om.1 f k n [(4, .int (nI (6 * t))), (3, .ref qo), (2, .ref (b 0)), (1, .ref (a 0)), (0, .ref b0)] 1848 [.int om.2, .int oc.2]
  exact l_icmp_eq (tgt := 1983) M dt_L_law_74.2.1.1.1 (by decide) (fun _ => kk) (fun q => absurd he q)
set_option maxHeartbeats 2000000 in
theorem lc_keep (M : lM l D a b qo cy ad b0 L xs G) (ht : 6 * t + 5 < L) (hL : L ≤ 3072) (hk9 : k ≤ 601024) (hn9 : n ≤ 7293033) {oc : (Zst × Int32)} {om : (Zst × Int32)} (hc : f_X11_keep σc (xs (Int32.toNatClampNeg (nI (6 * t) + (1 : Int32)))) = some oc) (hm : f_X12_keep σm (xs (Int32.toNatClampNeg (nI (6 * t) + (1 : Int32)))) = some om) (he : oc.2 = om.2) (kk : G oc.1 om.1 f k n [(4, .int (nI (6 * t))), (3, .ref qo), (2, .ref (b 0)), (1, .ref (a 0)), (0, .ref b0)] 1983 []) : G σc σm f k n [(4, .int (nI (6 * t))), (3, .ref qo), (2, .ref (b 0)), (1, .ref (a 0)), (0, .ref b0)] 1853 [] := by
  refine l_aload_n M dt_L_law_74.2.1.2.2 rfl 3 rfl ?_
  refine l_aload_n M dt_L_law_74.2.2.1.1 rfl 4 rfl ?_
  refine l_iload M dt_L_law_74.2.2.1.2 0 rfl ?_
  refine l_iconst M dt_L_law_74.2.2.2.1 ki_1 ?_
  refine l_iadd M dt_L_law_74.2.2.2.2 ?_
  refine l_sld M (l_in1 ht hL) dt_L_law_75.1.1.1.1 ?_
  refine l_callC M [.int (xs (Int32.toNatClampNeg (nI (6 * t) + (1 : Int32))))] (rest := []) (fun A hD => m_X11_keep hD hc) rfl u1368 u87 u1371 u1369 u1370 hd_X11_keep (Nat.le_of_ble_eq_true rfl) (Nat.le_of_ble_eq_true rfl) hk9 hn9 rfl (Nat.le_of_ble_eq_true rfl) dt_L_law_75.1.1.1.2 ?_
  show G oc.1 σm f k n [(4, .int (nI (6 * t))), (3, .ref qo), (2, .ref (b 0)), (1, .ref (a 0)), (0, .ref b0)] 1863 [.int oc.2]
  refine l_aload_n M dt_L_law_75.1.1.2.1 rfl 2 rfl ?_
  refine l_aload_n M dt_L_law_75.1.1.2.2 rfl 4 rfl ?_
  refine l_iload M dt_L_law_75.1.2.1.1 0 rfl ?_
  refine l_iconst M dt_L_law_75.1.2.1.2 ki_1 ?_
  refine l_iadd M dt_L_law_75.1.2.2.1 ?_
  refine l_sld M (l_in1 ht hL) dt_L_law_75.1.2.2.2 ?_
  refine l_callM M [.int (xs (Int32.toNatClampNeg (nI (6 * t) + (1 : Int32))))] (rest := [.int oc.2]) (fun A hD => m_X12_keep hD hm) rfl u1935 u99 u1938 u1936 u1937 hd_X12_keep (Nat.le_of_ble_eq_true rfl) (Nat.le_of_ble_eq_true rfl) hk9 hn9 rfl (Nat.le_of_ble_eq_true rfl) dt_L_law_75.2.1.1.1 ?_
  show G oc.1 om.1 f k n [(4, .int (nI (6 * t))), (3, .ref qo), (2, .ref (b 0)), (1, .ref (a 0)), (0, .ref b0)] 1873 [.int om.2, .int oc.2]
  exact l_icmp_eq (tgt := 1983) M dt_L_law_75.2.1.1.2 (by decide) (fun _ => kk) (fun q => absurd he q)
set_option maxHeartbeats 2000000 in
theorem lc_again (M : lM l D a b qo cy ad b0 L xs G) (ht : 6 * t + 5 < L) (hL : L ≤ 3072) (hk9 : k ≤ 601024) (hn9 : n ≤ 7293033) {oc : (Zst × Int32)} {om : (Zst × Int32)} (hc : f_X11_again σc (xs (Int32.toNatClampNeg (nI (6 * t) + (1 : Int32)))) = some oc) (hm : f_X12_again σm (xs (Int32.toNatClampNeg (nI (6 * t) + (1 : Int32)))) = some om) (he : oc.2 = om.2) (kk : G oc.1 om.1 f k n [(4, .int (nI (6 * t))), (3, .ref qo), (2, .ref (b 0)), (1, .ref (a 0)), (0, .ref b0)] 1983 []) : G σc σm f k n [(4, .int (nI (6 * t))), (3, .ref qo), (2, .ref (b 0)), (1, .ref (a 0)), (0, .ref b0)] 1878 [] := by
  refine l_aload_n M dt_L_law_75.2.2.1.1 rfl 3 rfl ?_
  refine l_aload_n M dt_L_law_75.2.2.1.2 rfl 4 rfl ?_
  refine l_iload M dt_L_law_75.2.2.2.1 0 rfl ?_
  refine l_iconst M dt_L_law_75.2.2.2.2 ki_1 ?_
  refine l_iadd M dt_L_law_76.1.1.1.1 ?_
  refine l_sld M (l_in1 ht hL) dt_L_law_76.1.1.1.2 ?_
  refine l_callC M [.int (xs (Int32.toNatClampNeg (nI (6 * t) + (1 : Int32))))] (rest := []) (fun A hD => m_X11_again hD hc) rfl u1379 u87 u1382 u1380 u1381 hd_X11_again (Nat.le_of_ble_eq_true rfl) (Nat.le_of_ble_eq_true rfl) hk9 hn9 rfl (Nat.le_of_ble_eq_true rfl) dt_L_law_76.1.1.2.1 ?_
  show G oc.1 σm f k n [(4, .int (nI (6 * t))), (3, .ref qo), (2, .ref (b 0)), (1, .ref (a 0)), (0, .ref b0)] 1888 [.int oc.2]
  refine l_aload_n M dt_L_law_76.1.1.2.2 rfl 2 rfl ?_
  refine l_aload_n M dt_L_law_76.1.2.1.1 rfl 4 rfl ?_
  refine l_iload M dt_L_law_76.1.2.1.2 0 rfl ?_
  refine l_iconst M dt_L_law_76.1.2.2.1 ki_1 ?_
  refine l_iadd M dt_L_law_76.1.2.2.2 ?_
  refine l_sld M (l_in1 ht hL) dt_L_law_76.2.1.1.1 ?_
  refine l_callM M [.int (xs (Int32.toNatClampNeg (nI (6 * t) + (1 : Int32))))] (rest := [.int oc.2]) (fun A hD => m_X12_again hD hm) rfl u1939 u99 u1942 u1940 u1941 hd_X12_again (Nat.le_of_ble_eq_true rfl) (Nat.le_of_ble_eq_true rfl) hk9 hn9 rfl (Nat.le_of_ble_eq_true rfl) dt_L_law_76.2.1.1.2 ?_
  show G oc.1 om.1 f k n [(4, .int (nI (6 * t))), (3, .ref qo), (2, .ref (b 0)), (1, .ref (a 0)), (0, .ref b0)] 1898 [.int om.2, .int oc.2]
  exact l_icmp_eq (tgt := 1983) M dt_L_law_76.2.1.2.1 (by decide) (fun _ => kk) (fun q => absurd he q)
set_option maxHeartbeats 2000000 in
theorem lc_count (M : lM l D a b qo cy ad b0 L xs G) (ht : 6 * t + 5 < L) (hL : L ≤ 3072) (hk9 : k ≤ 601024) (hn9 : n ≤ 7293033) {oc : Int32} {om : (Zst × Int32)} (hc : f_X11_count σc (xs (Int32.toNatClampNeg (nI (6 * t) + (1 : Int32)))) = some oc) (hm : f_X12_count σm (xs (Int32.toNatClampNeg (nI (6 * t) + (1 : Int32)))) = some om) (he : oc = om.2) (kk : G σc om.1 f k n [(4, .int (nI (6 * t))), (3, .ref qo), (2, .ref (b 0)), (1, .ref (a 0)), (0, .ref b0)] 1983 []) : G σc σm f k n [(4, .int (nI (6 * t))), (3, .ref qo), (2, .ref (b 0)), (1, .ref (a 0)), (0, .ref b0)] 1903 [] := by
  refine l_aload_n M dt_L_law_76.2.2.1.2 rfl 3 rfl ?_
  refine l_aload_n M dt_L_law_76.2.2.2.1 rfl 4 rfl ?_
  refine l_iload M dt_L_law_76.2.2.2.2 0 rfl ?_
  refine l_iconst M dt_L_law_77.1.1.1.1 ki_1 ?_
  refine l_iadd M dt_L_law_77.1.1.1.2 ?_
  refine l_sld M (l_in1 ht hL) dt_L_law_77.1.1.2.1 ?_
  refine l_callC M [.int (xs (Int32.toNatClampNeg (nI (6 * t) + (1 : Int32))))] (rest := []) (fun A hD => m_X11_count hD hc) rfl u1387 u87 u1390 u1388 u1389 hd_X11_count (Nat.le_of_ble_eq_true rfl) (Nat.le_of_ble_eq_true rfl) hk9 hn9 rfl (Nat.le_of_ble_eq_true rfl) dt_L_law_77.1.1.2.2 ?_
  show G σc σm f k n [(4, .int (nI (6 * t))), (3, .ref qo), (2, .ref (b 0)), (1, .ref (a 0)), (0, .ref b0)] 1913 [.int oc]
  refine l_aload_n M dt_L_law_77.1.2.1.1 rfl 2 rfl ?_
  refine l_aload_n M dt_L_law_77.1.2.1.2 rfl 4 rfl ?_
  refine l_iload M dt_L_law_77.1.2.2.1 0 rfl ?_
  refine l_iconst M dt_L_law_77.1.2.2.2 ki_1 ?_
  refine l_iadd M dt_L_law_77.2.1.1.1 ?_
  refine l_sld M (l_in1 ht hL) dt_L_law_77.2.1.1.2 ?_
  refine l_callM M [.int (xs (Int32.toNatClampNeg (nI (6 * t) + (1 : Int32))))] (rest := [.int oc]) (fun A hD => m_X12_count hD hm) rfl u1943 u99 u1946 u1944 u1945 hd_X12_count (Nat.le_of_ble_eq_true rfl) (Nat.le_of_ble_eq_true rfl) hk9 hn9 rfl (Nat.le_of_ble_eq_true rfl) dt_L_law_77.2.1.2.1 ?_
  show G σc om.1 f k n [(4, .int (nI (6 * t))), (3, .ref qo), (2, .ref (b 0)), (1, .ref (a 0)), (0, .ref b0)] 1923 [.int om.2, .int oc]
  exact l_icmp_eq (tgt := 1983) M dt_L_law_77.2.1.2.2 (by decide) (fun _ => kk) (fun q => absurd he q)
end LCS
section LLP
variable {l : Launch} {D : va_G} {a b : Nat → Nat} {qo : Nat} {cy : ClassId × (ClassId × (ClassId × ClassId))} {ad : (Nat → Nat) × (Nat → Nat)} {b0 L : Nat} {xs : Nat → Int32} {G : Zst → Zst → (Nat → Int64) → Nat → Nat → List (Nat × Value) → Nat → List Value → Prop}
variable {σc σm : Zst} {f : Nat → Int64} {k n : Nat} {t : Nat}
/-- what a step asks: behind the case the counter goes on -/
def l_Nx (L : Nat) (b0 qo : Nat) (a b : Nat → Nat) (Rel : Zst → Zst → Prop) (G : Zst → Zst → (Nat → Int64) → Nat → Nat → List (Nat × Value) → Nat → List Value → Prop) (t pc : Nat) : Prop :=
  ∀ (σc σm : Zst) (f : Nat → Int64) (k n : Nat), Rel σc σm → k + (512 - t) * 1000 ≤ 601024 → n + (512 - t) * 13000 ≤ 7293033 → G σc σm f k n [(4, .int (nI (6 * t))), (3, .ref qo), (2, .ref (b 0)), (1, .ref (a 0)), (0, .ref b0)] pc []
theorem l_Nx_up {Rel : Zst → Zst → Prop} (t : Nat) {k n : Nat} (h : 6 * t + 5 < 3072) (hk : k + (512 - t) * 1000 ≤ 601024) (hn : n + (512 - t) * 13000 ≤ 7293033) : (k + 1000) + (512 - (t + 1)) * 1000 ≤ 601024 ∧ (n + 13000) + (512 - (t + 1)) * 13000 ≤ 7293033 := by omega
theorem ls_sort {Rel : Zst → Zst → Prop} (H : lp_sort Rel) (M : lM l D a b qo cy ad b0 L xs G) (ht : 6 * t + 5 < L) (hL : L ≤ 3072) (kk : l_Nx L b0 qo a b Rel G t 1983) : l_Nx L b0 qo a b Rel G t 240 := by
  intro σc σm f k n hR hk hn
  obtain ⟨oc, om, hc, hm, he, hr⟩ := H σc σm hR (xs (Int32.toNatClampNeg (nI (6 * t) + (1 : Int32)))) (xs (Int32.toNatClampNeg (nI (6 * t) + (2 : Int32)))) (xs (Int32.toNatClampNeg (nI (6 * t) + (3 : Int32))))
  exact lc_sort M ht hL (by omega) (by omega) hc hm he (kk _ _ _ _ _ hr hk hn)
theorem ls_goes {Rel : Zst → Zst → Prop} (H : lp_goes Rel) (M : lM l D a b qo cy ad b0 L xs G) (ht : 6 * t + 5 < L) (hL : L ≤ 3072) (kk : l_Nx L b0 qo a b Rel G t 1983) : l_Nx L b0 qo a b Rel G t 289 := by
  intro σc σm f k n hR hk hn
  obtain ⟨oc, om, hc, hm, he, hr⟩ := H σc σm hR (xs (Int32.toNatClampNeg (nI (6 * t) + (1 : Int32)))) (xs (Int32.toNatClampNeg (nI (6 * t) + (2 : Int32)))) (xs (Int32.toNatClampNeg (nI (6 * t) + (3 : Int32)))) (xs (Int32.toNatClampNeg (nI (6 * t) + (4 : Int32))))
  exact lc_goes M ht hL (by omega) (by omega) hc hm he (kk _ _ _ _ _ hr hk hn)
theorem ls_street {Rel : Zst → Zst → Prop} (H : lp_street Rel) (M : lM l D a b qo cy ad b0 L xs G) (ht : 6 * t + 5 < L) (hL : L ≤ 3072) (kk : l_Nx L b0 qo a b Rel G t 1983) : l_Nx L b0 qo a b Rel G t 350 := by
  intro σc σm f k n hR hk hn
  obtain ⟨oc, om, hc, hm, he, hr⟩ := H σc σm hR (xs (Int32.toNatClampNeg (nI (6 * t) + (1 : Int32))))
  exact lc_street M ht hL (by omega) (by omega) hc hm he (kk _ _ _ _ _ hr hk hn)
theorem ls_lack {Rel : Zst → Zst → Prop} (H : lp_lack Rel) (M : lM l D a b qo cy ad b0 L xs G) (ht : 6 * t + 5 < L) (hL : L ≤ 3072) (kk : l_Nx L b0 qo a b Rel G t 1983) : l_Nx L b0 qo a b Rel G t 375 := by
  intro σc σm f k n hR hk hn
  by_cases h0 : (xs (Int32.toNatClampNeg (nI (6 * t) + (3 : Int32)))) = 0
  · obtain ⟨oc, om, hc, hm, he, hr⟩ := H σc σm hR (xs (Int32.toNatClampNeg (nI (6 * t) + (1 : Int32)))) (xs (Int32.toNatClampNeg (nI (6 * t) + (2 : Int32)))) 0 (Or.inl rfl)
    exact lc_lackt M ht hL (by omega) (by omega) h0 hc hm he (kk _ _ _ _ _ hr hk hn)
  · obtain ⟨oc, om, hc, hm, he, hr⟩ := H σc σm hR (xs (Int32.toNatClampNeg (nI (6 * t) + (1 : Int32)))) (xs (Int32.toNatClampNeg (nI (6 * t) + (2 : Int32)))) 1 (Or.inr rfl)
    exact lc_lackf M ht hL (by omega) (by omega) h0 hc hm he (kk _ _ _ _ _ hr hk hn)
theorem ls_put {Rel : Zst → Zst → Prop} (H : lp_put Rel) (M : lM l D a b qo cy ad b0 L xs G) (ht : 6 * t + 5 < L) (hL : L ≤ 3072) (kk : l_Nx L b0 qo a b Rel G t 1983) : l_Nx L b0 qo a b Rel G t 440 := by
  intro σc σm f k n hR hk hn
  obtain ⟨oc, om, hc, hm, he, hr⟩ := H σc σm hR (xs (Int32.toNatClampNeg (nI (6 * t) + (1 : Int32)))) (xs (Int32.toNatClampNeg (nI (6 * t) + (2 : Int32)))) (xs (Int32.toNatClampNeg (nI (6 * t) + (3 : Int32)))) (xs (Int32.toNatClampNeg (nI (6 * t) + (4 : Int32))))
  exact lc_put M ht hL (by omega) (by omega) hc hm he (kk _ _ _ _ _ hr hk hn)
theorem ls_get {Rel : Zst → Zst → Prop} (H : lp_get Rel) (M : lM l D a b qo cy ad b0 L xs G) (ht : 6 * t + 5 < L) (hL : L ≤ 3072) (kk : l_Nx L b0 qo a b Rel G t 1983) : l_Nx L b0 qo a b Rel G t 501 := by
  intro σc σm f k n hR hk hn
  obtain ⟨oc, om, hc, hm, he, hr⟩ := H σc σm hR (xs (Int32.toNatClampNeg (nI (6 * t) + (1 : Int32)))) (xs (Int32.toNatClampNeg (nI (6 * t) + (2 : Int32)))) (xs (Int32.toNatClampNeg (nI (6 * t) + (3 : Int32))))
  exact lc_get M ht hL (by omega) (by omega) hc hm he (kk _ _ _ _ _ hr hk hn)
theorem ls_sheet {Rel : Zst → Zst → Prop} (H : lp_sheet Rel) (M : lM l D a b qo cy ad b0 L xs G) (ht : 6 * t + 5 < L) (hL : L ≤ 3072) (kk : l_Nx L b0 qo a b Rel G t 1983) : l_Nx L b0 qo a b Rel G t 550 := by
  intro σc σm f k n hR hk hn
  obtain ⟨oc, om, hc, hm, he, hr⟩ := H σc σm hR (xs (Int32.toNatClampNeg (nI (6 * t) + (1 : Int32)))) (xs (Int32.toNatClampNeg (nI (6 * t) + (2 : Int32)))) (xs (Int32.toNatClampNeg (nI (6 * t) + (3 : Int32)))) (xs (Int32.toNatClampNeg (nI (6 * t) + (4 : Int32)))) (xs (Int32.toNatClampNeg (nI (6 * t) + (5 : Int32))))
  exact lc_sheet M ht hL (by omega) (by omega) hc hm he (kk _ _ _ _ _ hr hk hn)
theorem ls_sign {Rel : Zst → Zst → Prop} (H : lp_sign Rel) (M : lM l D a b qo cy ad b0 L xs G) (ht : 6 * t + 5 < L) (hL : L ≤ 3072) (kk : l_Nx L b0 qo a b Rel G t 1983) : l_Nx L b0 qo a b Rel G t 623 := by
  intro σc σm f k n hR hk hn
  obtain ⟨oc, om, hc, hm, he, hr⟩ := H σc σm hR (xs (Int32.toNatClampNeg (nI (6 * t) + (1 : Int32))))
  exact lc_sign M ht hL (by omega) (by omega) hc hm he (kk _ _ _ _ _ hr hk hn)
theorem ls_end {Rel : Zst → Zst → Prop} (H : lp_end Rel) (M : lM l D a b qo cy ad b0 L xs G) (ht : 6 * t + 5 < L) (hL : L ≤ 3072) (kk : l_Nx L b0 qo a b Rel G t 1983) : l_Nx L b0 qo a b Rel G t 648 := by
  intro σc σm f k n hR hk hn
  obtain ⟨oc, om, hc, hm, he, hr⟩ := H σc σm hR (xs (Int32.toNatClampNeg (nI (6 * t) + (1 : Int32))))
  exact lc_end M ht hL (by omega) (by omega) hc hm he (kk _ _ _ _ _ hr hk hn)
theorem ls_law {Rel : Zst → Zst → Prop} (H : lp_law Rel) (M : lM l D a b qo cy ad b0 L xs G) (ht : 6 * t + 5 < L) (hL : L ≤ 3072) (kk : l_Nx L b0 qo a b Rel G t 1983) : l_Nx L b0 qo a b Rel G t 673 := by
  intro σc σm f k n hR hk hn
  obtain ⟨oc, om, hc, hm, he, hr⟩ := H σc σm hR (xs (Int32.toNatClampNeg (nI (6 * t) + (1 : Int32))))
  exact lc_law M ht hL (by omega) (by omega) hc hm he (kk _ _ _ _ _ hr hk hn)
theorem ls_live {Rel : Zst → Zst → Prop} (H : lp_live Rel) (M : lM l D a b qo cy ad b0 L xs G) (ht : 6 * t + 5 < L) (hL : L ≤ 3072) (kk : l_Nx L b0 qo a b Rel G t 1983) : l_Nx L b0 qo a b Rel G t 698 := by
  intro σc σm f k n hR hk hn
  obtain ⟨oc, om, hc, hm, he, hr⟩ := H σc σm hR (xs (Int32.toNatClampNeg (nI (6 * t) + (1 : Int32)))) (xs (Int32.toNatClampNeg (nI (6 * t) + (2 : Int32))))
  exact lc_live M ht hL (by omega) (by omega) hc hm he (kk _ _ _ _ _ hr hk hn)
theorem ls_seed {Rel : Zst → Zst → Prop} (H : lp_seed Rel) (M : lM l D a b qo cy ad b0 L xs G) (ht : 6 * t + 5 < L) (hL : L ≤ 3072) (kk : l_Nx L b0 qo a b Rel G t 1983) : l_Nx L b0 qo a b Rel G t 735 := by
  intro σc σm f k n hR hk hn
  obtain ⟨oc, om, hc, hm, he, hr⟩ := H σc σm hR (xs (Int32.toNatClampNeg (nI (6 * t) + (1 : Int32))))
  exact lc_seed M ht hL (by omega) (by omega) hc hm he (kk _ _ _ _ _ hr hk hn)
theorem ls_sum {Rel : Zst → Zst → Prop} (H : lp_sum Rel) (M : lM l D a b qo cy ad b0 L xs G) (ht : 6 * t + 5 < L) (hL : L ≤ 3072) (kk : l_Nx L b0 qo a b Rel G t 1983) : l_Nx L b0 qo a b Rel G t 760 := by
  intro σc σm f k n hR hk hn
  obtain ⟨oc, om, hc, hm, he, hr⟩ := H σc σm hR (xs (Int32.toNatClampNeg (nI (6 * t) + (1 : Int32)))) (xs (Int32.toNatClampNeg (nI (6 * t) + (2 : Int32)))) (xs (Int32.toNatClampNeg (nI (6 * t) + (3 : Int32)))) (xs (Int32.toNatClampNeg (nI (6 * t) + (4 : Int32))))
  exact lc_sum M ht hL (by omega) (by omega) hc hm he (kk _ _ _ _ _ hr hk hn)
theorem ls_bounds {Rel : Zst → Zst → Prop} (H : lp_bounds Rel) (M : lM l D a b qo cy ad b0 L xs G) (ht : 6 * t + 5 < L) (hL : L ≤ 3072) (kk : l_Nx L b0 qo a b Rel G t 1983) : l_Nx L b0 qo a b Rel G t 821 := by
  intro σc σm f k n hR hk hn
  obtain ⟨oc, om, hc, hm, he, hr⟩ := H σc σm hR (xs (Int32.toNatClampNeg (nI (6 * t) + (1 : Int32)))) (xs (Int32.toNatClampNeg (nI (6 * t) + (2 : Int32)))) (xs (Int32.toNatClampNeg (nI (6 * t) + (3 : Int32))))
  exact lc_bounds M ht hL (by omega) (by omega) hc hm he (kk _ _ _ _ _ hr hk hn)
theorem ls_line {Rel : Zst → Zst → Prop} (H : lp_line Rel) (M : lM l D a b qo cy ad b0 L xs G) (ht : 6 * t + 5 < L) (hL : L ≤ 3072) (kk : l_Nx L b0 qo a b Rel G t 1983) : l_Nx L b0 qo a b Rel G t 870 := by
  intro σc σm f k n hR hk hn
  obtain ⟨oc, om, hc, hm, he, hr⟩ := H σc σm hR (xs (Int32.toNatClampNeg (nI (6 * t) + (1 : Int32)))) (xs (Int32.toNatClampNeg (nI (6 * t) + (2 : Int32)))) (xs (Int32.toNatClampNeg (nI (6 * t) + (3 : Int32))))
  exact lc_line M ht hL (by omega) (by omega) hc hm he (kk _ _ _ _ _ hr hk hn)
theorem ls_off {Rel : Zst → Zst → Prop} (H : lp_off Rel) (M : lM l D a b qo cy ad b0 L xs G) (ht : 6 * t + 5 < L) (hL : L ≤ 3072) (kk : l_Nx L b0 qo a b Rel G t 1983) : l_Nx L b0 qo a b Rel G t 919 := by
  intro σc σm f k n hR hk hn
  obtain ⟨oc, om, hc, hm, he, hr⟩ := H σc σm hR (xs (Int32.toNatClampNeg (nI (6 * t) + (1 : Int32)))) (xs (Int32.toNatClampNeg (nI (6 * t) + (2 : Int32))))
  exact lc_off M ht hL (by omega) (by omega) hc hm he (kk _ _ _ _ _ hr hk hn)
theorem ls_nearest {Rel : Zst → Zst → Prop} (H : lp_nearest Rel) (M : lM l D a b qo cy ad b0 L xs G) (ht : 6 * t + 5 < L) (hL : L ≤ 3072) (kk : l_Nx L b0 qo a b Rel G t 1983) : l_Nx L b0 qo a b Rel G t 956 := by
  intro σc σm f k n hR hk hn
  obtain ⟨oc, om, hc, hm, he, hr⟩ := H σc σm hR (xs (Int32.toNatClampNeg (nI (6 * t) + (1 : Int32))))
  exact lc_nearest M ht hL (by omega) (by omega) hc hm he (kk _ _ _ _ _ hr hk hn)
theorem ls_worst {Rel : Zst → Zst → Prop} (H : lp_worst Rel) (M : lM l D a b qo cy ad b0 L xs G) (ht : 6 * t + 5 < L) (hL : L ≤ 3072) (kk : l_Nx L b0 qo a b Rel G t 1983) : l_Nx L b0 qo a b Rel G t 981 := by
  intro σc σm f k n hR hk hn
  obtain ⟨oc, om, hc, hm, he, hr⟩ := H σc σm hR (xs (Int32.toNatClampNeg (nI (6 * t) + (1 : Int32)))) (xs (Int32.toNatClampNeg (nI (6 * t) + (2 : Int32))))
  exact lc_worst M ht hL (by omega) (by omega) hc hm he (kk _ _ _ _ _ hr hk hn)
theorem ls_right {Rel : Zst → Zst → Prop} (H : lp_right Rel) (M : lM l D a b qo cy ad b0 L xs G) (ht : 6 * t + 5 < L) (hL : L ≤ 3072) (kk : l_Nx L b0 qo a b Rel G t 1983) : l_Nx L b0 qo a b Rel G t 1018 := by
  intro σc σm f k n hR hk hn
  obtain ⟨oc, om, hc, hm, he, hr⟩ := H σc σm hR (xs (Int32.toNatClampNeg (nI (6 * t) + (1 : Int32))))
  exact lc_right M ht hL (by omega) (by omega) hc hm he (kk _ _ _ _ _ hr hk hn)
theorem ls_three {Rel : Zst → Zst → Prop} (H : lp_three Rel) (M : lM l D a b qo cy ad b0 L xs G) (ht : 6 * t + 5 < L) (hL : L ≤ 3072) (kk : l_Nx L b0 qo a b Rel G t 1983) : l_Nx L b0 qo a b Rel G t 1043 := by
  intro σc σm f k n hR hk hn
  obtain ⟨oc, om, hc, hm, he, hr⟩ := H σc σm hR (xs (Int32.toNatClampNeg (nI (6 * t) + (1 : Int32)))) (xs (Int32.toNatClampNeg (nI (6 * t) + (2 : Int32))))
  exact lc_three M ht hL (by omega) (by omega) hc hm he (kk _ _ _ _ _ hr hk hn)
theorem ls_slope {Rel : Zst → Zst → Prop} (H : lp_slope Rel) (M : lM l D a b qo cy ad b0 L xs G) (ht : 6 * t + 5 < L) (hL : L ≤ 3072) (kk : l_Nx L b0 qo a b Rel G t 1983) : l_Nx L b0 qo a b Rel G t 1080 := by
  intro σc σm f k n hR hk hn
  obtain ⟨oc, om, hc, hm, he, hr⟩ := H σc σm hR (xs (Int32.toNatClampNeg (nI (6 * t) + (1 : Int32)))) (xs (Int32.toNatClampNeg (nI (6 * t) + (2 : Int32))))
  exact lc_slope M ht hL (by omega) (by omega) hc hm he (kk _ _ _ _ _ hr hk hn)
theorem ls_others {Rel : Zst → Zst → Prop} (H : lp_others Rel) (M : lM l D a b qo cy ad b0 L xs G) (ht : 6 * t + 5 < L) (hL : L ≤ 3072) (kk : l_Nx L b0 qo a b Rel G t 1983) : l_Nx L b0 qo a b Rel G t 1117 := by
  intro σc σm f k n hR hk hn
  obtain ⟨oc, om, hc, hm, he, hr⟩ := H σc σm hR (xs (Int32.toNatClampNeg (nI (6 * t) + (1 : Int32)))) (xs (Int32.toNatClampNeg (nI (6 * t) + (2 : Int32))))
  exact lc_others M ht hL (by omega) (by omega) hc hm he (kk _ _ _ _ _ hr hk hn)
theorem ls_worth {Rel : Zst → Zst → Prop} (H : lp_worth Rel) (M : lM l D a b qo cy ad b0 L xs G) (ht : 6 * t + 5 < L) (hL : L ≤ 3072) (kk : l_Nx L b0 qo a b Rel G t 1983) : l_Nx L b0 qo a b Rel G t 1154 := by
  intro σc σm f k n hR hk hn
  obtain ⟨oc, om, hc, hm, he, hr⟩ := H σc σm hR (xs (Int32.toNatClampNeg (nI (6 * t) + (1 : Int32)))) (xs (Int32.toNatClampNeg (nI (6 * t) + (2 : Int32))))
  exact lc_worth M ht hL (by omega) (by omega) hc hm he (kk _ _ _ _ _ hr hk hn)
theorem ls_waste {Rel : Zst → Zst → Prop} (H : lp_waste Rel) (M : lM l D a b qo cy ad b0 L xs G) (ht : 6 * t + 5 < L) (hL : L ≤ 3072) (kk : l_Nx L b0 qo a b Rel G t 1983) : l_Nx L b0 qo a b Rel G t 1191 := by
  intro σc σm f k n hR hk hn
  obtain ⟨oc, om, hc, hm, he, hr⟩ := H σc σm hR (xs (Int32.toNatClampNeg (nI (6 * t) + (1 : Int32))))
  exact lc_waste M ht hL (by omega) (by omega) hc hm he (kk _ _ _ _ _ hr hk hn)
theorem ls_story {Rel : Zst → Zst → Prop} (H : lp_story Rel) (M : lM l D a b qo cy ad b0 L xs G) (ht : 6 * t + 5 < L) (hL : L ≤ 3072) (kk : l_Nx L b0 qo a b Rel G t 1983) : l_Nx L b0 qo a b Rel G t 1216 := by
  intro σc σm f k n hR hk hn
  obtain ⟨oc, om, hc, hm, he, hr⟩ := H σc σm hR 
  exact lc_story M ht hL (by omega) (by omega) hc hm he (kk _ _ _ _ _ hr hk hn)
theorem ls_holds {Rel : Zst → Zst → Prop} (H : lp_holds Rel) (M : lM l D a b qo cy ad b0 L xs G) (ht : 6 * t + 5 < L) (hL : L ≤ 3072) (kk : l_Nx L b0 qo a b Rel G t 1983) : l_Nx L b0 qo a b Rel G t 1229 := by
  intro σc σm f k n hR hk hn
  obtain ⟨oc, om, hc, hm, he, hr⟩ := H σc σm hR (xs (Int32.toNatClampNeg (nI (6 * t) + (1 : Int32))))
  exact lc_holds M ht hL (by omega) (by omega) hc hm he (kk _ _ _ _ _ hr hk hn)
theorem ls_parts {Rel : Zst → Zst → Prop} (H : lp_parts Rel) (M : lM l D a b qo cy ad b0 L xs G) (ht : 6 * t + 5 < L) (hL : L ≤ 3072) (kk : l_Nx L b0 qo a b Rel G t 1983) : l_Nx L b0 qo a b Rel G t 1254 := by
  intro σc σm f k n hR hk hn
  obtain ⟨oc, om, hc, hm, he, hr⟩ := H σc σm hR 
  exact lc_parts M ht hL (by omega) (by omega) hc hm he (kk _ _ _ _ _ hr hk hn)
theorem ls_twice {Rel : Zst → Zst → Prop} (H : lp_twice Rel) (M : lM l D a b qo cy ad b0 L xs G) (ht : 6 * t + 5 < L) (hL : L ≤ 3072) (kk : l_Nx L b0 qo a b Rel G t 1983) : l_Nx L b0 qo a b Rel G t 1267 := by
  intro σc σm f k n hR hk hn
  obtain ⟨oc, om, hc, hm, he, hr⟩ := H σc σm hR (xs (Int32.toNatClampNeg (nI (6 * t) + (1 : Int32)))) (xs (Int32.toNatClampNeg (nI (6 * t) + (2 : Int32)))) (xs (Int32.toNatClampNeg (nI (6 * t) + (3 : Int32))))
  exact lc_twice M ht hL (by omega) (by omega) hc hm he (kk _ _ _ _ _ hr hk hn)
theorem ls_alike {Rel : Zst → Zst → Prop} (H : lp_alike Rel) (M : lM l D a b qo cy ad b0 L xs G) (ht : 6 * t + 5 < L) (hL : L ≤ 3072) (kk : l_Nx L b0 qo a b Rel G t 1983) : l_Nx L b0 qo a b Rel G t 1316 := by
  intro σc σm f k n hR hk hn
  obtain ⟨oc, om, hc, hm, he, hr⟩ := H σc σm hR 
  exact lc_alike M ht hL (by omega) (by omega) hc hm he (kk _ _ _ _ _ hr hk hn)
theorem ls_mixed {Rel : Zst → Zst → Prop} (H : lp_mixed Rel) (M : lM l D a b qo cy ad b0 L xs G) (ht : 6 * t + 5 < L) (hL : L ≤ 3072) (kk : l_Nx L b0 qo a b Rel G t 1983) : l_Nx L b0 qo a b Rel G t 1329 := by
  intro σc σm f k n hR hk hn
  obtain ⟨oc, om, hc, hm, he, hr⟩ := H σc σm hR 
  exact lc_mixed M ht hL (by omega) (by omega) hc hm he (kk _ _ _ _ _ hr hk hn)
theorem ls_truly {Rel : Zst → Zst → Prop} (H : lp_truly Rel) (M : lM l D a b qo cy ad b0 L xs G) (ht : 6 * t + 5 < L) (hL : L ≤ 3072) (kk : l_Nx L b0 qo a b Rel G t 1983) : l_Nx L b0 qo a b Rel G t 1398 := by
  intro σc σm f k n hR hk hn
  obtain ⟨oc, om, hc, hm, he, hr⟩ := H σc σm hR (xs (Int32.toNatClampNeg (nI (6 * t) + (1 : Int32)))) (xs (Int32.toNatClampNeg (nI (6 * t) + (2 : Int32))))
  exact lc_truly M ht hL (by omega) (by omega) hc hm he (kk _ _ _ _ _ hr hk hn)
theorem ls_moved {Rel : Zst → Zst → Prop} (H : lp_moved Rel) (M : lM l D a b qo cy ad b0 L xs G) (ht : 6 * t + 5 < L) (hL : L ≤ 3072) (kk : l_Nx L b0 qo a b Rel G t 1983) : l_Nx L b0 qo a b Rel G t 1435 := by
  intro σc σm f k n hR hk hn
  obtain ⟨oc, om, hc, hm, he, hr⟩ := H σc σm hR (xs (Int32.toNatClampNeg (nI (6 * t) + (1 : Int32)))) (xs (Int32.toNatClampNeg (nI (6 * t) + (2 : Int32))))
  exact lc_moved M ht hL (by omega) (by omega) hc hm he (kk _ _ _ _ _ hr hk hn)
theorem ls_feasts {Rel : Zst → Zst → Prop} (H : lp_feasts Rel) (M : lM l D a b qo cy ad b0 L xs G) (ht : 6 * t + 5 < L) (hL : L ≤ 3072) (kk : l_Nx L b0 qo a b Rel G t 1983) : l_Nx L b0 qo a b Rel G t 1472 := by
  intro σc σm f k n hR hk hn
  obtain ⟨oc, om, hc, hm, he, hr⟩ := H σc σm hR (xs (Int32.toNatClampNeg (nI (6 * t) + (1 : Int32))))
  exact lc_feasts M ht hL (by omega) (by omega) hc hm he (kk _ _ _ _ _ hr hk hn)
theorem ls_need {Rel : Zst → Zst → Prop} (H : lp_need Rel) (M : lM l D a b qo cy ad b0 L xs G) (ht : 6 * t + 5 < L) (hL : L ≤ 3072) (kk : l_Nx L b0 qo a b Rel G t 1983) : l_Nx L b0 qo a b Rel G t 1497 := by
  intro σc σm f k n hR hk hn
  obtain ⟨oc, om, hc, hm, he, hr⟩ := H σc σm hR (xs (Int32.toNatClampNeg (nI (6 * t) + (1 : Int32)))) (xs (Int32.toNatClampNeg (nI (6 * t) + (2 : Int32)))) (xs (Int32.toNatClampNeg (nI (6 * t) + (3 : Int32)))) (xs (Int32.toNatClampNeg (nI (6 * t) + (4 : Int32))))
  exact lc_need M ht hL (by omega) (by omega) hc hm he (kk _ _ _ _ _ hr hk hn)
theorem ls_weeks {Rel : Zst → Zst → Prop} (H : lp_weeks Rel) (M : lM l D a b qo cy ad b0 L xs G) (ht : 6 * t + 5 < L) (hL : L ≤ 3072) (kk : l_Nx L b0 qo a b Rel G t 1983) : l_Nx L b0 qo a b Rel G t 1558 := by
  intro σc σm f k n hR hk hn
  obtain ⟨oc, om, hc, hm, he, hr⟩ := H σc σm hR (xs (Int32.toNatClampNeg (nI (6 * t) + (1 : Int32)))) (xs (Int32.toNatClampNeg (nI (6 * t) + (2 : Int32)))) (xs (Int32.toNatClampNeg (nI (6 * t) + (3 : Int32)))) (xs (Int32.toNatClampNeg (nI (6 * t) + (4 : Int32))))
  exact lc_weeks M ht hL (by omega) (by omega) hc hm he (kk _ _ _ _ _ hr hk hn)
theorem ls_paper {Rel : Zst → Zst → Prop} (H : lp_paper Rel) (M : lM l D a b qo cy ad b0 L xs G) (ht : 6 * t + 5 < L) (hL : L ≤ 3072) (kk : l_Nx L b0 qo a b Rel G t 1983) : l_Nx L b0 qo a b Rel G t 1619 := by
  intro σc σm f k n hR hk hn
  obtain ⟨oc, om, hc, hm, he, hr⟩ := H σc σm hR (xs (Int32.toNatClampNeg (nI (6 * t) + (1 : Int32)))) (xs (Int32.toNatClampNeg (nI (6 * t) + (2 : Int32)))) (xs (Int32.toNatClampNeg (nI (6 * t) + (3 : Int32))))
  exact lc_paper M ht hL (by omega) (by omega) hc hm he (kk _ _ _ _ _ hr hk hn)
theorem ls_year {Rel : Zst → Zst → Prop} (H : lp_year Rel) (M : lM l D a b qo cy ad b0 L xs G) (ht : 6 * t + 5 < L) (hL : L ≤ 3072) (kk : l_Nx L b0 qo a b Rel G t 1983) : l_Nx L b0 qo a b Rel G t 1668 := by
  intro σc σm f k n hR hk hn
  obtain ⟨oc, om, hc, hm, he, hr⟩ := H σc σm hR (xs (Int32.toNatClampNeg (nI (6 * t) + (1 : Int32))))
  exact lc_year M ht hL (by omega) (by omega) hc hm he (kk _ _ _ _ _ hr hk hn)
theorem ls_stray {Rel : Zst → Zst → Prop} (H : lp_stray Rel) (M : lM l D a b qo cy ad b0 L xs G) (ht : 6 * t + 5 < L) (hL : L ≤ 3072) (kk : l_Nx L b0 qo a b Rel G t 1983) : l_Nx L b0 qo a b Rel G t 1693 := by
  intro σc σm f k n hR hk hn
  obtain ⟨oc, om, hc, hm, he, hr⟩ := H σc σm hR 
  exact lc_stray M ht hL (by omega) (by omega) hc hm he (kk _ _ _ _ _ hr hk hn)
theorem ls_was {Rel : Zst → Zst → Prop} (H : lp_was Rel) (M : lM l D a b qo cy ad b0 L xs G) (ht : 6 * t + 5 < L) (hL : L ≤ 3072) (kk : l_Nx L b0 qo a b Rel G t 1983) : l_Nx L b0 qo a b Rel G t 1706 := by
  intro σc σm f k n hR hk hn
  obtain ⟨oc, om, hc, hm, he, hr⟩ := H σc σm hR (xs (Int32.toNatClampNeg (nI (6 * t) + (1 : Int32)))) (xs (Int32.toNatClampNeg (nI (6 * t) + (2 : Int32)))) (xs (Int32.toNatClampNeg (nI (6 * t) + (3 : Int32)))) (xs (Int32.toNatClampNeg (nI (6 * t) + (4 : Int32))))
  exact lc_was M ht hL (by omega) (by omega) hc hm he (kk _ _ _ _ _ hr hk hn)
theorem ls_told {Rel : Zst → Zst → Prop} (H : lp_told Rel) (M : lM l D a b qo cy ad b0 L xs G) (ht : 6 * t + 5 < L) (hL : L ≤ 3072) (kk : l_Nx L b0 qo a b Rel G t 1983) : l_Nx L b0 qo a b Rel G t 1767 := by
  intro σc σm f k n hR hk hn
  obtain ⟨oc, om, hc, hm, he, hr⟩ := H σc σm hR (xs (Int32.toNatClampNeg (nI (6 * t) + (1 : Int32)))) (xs (Int32.toNatClampNeg (nI (6 * t) + (2 : Int32))))
  exact lc_told M ht hL (by omega) (by omega) hc hm he (kk _ _ _ _ _ hr hk hn)
theorem ls_does {Rel : Zst → Zst → Prop} (H : lp_does Rel) (M : lM l D a b qo cy ad b0 L xs G) (ht : 6 * t + 5 < L) (hL : L ≤ 3072) (kk : l_Nx L b0 qo a b Rel G t 1983) : l_Nx L b0 qo a b Rel G t 1804 := by
  intro σc σm f k n hR hk hn
  obtain ⟨oc, om, hc, hm, he, hr⟩ := H σc σm hR (xs (Int32.toNatClampNeg (nI (6 * t) + (1 : Int32)))) (xs (Int32.toNatClampNeg (nI (6 * t) + (2 : Int32)))) (xs (Int32.toNatClampNeg (nI (6 * t) + (3 : Int32))))
  exact lc_does M ht hL (by omega) (by omega) hc hm he (kk _ _ _ _ _ hr hk hn)
theorem ls_keep {Rel : Zst → Zst → Prop} (H : lp_keep Rel) (M : lM l D a b qo cy ad b0 L xs G) (ht : 6 * t + 5 < L) (hL : L ≤ 3072) (kk : l_Nx L b0 qo a b Rel G t 1983) : l_Nx L b0 qo a b Rel G t 1853 := by
  intro σc σm f k n hR hk hn
  obtain ⟨oc, om, hc, hm, he, hr⟩ := H σc σm hR (xs (Int32.toNatClampNeg (nI (6 * t) + (1 : Int32))))
  exact lc_keep M ht hL (by omega) (by omega) hc hm he (kk _ _ _ _ _ hr hk hn)
theorem ls_again {Rel : Zst → Zst → Prop} (H : lp_again Rel) (M : lM l D a b qo cy ad b0 L xs G) (ht : 6 * t + 5 < L) (hL : L ≤ 3072) (kk : l_Nx L b0 qo a b Rel G t 1983) : l_Nx L b0 qo a b Rel G t 1878 := by
  intro σc σm f k n hR hk hn
  obtain ⟨oc, om, hc, hm, he, hr⟩ := H σc σm hR (xs (Int32.toNatClampNeg (nI (6 * t) + (1 : Int32))))
  exact lc_again M ht hL (by omega) (by omega) hc hm he (kk _ _ _ _ _ hr hk hn)
theorem ls_count {Rel : Zst → Zst → Prop} (H : lp_count Rel) (M : lM l D a b qo cy ad b0 L xs G) (ht : 6 * t + 5 < L) (hL : L ≤ 3072) (kk : l_Nx L b0 qo a b Rel G t 1983) : l_Nx L b0 qo a b Rel G t 1903 := by
  intro σc σm f k n hR hk hn
  obtain ⟨oc, om, hc, hm, he, hr⟩ := H σc σm hR (xs (Int32.toNatClampNeg (nI (6 * t) + (1 : Int32))))
  exact lc_count M ht hL (by omega) (by omega) hc hm he (kk _ _ _ _ _ hr hk hn)
set_option maxHeartbeats 8000000 in
theorem l_switch {Rel : Zst → Zst → Prop} (M : lM l D a b qo cy ad b0 L xs G) (H0 : l_Nx L b0 qo a b Rel G t 240) (H1 : l_Nx L b0 qo a b Rel G t 289) (H2 : l_Nx L b0 qo a b Rel G t 350) (H3 : l_Nx L b0 qo a b Rel G t 375) (H4 : l_Nx L b0 qo a b Rel G t 440) (H5 : l_Nx L b0 qo a b Rel G t 501) (H6 : l_Nx L b0 qo a b Rel G t 550) (H7 : l_Nx L b0 qo a b Rel G t 623) (H8 : l_Nx L b0 qo a b Rel G t 648) (H9 : l_Nx L b0 qo a b Rel G t 673) (H10 : l_Nx L b0 qo a b Rel G t 698) (H11 : l_Nx L b0 qo a b Rel G t 735) (H12 : l_Nx L b0 qo a b Rel G t 760) (H13 : l_Nx L b0 qo a b Rel G t 821) (H14 : l_Nx L b0 qo a b Rel G t 870) (H15 : l_Nx L b0 qo a b Rel G t 919) (H16 : l_Nx L b0 qo a b Rel G t 956) (H17 : l_Nx L b0 qo a b Rel G t 981) (H18 : l_Nx L b0 qo a b Rel G t 1018) (H19 : l_Nx L b0 qo a b Rel G t 1043) (H20 : l_Nx L b0 qo a b Rel G t 1080) (H21 : l_Nx L b0 qo a b Rel G t 1117) (H22 : l_Nx L b0 qo a b Rel G t 1154) (H23 : l_Nx L b0 qo a b Rel G t 1191) (H24 : l_Nx L b0 qo a b Rel G t 1216) (H25 : l_Nx L b0 qo a b Rel G t 1229) (H26 : l_Nx L b0 qo a b Rel G t 1254) (H27 : l_Nx L b0 qo a b Rel G t 1267) (H28 : l_Nx L b0 qo a b Rel G t 1316) (H29 : l_Nx L b0 qo a b Rel G t 1329) (H30 : l_Nx L b0 qo a b Rel G t 1342) (H31 : l_Nx L b0 qo a b Rel G t 1398) (H32 : l_Nx L b0 qo a b Rel G t 1435) (H33 : l_Nx L b0 qo a b Rel G t 1472) (H34 : l_Nx L b0 qo a b Rel G t 1497) (H35 : l_Nx L b0 qo a b Rel G t 1558) (H36 : l_Nx L b0 qo a b Rel G t 1619) (H37 : l_Nx L b0 qo a b Rel G t 1668) (H38 : l_Nx L b0 qo a b Rel G t 1693) (H39 : l_Nx L b0 qo a b Rel G t 1706) (H40 : l_Nx L b0 qo a b Rel G t 1767) (H41 : l_Nx L b0 qo a b Rel G t 1804) (H42 : l_Nx L b0 qo a b Rel G t 1853) (H43 : l_Nx L b0 qo a b Rel G t 1878) (H44 : l_Nx L b0 qo a b Rel G t 1903) (H45 : l_Nx L b0 qo a b Rel G t 1928) (HD : l_Nx L b0 qo a b Rel G t 1983) (hR : Rel σc σm) (hk : k + (512 - t) * 1000 ≤ 601024) (hn : n + (512 - t) * 13000 ≤ 7293033) {x : Int32} : G σc σm f k n [(4, .int (nI (6 * t))), (3, .ref qo), (2, .ref (b 0)), (1, .ref (a 0)), (0, .ref b0)] 40 [.int (x &&& 63)] := by
  obtain ⟨j, hj, e⟩ := pk_andE x (m := 63) 6 (by decide)
  have hj : j < 64 := hj
  by_cases h9 : 45 < j
  · exact l_tabOut (tgt := 1983) M dt_L_law_1.2.1.1.1 (Or.inr (by rw [e, nI_toInt (by omega)]; omega)) (by decide) (HD σc σm f k n hR hk hn)
  · have hj : j = 0 ∨ j = 1 ∨ j = 2 ∨ j = 3 ∨ j = 4 ∨ j = 5 ∨ j = 6 ∨ j = 7 ∨ j = 8 ∨ j = 9 ∨ j = 10 ∨ j = 11 ∨ j = 12 ∨ j = 13 ∨ j = 14 ∨ j = 15 ∨ j = 16 ∨ j = 17 ∨ j = 18 ∨ j = 19 ∨ j = 20 ∨ j = 21 ∨ j = 22 ∨ j = 23 ∨ j = 24 ∨ j = 25 ∨ j = 26 ∨ j = 27 ∨ j = 28 ∨ j = 29 ∨ j = 30 ∨ j = 31 ∨ j = 32 ∨ j = 33 ∨ j = 34 ∨ j = 35 ∨ j = 36 ∨ j = 37 ∨ j = 38 ∨ j = 39 ∨ j = 40 ∨ j = 41 ∨ j = 42 ∨ j = 43 ∨ j = 44 ∨ j = 45 := by omega
    rcases hj with hj | hj | hj | hj | hj | hj | hj | hj | hj | hj | hj | hj | hj | hj | hj | hj | hj | hj | hj | hj | hj | hj | hj | hj | hj | hj | hj | hj | hj | hj | hj | hj | hj | hj | hj | hj | hj | hj | hj | hj | hj | hj | hj | hj | hj | hj
    · subst hj
      exact l_tabIn (off := 200) (tgt := 240) M dt_L_law_1.2.1.1.1 (by rw [e]; decide) (by rw [e]; decide) (by rw [e]; rfl) (by decide) (H0 σc σm f k n hR hk hn)
    · subst hj
      exact l_tabIn (off := 249) (tgt := 289) M dt_L_law_1.2.1.1.1 (by rw [e]; decide) (by rw [e]; decide) (by rw [e]; rfl) (by decide) (H1 σc σm f k n hR hk hn)
    · subst hj
      exact l_tabIn (off := 310) (tgt := 350) M dt_L_law_1.2.1.1.1 (by rw [e]; decide) (by rw [e]; decide) (by rw [e]; rfl) (by decide) (H2 σc σm f k n hR hk hn)
    · subst hj
      exact l_tabIn (off := 335) (tgt := 375) M dt_L_law_1.2.1.1.1 (by rw [e]; decide) (by rw [e]; decide) (by rw [e]; rfl) (by decide) (H3 σc σm f k n hR hk hn)
    · subst hj
      exact l_tabIn (off := 400) (tgt := 440) M dt_L_law_1.2.1.1.1 (by rw [e]; decide) (by rw [e]; decide) (by rw [e]; rfl) (by decide) (H4 σc σm f k n hR hk hn)
    · subst hj
      exact l_tabIn (off := 461) (tgt := 501) M dt_L_law_1.2.1.1.1 (by rw [e]; decide) (by rw [e]; decide) (by rw [e]; rfl) (by decide) (H5 σc σm f k n hR hk hn)
    · subst hj
      exact l_tabIn (off := 510) (tgt := 550) M dt_L_law_1.2.1.1.1 (by rw [e]; decide) (by rw [e]; decide) (by rw [e]; rfl) (by decide) (H6 σc σm f k n hR hk hn)
    · subst hj
      exact l_tabIn (off := 583) (tgt := 623) M dt_L_law_1.2.1.1.1 (by rw [e]; decide) (by rw [e]; decide) (by rw [e]; rfl) (by decide) (H7 σc σm f k n hR hk hn)
    · subst hj
      exact l_tabIn (off := 608) (tgt := 648) M dt_L_law_1.2.1.1.1 (by rw [e]; decide) (by rw [e]; decide) (by rw [e]; rfl) (by decide) (H8 σc σm f k n hR hk hn)
    · subst hj
      exact l_tabIn (off := 633) (tgt := 673) M dt_L_law_1.2.1.1.1 (by rw [e]; decide) (by rw [e]; decide) (by rw [e]; rfl) (by decide) (H9 σc σm f k n hR hk hn)
    · subst hj
      exact l_tabIn (off := 658) (tgt := 698) M dt_L_law_1.2.1.1.1 (by rw [e]; decide) (by rw [e]; decide) (by rw [e]; rfl) (by decide) (H10 σc σm f k n hR hk hn)
    · subst hj
      exact l_tabIn (off := 695) (tgt := 735) M dt_L_law_1.2.1.1.1 (by rw [e]; decide) (by rw [e]; decide) (by rw [e]; rfl) (by decide) (H11 σc σm f k n hR hk hn)
    · subst hj
      exact l_tabIn (off := 720) (tgt := 760) M dt_L_law_1.2.1.1.1 (by rw [e]; decide) (by rw [e]; decide) (by rw [e]; rfl) (by decide) (H12 σc σm f k n hR hk hn)
    · subst hj
      exact l_tabIn (off := 781) (tgt := 821) M dt_L_law_1.2.1.1.1 (by rw [e]; decide) (by rw [e]; decide) (by rw [e]; rfl) (by decide) (H13 σc σm f k n hR hk hn)
    · subst hj
      exact l_tabIn (off := 830) (tgt := 870) M dt_L_law_1.2.1.1.1 (by rw [e]; decide) (by rw [e]; decide) (by rw [e]; rfl) (by decide) (H14 σc σm f k n hR hk hn)
    · subst hj
      exact l_tabIn (off := 879) (tgt := 919) M dt_L_law_1.2.1.1.1 (by rw [e]; decide) (by rw [e]; decide) (by rw [e]; rfl) (by decide) (H15 σc σm f k n hR hk hn)
    · subst hj
      exact l_tabIn (off := 916) (tgt := 956) M dt_L_law_1.2.1.1.1 (by rw [e]; decide) (by rw [e]; decide) (by rw [e]; rfl) (by decide) (H16 σc σm f k n hR hk hn)
    · subst hj
      exact l_tabIn (off := 941) (tgt := 981) M dt_L_law_1.2.1.1.1 (by rw [e]; decide) (by rw [e]; decide) (by rw [e]; rfl) (by decide) (H17 σc σm f k n hR hk hn)
    · subst hj
      exact l_tabIn (off := 978) (tgt := 1018) M dt_L_law_1.2.1.1.1 (by rw [e]; decide) (by rw [e]; decide) (by rw [e]; rfl) (by decide) (H18 σc σm f k n hR hk hn)
    · subst hj
      exact l_tabIn (off := 1003) (tgt := 1043) M dt_L_law_1.2.1.1.1 (by rw [e]; decide) (by rw [e]; decide) (by rw [e]; rfl) (by decide) (H19 σc σm f k n hR hk hn)
    · subst hj
      exact l_tabIn (off := 1040) (tgt := 1080) M dt_L_law_1.2.1.1.1 (by rw [e]; decide) (by rw [e]; decide) (by rw [e]; rfl) (by decide) (H20 σc σm f k n hR hk hn)
    · subst hj
      exact l_tabIn (off := 1077) (tgt := 1117) M dt_L_law_1.2.1.1.1 (by rw [e]; decide) (by rw [e]; decide) (by rw [e]; rfl) (by decide) (H21 σc σm f k n hR hk hn)
    · subst hj
      exact l_tabIn (off := 1114) (tgt := 1154) M dt_L_law_1.2.1.1.1 (by rw [e]; decide) (by rw [e]; decide) (by rw [e]; rfl) (by decide) (H22 σc σm f k n hR hk hn)
    · subst hj
      exact l_tabIn (off := 1151) (tgt := 1191) M dt_L_law_1.2.1.1.1 (by rw [e]; decide) (by rw [e]; decide) (by rw [e]; rfl) (by decide) (H23 σc σm f k n hR hk hn)
    · subst hj
      exact l_tabIn (off := 1176) (tgt := 1216) M dt_L_law_1.2.1.1.1 (by rw [e]; decide) (by rw [e]; decide) (by rw [e]; rfl) (by decide) (H24 σc σm f k n hR hk hn)
    · subst hj
      exact l_tabIn (off := 1189) (tgt := 1229) M dt_L_law_1.2.1.1.1 (by rw [e]; decide) (by rw [e]; decide) (by rw [e]; rfl) (by decide) (H25 σc σm f k n hR hk hn)
    · subst hj
      exact l_tabIn (off := 1214) (tgt := 1254) M dt_L_law_1.2.1.1.1 (by rw [e]; decide) (by rw [e]; decide) (by rw [e]; rfl) (by decide) (H26 σc σm f k n hR hk hn)
    · subst hj
      exact l_tabIn (off := 1227) (tgt := 1267) M dt_L_law_1.2.1.1.1 (by rw [e]; decide) (by rw [e]; decide) (by rw [e]; rfl) (by decide) (H27 σc σm f k n hR hk hn)
    · subst hj
      exact l_tabIn (off := 1276) (tgt := 1316) M dt_L_law_1.2.1.1.1 (by rw [e]; decide) (by rw [e]; decide) (by rw [e]; rfl) (by decide) (H28 σc σm f k n hR hk hn)
    · subst hj
      exact l_tabIn (off := 1289) (tgt := 1329) M dt_L_law_1.2.1.1.1 (by rw [e]; decide) (by rw [e]; decide) (by rw [e]; rfl) (by decide) (H29 σc σm f k n hR hk hn)
    · subst hj
      exact l_tabIn (off := 1302) (tgt := 1342) M dt_L_law_1.2.1.1.1 (by rw [e]; decide) (by rw [e]; decide) (by rw [e]; rfl) (by decide) (H30 σc σm f k n hR hk hn)
    · subst hj
      exact l_tabIn (off := 1358) (tgt := 1398) M dt_L_law_1.2.1.1.1 (by rw [e]; decide) (by rw [e]; decide) (by rw [e]; rfl) (by decide) (H31 σc σm f k n hR hk hn)
    · subst hj
      exact l_tabIn (off := 1395) (tgt := 1435) M dt_L_law_1.2.1.1.1 (by rw [e]; decide) (by rw [e]; decide) (by rw [e]; rfl) (by decide) (H32 σc σm f k n hR hk hn)
    · subst hj
      exact l_tabIn (off := 1432) (tgt := 1472) M dt_L_law_1.2.1.1.1 (by rw [e]; decide) (by rw [e]; decide) (by rw [e]; rfl) (by decide) (H33 σc σm f k n hR hk hn)
    · subst hj
      exact l_tabIn (off := 1457) (tgt := 1497) M dt_L_law_1.2.1.1.1 (by rw [e]; decide) (by rw [e]; decide) (by rw [e]; rfl) (by decide) (H34 σc σm f k n hR hk hn)
    · subst hj
      exact l_tabIn (off := 1518) (tgt := 1558) M dt_L_law_1.2.1.1.1 (by rw [e]; decide) (by rw [e]; decide) (by rw [e]; rfl) (by decide) (H35 σc σm f k n hR hk hn)
    · subst hj
      exact l_tabIn (off := 1579) (tgt := 1619) M dt_L_law_1.2.1.1.1 (by rw [e]; decide) (by rw [e]; decide) (by rw [e]; rfl) (by decide) (H36 σc σm f k n hR hk hn)
    · subst hj
      exact l_tabIn (off := 1628) (tgt := 1668) M dt_L_law_1.2.1.1.1 (by rw [e]; decide) (by rw [e]; decide) (by rw [e]; rfl) (by decide) (H37 σc σm f k n hR hk hn)
    · subst hj
      exact l_tabIn (off := 1653) (tgt := 1693) M dt_L_law_1.2.1.1.1 (by rw [e]; decide) (by rw [e]; decide) (by rw [e]; rfl) (by decide) (H38 σc σm f k n hR hk hn)
    · subst hj
      exact l_tabIn (off := 1666) (tgt := 1706) M dt_L_law_1.2.1.1.1 (by rw [e]; decide) (by rw [e]; decide) (by rw [e]; rfl) (by decide) (H39 σc σm f k n hR hk hn)
    · subst hj
      exact l_tabIn (off := 1727) (tgt := 1767) M dt_L_law_1.2.1.1.1 (by rw [e]; decide) (by rw [e]; decide) (by rw [e]; rfl) (by decide) (H40 σc σm f k n hR hk hn)
    · subst hj
      exact l_tabIn (off := 1764) (tgt := 1804) M dt_L_law_1.2.1.1.1 (by rw [e]; decide) (by rw [e]; decide) (by rw [e]; rfl) (by decide) (H41 σc σm f k n hR hk hn)
    · subst hj
      exact l_tabIn (off := 1813) (tgt := 1853) M dt_L_law_1.2.1.1.1 (by rw [e]; decide) (by rw [e]; decide) (by rw [e]; rfl) (by decide) (H42 σc σm f k n hR hk hn)
    · subst hj
      exact l_tabIn (off := 1838) (tgt := 1878) M dt_L_law_1.2.1.1.1 (by rw [e]; decide) (by rw [e]; decide) (by rw [e]; rfl) (by decide) (H43 σc σm f k n hR hk hn)
    · subst hj
      exact l_tabIn (off := 1863) (tgt := 1903) M dt_L_law_1.2.1.1.1 (by rw [e]; decide) (by rw [e]; decide) (by rw [e]; rfl) (by decide) (H44 σc σm f k n hR hk hn)
    · subst hj
      exact l_tabIn (off := 1888) (tgt := 1928) M dt_L_law_1.2.1.1.1 (by rw [e]; decide) (by rw [e]; decide) (by rw [e]; rfl) (by decide) (H45 σc σm f k n hR hk hn)
theorem l_gt {t L : Nat} (hL : L ≤ 3072) (ht : t ≤ 600) : nI L - 6 < nI (6 * t) ↔ ¬ 6 * t + 5 < L := by
  rw [Int32.lt_iff_toInt_lt, show (6 : Int32) = nI 6 from rfl, pk_sub_toInt (by omega) (by decide), nI_toInt (by omega)]
  omega
set_option maxHeartbeats 4000000 in
set_option maxRecDepth 100000 in
theorem l_loop {Rel : Zst → Zst → Prop} (HA : lp_All Rel) (M : lM l D a b qo cy ad b0 L xs G) (hL : L ≤ 3072)
    (H30 : ∀ t, 6 * t + 5 < L → l_Nx L b0 qo a b Rel G t 1983 → l_Nx L b0 qo a b Rel G t 1342) (H45 : ∀ t, 6 * t + 5 < L → l_Nx L b0 qo a b Rel G t 1983 → l_Nx L b0 qo a b Rel G t 1928) :
    ∀ r t : Nat, t + r = 513 → l_Nx L b0 qo a b Rel G t 23 := by
  obtain ⟨h_again, h_alike, h_bounds, h_count, h_does, h_end, h_feasts, h_get, h_goes, h_holds, h_keep, h_lack, h_law, h_line, h_live, h_mixed, h_moved, h_nearest, h_need, h_off, h_others, h_paper, h_parts, h_put, h_right, h_seed, h_sheet, h_sign, h_slope, h_sort, h_story, h_stray, h_street, h_sum, h_three, h_told, h_truly, h_twice, h_was, h_waste, h_weeks, h_worst, h_worth, h_year, h_leans, h_row⟩ := HA
  intro r
  induction r with
  | zero =>
    intro t h σc σm f k n hR hk hn
    refine l_iload M dt_L_law_0.2.2.1.2 0 rfl ?_
    refine l_aload_n M dt_L_law_0.2.2.2.1 rfl 4 rfl ?_
    refine l_slen M dt_L_law_0.2.2.2.2 ?_
    refine l_bipush M dt_L_law_1.1.1.1.1 kb_6 ?_
    refine l_isub M dt_L_law_1.1.1.1.2 ?_
    refine l_icmp_gt (tgt := 1989) M dt_L_law_1.1.1.2.1 (by decide) (fun hc => ?_) (fun hc => ?_)
    · refine l_iconst M dt_L_law_80.2.1 ki_1 ?_
      exact l_ret M (by omega) (by omega) dt_L_law_80.2.2
    · exact absurd ((l_gt hL (by omega)).mpr (by omega)) hc
  | succ r ih =>
    intro t h σc σm f k n hR hk hn
    refine l_iload M dt_L_law_0.2.2.1.2 0 rfl ?_
    refine l_aload_n M dt_L_law_0.2.2.2.1 rfl 4 rfl ?_
    refine l_slen M dt_L_law_0.2.2.2.2 ?_
    refine l_bipush M dt_L_law_1.1.1.1.1 kb_6 ?_
    refine l_isub M dt_L_law_1.1.1.1.2 ?_
    refine l_icmp_gt (tgt := 1989) M dt_L_law_1.1.1.2.1 (by decide) (fun hc => ?_) (fun hc => ?_)
    · refine l_iconst M dt_L_law_80.2.1 ki_1 ?_
      exact l_ret M (by omega) (by omega) dt_L_law_80.2.2
    · have ht : 6 * t + 5 < L := Decidable.of_not_not (fun q => hc ((l_gt hL (by omega)).mpr q))
      refine l_aload_n M dt_L_law_1.1.1.2.2 rfl 4 rfl ?_
      refine l_iload M dt_L_law_1.1.2.1.1 0 rfl ?_
      refine l_sld M (l_in0 ht hL) dt_L_law_1.1.2.1.2 ?_
      refine l_bipush M dt_L_law_1.1.2.2.1 kb_63 ?_
      refine l_iand M dt_L_law_1.1.2.2.2 ?_
      have HD : l_Nx L b0 qo a b Rel G t 1983 := by
        intro σc σm f k n hR hk hn
        refine l_iinc (v := nI (6 * (t + 1))) (lv' := [(4, .int (nI (6 * (t + 1)))), (3, .ref qo), (2, .ref (b 0)), (1, .ref (a 0)), (0, .ref b0)]) M dt_L_law_80.1.1 (t := 0) rfl (by rw [show Int32.ofInt 6 = nI 6 from rfl, nI_add]; rfl) (by decide) rfl ?_
        refine l_goto (tgt := 23) M dt_L_law_80.1.2 (by decide) ?_
        exact ih (t + 1) (by omega) σc σm f k n hR (by omega) (by omega)
      exact l_switch M (ls_sort h_sort M ht hL HD) (ls_goes h_goes M ht hL HD) (ls_street h_street M ht hL HD) (ls_lack h_lack M ht hL HD) (ls_put h_put M ht hL HD) (ls_get h_get M ht hL HD) (ls_sheet h_sheet M ht hL HD) (ls_sign h_sign M ht hL HD) (ls_end h_end M ht hL HD) (ls_law h_law M ht hL HD) (ls_live h_live M ht hL HD) (ls_seed h_seed M ht hL HD) (ls_sum h_sum M ht hL HD) (ls_bounds h_bounds M ht hL HD) (ls_line h_line M ht hL HD) (ls_off h_off M ht hL HD) (ls_nearest h_nearest M ht hL HD) (ls_worst h_worst M ht hL HD) (ls_right h_right M ht hL HD) (ls_three h_three M ht hL HD) (ls_slope h_slope M ht hL HD) (ls_others h_others M ht hL HD) (ls_worth h_worth M ht hL HD) (ls_waste h_waste M ht hL HD) (ls_story h_story M ht hL HD) (ls_holds h_holds M ht hL HD) (ls_parts h_parts M ht hL HD) (ls_twice h_twice M ht hL HD) (ls_alike h_alike M ht hL HD) (ls_mixed h_mixed M ht hL HD) (H30 t ht HD) (ls_truly h_truly M ht hL HD) (ls_moved h_moved M ht hL HD) (ls_feasts h_feasts M ht hL HD) (ls_need h_need M ht hL HD) (ls_weeks h_weeks M ht hL HD) (ls_paper h_paper M ht hL HD) (ls_year h_year M ht hL HD) (ls_stray h_stray M ht hL HD) (ls_was h_was M ht hL HD) (ls_told h_told M ht hL HD) (ls_does h_does M ht hL HD) (ls_keep h_keep M ht hL HD) (ls_again h_again M ht hL HD) (ls_count h_count M ht hL HD) (H45 t ht HD) HD hR hk hn
end LLP
