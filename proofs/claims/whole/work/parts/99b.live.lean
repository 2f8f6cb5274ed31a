theorem gLetN (c : Zst) (x : Int32) {k : Nat} (hk : k < 26) : f_X2_let c (nI (97 + k)) x = some (zA c 9 (upd (c.2.1 9) k x)) := by
  unfold f_X2_let
  rw [show nI (97 + k) - (97 : Int32) = nI k by rw [show (97 : Int32) = nI 97 from rfl, pk_sub (by omega), Nat.add_sub_cancel_left], if_neg (nI_pos (by omega)), if_neg (show ¬ (26 : Int32) ≤ nI k from nI_ge (b := 26) hk (by decide)), gGx hk (by decide), nI_clamp (by omega)]
theorem gChC {c : Zst} {k j s : Nat} (hk : k < 6) (hj : j < 96) (hs : s < 8) (x : Int32) : f_X4_change c (nI k) (nI j) (nI s) x = some (zA c 1 (upd (c.2.1 1) (gP k j s) x)) := by
  have hp := gP_lt hk hj hs
  unfold f_X4_change
  rw [(gL_pl k j s rfl rfl rfl hk hj hs).1, if_neg (nI_pos (show gP k j s < 2 ^ 31 by omega)), if_neg (show ¬ (4608 : Int32) ≤ nI (gP k j s) from nI_ge (b := 4608) hp (by decide)), gGx hp (by decide), nI_clamp (show gP k j s < 2 ^ 31 by omega)]
theorem gSetM {m : Zst} {k j s : Nat} (hk : k < 6) (hj : j < 96) (hs : s < 8) (x : Int32) : f_X12_sets m (nI k) (nI j) (nI s) x = some (zA m 8 (upd (m.2.1 8) (gP k j s) (x + 1))) := by
  have hp := gP_lt hk hj hs
  unfold f_X12_sets
  rw [(gL_pl k j s rfl rfl rfl hk hj hs).2, gGx hp (by decide), nI_clamp (show gP k j s < 2 ^ 31 by omega)]
theorem gEv_kp {c m c' m' : Zst} {t w s nS : Nat} (h : gEv c m t w s nS) (hc : c'.2.1 9 = c.2.1 9) (hm : ∀ j, 9 ≤ j → j ≤ 13 → m'.1 j = m.1 j) (hA : ∀ j, j ≤ 7 → m'.2.1 j = m.2.1 j) : gEv c' m' t w s nS := by
  unfold gEv at *
  rw [hc, hm 9 (by decide) (by decide), hm 10 (by decide) (by decide), hm 11 (by decide) (by decide), hm 12 (by decide) (by decide), hm 13 (by decide) (by decide), hA 6 (by decide), hA 1 (by decide), hA 0 (by decide), hA 7 (by decide)]
  exact h
/-- SHOP and what is SAID: both sides, the class ahead of its BAGS, the reference behind them -/
def gVt (S T : Nat) (a0 b0 A : Nat → Int32) (c m : Zst) : Prop := gCor S T (zA c 1 A) m ∧ (∀ j, 768 ≤ j → c.2.1 1 j = A j) ∧ ∀ j, j < 768 → c.2.1 1 j = a0 j ∧ A j = b0 j
theorem gVt_set {S T : Nat} {a0 b0 A : Nat → Int32} {c m : Zst} (h : gVt S T a0 b0 A c m) {k j s b : Nat} (hk0 : 1 ≤ k) (hk : k < 6) (hj : j < 96) (hs : s < 8) (hb : b ≤ 999) :
    gVt S T a0 b0 (upd A (gP k j s) (nI b)) (zA c 1 (upd (c.2.1 1) (gP k j s) (nI b))) (zA m 8 (upd (m.2.1 8) (gP k j s) (nI b + 1))) := by
  have hp : 768 ≤ gP k j s := by unfold gP; omega
  have h1 := (gL_set h.1 (x := nI k) (y := nI j) (z := nI s) (w := nI b) k j s rfl rfl rfl hk hj hs (v := b + 1) (by omega) (nI_pred b).symm).2.2
  rw [gzAA, nI_pred, ← nI_1] at h1
  refine ⟨?_, fun i hi => ?_, fun i hi => ?_⟩
  · rw [gzAA]; exact h1
  · show upd (c.2.1 1) (gP k j s) (nI b) i = upd A (gP k j s) (nI b) i
    by_cases e : i = gP k j s
    · rw [gU_eq e, gU_eq e]
    · rw [gU_ne e, gU_ne e]; exact h.2.1 i hi
  · show upd (c.2.1 1) (gP k j s) (nI b) i = a0 i ∧ upd A (gP k j s) (nI b) i = b0 i
    rw [gU_ne (by omega), gU_ne (by omega)]
    exact h.2.2 i hi
theorem gVt_rk {S T : Nat} {a0 b0 A : Nat → Int32} {c m c' m' : Zst} {R : Int32} (h : gVt S T a0 b0 A c m) (hc : gCr c c' R) (hm : gMr m m' R) : gVt S T a0 b0 A c' m' := by
  refine ⟨gCor_rk h.1 ⟨hc.1, hc.2.1, ?_⟩ hm, fun j hj => by rw [hc.2.2]; exact h.2.1 j hj, fun j hj => by rw [hc.2.2]; exact h.2.2 j hj⟩
  unfold zA
  simp only [hc.2.2]
theorem gSaid {S T : Nat} {a0 b0 : Nat → Int32} {t w s E j : Nat} (hj : j < 96) (hs8 : s < 8) (hE : E ≤ 999) (p0 p1 v6 v4 v5 : Int32) {c m : Zst} {A : Nat → Int32} (h : gVt S T a0 b0 A c m) (hev : gEv c m t w s 10) (h13 : m.1 13 = nI E) :
    ∃ (c' m' : Zst) (A' : Nat → Int32), (∀ K, L_X10_liveSort_162 K p0 p1 (nI s) (nI E) v6 (nI j) zFu c 0 = K c') ∧ (∀ K, L_X12_live_228 K (nI j) v4 v5 (nI s) zFu m 0 = K m') ∧ gVt S T a0 b0 A' c' m' ∧ gEv c' m' t w s 10 ∧ gNR c c' ∧ gNRm m m' ∧ c'.2.1 9 = c.2.1 9 ∧ (∀ j, 9 ≤ j → j ≤ 13 → m'.1 j = m.1 j) ∧ ∀ j, j ≤ 7 → m'.2.1 j = m.2.1 j := by
  obtain ⟨ra, rb, h1, h2, A', h3, h4⟩ := gq_run (La := fun (K : Zst → Option (Zst × Int32)) n (a : Zst × Int32) => L_X10_liveSort_162 K p0 p1 (nI s) (nI E) v6 (nI j) n a.1 a.2) (Lb := fun (K : Zst → Option (Zst × Int32)) n (a : Zst × Int32) => L_X12_live_228 K (nI j) v4 v5 (nI s) n a.1 a.2)
    (fun y a b => ∃ (c' m' : Zst) (A' : Nat → Int32), a = (c', nI y) ∧ b = (m', nI y) ∧ gVt S T a0 b0 A' c' m' ∧ gEv c' m' t w s 10 ∧ gNR c c' ∧ gNRm m m' ∧ c'.2.1 9 = c.2.1 9 ∧ (∀ j, 9 ≤ j → j ≤ 13 → m'.1 j = m.1 j) ∧ ∀ j, j ≤ 7 → m'.2.1 j = m.2.1 j)
    (fun c' m' => ∃ (A' : Nat → Int32), gVt S T a0 b0 A' c' m' ∧ gEv c' m' t w s 10 ∧ gNR c c' ∧ gNRm m m' ∧ c'.2.1 9 = c.2.1 9 ∧ (∀ j, 9 ≤ j → j ≤ 13 → m'.1 j = m.1 j) ∧ ∀ j, j ≤ 7 → m'.2.1 j = m.2.1 j) 0 4 (by decide) (by decide) (a := (c, 0)) (b := (m, 0))
    (fun y a b hy hI => by
      obtain ⟨c1, m1, A1, rfl, rfl, g1, g2, g3, g4, g5, g6, g7⟩ := hI
      have e13 : m1.1 13 = nI E := by rw [g6 13 (by decide) (by decide)]; exact h13
      obtain ⟨R, a, c2, m2, r1, r2, r3, r4⟩ := gReck (c := c1) (m := m1) (i := 2 + y) (t := t) (w := w) (s := s) (by omega) g1.1.2.2.2.2.2.1 g1.1.2.1.1.1 (by rw [show 8 + min (2 + y) 2 = 10 by omega]; exact g2) (nI E) 999
      obtain ⟨b, b1, b2, b3⟩ := gWi a (M := 999) (by decide)
      have b2 : f_X11_within a 0 999 = nI b := b2
      have b3 : jMax 0 (jMin 999 a) = nI b := b3
      have e2 : (2 : Int32) + nI y = nI (2 + y) := by rw [show (2 : Int32) = nI 2 from rfl, nI_add]
      have n4 : ¬ (4 : Int32) ≤ nI y := nI_ge (b := 4) hy (by decide)
      refine ⟨(zA c2 1 (upd (c2.2.1 1) (gP (2 + y) j s) (nI b)), nI (y + 1)), (zA m2 8 (upd (m2.2.1 8) (gP (2 + y) j s) (nI b + 1)), nI (y + 1)), fun K n => ?_, fun K n => ?_, _, _, _, rfl, rfl, gVt_set (gVt_rk g1 r3 r4) (by omega) (by omega) hj hs8 b1, ?_, ?_, ?_, ?_, fun i h1 h2 => ?_, fun i hi => ?_⟩
      · simp only [L_X10_liveSort_162, if_neg n4, e2, r1, Option.bind_some, b2, gChC (show 2 + y < 6 by omega) hj hs8, nI_1]
      · simp only [L_X12_live_228, if_neg n4, e2, e13, r2, Option.bind_some, b3, gSetM (show 2 + y < 6 by omega) hj hs8, nI_1]
      · refine gEv_kp g2 ?_ (fun i h1 h2 => r4.1 i (by omega)) (fun i hi => ?_)
        · show c2.2.1 9 = _
          rw [r3.2.2]
        · show (if i = 8 then _ else m2.2.1 i) = _
          rw [if_neg (by omega)]; exact r4.2.2.1 i (by omega)
      · exact ⟨(gCr_nr r3).1.trans g3.1, (gCr_nr r3).2.trans g3.2⟩
      · exact ⟨(gMr_nr r4).1.trans g4.1, (gMr_nr r4).2.trans g4.2⟩
      · show c2.2.1 9 = _
        rw [r3.2.2]; exact g5
      · exact (r4.1 i (by omega)).trans (g6 i h1 h2)
      · show (if i = 8 then _ else m2.2.1 i) = _
        rw [if_neg (by omega)]; exact (r4.2.2.1 i (by omega)).trans (g7 i hi))
    (fun a b hI => by
      obtain ⟨c1, m1, A1, rfl, rfl, g⟩ := hI
      exact ⟨c1, m1, fun K n => by simp only [L_X10_liveSort_162, show ((4 : Int32) ≤ nI 4) = True by decide, ↓reduceIte], fun K n => by simp only [L_X12_live_228, show ((4 : Int32) ≤ nI 4) = True by decide, ↓reduceIte], A1, g⟩)
    ⟨c, m, A, rfl, rfl, h, hev, ⟨rfl, rfl⟩, ⟨rfl, rfl⟩, rfl, fun _ _ _ => rfl, fun _ _ => rfl⟩
  exact ⟨ra, rb, A', h1, h2, h3, h4⟩
/-- parts of a hundred -/
theorem gHun {a x y z : Nat} (h : x + y + z ≤ 100) : a * x / 100 + a * y / 100 + a * z / 100 ≤ a := by
  have h1 : a * x + a * y + a * z ≤ a * 100 := by rw [← Nat.mul_add, ← Nat.mul_add]; exact Nat.mul_le_mul_left a h
  omega
