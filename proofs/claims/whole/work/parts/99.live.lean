/-! a street lives a week: a law is reckoned -/
def gCr (c c' : Zst) (R : Int32) : Prop := (∀ j, ¬ (j = 2 ∨ j = 3 ∨ j = 8 ∨ j = 9) → c'.1 j = c.1 j) ∧ c'.1 2 = R ∧ c'.2 = c.2
def gMr (m m' : Zst) (R : Int32) : Prop := (∀ j, ¬ j = 4 → m'.1 j = m.1 j) ∧ m'.1 4 = R ∧ (∀ j, ¬ j = 11 → m'.2.1 j = m.2.1 j) ∧ m'.2.2 = m.2.2
theorem gCor_rk {S T : Nat} {c m c' m' : Zst} {R : Int32} (h : gCor S T c m) (hc : gCr c c' R) (hm : gMr m m' R) : gCor S T c' m' := by
  have h1 : gCor S T (zI c 2 R) (zI m 4 R) := ⟨h.1, ⟨⟨rfl, h.2.1.1.2⟩, h.2.1.2⟩, h.2.2.1, h.2.2.2.1, h.2.2.2.2.1, h.2.2.2.2.2.1, h.2.2.2.2.2.2⟩
  refine gCor_ag h1 ⟨fun j hj => ?_, fun j _ => ?_⟩ ⟨⟨fun j hj => ?_, ?_, ?_⟩, fun j hj => ?_⟩
  · show c'.1 j = if j = 2 then R else c.1 j
    by_cases e : j = 2
    · rw [if_pos e, e]; exact hc.2.1
    · rw [if_neg e]
      refine hc.1 j ?_
      rintro (q | q | q | q)
      · exact e q
      · subst q; cases hj
      · subst q; cases hj
      · subst q; cases hj
  · rw [hc.2.2]; rfl
  · show m'.1 j = if j = 4 then R else m.1 j
    by_cases e : j = 4
    · rw [if_pos e, e]; exact hm.2.1
    · rw [if_neg e]; exact hm.1 j e
  · rw [hm.2.2.1 13 (by decide)]; rfl
  · rw [hm.2.2.1 13 (by decide)]; rfl
  · exact hm.2.2.1 j (fun q => by subst q; cases hj)
theorem gCr_nr {c c' : Zst} {R : Int32} (h : gCr c c' R) : gNR c c' := ⟨h.1 0 (by decide), by rw [h.2.2]⟩
theorem gMr_nr {m m' : Zst} {R : Int32} (h : gMr m m' R) : gNRm m m' := ⟨h.1 1 (by decide), by rw [h.2.2.2]⟩
def gVl (m : Zst) (t w s x : Nat) : Int32 := if x = 0 then m.2.1 6 t else if x = 1 then nI t else if x = 2 then nI w else if x = 3 then nI s else if x = 4 then m.2.1 1 s else if x = 5 then m.2.1 0 s else if x = 6 then f_X12_flag (m.2.1 7 (12 * s + w)) else if x = 8 then m.1 12 else m.1 13
/-- what signs stand for, on both sides -/
def gEv (c m : Zst) (t w s nS : Nat) : Prop := (t < 8 ∧ w < 12 ∧ s < 8 ∧ m.1 9 = nI t ∧ m.1 10 = nI w ∧ m.1 11 = nI s) ∧
  (c.2.1 9 7 = m.2.1 6 t ∧ c.2.1 9 19 = nI t ∧ c.2.1 9 22 = nI w ∧ c.2.1 9 10 = nI s ∧ c.2.1 9 17 = m.2.1 1 s ∧ c.2.1 9 11 = m.2.1 0 s ∧ c.2.1 9 16 = f_X12_flag (m.2.1 7 (12 * s + w))) ∧ (9 ≤ nS → c.2.1 9 1 = m.1 12) ∧ (10 ≤ nS → c.2.1 9 4 = m.1 13)
theorem gValOf {c m : Zst} {t w s nS : Nat} (h : gEv c m t w s nS) (R : Int32) (S : Nat → Int32) {x : Nat} (hx : x < 10) (h7 : ¬ x = 7) : f_X12_valueOf (gy m R S) (nI x) = some (gy m R S, gVl m t w s x) := by
  obtain ⟨⟨h1, h2, h3, h4, h5, h6⟩, -⟩ := h
  have e9 : (gy m R S).1 9 = nI t := h4
  have e10 : (gy m R S).1 10 = nI w := h5
  have e11 : (gy m R S).1 11 = nI s := h6
  have hp : (12 : Int32) * nI s + nI w = nI (12 * s + w) := by rw [show (12 : Int32) = nI 12 from rfl, pk_mul, nI_add]
  unfold f_X12_valueOf
  rw [e9, e10, e11, hp, gGx h1 (by decide), gGx h3 (by decide), gGx h3 (by decide), gGx (show 12 * s + w < 96 by omega) (by decide), nI_clamp (show t < 2 ^ 31 by omega), nI_clamp (show s < 2 ^ 31 by omega), nI_clamp (show 12 * s + w < 2 ^ 31 by omega)]
  rcases (show x = 0 ∨ x = 1 ∨ x = 2 ∨ x = 3 ∨ x = 4 ∨ x = 5 ∨ x = 6 ∨ x = 8 ∨ x = 9 by omega) with rfl | rfl | rfl | rfl | rfl | rfl | rfl | rfl | rfl
  · rw [if_pos (by decide)]; rfl
  · rw [if_neg (by decide), if_pos (by decide)]; rfl
  · rw [if_neg (by decide), if_neg (by decide), if_pos (by decide)]; rfl
  · rw [if_neg (by decide), if_neg (by decide), if_neg (by decide), if_pos (by decide)]; rfl
  · rw [if_neg (by decide), if_neg (by decide), if_neg (by decide), if_neg (by decide), if_pos (by decide)]; rfl
  · rw [if_neg (by decide), if_neg (by decide), if_neg (by decide), if_neg (by decide), if_neg (by decide), if_pos (by decide)]; rfl
  · rw [if_neg (by decide), if_neg (by decide), if_neg (by decide), if_neg (by decide), if_neg (by decide), if_neg (by decide), if_pos (by decide)]; rfl
  · rw [if_neg (by decide), if_neg (by decide), if_neg (by decide), if_neg (by decide), if_neg (by decide), if_neg (by decide), if_neg (by decide), if_neg (by decide), if_pos (by decide)]; rfl
  · rw [if_neg (by decide), if_neg (by decide), if_neg (by decide), if_neg (by decide), if_neg (by decide), if_neg (by decide), if_neg (by decide), if_neg (by decide), if_neg (by decide)]; rfl
theorem gIdx_of {ch x : Nat} (h : gIdx ch = x) (hx : x < 10) : ch = (if x = 0 then 104 else if x = 1 then 116 else if x = 2 then 119 else if x = 3 then 107 else if x = 4 then 114 else if x = 5 then 108 else if x = 6 then 113 else if x = 7 then 122 else if x = 8 then 98 else 101) := by
  subst h
  unfold gIdx at *
  repeat' split at hx
  all_goals first | (simp [*]; done) | omega
theorem gKnow {c m : Zst} {t w s nS : Nat} (h : gEv c m t w s nS) (hS : nS ≤ 10) {ch : Nat} (hx : gIdx ch < nS) (h7 : ¬ gIdx ch = 7) : c.2.1 9 (ch - 97) = gVl m t w s (gIdx ch) := by
  obtain ⟨-, ⟨k0, k1, k2, k3, k4, k5, k6⟩, k8, k9⟩ := h
  have hc := gIdx_of (ch := ch) rfl (by omega)
  generalize gIdx ch = x at hx h7 hc
  rcases (show x = 0 ∨ x = 1 ∨ x = 2 ∨ x = 3 ∨ x = 4 ∨ x = 5 ∨ x = 6 ∨ x = 8 ∨ x = 9 by omega) with rfl | rfl | rfl | rfl | rfl | rfl | rfl | rfl | rfl
  · rw [show ch = 104 from hc]; exact k0
  · rw [show ch = 116 from hc]; exact k1
  · rw [show ch = 119 from hc]; exact k2
  · rw [show ch = 107 from hc]; exact k3
  · rw [show ch = 114 from hc]; exact k4
  · rw [show ch = 108 from hc]; exact k5
  · rw [show ch = 113 from hc]; exact k6
  · rw [show ch = 98 from hc]; exact k8 (by omega)
  · rw [show ch = 101 from hc]; exact k9 (by omega)
/-- a law is reckoned: both sides come to the same -/
theorem gReck {c m : Zst} {i t w s : Nat} (hi : i < 6) (hL : gRL c m) (hR : c.1 2 = m.1 4) (hE : gEv c m t w s (8 + min i 2)) (wo most : Int32) :
    ∃ (R a : Int32) (c' m' : Zst), f_X2_reckon c (nI i) wo = some (c', a) ∧ f_X12_lawed m (nI i) wo most = some (m', jMax 0 (jMin most a)) ∧ gCr c c' R ∧ gMr m m' R := by
  have hL : gLawN (c.2.1 8) (m.2.1 10) ∧ gLawD (c.2.1 7) (c.2.1 8) (m.2.1 9) (m.2.1 10) := hL
  obtain ⟨n, k, n1, n2, n3, n4, n5⟩ := hL.1 i hi
  have hist : ¬ f_X1_isText_L (nI i) = 0 := by
    unfold f_X1_isText_L
    rw [if_neg (nI_pos (by omega)), if_neg (show ¬ (6 : Int32) ≤ nI i from nI_ge (b := 6) hi (by decide))]
    decide
  have hsz : f_X1_sizeOf_L (zI (zI c 3 (nI i)) 8 0) (nI i) = some (nI n) := by
    unfold f_X1_sizeOf_L
    rw [if_neg hist, gGx hi (by decide), nI_clamp (by omega)]
    exact congrArg some n3
  unfold f_X2_reckon f_X12_lawed J_X12_lawed_18
  rw [hsz, Option.bind_some, gGx (show i < 7 by omega) (by decide), nI_clamp (by omega), n4]
  by_cases h0 : n = 0
  · have k0 : k = 0 := n5.mp h0
    subst h0
    subst k0
    rw [if_pos (by decide), if_pos (by decide)]
    refine ⟨m.1 4, wo, _, m, rfl, rfl, ⟨fun j hj => ?_, hR, rfl⟩, fun j _ => rfl, rfl, fun j _ => rfl, rfl⟩
    show (if j = 9 then nI 0 else if j = 8 then (0 : Int32) else if j = 3 then nI i else c.1 j) = c.1 j
    rw [if_neg (fun q => hj (Or.inr (Or.inr (Or.inr q)))), if_neg (fun q => hj (Or.inr (Or.inr (Or.inl q)))), if_neg (fun q => hj (Or.inr (Or.inl q)))]
  · have k0 : 0 < k := by omega
    rw [if_neg (nI_ne0 (by omega) (by omega)), if_neg (nI_nle k0 (by omega))]
    obtain ⟨v, K, b1, b2, b3, b4, b5⟩ := hL.2 i hi n k n1 n2 n3 n4 (by omega)
    have hS : 8 + min i 2 ≤ 10 := by omega
    have hC : gEC (zI (zI (zI c 3 (nI i)) 8 0) 9 (nI n)) i n (8 + min i 2) v (gVl m t w s) := ⟨hi, n1, b1, rfl, rfl, n3, b2, fun p h1 h2 => gKnow hE hS h1 h2⟩
    have hM : gEM m i (8 + min i 2) k (gVl m t w s) := ⟨hi, n2, n4, fun R S x h1 h2 => gValOf hE R S (by omega) h2⟩
    obtain ⟨a, R', S', r1, r2⟩ := gEval hC hM hS b3 b4 b5 (m.1 4) (m.2.1 11)
    have ec : gz (zI (zI (zI c 3 (nI i)) 8 0) 9 (nI n)) (m.1 4) 0 = zI (zI (zI c 3 (nI i)) 8 0) 9 (nI n) := by
      unfold gz
      rw [gzI_id (k := 2) (by exact hR)]
      exact gzI_id (k := 8) rfl
    have em : gy m (m.1 4) (m.2.1 11) = m := by
      unfold gy
      rw [gzI_id rfl, gzA_id rfl]
    rw [ec] at r1
    rw [em] at r2
    rw [r1, r2, Option.bind_some, Option.bind_some]
    refine ⟨R', a, _, _, rfl, rfl, ⟨fun j hj => ?_, rfl, rfl⟩, fun j hj => ?_, rfl, fun j hj => ?_, rfl⟩
    · show (if j = 8 then nI n else if j = 2 then R' else if j = 9 then nI n else if j = 8 then (0 : Int32) else if j = 3 then nI i else c.1 j) = c.1 j
      rw [if_neg (fun q => hj (Or.inr (Or.inr (Or.inl q)))), if_neg (fun q => hj (Or.inl q)), if_neg (fun q => hj (Or.inr (Or.inr (Or.inr q)))), if_neg (fun q => hj (Or.inr (Or.inr (Or.inl q)))), if_neg (fun q => hj (Or.inr (Or.inl q)))]
    · show (if j = 4 then R' else m.1 j) = m.1 j
      rw [if_neg hj]
    · show (if j = 11 then S' else m.2.1 j) = m.2.1 j
      rw [if_neg hj]
/-- put to 0 .. M -/
theorem gWi (a : Int32) {M : Nat} (hM : M ≤ 999) : ∃ b : Nat, b ≤ M ∧ f_X11_within a 0 (nI M) = nI b ∧ jMax 0 (jMin (nI M) a) = nI b := by
  unfold f_X11_within jMax jMin
  by_cases h0 : (0 : Int32) ≤ a
  · have h0' := Int32.le_iff_toInt_le.mp h0
    have z : (0 : Int32).toInt = 0 := rfl
    obtain ⟨x, hx, rfl⟩ := gq_nat (p := a) (by omega) (n := a.toInt.toNat) (by omega)
    have hxl : x < 2 ^ 31 := by have := (nI x).toInt_lt; omega
    rw [if_pos h0]
    by_cases h1 : x ≤ M
    · refine ⟨x, h1, by rw [if_pos (nI_le h1 (by omega))], ?_⟩
      by_cases h2 : x < M
      · rw [if_pos (nI_lt h2 (by omega))]
        by_cases h3 : x = 0
        · subst h3; rfl
        · rw [if_pos (show (0 : Int32) < nI x from nI_lt (a := 0) (by omega) hxl)]
      · have : x = M := by omega
        subst this
        rw [if_neg (show ¬ nI x < nI x from Int32.lt_irrefl)]
        by_cases h3 : x = 0
        · subst h3; rfl
        · rw [if_pos (show (0 : Int32) < nI x from nI_lt (a := 0) (by omega) hxl)]
    · refine ⟨M, Nat.le_refl M, by rw [if_neg (nI_ge (by omega) hxl)], ?_⟩
      rw [if_neg (nI_nlt (a := x) (b := M) (by omega) hxl)]
      by_cases h3 : M = 0
      · subst h3; rfl
      · rw [if_pos (show (0 : Int32) < nI M from nI_lt (a := 0) (by omega) (by omega))]
  · rw [if_neg h0]
    have h0' : a < 0 := Int32.not_le.mp h0
    have h1 := Int32.lt_iff_toInt_lt.mp h0'
    have z : (0 : Int32).toInt = 0 := rfl
    refine ⟨0, Nat.zero_le _, rfl, ?_⟩
    have h2 : a < nI M := by rw [Int32.lt_iff_toInt_lt, nI_toInt (by omega)]; omega
    rw [if_pos h2, if_neg (fun q => by have := Int32.lt_iff_toInt_lt.mp q; omega)]
    rfl
/-- pieces come to a bag -/
def gBgv (f : Nat → Int32) (p : Nat) (x : Int32) : Nat → Int32 := upd f p (jMin 999 (jMax 0 (f p) + x))
def gBm (g : Nat → Int32) (p : Nat) (x : Int32) : Nat → Int32 := upd g p (jMin 999 (jMax 0 (g p - 1) + x) + 1)
theorem gBagC {c : Zst} {j s : Nat} (hj : j < 96) (hs : s < 8) (x : Int32) : f_X4_addToBag c (nI j) (nI s) x = some (zA c 1 (gBgv (c.2.1 1) (gP 0 j s) x)) := by
  have hp := gP_lt (k := 0) (by decide) hj hs
  have q1 : f_X4_placeOf 0 (nI j) (nI s) = nI (gP 0 j s) := (gL_pl (x := 0) 0 j s rfl rfl rfl (by decide) hj hs).1
  unfold f_X4_addToBag f_X4_of f_X4_change
  rw [q1, if_neg (nI_pos (show gP 0 j s < 2 ^ 31 by omega)), if_neg (show ¬ (4608 : Int32) ≤ nI (gP 0 j s) from nI_ge (b := 4608) hp (by decide)), gGx hp (by decide), Option.bind_some, nI_clamp (show gP 0 j s < 2 ^ 31 by omega), if_neg (nI_pos (show gP 0 j s < 2 ^ 31 by omega)), if_neg (show ¬ (4608 : Int32) ≤ nI (gP 0 j s) from nI_ge (b := 4608) hp (by decide)), gGx hp (by decide), Option.bind_some]
  rfl
theorem gBagM {m : Zst} {j s : Nat} (hj : j < 96) (hs : s < 8) (x : Int32) : f_X12_bags m (nI j) (nI s) x = some (zA m 8 (gBm (m.2.1 8) (gP 0 j s) x)) := by
  have hp := gP_lt (k := 0) (by decide) hj hs
  have q1 : f_X12_placeOf 0 (nI j) (nI s) = nI (gP 0 j s) := (gL_pl (x := 0) 0 j s rfl rfl rfl (by decide) hj hs).2
  unfold f_X12_bags f_X12_at f_X12_sets
  rw [q1, gGx hp (by decide), Option.bind_some, nI_clamp (show gP 0 j s < 2 ^ 31 by omega), gGx hp (by decide), Option.bind_some]
  rfl
theorem gBagR {S T : Nat} {c m : Zst} (h : gCor S T c m) {j s X : Nat} (hj : j < 96) (hs : s < 8) (hX : X ≤ 999) : gCor S T (zA c 1 (gBgv (c.2.1 1) (gP 0 j s) (nI X))) (zA m 8 (gBm (m.2.1 8) (gP 0 j s) (nI X))) := by
  obtain ⟨v, v1, v2, v3⟩ := gL_val h.2.1 (k := 0) (by decide) hj hs
  have e0 : ∃ y : Nat, y ≤ 999 ∧ jMin 999 (jMax 0 (nI v - 1) + nI X) = nI y := by
    have : ∃ y : Nat, y ≤ 999 ∧ jMax 0 (nI v - 1) = nI y := by
      by_cases z : v = 0
      · subst z; exact ⟨0, by decide, by decide⟩
      · have : nI v - 1 = nI (v - 1) := by rw [show (1 : Int32) = nI 1 from rfl, pk_sub (by omega)]
        rw [this, show (0 : Int32) = nI 0 from rfl, gJmax (by decide) (by omega)]
        exact ⟨_, by omega, rfl⟩
    obtain ⟨y, y1, y2⟩ := this
    rw [y2, nI_add, show (999 : Int32) = nI 999 from rfl, gJmin (by decide) (by omega)]
    exact ⟨_, by omega, rfl⟩
  obtain ⟨y, y1, y2⟩ := e0
  have hset := (gL_set h (x := 0) (y := nI j) (z := nI s) (w := nI y) 0 j s rfl rfl rfl (by decide) hj hs (v := y + 1) (by omega) (nI_pred y).symm).2.2
  unfold gBgv gBm
  rw [v2, v3, y2, nI_1]
  rw [nI_pred] at hset
  exact hset
