/-- the laws' sizes of both sides -/
def gLawN (c8 m10 : Nat → Int32) : Prop := ∀ i, i < 6 → ∃ n k : Nat, n ≤ 40 ∧ k ≤ 48 ∧ c8 i = nI n ∧ m10 i = nI k ∧ (n = 0 ↔ k = 0)
/-- the laws of both sides -/
def gRL (c m : Zst) : Prop := (fun c7 c8 m9 m10 => gLawN c8 m10 ∧ gLawD c7 c8 m9 m10) (c.2.1 7) (c.2.1 8) (m.2.1 9) (m.2.1 10)
def gTi (v : Nat) : Nat := (zStrIx 0 (nI v)).toNatClampNeg
def gPi5 (a : Nat) : Nat := 5 * (a % 2) + a / 2
/-- whether a sign may stand at a place of a story -/
def gOk (v : Nat → Nat) (p : Nat) : Prop := if p % 4 = 1 then (v p = 60 ∨ v p = 62 ∨ v p = 61) else if p % 4 = 3 then v p = 59 else ¬ zStrIx 0 (nI (v p)) = -1
def gSgI (v : Nat) : Nat := if v = 60 then 0 else if v = 62 then 1 else 2
/-- the stories of both sides -/
def gRTb (q q' : Int32) (c19 c20 m14 m15 m16 m17 : Nat → Int32) : Prop := ∃ Q : Nat, Q ≤ 6 ∧ q = nI Q ∧ q' = nI Q ∧ ∀ s, s < Q → ∃ (n cl : Nat) (v : Nat → Nat), n ≤ 40 ∧ (∀ i, v i < 256) ∧ c20 s = nI n ∧ m14 s = nI cl ∧ ((n = 0 ∧ cl = 0) ∨ n + 1 = 4 * cl) ∧ (∀ i, i < n → c19 (40 * s + i) = nI (v i)) ∧ (∀ p, p < n → gOk v p) ∧
  ∀ k, k < cl → m15 (12 * s + k) = nI (gPi5 (gTi (v (4 * k)))) ∧ m16 (12 * s + k) = nI (gSgI (v (4 * k + 1))) ∧ m17 (12 * s + k) = nI (gPi5 (gTi (v (4 * k + 2))))
def gRT (c m : Zst) : Prop := gRTb (c.1 19) (m.1 20) (c.2.1 19) (c.2.1 20) (m.2.1 14) (m.2.1 15) (m.2.1 16) (m.2.1 17) ∧ m.2.1 13 0 = 0 ∧ m.2.1 13 1 = 1
/-- all that is kept, but the row -/
def gCor (S T : Nat) (c m : Zst) : Prop := gRA S T c m ∧ gRN c m ∧ gRX c m ∧ gRK S c m ∧ gRM c m ∧ gRL c m ∧ gRT c m
/-- the relation of the two sides between calls -/
def gRel (c m : Zst) : Prop := ∃ S T n : Nat, gCor S T c m ∧ gRR n c m
theorem gRA_ag {S T : Nat} {c m c' m' : Zst} (h : gRA S T c m) (hc : gaC c c') (hm : gaM m m') : gRA S T c' m' := by
  unfold gRA at *
  rw [hc.1 10 rfl, hc.1 11 rfl, hm.1.1 2 rfl, hm.1.1 3 rfl, hc.2 10 rfl, hc.2 11 rfl, hc.2 12 rfl, hc.2 13 rfl, hc.2 14 rfl, hc.2 15 rfl, hc.2 16 rfl, hc.2 17 rfl, hc.2 18 rfl, hm.2 0 rfl, hm.2 1 rfl, hm.2 2 rfl, hm.2 3 rfl, hm.2 4 rfl, hm.2 5 rfl, hm.2 6 rfl, hm.2 7 rfl, hm.2 29 rfl]
  exact h
theorem gRN_ag {c m c' m' : Zst} (h : gRN c m) (hc : gaC c c') (hm : gaM m m') : gRN c' m' := by
  unfold gRN at *
  rw [hc.1 2 rfl, hm.1.1 4 rfl, hc.2 1 rfl, hc.2 5 rfl, hc.2 6 rfl, hm.2 8 rfl, hm.2 30 rfl, hm.2 31 rfl, hm.2 32 rfl, hc.2 2 rfl, hc.2 3 rfl, hc.2 4 rfl]
  exact h
theorem gRX_ag {c m c' m' : Zst} (h : gRX c m) (hc : gaC c c') (hm : gaM m m') : gRX c' m' := by
  unfold gRX at *
  rw [hc.1 1 rfl, hm.1.1 5 rfl, hc.2 0 rfl, hm.2 12 rfl]
  exact h
theorem gRK_ag {S : Nat} {c m c' m' : Zst} (h : gRK S c m) (hc : gaC c c') (hm : gaM m m') : gRK S c' m' := by
  unfold gRK at *
  rw [hc.1 21 rfl, hm.1.1 21 rfl, hc.2 22 rfl, hm.2 21 rfl]
  exact h
theorem gRM_ag {c m c' m' : Zst} (h : gRM c m) (hc : gaC c c') (hm : gaM m m') : gRM c' m' := by
  unfold gRM at *
  rw [hc.1 23 rfl, hm.1.1 23 rfl, hc.2 27 rfl, hc.2 28 rfl, hc.2 29 rfl, hc.2 30 rfl, hm.2 24 rfl, hm.2 25 rfl, hm.2 26 rfl]
  exact h
theorem gRL_ag {c m c' m' : Zst} (h : gRL c m) (hc : gaC c c') (hm : gaM m m') : gRL c' m' := by
  unfold gRL at *
  rw [hc.2 7 rfl, hc.2 8 rfl, hm.2 9 rfl, hm.2 10 rfl]
  exact h
theorem gRT_ag {c m c' m' : Zst} (h : gRT c m) (hc : gaC c c') (hm : gaM m m') : gRT c' m' := by
  unfold gRT at *
  rw [hc.1 19 rfl, hm.1.1 20 rfl, hc.2 19 rfl, hc.2 20 rfl, hm.2 14 rfl, hm.2 15 rfl, hm.2 16 rfl, hm.2 17 rfl, hm.1.2.1, hm.1.2.2]
  exact h
theorem gCor_ag {S T : Nat} {c m c' m' : Zst} (h : gCor S T c m) (hc : gaC c c') (hm : gaM m m') : gCor S T c' m' :=
  ⟨gRA_ag h.1 hc hm, gRN_ag h.2.1 hc hm, gRX_ag h.2.2.1 hc hm, gRK_ag h.2.2.2.1 hc hm, gRM_ag h.2.2.2.2.1 hc hm, gRL_ag h.2.2.2.2.2.1 hc hm, gRT_ag h.2.2.2.2.2.2 hc hm⟩
/-! tests of both sides -/
theorem gq_lt0 (p : Int32) : (p < 0) ↔ p.toInt < 0 := by rw [Int32.lt_iff_toInt_lt]; rfl
theorem gq_upto {p x : Int32} {N : Nat} (hx : x = nI N) (hN : N < 2 ^ 30) : f_X12_in (Int32.toInt64 p) (0 : Int64) (Int32.toInt64 (x - 1)) = (if p < 0 then (0 : Int32) else if x ≤ p then 0 else 1) := by
  subst hx
  rw [show (0 : Int64) = Int32.toInt64 0 from rfl, gq_in]
  unfold f_X11_between
  by_cases h0 : p < 0
  · rw [if_pos h0, if_pos h0]
  · rw [if_neg h0, if_neg h0]
    simp only [Int32.lt_iff_toInt_lt, Int32.le_iff_toInt_le]
    rw [show (1 : Int32) = nI 1 from rfl, pk_sub_toInt hN (by decide), nI_toInt (by omega)]
    by_cases h1 : (N : Int) ≤ p.toInt
    · rw [if_pos h1, if_pos (by omega)]
    · rw [if_neg h1, if_neg (by omega)]
theorem gL_sort {S T : Nat} {c m : Zst} (h : gRA S T c m) (p : Int32) : f_X12_isSort m p = f_X10_hasSort c p := by
  obtain ⟨⟨h1, h2, h3, h4, h5, h6⟩, -⟩ := h
  unfold f_X12_isSort f_X10_hasSort
  rw [gq_upto h4 (by omega), h3, h4]
theorem gL_street {S T : Nat} {c m : Zst} (h : gRA S T c m) (p : Int32) : f_X12_isStreet m p = f_X10_hasStreet c p := by
  obtain ⟨⟨h1, h2, h3, h4, h5, h6⟩, -⟩ := h
  unfold f_X12_isStreet f_X10_hasStreet
  rw [gq_upto h6 (by omega), h5, h6]
theorem gL_cells {S T : Nat} {c m : Zst} (h : gRA S T c m) : f_X10_cellCount c = nI (12 * T) ∧ (12 : Int32) * (m.1 3) = nI (12 * T) := by
  obtain ⟨⟨h1, h2, h3, h4, h5, h6⟩, -⟩ := h
  unfold f_X10_cellCount
  rw [h5, h6, show (12 : Int32) = nI 12 from rfl, pk_mul]
  exact ⟨rfl, rfl⟩
theorem gL_cell {S T : Nat} {c m : Zst} (h : gRA S T c m) (p : Int32) : f_X12_isCell m p = f_X10_hasCell c p := by
  obtain ⟨e1, e2⟩ := gL_cells h
  obtain ⟨⟨h1, h2, h3, h4, h5, h6⟩, -⟩ := h
  unfold f_X12_isCell f_X10_hasCell
  rw [gq_upto e2 (by omega), e1, e2]
theorem gL_kind (p : Int32) : f_X12_isKind p = f_X11_isKind p := gq_in_0_5 p
theorem gL_way (p : Int32) : f_X12_isWay p = f_X11_isWay p := gq_in_0_3 p
theorem gL_week (p : Int32) : f_X12_isWeek p = f_X11_isWeek p := gq_in_0_11 p
theorem gL_year (p : Int32) : f_X12_isYear p = f_X11_between p 1900 2100 := gq_in_1900 p
/-- an index below a count -/
theorem gq_ix {p x : Int32} {N : Nat} (hx : x = nI N) (hN : N < 2 ^ 31) : ((if p < (0 : Int32) then (0 : Int32) else (if x ≤ p then (0 : Int32) else (1 : Int32))) = 1 ∧ ∃ j, j < N ∧ p = nI j) ∨ ((if p < (0 : Int32) then (0 : Int32) else (if x ≤ p then (0 : Int32) else (1 : Int32))) = 0) := by
  subst hx
  rcases pk_ix p hN with h | h | ⟨j, hj, rfl⟩
  · right; rw [if_pos h]
  · right
    by_cases h0 : p < 0
    · rw [if_pos h0]
    · rw [if_neg h0, if_pos h]
  · left
    rw [if_neg (nI_pos (by omega)), if_neg (nI_ge hj hN)]
    exact ⟨rfl, j, hj, rfl⟩
theorem gS_sort {S T : Nat} {c m : Zst} (h : gRA S T c m) (p : Int32) : (f_X10_hasSort c p = 1 ∧ ∃ s, s < S ∧ p = nI s) ∨ f_X10_hasSort c p = 0 := gq_ix h.1.2.2.1 (by have := h.1.1; omega)
theorem gS_street {S T : Nat} {c m : Zst} (h : gRA S T c m) (p : Int32) : (f_X10_hasStreet c p = 1 ∧ ∃ s, s < T ∧ p = nI s) ∨ f_X10_hasStreet c p = 0 := gq_ix h.1.2.2.2.2.1 (by have := h.1.2.1; omega)
theorem gS_cell {S T : Nat} {c m : Zst} (h : gRA S T c m) (p : Int32) : (f_X10_hasCell c p = 1 ∧ ∃ s, s < 12 * T ∧ p = nI s) ∨ f_X10_hasCell c p = 0 := gq_ix (gL_cells h).1 (by have := h.1.2.1; omega)
theorem gS_btw {p a b : Int32} (x y : Nat) (ha : a = nI x) (hb : b = nI y) (hx : x < 2 ^ 30) (hy : y < 2 ^ 30) : (f_X11_between p a b = 1 ∧ ∃ v, x ≤ v ∧ v ≤ y ∧ p = nI v) ∨ f_X11_between p a b = 0 := by
  subst ha hb
  rcases gq_btw p (nI x) (nI y) with ⟨h, h1, h2⟩ | ⟨h, -⟩
  · left
    rw [nI_toInt (by omega)] at h1 h2
    obtain ⟨j, hj, rfl⟩ := gq_nat (p := p) (by omega) h2
    rw [nI_toInt (by omega)] at h1
    exact ⟨h, j, by omega, hj, rfl⟩
  · right; exact h
theorem gS_kind (p : Int32) : (f_X11_isKind p = 1 ∧ ∃ k, k < 6 ∧ p = nI k) ∨ f_X11_isKind p = 0 := by
  rcases gS_btw (p := p) 0 5 rfl rfl (by decide) (by decide) with ⟨h, v, h1, h2, h3⟩ | h
  · exact Or.inl ⟨h, v, by omega, h3⟩
  · exact Or.inr h
theorem gS_way (p : Int32) : (f_X11_isWay p = 1 ∧ ∃ k, k < 4 ∧ p = nI k) ∨ f_X11_isWay p = 0 := by
  rcases gS_btw (p := p) 0 3 rfl rfl (by decide) (by decide) with ⟨h, v, h1, h2, h3⟩ | h
  · exact Or.inl ⟨h, v, by omega, h3⟩
  · exact Or.inr h
theorem gS_week (p : Int32) : (f_X11_isWeek p = 1 ∧ ∃ k, k < 12 ∧ p = nI k) ∨ f_X11_isWeek p = 0 := by
  rcases gS_btw (p := p) 0 11 rfl rfl (by decide) (by decide) with ⟨h, v, h1, h2, h3⟩ | h
  · exact Or.inl ⟨h, v, by omega, h3⟩
  · exact Or.inr h
/-! numbers -/
theorem gq_place {k j s : Nat} : ((nI k * (96 : Int32)) + nI j) * (8 : Int32) + nI s = nI (gP k j s) := by
  rw [show (96 : Int32) = nI 96 from rfl, show (8 : Int32) = nI 8 from rfl, pk_mul, nI_add, pk_mul, nI_add]; rfl
theorem gL_pl {x y z : Int32} (k j s : Nat) (hx : x = nI k) (hy : y = nI j) (hz : z = nI s) (hk : k < 6) (hj : j < 96) (hs : s < 8) : f_X4_placeOf x y z = nI (gP k j s) ∧ f_X12_placeOf x y z = nI (gP k j s) := by
  subst hx hy hz
  unfold f_X4_placeOf f_X12_placeOf
  rw [if_neg (nI_pos (by omega)), if_neg (show ¬ (6 : Int32) ≤ nI k from nI_ge (b := 6) hk (by decide)), if_neg (nI_pos (by omega)), if_neg (show ¬ (96 : Int32) ≤ nI j from nI_ge (b := 96) hj (by decide)), if_neg (nI_pos (by omega)), if_neg (show ¬ (8 : Int32) ≤ nI s from nI_ge (b := 8) hs (by decide)), if_neg (show ¬ (1 : Int32) = 0 by decide)]
  exact ⟨gq_place, gq_place⟩
def gtf (v : Int32) : Int32 := if v = 0 then 0 else 1
theorem gL_of {c m : Zst} (h : gRN c m) {x y z : Int32} (k j s : Nat) (hx : x = nI k) (hy : y = nI j) (hz : z = nI s) (hk : k < 6) (hj : j < 96) (hs : s < 8) : f_X4_of c x y z = some (m.2.1 8 (gP k j s) - 1) := by
  unfold f_X4_of
  have hp := gP_lt hk hj hs
  rw [(gL_pl k j s hx hy hz hk hj hs).1, if_neg (nI_pos (by omega)), if_neg (show ¬ (4608 : Int32) ≤ nI (gP k j s) from nI_ge (b := 4608) hp (by decide)), gIx_ok rfl hp (by decide), nI_clamp (by omega)]
  obtain ⟨v, -, e1, e2⟩ := h.1.2 _ hp
  rw [Nat.zero_add] at e2
  rw [e1, e2]
theorem gL_at {m : Zst} {x y z : Int32} (k j s : Nat) (hx : x = nI k) (hy : y = nI j) (hz : z = nI s) (hk : k < 6) (hj : j < 96) (hs : s < 8) : f_X12_at m x y z = some (m.2.1 8 (gP k j s) - 1) := by
  unfold f_X12_at
  have hp := gP_lt hk hj hs
  rw [(gL_pl k j s hx hy hz hk hj hs).2, gIx_ok rfl hp (by decide), nI_clamp (by omega)]
theorem gL_val {c m : Zst} (h : gRN c m) {k j s : Nat} (hk : k < 6) (hj : j < 96) (hs : s < 8) : ∃ v : Nat, v ≤ 1000 ∧ m.2.1 8 (gP k j s) = nI v ∧ c.2.1 1 (gP k j s) = nI v - 1 := by
  obtain ⟨v, hv, e1, e2⟩ := h.1.2 _ (gP_lt hk hj hs)
  rw [Nat.zero_add] at e2
  exact ⟨v, hv, e2, e1⟩
theorem gL_has {c m : Zst} (h : gRN c m) {x y z : Int32} (k j s : Nat) (hx : x = nI k) (hy : y = nI j) (hz : z = nI s) (hk : k < 6) (hj : j < 96) (hs : s < 8) : f_X4_has c x y z = some (gtf (m.2.1 8 (gP k j s))) := by
  unfold f_X4_has
  rw [gL_of h k j s hx hy hz hk hj hs]
  obtain ⟨v, hv, e, -⟩ := gL_val h hk hj hs
  rw [Option.bind_some, e]
  unfold gtf
  by_cases h0 : v = 0
  · subst h0; rfl
  · rw [if_neg (nI_ne0 (by omega) (by omega)), if_neg]
    rw [gq_lt0, gq_m1 (by omega)]
    omega
theorem gL_told {c m : Zst} (h : gRN c m) {x y z : Int32} (k j s : Nat) (hx : x = nI k) (hy : y = nI j) (hz : z = nI s) (hk : k < 6) (hj : j < 96) (hs : s < 8) : f_X12_isTold m x y z = some (gtf (m.2.1 8 (gP k j s))) := by
  unfold f_X12_isTold
  have hp := gP_lt hk hj hs
  rw [(gL_pl k j s hx hy hz hk hj hs).2, gIx_ok rfl hp (by decide), nI_clamp (by omega)]
  obtain ⟨v, hv, e, -⟩ := gL_val h hk hj hs
  rw [e]
  unfold gtf
  by_cases h0 : v = 0
  · subst h0; rfl
  · rw [if_neg (nI_ne0 (by omega) (by omega)), if_neg (nI_nle (by omega) (by omega))]
/-! the row -/
theorem gW_clear {n : Nat} {c m : Zst} (h : gRR n c m) : f_X5_clear c = some (zI c 0 0) ∧ gRR 0 (zI c 0 0) (zI m 1 0) ∧ gaC c (zI c 0 0) ∧ gaM m (zI m 1 0) :=
  ⟨rfl, ⟨by decide, rfl, rfl, h.2.2.2⟩, gaC_I gaC_rf rfl, gaM_I gaM_rf rfl⟩
/-- nothing but the row -/
def gOR (c c' : Zst) : Prop := (∀ j, ¬ j = 0 → c'.1 j = c.1 j) ∧ c'.2.1 = c.2.1 ∧ (∀ j, ¬ j = 0 → c'.2.2.1 j = c.2.2.1 j)
def gORm (c c' : Zst) : Prop := (∀ j, ¬ j = 1 → c'.1 j = c.1 j) ∧ c'.2.1 = c.2.1 ∧ (∀ j, ¬ j = 0 → c'.2.2.1 j = c.2.2.1 j)
theorem gOR_tr {c c' c2 : Zst} (h : gOR c c') (g : gOR c' c2) : gOR c c2 := ⟨fun j hj => (g.1 j hj).trans (h.1 j hj), g.2.1.trans h.2.1, fun j hj => (g.2.2 j hj).trans (h.2.2 j hj)⟩
theorem gORm_tr {c c' c2 : Zst} (h : gORm c c') (g : gORm c' c2) : gORm c c2 := ⟨fun j hj => (g.1 j hj).trans (h.1 j hj), g.2.1.trans h.2.1, fun j hj => (g.2.2 j hj).trans (h.2.2 j hj)⟩
theorem gOR_a {c c' : Zst} (h : gOR c c') : gaC c c' := ⟨fun j hj => h.1 j (fun e => by subst e; cases hj), fun j _ => by rw [h.2.1]⟩
theorem gORm_a {c c' : Zst} (h : gORm c c') : gaM c c' := ⟨⟨fun j hj => h.1 j (fun e => by subst e; cases hj), by rw [h.2.1], by rw [h.2.1]⟩, fun j _ => by rw [h.2.1]⟩
theorem gX_clear {n : Nat} {c m : Zst} (h : gRR n c m) : f_X5_clear c = some (zI c 0 0) ∧ gRR 0 (zI c 0 0) (zI m 1 0) ∧ gOR c (zI c 0 0) ∧ gORm m (zI m 1 0) :=
  ⟨rfl, ⟨by decide, rfl, rfl, h.2.2.2⟩, ⟨fun j hj => if_neg hj, rfl, fun _ _ => rfl⟩, ⟨fun j hj => if_neg hj, rfl, fun _ _ => rfl⟩⟩
theorem gX_add {n : Nat} {c m : Zst} (h : gRR n c m) (hn : n < 8) {x y : Int64} (e : x = y) : ∃ c' m', f_X5_add c x = some c' ∧ f_X12_enters m y = some m' ∧ gRR (n + 1) c' m' ∧ gOR c c' ∧ gORm m m' := by
  subst e
  obtain ⟨h1, h2, h3, h4⟩ := h
  refine ⟨zI (zL c 0 (vp_updL (c.2.2.1 0) n x)) 0 (nI (n + 1)), zI (zL m 0 (vp_updL (m.2.2.1 0) n x)) 1 (nI (n + 1)), ?_, ?_, ?_, ?_, ?_⟩
  · unfold f_X5_add
    rw [h2, if_neg (show ¬ (8 : Int32) ≤ nI n from nI_ge (b := 8) hn (by decide)), gIx_ok rfl hn (by decide), nI_clamp (by omega), nI_1]
  · unfold f_X12_enters
    rw [h3, gIx_ok rfl (show n < 24 by omega) (by decide), nI_clamp (by omega), nI_1]
  · refine ⟨hn, rfl, rfl, ?_⟩
    show vp_updL (c.2.2.1 0) n x = vp_updL (m.2.2.1 0) n x
    rw [h4]
  · exact ⟨fun j hj => if_neg hj, rfl, fun j hj => if_neg hj⟩
  · exact ⟨fun j hj => if_neg hj, rfl, fun j hj => if_neg hj⟩
theorem gW_add {n : Nat} {c m : Zst} (h : gRR n c m) (hn : n < 8) {x y : Int64} (e : x = y) : ∃ c' m', f_X5_add c x = some c' ∧ f_X12_enters m y = some m' ∧ gRR (n + 1) c' m' ∧ gaC c c' ∧ gaM m m' := by
  obtain ⟨c', m', h1, h2, h3, h4, h5⟩ := gX_add h hn e
  exact ⟨c', m', h1, h2, h3, gOR_a h4, gORm_a h5⟩
theorem gRel_of {S T n : Nat} {c m c' m' : Zst} (h : gCor S T c m) (hc : gaC c c') (hm : gaM m m') (hr : gRR n c' m') : gRel c' m' := ⟨S, T, n, gCor_ag h hc hm, hr⟩
theorem gRR_0 {n : Nat} {c m : Zst} {x : Int32} (h : gRR n c m) : gRR n c (zI m 0 x) := h
