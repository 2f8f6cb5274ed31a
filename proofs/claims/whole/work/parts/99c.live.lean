theorem gLetK (c : Zst) (K : Nat → Int32) (x : Int32) {k : Nat} (hk : k < 26) : f_X2_let (zA c 9 K) (nI (97 + k)) x = some (zA c 9 (upd K k x)) := by
  rw [gLetN (zA c 9 K) x hk, gzAA]
  rfl
theorem gBg_lo {f a0 : Nat → Int32} {p : Nat} {x : Int32} (hp : p < 768) (h : ∀ j, j < 768 → f j = a0 j) : ∀ j, j < 768 → gBgv f p x j = gBgv a0 p x j := by
  intro j hj
  unfold gBgv
  by_cases e : j = p
  · rw [gU_eq e, gU_eq e, h p hp]
  · rw [gU_ne e, gU_ne e, h j hj]
theorem gBg_hi {f : Nat → Int32} {p : Nat} {x : Int32} (hp : p < 768) {j : Nat} (hj : 768 ≤ j) : gBgv f p x j = f j := gU_ne (by omega)
theorem gHasSort {S T : Nat} {c m : Zst} (h : gRA S T c m) {s : Nat} (hs : s < S) : f_X10_hasSort c (nI s) = 1 := by
  have h9 := h.1.1
  unfold f_X10_hasSort
  rw [h.1.2.2.1, if_neg (nI_pos (by omega)), if_neg (nI_ge hs (by omega))]
/-- what is thrown goes to the bags: the reference at once, the class behind what is SAID -/
theorem gBagsL {S T : Nat} {c m : Zst} (h : gCor S T c m) {t w s TH si ba cr : Nat} (ht : t < T) (hw : w < 12) (hs : s < S) (hT : TH ≤ 999) (hg : si + ba + cr ≤ 100) (v13 : c.2.1 13 s = nI si) (v14 : c.2.1 14 s = nI ba) (v15 : c.2.1 15 s = nI cr) :
    ∃ (m6 : Zst) (b0 : Nat → Int32),
      (∀ (J : Zst → Option (Zst × Int32)), ((f_X12_bags m (nI (12 * t + w)) (nI s) (nI (TH - TH * si / 100 - TH * ba / 100 - TH * cr / 100))).bind fun t7 => (if nI (TH * cr / 100) ≤ 0 then J t7 else (f_X12_bags t7 (nI (12 * ((t + 1) % T) + w)) (nI s) (nI (TH * cr / 100))).bind fun t8 => J t8)) = J m6) ∧
      gCor S T (zA c 1 b0) m6 ∧ (∀ j, 768 ≤ j → c.2.1 1 j = b0 j) ∧ m6.1 = m.1 ∧ (∀ j, ¬ j = 8 → m6.2.1 j = m.2.1 j) ∧ m6.2.2 = m.2.2 ∧
      ∀ (c8 m8 : Zst) (A' : Nat → Int32), (∀ j, 768 ≤ j → c8.2.1 1 j = A' j) → (∀ j, j < 768 → c8.2.1 1 j = c.2.1 1 j ∧ A' j = b0 j) → gRA S T c8 m8 → c8.2.1 13 s = nI si → c8.2.1 14 s = nI ba → c8.2.1 15 s = nI cr →
        f_X10_throwAway c8 (nI t) (nI w) (nI s) (nI TH) = some (zA c8 1 A', nI (TH - TH * si / 100 - TH * ba / 100 - TH * cr / 100)) := by
  have hS8 := h.1.1.1
  have hT8 := h.1.1.2.1
  have hH := gHun (a := TH) hg
  have hsi : TH * si / 100 ≤ 999 := by omega
  have hba : TH * ba / 100 ≤ 999 := by omega
  have hcr : TH * cr / 100 ≤ 999 := by omega
  have d1 : ∀ z, z ≤ 100 → nI TH * nI z / (100 : Int32) = nI (TH * z / 100) := fun z hz => by
    have : TH * z ≤ 999 * 100 := Nat.mul_le_mul hT hz
    rw [pk_mul, show (100 : Int32) = nI 100 from rfl, pk_div (by omega) (by decide) (by decide)]
  have hj1 : 12 * t + w < 96 := by omega
  have hnx : (t + 1) % T = (if t + 1 < T then t + 1 else 0) := by
    by_cases q : t + 1 < T
    · rw [if_pos q, Nat.mod_eq_of_lt q]
    · rw [if_neg q, show t + 1 = T by omega, Nat.mod_self]
  have hj2 : 12 * ((t + 1) % T) + w < 96 := by
    rw [hnx]
    by_cases q : t + 1 < T
    · rw [if_pos q]; omega
    · rw [if_neg q]; omega
  have hthrow : ∀ (c8 m8 : Zst), gRA S T c8 m8 → c8.2.1 13 s = nI si → c8.2.1 14 s = nI ba → c8.2.1 15 s = nI cr → f_X10_throwAway c8 (nI t) (nI w) (nI s) (nI TH) = (if nI (TH * cr / 100) ≤ 0 then some (zA c8 1 (gBgv (c8.2.1 1) (gP 0 (12 * t + w) s) (nI (TH - TH * si / 100 - TH * ba / 100 - TH * cr / 100))), nI (TH - TH * si / 100 - TH * ba / 100 - TH * cr / 100)) else some (zA c8 1 (gBgv (gBgv (c8.2.1 1) (gP 0 (12 * t + w) s) (nI (TH - TH * si / 100 - TH * ba / 100 - TH * cr / 100))) (gP 0 (12 * ((t + 1) % T) + w) s) (nI (TH * cr / 100))), nI (TH - TH * si / 100 - TH * ba / 100 - TH * cr / 100))) := by
    intro c8 m8 hA w13 w14 w15
    have eL : nI TH - nI (TH * si / 100) - nI (TH * ba / 100) - nI (TH * cr / 100) = nI (TH - TH * si / 100 - TH * ba / 100 - TH * cr / 100) := by
      rw [pk_sub (by omega), pk_sub (by omega), pk_sub (by omega)]
    have ec : (12 : Int32) * nI t + nI w = nI (12 * t + w) := by rw [show (12 : Int32) = nI 12 from rfl, pk_mul, nI_add]
    have hst : ∀ f, (12 : Int32) * (if f_X10_hasStreet (zA c8 1 f) (nI t + 1) = 0 then (0 : Int32) else nI t + 1) + nI w = nI (12 * ((t + 1) % T) + w) := by
      intro f
      unfold f_X10_hasStreet
      rw [show (zA c8 1 f).1 11 = nI T from hA.1.2.2.2.2.1, nI_1, if_neg (nI_pos (show t + 1 < 2 ^ 31 by omega)), hnx]
      by_cases q : t + 1 < T
      · rw [if_neg (nI_ge q (by omega)), if_neg (show ¬ (1 : Int32) = 0 by decide), if_pos q, show (12 : Int32) = nI 12 from rfl, pk_mul, nI_add]
      · rw [if_pos (nI_le (by omega) (by omega)), if_pos rfl, if_neg q, show (12 : Int32) = nI 12 from rfl, show (0 : Int32) = nI 0 from rfl, pk_mul, nI_add]
    unfold f_X10_throwAway
    simp only [gHasSort hA hs, gq_10, ↓reduceIte, gGx (show s < 8 by omega) (by decide), nI_clamp (show s < 2 ^ 31 by omega), w13, w14, w15, d1 si (by omega), d1 ba (by omega), d1 cr (by omega), eL, ec, gBagC hj1 (show s < 8 by omega), Option.bind_some, hst, gBagC hj2 (show s < 8 by omega), gzAA]
    rfl
  have p1 : gP 0 (12 * t + w) s < 768 := by unfold gP; omega
  have p2 : gP 0 (12 * ((t + 1) % T) + w) s < 768 := by unfold gP; omega
  have hX : TH - TH * si / 100 - TH * ba / 100 - TH * cr / 100 ≤ 999 := by omega
  have hr1 := gBagR h (j := 12 * t + w) (s := s) hj1 (by omega) hX
  by_cases q : TH * cr / 100 = 0
  · have q0 : nI (TH * cr / 100) ≤ 0 := by rw [q]; decide
    refine ⟨_, gBgv (c.2.1 1) (gP 0 (12 * t + w) s) (nI (TH - TH * si / 100 - TH * ba / 100 - TH * cr / 100)), fun J => by rw [gBagM hj1 (by omega), Option.bind_some, if_pos q0], hr1, fun j hj => (gBg_hi p1 hj).symm, rfl, fun j hj => if_neg hj, rfl, fun c8 m8 A' h1 h2 hA w13 w14 w15 => ?_⟩
    rw [hthrow c8 m8 hA w13 w14 w15, if_pos q0]
    have : gBgv (c8.2.1 1) (gP 0 (12 * t + w) s) (nI (TH - TH * si / 100 - TH * ba / 100 - TH * cr / 100)) = A' := by
      funext j
      by_cases e : j < 768
      · rw [(h2 j e).2]; exact gBg_lo p1 (fun j hj => (h2 j hj).1) j e
      · rw [gBg_hi p1 (by omega)]; exact h1 j (by omega)
    rw [this]
  · have q0 : ¬ nI (TH * cr / 100) ≤ 0 := nI_nle (by omega) (by omega)
    have hr2 := gBagR hr1 (j := 12 * ((t + 1) % T) + w) (s := s) hj2 (by omega) hcr
    rw [gzAA, gzAA] at hr2
    refine ⟨_, gBgv (gBgv (c.2.1 1) (gP 0 (12 * t + w) s) (nI (TH - TH * si / 100 - TH * ba / 100 - TH * cr / 100))) (gP 0 (12 * ((t + 1) % T) + w) s) (nI (TH * cr / 100)), fun J => by rw [gBagM hj1 (by omega), Option.bind_some, if_neg q0, gBagM hj2 (by omega), Option.bind_some, gzAA], hr2, fun j hj => by rw [gBg_hi p2 hj, gBg_hi p1 hj], rfl, fun j hj => if_neg hj, rfl, fun c8 m8 A' h1 h2 hA w13 w14 w15 => ?_⟩
    rw [hthrow c8 m8 hA w13 w14 w15, if_neg q0]
    have : gBgv (gBgv (c8.2.1 1) (gP 0 (12 * t + w) s) (nI (TH - TH * si / 100 - TH * ba / 100 - TH * cr / 100))) (gP 0 (12 * ((t + 1) % T) + w) s) (nI (TH * cr / 100)) = A' := by
      funext j
      by_cases e : j < 768
      · rw [(h2 j e).2]; exact gBg_lo p2 (gBg_lo p1 (fun j hj => (h2 j hj).1)) j e
      · rw [gBg_hi p2 (by omega), gBg_hi p1 (by omega)]; exact h1 j (by omega)
    rw [this]
