def gLoE (x u : Nat → Nat) (K : Nat → Bool) (l : Nat) : Nat → Nat
  | 0 => 1900
  | i + 1 => if K i = true ∧ x i = l then max (gLoE x u K l i) (u i) else gLoE x u K l i
def gLo (x u : Nat → Nat) (K : Nat → Bool) (l : Nat) : Nat → Nat
  | 0 => 1900
  | i + 1 => if K i = true ∧ l ≤ x i then max (gLo x u K l i) (u i) else gLo x u K l i
def gHiE (x v : Nat → Nat) (K : Nat → Bool) (l : Nat) : Nat → Nat
  | 0 => 2100
  | i + 1 => if K i = true ∧ x i = l then min (gHiE x v K l i) (v i) else gHiE x v K l i
def gHi (x v : Nat → Nat) (K : Nat → Bool) (l : Nat) : Nat → Nat
  | 0 => 2100
  | i + 1 => if K i = true ∧ x i ≤ l then min (gHi x v K l i) (v i) else gHi x v K l i
theorem gLoE_s (x u : Nat → Nat) (K : Nat → Bool) (l i : Nat) : gLoE x u K l (i + 1) = if K i = true ∧ x i = l then max (gLoE x u K l i) (u i) else gLoE x u K l i := rfl
theorem gLo_s (x u : Nat → Nat) (K : Nat → Bool) (l i : Nat) : gLo x u K l (i + 1) = if K i = true ∧ l ≤ x i then max (gLo x u K l i) (u i) else gLo x u K l i := rfl
theorem gHiE_s (x u : Nat → Nat) (K : Nat → Bool) (l i : Nat) : gHiE x u K l (i + 1) = if K i = true ∧ x i = l then min (gHiE x u K l i) (u i) else gHiE x u K l i := rfl
theorem gHi_s (x u : Nat → Nat) (K : Nat → Bool) (l i : Nat) : gHi x u K l (i + 1) = if K i = true ∧ x i ≤ l then min (gHi x u K l i) (u i) else gHi x u K l i := rfl
theorem gLo_le {x u : Nat → Nat} {K : Nat → Bool} {l M : Nat} : ∀ n, gLo x u K l n ≤ M ↔ 1900 ≤ M ∧ ∀ i, i < n → K i = true → l ≤ x i → u i ≤ M
  | 0 => ⟨fun h => ⟨h, fun i hi => absurd hi (Nat.not_lt_zero i)⟩, fun h => h.1⟩
  | n + 1 => by
    rw [gLo_s]
    have ih := gLo_le (x := x) (u := u) (K := K) (l := l) (M := M) n
    by_cases e : K n = true ∧ l ≤ x n
    · rw [if_pos e, Nat.max_le, ih]
      constructor
      · intro ⟨⟨a, b⟩, d⟩
        refine ⟨a, fun i hi h1 h2 => ?_⟩
        by_cases q : i = n
        · subst q; exact d
        · exact b i (by omega) h1 h2
      · intro ⟨a, b⟩
        exact ⟨⟨a, fun i hi => b i (by omega)⟩, b n (by omega) e.1 e.2⟩
    · rw [if_neg e, ih]
      constructor
      · intro ⟨a, b⟩
        refine ⟨a, fun i hi h1 h2 => ?_⟩
        by_cases q : i = n
        · subst q; exact absurd ⟨h1, h2⟩ e
        · exact b i (by omega) h1 h2
      · intro ⟨a, b⟩
        exact ⟨a, fun i hi => b i (by omega)⟩
theorem gHi_ge {x v : Nat → Nat} {K : Nat → Bool} {l M : Nat} : ∀ n, M ≤ gHi x v K l n ↔ M ≤ 2100 ∧ ∀ i, i < n → K i = true → x i ≤ l → M ≤ v i
  | 0 => ⟨fun h => ⟨h, fun i hi => absurd hi (Nat.not_lt_zero i)⟩, fun h => h.1⟩
  | n + 1 => by
    rw [gHi_s]
    have ih := gHi_ge (x := x) (v := v) (K := K) (l := l) (M := M) n
    by_cases e : K n = true ∧ x n ≤ l
    · rw [if_pos e, Nat.le_min, ih]
      constructor
      · intro ⟨⟨a, b⟩, d⟩
        refine ⟨a, fun i hi h1 h2 => ?_⟩
        by_cases q : i = n
        · subst q; exact d
        · exact b i (by omega) h1 h2
      · intro ⟨a, b⟩
        exact ⟨⟨a, fun i hi => b i (by omega)⟩, b n (by omega) e.1 e.2⟩
    · rw [if_neg e, ih]
      constructor
      · intro ⟨a, b⟩
        refine ⟨a, fun i hi h1 h2 => ?_⟩
        by_cases q : i = n
        · subst q; exact absurd ⟨h1, h2⟩ e
        · exact b i (by omega) h1 h2
      · intro ⟨a, b⟩
        exact ⟨a, fun i hi => b i (by omega)⟩
theorem gLo_top {x u : Nat → Nat} {K : Nat → Bool} : ∀ n, (∀ i, i < n → x i < 10) → gLo x u K 9 n = gLoE x u K 9 n
  | 0, _ => rfl
  | n + 1, h => by
    have := h n (by omega)
    rw [gLo_s, gLoE_s, gLo_top n (fun i hi => h i (by omega))]
    simp only [show (9 ≤ x n) = (x n = 9) from propext (by omega)]
theorem gLo_dn {x u : Nat → Nat} {K : Nat → Bool} {l : Nat} : ∀ n, gLo x u K l n = max (gLoE x u K l n) (gLo x u K (l + 1) n)
  | 0 => rfl
  | n + 1 => by
    rw [gLo_s, gLoE_s, gLo_s, gLo_dn n]
    generalize gLoE x u K l n = a
    generalize gLo x u K (l + 1) n = b
    cases K n
    · simp
    · simp only [true_and]
      split <;> split <;> split <;> omega
theorem gHi_0 {x u : Nat → Nat} {K : Nat → Bool} : ∀ n, gHi x u K 0 n = gHiE x u K 0 n
  | 0 => rfl
  | n + 1 => by
    rw [gHi_s, gHiE_s, gHi_0 n]
    simp only [show (x n ≤ 0) = (x n = 0) from propext (by omega)]
theorem gHi_up {x u : Nat → Nat} {K : Nat → Bool} {l : Nat} : ∀ n, gHi x u K (l + 1) n = min (gHiE x u K (l + 1) n) (gHi x u K l n)
  | 0 => rfl
  | n + 1 => by
    rw [gHi_s, gHiE_s, gHi_s, gHi_up n]
    generalize gHiE x u K (l + 1) n = a
    generalize gHi x u K l n = b
    cases K n
    · simp
    · simp only [true_and]
      split <;> split <;> split <;> omega
theorem gLo_pair {x u v : Nat → Nat} {K : Nat → Bool} {n : Nat} (hx : ∀ i, i < n → x i < 10 ∧ 1900 ≤ u i ∧ u i ≤ v i ∧ v i ≤ 2100) :
    (∀ l, l < 10 → gLo x u K l n ≤ gHi x v K l n) ↔ (∀ i j, i < n → j < n → K i = true → K j = true → x i ≤ x j → u j ≤ v i) := by
  constructor
  · intro h i j hi hj ki kj hij
    have h1 := h (x i) (hx i hi).1
    have h2 := ((gHi_ge n).mp h1).2 i hi ki (Nat.le_refl _)
    exact ((gLo_le n).mp h2).2 j hj kj hij
  · intro h l hl
    rw [gHi_ge]
    refine ⟨?_, fun i hi ki hil => ?_⟩
    · rw [gLo_le]
      refine ⟨by decide, fun j hj kj hj2 => ?_⟩
      have := hx j hj; omega
    · rw [gLo_le]
      refine ⟨?_, fun j hj kj hj2 => h i j hi hj ki kj (Nat.le_trans hil hj2)⟩
      have := hx i hi; omega
theorem gLoE_b {x u v : Nat → Nat} {K : Nat → Bool} {l : Nat} : ∀ n, (∀ i, i < n → x i < 10 ∧ 1900 ≤ u i ∧ u i ≤ v i ∧ v i ≤ 2100) → gLoE x u K l n ≤ 2100 ∧ gLo x u K l n ≤ 2100
  | 0, _ => ⟨show 1900 ≤ 2100 by decide, show 1900 ≤ 2100 by decide⟩
  | n + 1, h => by
    have ih := gLoE_b (K := K) (l := l) n (fun i hi => h i (by omega))
    have := h n (by omega)
    rw [gLoE_s, gLo_s]
    constructor <;> split <;> omega
theorem gHiE_b {x v : Nat → Nat} {K : Nat → Bool} {l : Nat} : ∀ n, gHiE x v K l n ≤ 2100 ∧ gHi x v K l n ≤ 2100
  | 0 => ⟨Nat.le_refl 2100, Nat.le_refl 2100⟩
  | n + 1 => by
    have ih := gHiE_b (x := x) (v := v) (K := K) (l := l) n
    rw [gHiE_s, gHi_s]
    constructor <;> split <;> omega
theorem gJmax {a b : Nat} (ha : a < 2 ^ 31) (hb : b < 2 ^ 31) : jMax (nI a) (nI b) = nI (max a b) := by
  unfold jMax
  simp only [show (nI a < nI b) = (a < b) from propext (nI_ltI ha hb)]
  split
  · rw [Nat.max_eq_right (by omega)]
  · rw [Nat.max_eq_left (by omega)]
theorem gJmin {a b : Nat} (ha : a < 2 ^ 31) (hb : b < 2 ^ 31) : jMin (nI a) (nI b) = nI (min a b) := by
  unfold jMin
  simp only [show (nI b < nI a) = (b < a) from propext (nI_ltI hb ha)]
  split
  · rw [Nat.min_eq_right (by omega)]
  · rw [Nat.min_eq_left (by omega)]
/-- the dates of the layers, as the reference finds them -/
theorem gDates {m : Zst} {P : Nat} {x u v : Nat → Nat} (hP : P ≤ 12) (d2 : m.1 23 = nI P)
    (hx : ∀ i, i < P → (x i < 10 ∧ 1900 ≤ u i ∧ u i ≤ v i ∧ v i ≤ 2100) ∧ m.2.1 24 i = nI (x i) ∧ m.2.1 25 i = nI (u i) ∧ m.2.1 26 i = nI (v i)) {w0 : Int32} {K : Nat → Bool} (hK : ∀ i, i < P → f_X12_has w0 (nI i) = if K i = true then 0 else 1) :
    ∃ (m' : Zst) (b : Bool), f_X12_dates m w0 = some (m', if b then 1 else 0) ∧ (b = true ↔ ∀ i j, i < P → j < P → K i = true → K j = true → x i ≤ x j → u j ≤ v i) ∧ gaM m m' ∧ gNRm m m' ∧
      (∀ l, l < 10 → m'.2.1 27 l = nI (gLo x u K l P)) ∧ (∀ l, l < 10 → m'.2.1 28 l = nI (gHi x v K l P)) := by
  have hx1 : ∀ i, i < P → x i < 10 ∧ 1900 ≤ u i ∧ u i ≤ v i ∧ v i ≤ 2100 := fun i hi => (hx i hi).1
  obtain ⟨m1, g1, a1, a2, a3, a4⟩ := gq_run1 (La := fun (k : Zst → Option (Zst × Int32)) n (a : Zst × Int32) => L_X12_dates_2 k w0 n a.1 a.2)
    (fun i a => a.2 = nI i ∧ gaM m a.1 ∧ gNRm m a.1 ∧ (∀ l, l < i → a.1.2.1 27 l = nI 1900) ∧ (∀ l, l < i → a.1.2.1 28 l = nI 2100))
    (fun m' => gaM m m' ∧ gNRm m m' ∧ (∀ l, l < 10 → m'.2.1 27 l = nI 1900) ∧ (∀ l, l < 10 → m'.2.1 28 l = nI 2100)) 0 10 (by decide) (by decide) (a := (m, 0))
    (fun i a hi hI => by
      obtain ⟨m1, q⟩ := a
      obtain ⟨hq, am, an, a1, a2⟩ := hI
      have hq : q = nI i := hq
      subst hq
      have am : gaM m m1 := am
      have an : gNRm m m1 := an
      have a1 : ∀ l, l < i → m1.2.1 27 l = nI 1900 := a1
      have a2 : ∀ l, l < i → m1.2.1 28 l = nI 2100 := a2
      refine ⟨(zA (zA m1 27 (upd (m1.2.1 27) i 1900)) 28 (upd (m1.2.1 28) i 2100), nI (i + 1)), fun k n => ?_, rfl, gaM_A (gaM_A am rfl (by decide)) rfl (by decide), an, fun l hl => ?_, fun l hl => ?_⟩
      · simp only [L_X12_dates_2, if_neg (show ¬ (10 : Int32) ≤ nI i from nI_ge (b := 10) hi (by decide)), gGx hi (by decide), nI_clamp (show i < 2 ^ 31 by omega), nI_1]
      · show upd (m1.2.1 27) i 1900 l = nI 1900
        by_cases e : l = i
        · rw [gU_eq e]; rfl
        · rw [gU_ne e]; exact a1 l (by omega)
      · show upd (m1.2.1 28) i 2100 l = nI 2100
        by_cases e : l = i
        · rw [gU_eq e]; rfl
        · rw [gU_ne e]; exact a2 l (by omega))
    (fun a hI => by
      obtain ⟨m1, q⟩ := a
      obtain ⟨hq, am, an, a1, a2⟩ := hI
      have hq : q = nI 10 := hq
      subst hq
      exact ⟨m1, fun k n => by simp only [L_X12_dates_2, show ((10 : Int32) ≤ nI 10) = True by decide, ↓reduceIte], am, an, a1, a2⟩)
    ⟨rfl, gaM_rf, ⟨rfl, rfl⟩, fun l hl => absurd hl (Nat.not_lt_zero l), fun l hl => absurd hl (Nat.not_lt_zero l)⟩
  obtain ⟨m2, g2, b1, b2, b3, b4⟩ := gq_run1 (La := fun (k : Zst → Option (Zst × Int32)) n (a : Zst × Int32) => L_X12_dates_34 k w0 n a.1 a.2)
    (fun i a => a.2 = nI i ∧ gaM m a.1 ∧ gNRm m a.1 ∧ (∀ l, l < 10 → a.1.2.1 27 l = nI (gLoE x u K l i)) ∧ (∀ l, l < 10 → a.1.2.1 28 l = nI (gHiE x v K l i)))
    (fun m' => gaM m m' ∧ gNRm m m' ∧ (∀ l, l < 10 → m'.2.1 27 l = nI (gLoE x u K l P)) ∧ (∀ l, l < 10 → m'.2.1 28 l = nI (gHiE x v K l P))) 0 P (by omega) (by omega) (a := (m1, 0))
    (fun i a hi hI => by
      obtain ⟨m1, q⟩ := a
      obtain ⟨hq, am, an, a1, a2⟩ := hI
      have hq : q = nI i := hq
      subst hq
      have am : gaM m m1 := am
      have an : gNRm m m1 := an
      have a1 : ∀ l, l < 10 → m1.2.1 27 l = nI (gLoE x u K l i) := a1
      have a2 : ∀ l, l < 10 → m1.2.1 28 l = nI (gHiE x v K l i) := a2
      have d2' : m1.1 23 = nI P := by rw [am.1.1 23 rfl, d2]
      obtain ⟨⟨x0, x1, x2, x3⟩, x4, x5, x6⟩ := hx i hi
      have hn : ¬ nI P ≤ nI i := nI_ge hi (by omega)
      cases hk : K i
      · refine ⟨(m1, nI (i + 1)), fun k n => ?_, rfl, am, an, fun l hl => ?_, fun l hl => ?_⟩
        · simp only [L_X12_dates_34, d2', if_neg hn, hK i hi, hk, Bool.false_eq_true, ↓reduceIte, gq_10, nI_1]
        · rw [gLoE_s, hk, if_neg (fun q => by cases q.1)]; exact a1 l hl
        · rw [gHiE_s, hk, if_neg (fun q => by cases q.1)]; exact a2 l hl
      · have y1 : m1.2.1 24 i = nI (x i) := by rw [am.2 24 rfl, x4]
        have y2 : m1.2.1 25 i = nI (u i) := by rw [am.2 25 rfl, x5]
        have y3 : m1.2.1 26 i = nI (v i) := by rw [am.2 26 rfl, x6]
        have z1 := (gLoE_b (K := K) (l := x i) i (fun j hj => hx1 j (by omega))).1
        have z2 := (gHiE_b (x := x) (v := v) (K := K) (l := x i) i).1
        refine ⟨(zA (zA m1 27 (upd (m1.2.1 27) (x i) (nI (max (gLoE x u K (x i) i) (u i))))) 28 (upd (m1.2.1 28) (x i) (nI (min (gHiE x v K (x i) i) (v i)))), nI (i + 1)), fun k n => ?_, rfl, gaM_A (gaM_A am rfl (by decide)) rfl (by decide), an, fun l hl => ?_, fun l hl => ?_⟩
        · simp only [L_X12_dates_34, d2', if_neg hn, hK i hi, hk, ↓reduceIte, nI_clamp (show i < 2 ^ 31 by omega), y1, y2, y3, gGx (show i < 12 by omega) (by decide), gGx x0 (by decide), nI_clamp (show x i < 2 ^ 31 by omega), a1 (x i) x0, a2 (x i) x0, nI_1, gJmax (show gLoE x u K (x i) i < 2 ^ 31 by omega) (show u i < 2 ^ 31 by omega), gJmin (show gHiE x v K (x i) i < 2 ^ 31 by omega) (show v i < 2 ^ 31 by omega)]
        · show upd (m1.2.1 27) (x i) (nI (max (gLoE x u K (x i) i) (u i))) l = _
          rw [gLoE_s]
          by_cases e : l = x i
          · rw [gU_eq e, if_pos ⟨hk, e.symm⟩, e]
          · rw [gU_ne e, if_neg (fun q => e q.2.symm)]; exact a1 l hl
        · show upd (m1.2.1 28) (x i) (nI (min (gHiE x v K (x i) i) (v i))) l = _
          rw [gHiE_s]
          by_cases e : l = x i
          · rw [gU_eq e, if_pos ⟨hk, e.symm⟩, e]
          · rw [gU_ne e, if_neg (fun q => e q.2.symm)]; exact a2 l hl)
    (fun a hI => by
      obtain ⟨m1, q⟩ := a
      obtain ⟨hq, am, an, a1, a2⟩ := hI
      have hq : q = nI P := hq
      subst hq
      have am : gaM m m1 := am
      have d2' : m1.1 23 = nI P := by rw [am.1.1 23 rfl, d2]
      have hn : nI P ≤ nI P := Int32.le_refl _
      exact ⟨m1, fun k n => by simp only [L_X12_dates_34, d2', if_pos hn], am, an, a1, a2⟩)
    ⟨rfl, a1, a2, a3, a4⟩
  obtain ⟨m3, g3, e1, e2, e3, e4⟩ := gq_run1 (La := fun (k : Zst → Option (Zst × Int32)) n (a : Zst × Int32) => L_X12_dates_107 k n a.1 a.2)
    (fun i a => 1 ≤ i ∧ a.2 = nI i ∧ gaM m a.1 ∧ gNRm m a.1 ∧ (∀ l, l < 10 → a.1.2.1 27 l = nI (gLoE x u K l P)) ∧ (∀ l, l < i → a.1.2.1 28 l = nI (gHi x v K l P)) ∧ (∀ l, i ≤ l → l < 10 → a.1.2.1 28 l = nI (gHiE x v K l P)))
    (fun m' => gaM m m' ∧ gNRm m m' ∧ (∀ l, l < 10 → m'.2.1 27 l = nI (gLoE x u K l P)) ∧ (∀ l, l < 10 → m'.2.1 28 l = nI (gHi x v K l P))) 1 10 (by decide) (by decide) (a := (m2, 1))
    (fun i a hi hI => by
      obtain ⟨m1, q⟩ := a
      obtain ⟨i0, hq, am, an, a1, a2, a3⟩ := hI
      have hq : q = nI i := hq
      subst hq
      have am : gaM m m1 := am
      have an : gNRm m m1 := an
      have a1 : ∀ l, l < 10 → m1.2.1 27 l = nI (gLoE x u K l P) := a1
      have a2 : ∀ l, l < i → m1.2.1 28 l = nI (gHi x v K l P) := a2
      have a3 : ∀ l, i ≤ l → l < 10 → m1.2.1 28 l = nI (gHiE x v K l P) := a3
      obtain ⟨r, rfl⟩ : ∃ r, i = r + 1 := ⟨i - 1, by omega⟩
      have e0 : nI (r + 1) - 1 = nI r := by rw [show (1 : Int32) = nI 1 from rfl, pk_sub (by omega)]; rfl
      have z1 := (gHiE_b (x := x) (v := v) (K := K) (l := r + 1) P).1
      have z2 := (gHiE_b (x := x) (v := v) (K := K) (l := r) P).2
      refine ⟨(zA m1 28 (upd (m1.2.1 28) (r + 1) (nI (gHi x v K (r + 1) P))), nI (r + 1 + 1)), fun k n => ?_, by omega, rfl, gaM_A am rfl (by decide), an, a1, fun l hl => ?_, fun l hl hl2 => ?_⟩
      · simp only [L_X12_dates_107, if_neg (show ¬ (10 : Int32) ≤ nI (r + 1) from nI_ge (b := 10) hi (by decide)), gGx hi (by decide), e0, gGx (show r < 10 by omega) (by decide), nI_clamp (show r < 2 ^ 31 by omega), nI_clamp (show r + 1 < 2 ^ 31 by omega), nI_1, a2 r (by omega), a3 (r + 1) (Nat.le_refl _) hi, gJmin (show gHiE x v K (r + 1) P < 2 ^ 31 by omega) (show gHi x v K r P < 2 ^ 31 by omega), gHi_up]
      · show upd (m1.2.1 28) (r + 1) (nI (gHi x v K (r + 1) P)) l = _
        by_cases e : l = r + 1
        · rw [gU_eq e, e]
        · rw [gU_ne e]; exact a2 l (by omega)
      · show upd (m1.2.1 28) (r + 1) (nI (gHi x v K (r + 1) P)) l = _
        rw [gU_ne (by omega)]; exact a3 l (by omega) hl2)
    (fun a hI => by
      obtain ⟨m1, q⟩ := a
      obtain ⟨i0, hq, am, an, a1, a2, a3⟩ := hI
      have hq : q = nI 10 := hq
      subst hq
      exact ⟨m1, fun k n => by simp only [L_X12_dates_107, show ((10 : Int32) ≤ nI 10) = True by decide, ↓reduceIte], am, an, a1, a2⟩)
    ⟨Nat.le_refl 1, rfl, b1, b2, b3, fun l hl => by
      have hl : l = 0 := by omega
      subst hl
      rw [gHi_0]; exact b4 0 (by decide), fun l hl hl2 => b4 l hl2⟩
  obtain ⟨r4, g4, m4, b, rfl, f0, f1, f2, f3, f4⟩ := gq_loop (La := fun n (a : Zst × Int32 × Int32) => L_X12_dates_147 n a.1 a.2.1 a.2.2)
    (fun i a => ∃ (m4 : Zst) (b : Bool), a = (m4, (if b = true then 1 else 0), nI (10 - i) - 1) ∧ (b = true ↔ ∀ l, 10 - i ≤ l → l < 10 → gLo x u K l P ≤ gHi x v K l P) ∧ gaM m m4 ∧ gNRm m m4 ∧ (∀ l, l < 10 → m4.2.1 28 l = nI (gHi x v K l P)) ∧ (∀ l, l < 10 → l < 10 - i → m4.2.1 27 l = nI (gLoE x u K l P)) ∧ (∀ l, l < 10 → 10 - i ≤ l → m4.2.1 27 l = nI (gLo x u K l P)))
    (fun r => ∃ (m4 : Zst) (b : Bool), r = (m4, (if b = true then 1 else 0)) ∧ (b = true ↔ ∀ l, l < 10 → gLo x u K l P ≤ gHi x v K l P) ∧ gaM m m4 ∧ gNRm m m4 ∧ (∀ l, l < 10 → m4.2.1 28 l = nI (gHi x v K l P)) ∧ (∀ l, l < 10 → m4.2.1 27 l = nI (gLo x u K l P))) 10 (by decide) (a := (m3, 1, 9))
    (fun i a hi hI => by
      obtain ⟨m4, b, rfl, hb, am, an, a1, a2, a3⟩ := hI
      obtain ⟨r, hr⟩ : ∃ r, 10 - i = r + 1 := ⟨9 - i, by omega⟩
      have hr2 : 10 - (i + 1) = r := by omega
      rw [hr] at hb a2 a3 ⊢
      rw [hr2]
      have e0 : nI (r + 1) - 1 = nI r := by rw [show (1 : Int32) = nI 1 from rfl, pk_sub (by omega)]; rfl
      have e5 : nI r + (-1 : Int32) = nI r - 1 := (Int32.sub_eq_add_neg _ _).symm
      have hr9 : r < 10 := by omega
      have hlo : ∃ mm : Zst, mm = zA m4 27 (upd (m4.2.1 27) r (nI (gLo x u K r P))) := ⟨_, rfl⟩
      obtain ⟨mm, hmm⟩ := hlo
      have zl := (gLoE_b (K := K) (l := r) P hx1)
      have zl1 := (gLoE_b (K := K) (l := r + 1) P hx1)
      have zh := (gHiE_b (x := x) (v := v) (K := K) (l := r) P).2
      have hup : upd (m4.2.1 27) r (nI (gLo x u K r P)) r = nI (gLo x u K r P) := gU_eq rfl
      have hstep : ∀ n, L_X12_dates_147 (n + 1) m4 (if b = true then 1 else 0) (nI r) = J_X12_dates_190 (fun σ w2 w3 => L_X12_dates_147 n σ w2 w3) m4 (if b = true then 1 else 0) (nI r) (nI (gLo x u K r P)) (nI r) := fun n => by
        by_cases h9 : r = 9
        · subst h9
          simp only [L_X12_dates_147, if_neg (nI_pos (show 9 < 2 ^ 31 by omega)), nI_1, show ((10 : Int32) ≤ nI (9 + 1)) = True by decide, ↓reduceIte, gGx (show 9 < 10 by decide) (by decide), nI_clamp (show 9 < 2 ^ 31 by omega), a2 9 (by decide) (by omega), gLo_top P (fun i hi => (hx1 i hi).1)]
        · simp only [L_X12_dates_147, if_neg (nI_pos (show r < 2 ^ 31 by omega)), nI_1, if_neg (show ¬ (10 : Int32) ≤ nI (r + 1) from nI_ge (b := 10) (by omega) (by decide)), gGx hr9 (by decide), gGx (show r + 1 < 10 by omega) (by decide), nI_clamp (show r < 2 ^ 31 by omega), nI_clamp (show r + 1 < 2 ^ 31 by omega), a2 r hr9 (by omega), a3 (r + 1) (by omega) (by omega), gJmax (show gLoE x u K r P < 2 ^ 31 by omega) (show gLo x u K (r + 1) P < 2 ^ 31 by omega), gLo_dn (l := r) P]
      refine ⟨(mm, (if (b && decide (gLo x u K r P ≤ gHi x v K r P)) = true then 1 else 0), nI r - 1), fun n => ?_, mm, _, rfl, ?_, ?_, ?_, ?_, ?_, ?_⟩
      · show L_X12_dates_147 (n + 1) m4 (if b = true then 1 else 0) (nI (r + 1) - 1) = _
        rw [e0, hstep n]
        unfold J_X12_dates_190
        rw [gGx hr9 (by decide), nI_clamp (show r < 2 ^ 31 by omega), hmm]
        cases b
        · simp only [Bool.false_eq_true, ↓reduceIte, Bool.false_and, e5]
        · simp only [↓reduceIte, gq_10, Bool.true_and, gGx hr9 (by decide), hup, a1 r hr9, e5]
          simp only [show (nI (gHi x v K r P) < nI (gLo x u K r P)) = (gHi x v K r P < gLo x u K r P) from propext (nI_ltI (by omega) (by omega))]
          by_cases q : gLo x u K r P ≤ gHi x v K r P
          · rw [if_neg (by omega), decide_eq_true q, if_pos rfl]
          · rw [if_pos (by omega), decide_eq_false q, if_neg (by decide)]
      · rw [Bool.and_eq_true, hb, decide_eq_true_iff]
        constructor
        · intro ⟨p, q⟩ l hl hl2
          by_cases e : l = r
          · rw [e]; exact q
          · exact p l (by omega) hl2
        · intro p
          exact ⟨fun l hl hl2 => p l (by omega) hl2, p r (Nat.le_refl r) hr9⟩
      · rw [hmm]; exact gaM_A am rfl (by decide)
      · rw [hmm]; exact an
      · rw [hmm]; exact a1
      · rw [hmm]
        intro l hl hl2
        show upd (m4.2.1 27) r (nI (gLo x u K r P)) l = _
        rw [gU_ne (by omega)]; exact a2 l hl (by omega)
      · rw [hmm]
        intro l hl hl2
        show upd (m4.2.1 27) r (nI (gLo x u K r P)) l = _
        by_cases e : l = r
        · rw [gU_eq e, e]
        · rw [gU_ne e]; exact a3 l hl (by omega))
    (fun a hI => by
      obtain ⟨m4, b, rfl, hb, am, an, a1, a2, a3⟩ := hI
      refine ⟨(m4, if b = true then 1 else 0), fun n => ?_, m4, b, rfl, ?_, am, an, a1, fun l hl => a3 l hl (by omega)⟩
      · simp only [L_X12_dates_147, show (nI (10 - 10) - 1 < (0 : Int32)) = True by decide, ↓reduceIte]
        cases b <;> rfl
      · rw [hb]
        exact ⟨fun p l hl => p l (by omega) hl, fun p l _ hl => p l hl⟩)
    ⟨m3, true, rfl, ⟨fun _ l h1 h2 => absurd h1 (by omega), fun _ => rfl⟩, e1, e2, e4, fun l hl _ => e3 l hl, fun l hl h2 => absurd h2 (by omega)⟩
  refine ⟨m4, b, ?_, f0.trans (gLo_pair hx1), f1, f2, f4, f3⟩
  unfold f_X12_dates
  rw [show L_X12_dates_2 (fun σ5 => J_X12_dates_32 σ5 w0) w0 zFu m 0 = _ from g1 _]
  unfold J_X12_dates_32
  rw [show L_X12_dates_34 (fun σ4 => J_X12_dates_105 σ4) w0 zFu m1 0 = _ from g2 _]
  unfold J_X12_dates_105
  rw [show L_X12_dates_107 (fun σ3 => J_X12_dates_142 σ3) zFu m2 1 = _ from g3 _]
  exact g4
