/-! the two sides' states beside one another: what they keep, what is passing -/
theorem gq_lock {A B R1 R2 : Type} {La : Nat → A → Option R1} {Lb : Nat → B → Option R2} (I : Nat → A → B → Prop) (Post : R1 → R2 → Prop) (N : Nat) (hN : N < 9000)
    (step : ∀ i a b, i < N → I i a b → ∃ a' b', (∀ n, La (n + 1) a = La n a') ∧ (∀ n, Lb (n + 1) b = Lb n b') ∧ I (i + 1) a' b')
    (fin : ∀ a b, I N a b → ∃ ra rb, (∀ n, La (n + 1) a = some ra) ∧ (∀ n, Lb (n + 1) b = some rb) ∧ Post ra rb)
    {a : A} {b : B} (h : I 0 a b) : ∃ ra rb, La zFu a = some ra ∧ Lb zFu b = some rb ∧ Post ra rb := by
  have key : ∀ d i a b n, i + d = N → d < n → I i a b → ∃ ra rb, La n a = some ra ∧ Lb n b = some rb ∧ Post ra rb := by
    intro d
    induction d with
    | zero =>
      intro i a b n hi hn hI
      obtain ⟨n, rfl⟩ : ∃ k, n = k + 1 := ⟨n - 1, by omega⟩
      have hi : i = N := by omega
      subst hi
      obtain ⟨ra, rb, h1, h2, h3⟩ := fin a b hI
      exact ⟨ra, rb, h1 n, h2 n, h3⟩
    | succ d ih =>
      intro i a b n hi hn hI
      obtain ⟨n, rfl⟩ : ∃ k, n = k + 1 := ⟨n - 1, by omega⟩
      obtain ⟨a', b', h1, h2, h3⟩ := step i a b (by omega) hI
      rw [h1, h2]
      exact ih (i + 1) a' b' n (by omega) (by omega) h3
  exact key N 0 a b zFu (by omega) (by rw [zFu_eq]; omega) h
/-- one loop alone -/
theorem gq_loop {A R1 : Type} {La : Nat → A → Option R1} (I : Nat → A → Prop) (Post : R1 → Prop) (N : Nat) (hN : N < 9000)
    (step : ∀ i a, i < N → I i a → ∃ a', (∀ n, La (n + 1) a = La n a') ∧ I (i + 1) a')
    (fin : ∀ a, I N a → ∃ ra, (∀ n, La (n + 1) a = some ra) ∧ Post ra)
    {a : A} (h : I 0 a) : ∃ ra, La zFu a = some ra ∧ Post ra := by
  have key : ∀ d i a n, i + d = N → d < n → I i a → ∃ ra, La n a = some ra ∧ Post ra := by
    intro d
    induction d with
    | zero =>
      intro i a n hi hn hI
      obtain ⟨n, rfl⟩ : ∃ k, n = k + 1 := ⟨n - 1, by omega⟩
      have hi : i = N := by omega
      subst hi
      obtain ⟨ra, h1, h3⟩ := fin a hI
      exact ⟨ra, h1 n, h3⟩
    | succ d ih =>
      intro i a n hi hn hI
      obtain ⟨n, rfl⟩ : ∃ k, n = k + 1 := ⟨n - 1, by omega⟩
      obtain ⟨a', h1, h3⟩ := step i a (by omega) hI
      rw [h1]
      exact ih (i + 1) a' n (by omega) (by omega) h3
  exact key N 0 a zFu (by omega) (by rw [zFu_eq]; omega) h
theorem gq_10 : ((1 : Int32) = 0) = False := by decide
theorem gq_01 : ((0 : Int32) = 1) = False := by decide
theorem gq_m0 : ((-1 : Int32) = 0) = False := by decide
theorem gIx_ok {α : Type} {i : Int32} {n j : Nat} {k : Option α} (hi : i = nI j) (h : j < n) (hn : n < 2 ^ 31) : gIx i n k = k := by
  subst hi
  unfold gIx
  rw [if_neg (nI_in h hn)]
theorem gBo_0 {α : Type} {k : Option α} : gBo 0 k = k := rfl
theorem gBo_1 {α : Type} {k : Option α} : gBo 1 k = k := rfl
theorem gNz_ok {α : Type} {y : Int32} {k : Option α} (h : ¬ y = 0) : gNz y k = k := if_neg h
theorem gNzL_ok {α : Type} {y : Int64} {k : Option α} (h : ¬ y = 0) : gNzL y k = k := if_neg h
/-! ranges: both sides' tests are one -/
theorem gq_in (p a b : Int32) : f_X12_in (Int32.toInt64 p) (Int32.toInt64 a) (Int32.toInt64 b) = f_X11_between p a b := by
  unfold f_X12_in f_X11_between
  simp only [Int64.lt_iff_toInt_lt, Int32.lt_iff_toInt_lt, Int32.toInt_toInt64]
theorem gq_in' {p : Int32} {x y : Int64} (a b : Int32) (hx : x = Int32.toInt64 a) (hy : y = Int32.toInt64 b) : f_X12_in (Int32.toInt64 p) x y = f_X11_between p a b := by
  subst hx hy
  exact gq_in p a b
theorem gq_in_1_100 (p : Int32) : f_X12_in (Int32.toInt64 p) (1 : Int64) (100 : Int64) = f_X11_between p 1 100 := gq_in' 1 100 (by decide) (by decide)
theorem gq_in_m5_5 (p : Int32) : f_X12_in (Int32.toInt64 p) (-5 : Int64) (5 : Int64) = f_X11_between p (-5) 5 := gq_in' (-5) 5 (by decide) (by decide)
theorem gq_in_0_100 (p : Int32) : f_X12_in (Int32.toInt64 p) (0 : Int64) (100 : Int64) = f_X11_between p 0 100 := gq_in' 0 100 (by decide) (by decide)
theorem gq_in_m1_999 (p : Int32) : f_X12_in (Int32.toInt64 p) (-1 : Int64) (999 : Int64) = f_X11_between p (-1) 999 := gq_in' (-1) 999 (by decide) (by decide)
theorem gq_in_0_999 (p : Int32) : f_X12_in (Int32.toInt64 p) (0 : Int64) (999 : Int64) = f_X11_between p 0 999 := gq_in' 0 999 (by decide) (by decide)
theorem gq_in_0_3 (p : Int32) : f_X12_in (Int32.toInt64 p) (0 : Int64) (3 : Int64) = f_X11_between p 0 3 := gq_in' 0 3 (by decide) (by decide)
theorem gq_in_0_1 (p : Int32) : f_X12_in (Int32.toInt64 p) (0 : Int64) (1 : Int64) = f_X11_between p 0 1 := gq_in' 0 1 (by decide) (by decide)
theorem gq_in_0_2 (p : Int32) : f_X12_in (Int32.toInt64 p) (0 : Int64) (2 : Int64) = f_X11_between p 0 2 := gq_in' 0 2 (by decide) (by decide)
theorem gq_in_0_5 (p : Int32) : f_X12_in (Int32.toInt64 p) (0 : Int64) (5 : Int64) = f_X11_between p 0 5 := gq_in' 0 5 (by decide) (by decide)
theorem gq_in_0_9 (p : Int32) : f_X12_in (Int32.toInt64 p) (0 : Int64) (9 : Int64) = f_X11_between p 0 9 := gq_in' 0 9 (by decide) (by decide)
theorem gq_in_0_11 (p : Int32) : f_X12_in (Int32.toInt64 p) (0 : Int64) (11 : Int64) = f_X11_between p 0 11 := gq_in' 0 11 (by decide) (by decide)
theorem gq_in_1_11 (p : Int32) : f_X12_in (Int32.toInt64 p) (1 : Int64) (11 : Int64) = f_X11_between p 1 11 := gq_in' 1 11 (by decide) (by decide)
theorem gq_in_m1_11 (p : Int32) : f_X12_in (Int32.toInt64 p) (-1 : Int64) (11 : Int64) = f_X11_between p (-1) 11 := gq_in' (-1) 11 (by decide) (by decide)
theorem gq_in_1_99 (p : Int32) : f_X12_in (Int32.toInt64 p) (1 : Int64) (99 : Int64) = f_X11_between p 1 99 := gq_in' 1 99 (by decide) (by decide)
theorem gq_in_1_255 (p : Int32) : f_X12_in (Int32.toInt64 p) (1 : Int64) (255 : Int64) = f_X11_between p 1 255 := gq_in' 1 255 (by decide) (by decide)
theorem gq_in_1_4095 (p : Int32) : f_X12_in (Int32.toInt64 p) (1 : Int64) (4095 : Int64) = f_X11_between p 1 4095 := gq_in' 1 4095 (by decide) (by decide)
theorem gq_in_0_9999 (p : Int32) : f_X12_in (Int32.toInt64 p) (0 : Int64) (9999 : Int64) = f_X11_between p 0 9999 := gq_in' 0 9999 (by decide) (by decide)
theorem gq_in_1900 (p : Int32) : f_X12_in (Int32.toInt64 p) (1900 : Int64) (2100 : Int64) = f_X11_between p 1900 2100 := gq_in' 1900 2100 (by decide) (by decide)
theorem gq_in_48_57 (p : Int32) : f_X12_in (Int32.toInt64 p) (48 : Int64) (57 : Int64) = f_X11_between p 48 57 := gq_in' 48 57 (by decide) (by decide)
/-- within bounds: 1, else 0 -/
theorem gq_btw (p a b : Int32) : (f_X11_between p a b = 1 ∧ a.toInt ≤ p.toInt ∧ p.toInt ≤ b.toInt) ∨ (f_X11_between p a b = 0 ∧ ¬ (a.toInt ≤ p.toInt ∧ p.toInt ≤ b.toInt)) := by
  unfold f_X11_between
  simp only [Int32.lt_iff_toInt_lt]
  by_cases h1 : p.toInt < a.toInt
  · right; rw [if_pos h1]; exact ⟨rfl, by omega⟩
  · rw [if_neg h1]
    by_cases h2 : b.toInt < p.toInt
    · right; rw [if_pos h2]; exact ⟨rfl, by omega⟩
    · left; rw [if_neg h2]; exact ⟨rfl, by omega, by omega⟩
theorem gq_nat {p : Int32} (h0 : 0 ≤ p.toInt) {n : Nat} (hn : p.toInt ≤ (n : Int)) : ∃ j : Nat, j ≤ n ∧ p = nI j := by
  have h3 : p.toInt < 2147483648 := p.toInt_lt
  refine ⟨p.toInt.toNat, by omega, ?_⟩
  apply Int32.toInt_inj.mp
  rw [nI_toInt (by omega)]
  omega
theorem gq_nat1 {p : Int32} (h0 : -1 ≤ p.toInt) {n : Nat} (hn : p.toInt ≤ (n : Int)) (hN : n < 2 ^ 29) : ∃ j : Nat, j ≤ n + 1 ∧ p = nI j - 1 := by
  refine ⟨(p.toInt + 1).toNat, by omega, ?_⟩
  apply Int32.toInt_inj.mp
  rw [show (1 : Int32) = nI 1 from rfl, pk_sub_toInt (by omega) (by decide)]
  omega
theorem gq_m1 {v : Nat} (h : v < 2 ^ 30) : (nI v - 1).toInt = (v : Int) - 1 := by
  rw [show (1 : Int32) = nI 1 from rfl, pk_sub_toInt h (by decide)]
  rfl
/-! what passes: slots of the class and of the reference that no answer keeps -/
def gkI (j : Nat) : Bool := [1, 2, 10, 11, 19, 21, 23].contains j
def gkA (j : Nat) : Bool := [0, 1, 2, 3, 4, 5, 6, 7, 8, 10, 11, 12, 13, 14, 15, 16, 17, 18, 19, 20, 22, 27, 28, 29, 30].contains j
def gmI (j : Nat) : Bool := [2, 3, 4, 5, 20, 21, 23].contains j
def gmA (j : Nat) : Bool := [0, 1, 2, 3, 4, 5, 6, 7, 8, 9, 10, 12, 14, 15, 16, 17, 21, 24, 25, 26, 29, 30, 31, 32].contains j
/-- alike but for what passes and the row -/
def gaC (c c' : Zst) : Prop := (∀ j, gkI j = true → c'.1 j = c.1 j) ∧ (∀ j, gkA j = true → c'.2.1 j = c.2.1 j)
def gaM (m m' : Zst) : Prop := ((∀ j, gmI j = true → m'.1 j = m.1 j) ∧ (m'.2.1 13 0 = m.2.1 13 0 ∧ m'.2.1 13 1 = m.2.1 13 1)) ∧ (∀ j, gmA j = true → m'.2.1 j = m.2.1 j)
theorem gaC_rf {c : Zst} : gaC c c := ⟨fun _ _ => rfl, fun _ _ => rfl⟩
theorem gaM_rf {c : Zst} : gaM c c := ⟨⟨fun _ _ => rfl, rfl, rfl⟩, fun _ _ => rfl⟩
theorem gaC_tr {c c' c2 : Zst} (h : gaC c c') (g : gaC c' c2) : gaC c c2 := ⟨fun j hj => (g.1 j hj).trans (h.1 j hj), fun j hj => (g.2 j hj).trans (h.2 j hj)⟩
theorem gaM_tr {c c' c2 : Zst} (h : gaM c c') (g : gaM c' c2) : gaM c c2 := ⟨⟨fun j hj => (g.1.1 j hj).trans (h.1.1 j hj), g.1.2.1.trans h.1.2.1, g.1.2.2.trans h.1.2.2⟩, fun j hj => (g.2 j hj).trans (h.2 j hj)⟩
theorem gaC_I {c c' : Zst} {k : Nat} {x : Int32} (h : gaC c c') (hk : gkI k = false) : gaC c (zI c' k x) := ⟨fun j hj => by
    have : ¬ j = k := fun e => by subst e; rw [hk] at hj; cases hj
    show (if j = k then x else c'.1 j) = _
    rw [if_neg this]; exact h.1 j hj, h.2⟩
theorem gaC_A {c c' : Zst} {k : Nat} {x : Nat → Int32} (h : gaC c c') (hk : gkA k = false) : gaC c (zA c' k x) := ⟨h.1, fun j hj => by
    have : ¬ j = k := fun e => by subst e; rw [hk] at hj; cases hj
    show (if j = k then x else c'.2.1 j) = _
    rw [if_neg this]; exact h.2 j hj⟩
theorem gaC_L {c c' : Zst} {k : Nat} {x : Nat → Int64} (h : gaC c c') : gaC c (zL c' k x) := h
theorem gaM_I {c c' : Zst} {k : Nat} {x : Int32} (h : gaM c c') (hk : gmI k = false) : gaM c (zI c' k x) := ⟨⟨fun j hj => by
    have : ¬ j = k := fun e => by subst e; rw [hk] at hj; cases hj
    show (if j = k then x else c'.1 j) = _
    rw [if_neg this]; exact h.1.1 j hj, h.1.2⟩, h.2⟩
theorem gaM_A {c c' : Zst} {k : Nat} {x : Nat → Int32} (h : gaM c c') (hk : gmA k = false) (hk2 : ¬ k = 13) : gaM c (zA c' k x) := ⟨⟨h.1.1, by
    show (if 13 = k then x else c'.2.1 13) 0 = _ ∧ (if 13 = k then x else c'.2.1 13) 1 = _
    rw [if_neg (fun e => hk2 e.symm)]; exact h.1.2⟩, fun j hj => by
    have : ¬ j = k := fun e => by subst e; rw [hk] at hj; cases hj
    show (if j = k then x else c'.2.1 j) = _
    rw [if_neg this]; exact h.2 j hj⟩
theorem gaM_13 {c c' : Zst} {x : Nat → Int32} (h : gaM c c') (h0 : x 0 = c'.2.1 13 0) (h1 : x 1 = c'.2.1 13 1) : gaM c (zA c' 13 x) := ⟨⟨h.1.1, h0.trans h.1.2.1, h1.trans h.1.2.2⟩, fun j hj => by
    have : ¬ j = 13 := fun e => by subst e; cases hj
    show (if j = 13 then x else c'.2.1 j) = _
    rw [if_neg this]; exact h.2 j hj⟩
theorem gaM_L {c c' : Zst} {k : Nat} {x : Nat → Int64} (h : gaM c c') : gaM c (zL c' k x) := h
theorem gaM_N {c c' : Zst} {k : Nat} {x : Nat} (h : gaM c c') : gaM c (zN c' k x) := h
theorem gaM_0 {m : Zst} {x : Int32} : gaM m (zI m 0 x) := gaM_I gaM_rf rfl
/-! the parts of the relation -/
def gP (k j s : Nat) : Nat := (k * 96 + j) * 8 + s
theorem gP_lt {k j s : Nat} (hk : k < 6) (hj : j < 96) (hs : s < 8) : gP k j s < 4608 := by unfold gP; omega
/-- sorts and streets -/
def gRA (S T : Nat) (c m : Zst) : Prop :=
  (S ≤ 8 ∧ T ≤ 8 ∧ c.1 10 = nI S ∧ m.1 2 = nI S ∧ c.1 11 = nI T ∧ m.1 3 = nI T) ∧
  (m.2.1 0 = c.2.1 10 ∧ m.2.1 1 = c.2.1 11 ∧ m.2.1 2 = c.2.1 12 ∧ m.2.1 3 = c.2.1 13 ∧ m.2.1 4 = c.2.1 14 ∧ m.2.1 5 = c.2.1 15 ∧ m.2.1 6 = c.2.1 17) ∧
  (∀ s, s < S → ∃ x r y : Nat, 1 ≤ x ∧ x ≤ 100 ∧ r ≤ 10 ∧ 1 ≤ y ∧ y ≤ 100 ∧ c.2.1 10 s = nI x ∧ c.2.1 11 s = nI r - 5 ∧ c.2.1 12 s = nI y) ∧
  (∀ s, s < 8 → ∃ x y z : Nat, x + y + z ≤ 100 ∧ c.2.1 13 s = nI x ∧ c.2.1 14 s = nI y ∧ c.2.1 15 s = nI z) ∧
  (∀ s, s < T → ∃ v : Nat, v ≤ 12 ∧ c.2.1 18 s = nI v - 1 ∧ m.2.1 29 s = nI v) ∧ (∀ s, T ≤ s → m.2.1 29 s = 0) ∧
  (∀ s w, s < 8 → w < 12 → m.2.1 7 (12 * s + w) = (jShr (c.2.1 16 s) (nI w)) &&& 1)
/-- numbers: one row of them (class, reference) -/
def gRW (f g : Nat → Int32) (o : Nat) : Prop := ∀ p, p < 4608 → ∃ v : Nat, v ≤ 1000 ∧ f p = nI v - 1 ∧ g (o + p) = nI v
def gRN (c m : Zst) : Prop :=
  (c.1 2 = m.1 4 ∧ gRW (c.2.1 1) (m.2.1 8) 0) ∧ (c.2.1 6 = m.2.1 30 ∧ (∀ i, c.2.1 6 i = 0 ∨ c.2.1 6 i = 1) ∧ c.2.1 5 = m.2.1 32 ∧ (c.2.1 6 0 = 1 → gRW (c.2.1 2) (m.2.1 31) 0) ∧ (c.2.1 6 1 = 1 → gRW (c.2.1 3) (m.2.1 31) 4608) ∧ (c.2.1 6 2 = 1 → gRW (c.2.1 4) (m.2.1 31) 9216))
/-- the text -/
def gRX (c m : Zst) : Prop := ∃ n : Nat, n ≤ 60 ∧ c.1 1 = nI n ∧ m.1 5 = nI n ∧ c.2.1 0 = m.2.1 12 ∧ ∀ i, ∃ v : Nat, v < 256 ∧ c.2.1 0 i = nI v
/-- sorters -/
def gRK (S : Nat) (c m : Zst) : Prop := ∃ (P : Nat) (v : Nat → Nat), P ≤ 9999 ∧ c.1 21 = nI P ∧ m.1 21 = nI P ∧ c.2.1 22 = m.2.1 21 ∧ (∀ i, i < 64 → c.2.1 22 i = nI (v i)) ∧ ((List.range 64).map v).sum = P ∧ ∀ a b, a < 8 → b < 8 → (S ≤ a ∨ S ≤ b) → v (8 * a + b) = 0
/-- the mound -/
def gRM (c m : Zst) : Prop := ∃ P : Nat, P ≤ 12 ∧ c.1 23 = nI P ∧ m.1 23 = nI P ∧ m.2.1 24 = c.2.1 27 ∧ m.2.1 25 = c.2.1 28 ∧ m.2.1 26 = c.2.1 29 ∧
  (∀ i, i < P → ∃ x u v : Nat, x < 10 ∧ 1900 ≤ u ∧ u ≤ v ∧ v ≤ 2100 ∧ c.2.1 27 i = nI x ∧ c.2.1 28 i = nI u ∧ c.2.1 29 i = nI v) ∧
  (∀ i, i < P → ∃ w : Nat, w < 2 ^ i ∧ c.2.1 30 i = nI w ∧ ∀ j, j < i → (w.testBit j = true ↔ ((c.2.1 27 j ≤ c.2.1 27 i ∧ c.2.1 29 j < c.2.1 28 i) ∨ (c.2.1 27 i ≤ c.2.1 27 j ∧ c.2.1 29 i < c.2.1 28 j))))
/-- the row -/
def gRR (n : Nat) (c m : Zst) : Prop := n ≤ 8 ∧ c.1 0 = nI n ∧ m.1 1 = nI n ∧ c.2.2.1 0 = m.2.2.1 0
