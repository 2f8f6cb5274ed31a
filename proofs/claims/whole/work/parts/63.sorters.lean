def gN (f : Nat → Nat) : Nat → Nat
  | 0 => 0
  | n + 1 => gN f n + f n
theorem gN_list (f : Nat → Nat) : ∀ n, ((List.range n).map f).sum = gN f n := by
  intro n
  induction n with
  | zero => rfl
  | succ n ih =>
    rw [List.range_succ, List.map_append, List.sum_append, ih]
    show gN f n + (f n + 0) = gN f n + f n
    omega
theorem gN_eq {f g : Nat → Nat} : ∀ n, (∀ i, i < n → f i = g i) → gN f n = gN g n := by
  intro n
  induction n with
  | zero => intro _; rfl
  | succ n ih =>
    intro h
    show gN f n + f n = gN g n + g n
    rw [ih (fun i hi => h i (by omega)), h n (by omega)]
theorem gN_le {f g : Nat → Nat} : ∀ n, (∀ i, i < n → f i ≤ g i) → gN f n ≤ gN g n := by
  intro n
  induction n with
  | zero => intro _; exact Nat.le_refl _
  | succ n ih =>
    intro h
    have h1 := ih (fun i hi => h i (by omega))
    have h2 := h n (by omega)
    show gN f n + f n ≤ gN g n + g n
    omega
theorem gN_one {f : Nat → Nat} {i : Nat} : ∀ n, i < n → f i ≤ gN f n := by
  intro n
  induction n with
  | zero => intro h; omega
  | succ n ih =>
    intro h
    show f i ≤ gN f n + f n
    by_cases e : i = n
    · subst e; omega
    · have := ih (by omega); omega
/-- what is nothing from S on adds nothing -/
theorem gN_ext {f : Nat → Nat} {S : Nat} : ∀ d, (∀ i, S ≤ i → i < S + d → f i = 0) → gN f (S + d) = gN f S := by
  intro d
  induction d with
  | zero => intro _; rfl
  | succ d ih =>
    intro h
    show gN f (S + d) + f (S + d) = gN f S
    rw [ih (fun i h1 h2 => h i h1 (by omega)), h (S + d) (by omega) (by omega)]; rfl
theorem gN_8 {f : Nat → Nat} {S : Nat} (hS : S ≤ 8) (h : ∀ i, S ≤ i → i < 8 → f i = 0) : gN f S = gN f 8 := by
  have := gN_ext (f := f) (S := S) (8 - S) (fun i h1 h2 => h i h1 (by omega))
  rw [show S + (8 - S) = 8 by omega] at this
  exact this.symm
theorem gN_sq (v : Nat → Nat) : ∀ k, gN v (8 * k) = gN (fun a => gN (fun b => v (8 * a + b)) 8) k := by
  intro k
  induction k with
  | zero => rfl
  | succ k ih =>
    show gN v (8 * k + 8) = gN (fun a => gN (fun b => v (8 * a + b)) 8) k + gN (fun b => v (8 * k + b)) 8
    rw [← ih]
    show gN v (8 * k) + v (8 * k) + v (8 * k + 1) + v (8 * k + 2) + v (8 * k + 3) + v (8 * k + 4) + v (8 * k + 5) + v (8 * k + 6) + v (8 * k + 7) = gN v (8 * k) + (0 + v (8 * k + 0) + v (8 * k + 1) + v (8 * k + 2) + v (8 * k + 3) + v (8 * k + 4) + v (8 * k + 5) + v (8 * k + 6) + v (8 * k + 7))
    have e0 : v (8 * k + 0) = v (8 * k) := rfl
    omega
/-- what the sorters took, in numbers -/
def gTk (S : Nat) (v : Nat → Nat) (c m : Zst) : Prop := (∀ i, i < 64 → c.2.1 22 i = nI (v i)) ∧ (∀ i, i < 64 → m.2.1 21 i = nI (v i)) ∧ (∀ a b, a < 8 → b < 8 → (S ≤ a ∨ S ≤ b) → v (8 * a + b) = 0) ∧ gN v 64 ≤ 9999
theorem gTk_of {S : Nat} {c m : Zst} (h : gRK S c m) : ∃ (P : Nat) (v : Nat → Nat), P ≤ 9999 ∧ c.1 21 = nI P ∧ m.1 21 = nI P ∧ gN v 64 = P ∧ gTk S v c m := by
  obtain ⟨P, v, h1, h2, h3, h4, h5, h6, h7⟩ := h
  rw [gN_list] at h6
  exact ⟨P, v, h1, h2, h3, h6, h5, fun i hi => by rw [← h4]; exact h5 i hi, h7, by omega⟩
theorem gL_as {S T : Nat} {c m : Zst} {v : Nat → Nat} (h : gRA S T c m) (hk : gTk S v c m) {a b : Nat} (ha : a < 8) (hb : b < 8) : f_X7_takenAs c (nI a) (nI b) = some (nI (v (8 * a + b))) := by
  have hS := h.1.1
  have e1 : ∀ x, x < 8 → f_X10_hasSort c (nI x) = (if S ≤ x then 0 else 1) := by
    intro x hx
    unfold f_X10_hasSort
    rw [h.1.2.2.1, if_neg (nI_pos (by omega))]
    by_cases q : S ≤ x
    · rw [if_pos (nI_le q (by omega)), if_pos q]
    · rw [if_neg (nI_ge (by omega) (by omega)), if_neg q]
  unfold f_X7_takenAs
  rw [e1 a ha, e1 b hb]
  by_cases q : S ≤ a
  · rw [if_pos q, if_pos rfl, hk.2.2.1 a b ha hb (Or.inl q)]; rfl
  · rw [if_neg q, if_neg (by decide)]
    by_cases q2 : S ≤ b
    · rw [if_pos q2, if_pos rfl, hk.2.2.1 a b ha hb (Or.inr q2)]; rfl
    · have e : nI a * (8 : Int32) + nI b = nI (8 * a + b) := by rw [show (8 : Int32) = nI 8 from rfl, pk_mul, nI_add, Nat.mul_comm]
      rw [if_neg q2, if_neg (by decide), e, gGx (show 8 * a + b < 64 by omega) (by decide), nI_clamp (by omega), hk.1 _ (by omega)]
theorem gL_first {S T : Nat} {c m : Zst} {v : Nat → Nat} (h : gRA S T c m) (hk : gTk S v c m) {a : Nat} (ha : a < 8) :
    f_X7_takenByFirst c (nI a) = some (nI (gN (fun b => v (8 * a + b)) 8)) ∧ f_X7_takenBySecond c (nI a) = some (nI (gN (fun b => v (8 * b + a)) 8)) := by
  have hS := h.1.1
  have hs : f_X10_sortCount c = nI S := h.1.2.2.1
  constructor
  · obtain ⟨ra, h1, h2⟩ := gq_loop (La := fun n (x : Int32 × Int32) => L_X7_takenByFirst_4 c (nI a) n x.1 x.2) (fun i x => x = (nI (gN (fun b => v (8 * a + b)) i), nI i)) (fun r => r = nI (gN (fun b => v (8 * a + b)) S)) S (by omega) (a := (0, 0))
      (fun i x hi hx => by
        subst hx
        refine ⟨(nI (gN (fun b => v (8 * a + b)) (i + 1)), nI (i + 1)), fun n => ?_, rfl⟩
        simp only [L_X7_takenByFirst_4, hs, if_neg (nI_ge hi (show S < 2 ^ 31 by omega)), gL_as h hk ha (show i < 8 by omega), Option.bind_some, nI_add, nI_1]
        rfl)
      (fun x hx => by
        subst hx
        refine ⟨_, fun n => ?_, rfl⟩
        simp only [L_X7_takenByFirst_4, hs, if_pos (nI_le (Nat.le_refl S) (show S < 2 ^ 31 by omega))])
      rfl
    rw [h2, gN_8 hS (fun i h1 h2 => hk.2.2.1 a i ha h2 (Or.inr h1))] at h1
    exact h1
  · obtain ⟨ra, h1, h2⟩ := gq_loop (La := fun n (x : Int32 × Int32) => L_X7_takenBySecond_4 c (nI a) n x.1 x.2) (fun i x => x = (nI (gN (fun b => v (8 * b + a)) i), nI i)) (fun r => r = nI (gN (fun b => v (8 * b + a)) S)) S (by omega) (a := (0, 0))
      (fun i x hi hx => by
        subst hx
        refine ⟨(nI (gN (fun b => v (8 * b + a)) (i + 1)), nI (i + 1)), fun n => ?_, rfl⟩
        simp only [L_X7_takenBySecond_4, hs, if_neg (nI_ge hi (show S < 2 ^ 31 by omega)), gL_as h hk (show i < 8 by omega) ha, Option.bind_some, nI_add, nI_1]
        rfl)
      (fun x hx => by
        subst hx
        refine ⟨_, fun n => ?_, rfl⟩
        simp only [L_X7_takenBySecond_4, hs, if_pos (nI_le (Nat.le_refl S) (show S < 2 ^ 31 by omega))])
      rfl
    rw [h2, gN_8 hS (fun i h1 h2 => hk.2.2.1 i a h2 ha (Or.inl h1))] at h1
    exact h1
theorem gL_took {S : Nat} {c m : Zst} {v : Nat → Nat} (hk : gTk S v c m) {a : Nat} (ha : a < 8) :
    f_X12_tookFor m 0 (nI a) = some (nI (gN (fun b => v (8 * a + b)) 8)) ∧ f_X12_tookFor m 1 (nI a) = some (nI (gN (fun b => v (8 * b + a)) 8)) := by
  constructor
  · obtain ⟨ra, h1, h2⟩ := gq_loop (La := fun n (x : Int32 × Int32) => L_X12_tookFor_5 m 0 (nI a) n x.1 x.2) (fun i x => x = (nI (gN (fun b => v (8 * a + b)) i), nI i)) (fun r => r = nI (gN (fun b => v (8 * a + b)) 8)) 8 (by omega) (a := (0, 0))
      (fun i x hi hx => by
        subst hx
        refine ⟨(nI (gN (fun b => v (8 * a + b)) (i + 1)), nI (i + 1)), fun n => ?_, rfl⟩
        have e : (8 : Int32) * nI a + nI i = nI (8 * a + i) := by rw [show (8 : Int32) = nI 8 from rfl, pk_mul, nI_add]
        simp only [L_X12_tookFor_5, if_neg (show ¬ (8 : Int32) ≤ nI i from nI_ge (b := 8) hi (by decide)), ↓reduceIte, e, gGx (show 8 * a + i < 64 by omega) (by decide), nI_clamp (show 8 * a + i < 2 ^ 31 by omega), hk.2.1 _ (show 8 * a + i < 64 by omega), nI_add, nI_1]
        rfl)
      (fun x hx => by
        subst hx
        refine ⟨_, fun n => ?_, rfl⟩
        simp only [L_X12_tookFor_5, if_pos (show (8 : Int32) ≤ nI 8 by decide)])
      rfl
    rw [h2] at h1
    exact h1
  · obtain ⟨ra, h1, h2⟩ := gq_loop (La := fun n (x : Int32 × Int32) => L_X12_tookFor_5 m 1 (nI a) n x.1 x.2) (fun i x => x = (nI (gN (fun b => v (8 * b + a)) i), nI i)) (fun r => r = nI (gN (fun b => v (8 * b + a)) 8)) 8 (by omega) (a := (0, 0))
      (fun i x hi hx => by
        subst hx
        refine ⟨(nI (gN (fun b => v (8 * b + a)) (i + 1)), nI (i + 1)), fun n => ?_, rfl⟩
        have e : (8 : Int32) * nI i + nI a = nI (8 * i + a) := by rw [show (8 : Int32) = nI 8 from rfl, pk_mul, nI_add]
        simp only [L_X12_tookFor_5, if_neg (show ¬ (8 : Int32) ≤ nI i from nI_ge (b := 8) hi (by decide)), gq_10, ↓reduceIte, e, gGx (show 8 * i + a < 64 by omega) (by decide), nI_clamp (show 8 * i + a < 2 ^ 31 by omega), hk.2.1 _ (show 8 * i + a < 64 by omega), nI_add, nI_1]
        rfl)
      (fun x hx => by
        subst hx
        refine ⟨_, fun n => ?_, rfl⟩
        simp only [L_X12_tookFor_5, if_pos (show (8 : Int32) ≤ nI 8 by decide)])
      rfl
    rw [h2] at h1
    exact h1
theorem gTk_row {S : Nat} {c m : Zst} {v : Nat → Nat} (hk : gTk S v c m) {a : Nat} (ha : a < 8) : gN (fun b => v (8 * a + b)) 8 ≤ 9999 ∧ gN (fun b => v (8 * b + a)) 8 ≤ 9999 := by
  have h0 : gN v 64 = gN (fun a => gN (fun b => v (8 * a + b)) 8) 8 := gN_sq v 8
  have h9 := hk.2.2.2
  constructor
  · have := gN_one (f := fun a => gN (fun b => v (8 * a + b)) 8) 8 ha
    omega
  · have : gN (fun b => v (8 * b + a)) 8 ≤ gN (fun b => gN (fun c => v (8 * b + c)) 8) 8 := gN_le 8 (fun b hb => gN_one (f := fun c => v (8 * b + c)) 8 ha)
    omega
theorem pp_leans : lp_leans gRel := by
  intro c m hR p0
  obtain ⟨S, T, n, h, hr⟩ := hR
  have hS := h.1.1.1
  obtain ⟨P, v, k1, k2, k3, k4, hk⟩ := gTk_of h.2.2.2.1
  unfold f_X12_leans
  simp only [gL_sort (gRA_ag h.1 gaC_rf gaM_0)]
  rcases gS_sort h.1 p0 with ⟨e0, s, x1, x2⟩ | e0
  · subst x2
    have hk' : gTk S v c (zI m 0 0) := hk
    obtain ⟨t1, t2⟩ := gL_took hk' (show s < 8 by omega)
    obtain ⟨t3, t4⟩ := gL_first h.1 hk (show s < 8 by omega)
    simp only [e0, gq_10, ↓reduceIte, t1, t2, Option.bind_some]
    refine ⟨_, rfl, gNo h hr, Or.inr ⟨trivial, rfl, ?_⟩⟩
    unfold f_X7_oftener
    rw [t3, t4]
    rfl
  · simp only [e0, ↓reduceIte]
    exact ⟨_, rfl, ⟨S, T, n, gCor_ag h gaC_rf (gaM_I gaM_0 rfl), hr⟩, Or.inl ⟨trivial, rfl⟩⟩
theorem pp_row : lp_row gRel := by
  intro c m hR p0
  obtain ⟨S, T, n, h, hr⟩ := hR
  obtain ⟨r1, r2, r3, r4⟩ := id hr
  unfold f_X12_row f_X5_at f_X5_has
  rw [gq_upto r3 (by omega), r2, r3]
  rcases gq_ix (p := p0) (x := nI n) rfl (show n < 2 ^ 31 by omega) with ⟨e, j, hj, rfl⟩ | e
  · simp only [e, gq_10, ↓reduceIte, gGx (show j < 24 by omega) (by decide), gGx (show j < 8 by omega) (by decide), nI_clamp (show j < 2 ^ 31 by omega), r4]
    exact ⟨_, rfl, gNo h hr, Or.inr ⟨trivial, rfl, rfl⟩⟩
  · simp only [e, ↓reduceIte]
    exact ⟨_, rfl, ⟨S, T, n, gCor_ag h gaC_rf (gaM_I gaM_0 rfl), hr⟩, Or.inl ⟨trivial, rfl⟩⟩
theorem pp_alike : lp_alike gRel := by
  intro c m hR
  obtain ⟨S, T, n, h, hr⟩ := hR
  have no : gRel c (zI m 0 0) := gNo h hr
  have h' : gCor S T c (zI m 0 0) := gCor_ag h gaC_rf gaM_0
  have hr' : gRR n c (zI m 0 0) := hr
  have hS := h.1.1.1
  obtain ⟨P, v, k1, k2, k3, k4, hk⟩ := gTk_of h'.2.2.2.1
  unfold f_X11_alike f_X7_agreed f_X12_alike
  have hm : m.1 21 = nI P := k3
  rw [hm]
  generalize zI m 0 0 = m0 at *
  have hs : f_X10_sortCount c = nI S := h'.1.1.2.2.1
  have hrow : ∀ a, a < 8 → gN (fun b => v (8 * a + b)) 8 ≤ 9999 ∧ gN (fun b => v (8 * b + a)) 8 ≤ 9999 := fun a ha => gTk_row hk ha
  let R : Nat → Nat := fun a => gN (fun b => v (8 * a + b)) 8
  let C : Nat → Nat := fun a => gN (fun b => v (8 * b + a)) 8
  have hdi : ∀ i, S ≤ i → i < 8 → v (8 * i + i) = 0 := fun i h1 h2 => hk.2.2.1 i i h2 h2 (Or.inl h1)
  have hRz : ∀ i, S ≤ i → i < 8 → R i * C i = 0 := by
    intro i h1 h2
    have : R i = 0 := by
      have e := gN_8 (f := fun b => v (8 * i + b)) (S := 0) (by omega) (fun b _ hb => hk.2.2.1 i b h2 hb (Or.inl h1))
      exact e.symm
    rw [this, Nat.zero_mul]
  have hch : ∀ k, k ≤ 8 → gN (fun a => R a * C a) k ≤ 8 * (9999 * 9999) := by
    intro k hk8
    have e1 : gN (fun a => R a * C a) k ≤ gN (fun _ => 9999 * 9999) k := gN_le k (fun i hi => gMulLe (hrow i (by omega)).1 (hrow i (by omega)).2)
    have e2 : ∀ k, gN (fun _ => 9999 * 9999) k = k * (9999 * 9999) := by
      intro k
      induction k with
      | zero => rfl
      | succ k ih => show gN _ k + 9999 * 9999 = _; rw [ih]; omega
    rw [e2] at e1
    exact Nat.le_trans e1 (Nat.mul_le_mul_right _ hk8)
  have hdg : ∀ k, k ≤ 8 → gN (fun a => v (8 * a + a)) k ≤ 9999 := by
    intro k hk8
    have e1 : gN (fun a => v (8 * a + a)) k ≤ gN (fun a => R a) k := gN_le k (fun i hi => gN_one (f := fun b => v (8 * i + b)) 8 (show i < 8 by omega))
    have e2 : gN (fun a => R a) k ≤ gN (fun a => R a) 8 := by
      have : ∀ d, gN (fun a => R a) k ≤ gN (fun a => R a) (k + d) := by
        intro d
        induction d with
        | zero => exact Nat.le_refl _
        | succ d ih => exact Nat.le_trans ih (Nat.le_add_right _ _)
      have := this (8 - k)
      rw [show k + (8 - k) = 8 by omega] at this
      exact this
    have e3 : gN v 64 = gN (fun a => R a) 8 := gN_sq v 8
    omega
  have hl1 : ∀ x : Nat, x ≤ 9999 → Int32.toInt64 (nI x) = lN x := fun x hx => nI_l (by omega)
  -- the class
  obtain ⟨ra, g1, g2⟩ := gq_run1 (La := fun (k : Int32 × Int64 → Option (Zst × Int32)) n (a : Int32 × Int64 × Int32) => L_X7_agreed_7 (fun w6 w7 => k (w6, w7)) c n a.1 a.2.1 a.2.2)
    (fun i a => a = (nI (gN (fun a => v (8 * a + a)) i), lN (gN (fun a => R a * C a) i), nI i))
    (fun r => r = (nI (gN (fun a => v (8 * a + a)) 8), lN (gN (fun a => R a * C a) 8))) 0 S (Nat.zero_le _) (by omega) (a := (0, 0, 0))
    (fun i a hi ha => by
      subst ha
      obtain ⟨t3, t4⟩ := gL_first h'.1 hk (show i < 8 by omega)
      refine ⟨(nI (gN (fun a => v (8 * a + a)) (i + 1)), lN (gN (fun a => R a * C a) (i + 1)), nI (i + 1)), fun k n => ?_, rfl⟩
      simp only [L_X7_agreed_7, hs, if_neg (nI_ge hi (show S < 2 ^ 31 by omega)), gL_as h'.1 hk (show i < 8 by omega) (show i < 8 by omega), t3, t4, Option.bind_some, nI_add, nI_1, hl1 _ (hrow i (by omega)).1, hl1 _ (hrow i (by omega)).2, lN_mul, lN_add]
      rfl)
    (fun a ha => by
      subst ha
      refine ⟨_, fun k n => ?_, rfl⟩
      simp only [L_X7_agreed_7, hs, if_pos (nI_le (Nat.le_refl S) (show S < 2 ^ 31 by omega)), gN_8 hS hdi, gN_8 hS hRz])
    rfl
  subst g2
  -- the reference
  obtain ⟨rb, g3, g4⟩ := gq_run1 (La := fun (k : Int64 × Int64 → Option (Zst × Int32)) n (a : Int64 × Int64 × Int32) => L_X12_alike_19 (fun w4 w5 => k (w4, w5)) m0 (Int32.toInt64 (nI P)) n a.1 a.2.1 a.2.2)
    (fun i a => a = (lN (gN (fun a => v (8 * a + a)) i), lN (gN (fun a => R a * C a) i), nI i))
    (fun r => r = (lN (gN (fun a => v (8 * a + a)) 8), lN (gN (fun a => R a * C a) 8))) 0 8 (Nat.zero_le _) (by omega) (a := (0, 0, 0))
    (fun i a hi ha => by
      subst ha
      obtain ⟨t3, t4⟩ := gL_took hk (show i < 8 by omega)
      have e : (8 : Int32) * nI i + nI i = nI (8 * i + i) := by rw [show (8 : Int32) = nI 8 from rfl, pk_mul, nI_add]
      have hv9 : v (8 * i + i) ≤ 9999 := Nat.le_trans (gN_one (f := v) 64 (show 8 * i + i < 64 by omega)) hk.2.2.2
      refine ⟨(lN (gN (fun a => v (8 * a + a)) (i + 1)), lN (gN (fun a => R a * C a) (i + 1)), nI (i + 1)), fun k n => ?_, rfl⟩
      simp only [L_X12_alike_19, if_neg (show ¬ (8 : Int32) ≤ nI i from nI_ge (b := 8) hi (by decide)), e, gGx (show 8 * i + i < 64 by omega) (by decide), nI_clamp (show 8 * i + i < 2 ^ 31 by omega), hk.2.1 _ (show 8 * i + i < 64 by omega), t3, t4, Option.bind_some, nI_1, hl1 _ (hrow i (by omega)).1, hl1 _ (hrow i (by omega)).2, hl1 _ hv9, lN_mul, lN_add]
      rfl)
    (fun a ha => by
      subst ha
      refine ⟨_, fun k n => ?_, rfl⟩
      simp only [L_X12_alike_19, if_pos (show (8 : Int32) ≤ nI 8 by decide)])
    rfl
  subst g4
  have g1' := g1 (fun r => J_X7_agreed_54 c r.1 r.2)
  have g3' := g3 (fun r => J_X12_alike_69 m0 r.1 r.2 (Int32.toInt64 (nI P)))
  have g1' : L_X7_agreed_7 (fun w6 w7 => J_X7_agreed_54 c w6 w7) c zFu 0 0 0 = J_X7_agreed_54 c (nI (gN (fun a => v (8 * a + a)) 8)) (lN (gN (fun a => R a * C a) 8)) := g1'
  have g3' : L_X12_alike_19 (fun w4 w5 => J_X12_alike_69 m0 w4 w5 (Int32.toInt64 (nI P))) m0 (Int32.toInt64 (nI P)) zFu 0 0 0 = J_X12_alike_69 m0 (lN (gN (fun a => v (8 * a + a)) 8)) (lN (gN (fun a => R a * C a) 8)) (Int32.toInt64 (nI P)) := g3'
  rw [g1', g3']
  have d9 := hdg 8 (Nat.le_refl _)
  have c9 := hch 8 (Nat.le_refl _)
  have hz : P = 0 → gN (fun a => R a * C a) 8 = 0 := by
    intro q
    have e3 : gN v 64 = gN (fun a => R a) 8 := gN_sq v 8
    refine (gN_8 (f := fun a => R a * C a) (S := 0) (by omega) (fun i _ hi => ?_)).symm
    have : R i ≤ gN (fun a => R a) 8 := gN_one (f := fun a => R a) 8 hi
    rw [show R i = 0 by omega, Nat.zero_mul]
  generalize gN (fun a => R a * C a) 8 = ch at *
  generalize gN (fun a => v (8 * a + a)) 8 = dg at *
  have hPP : P * P ≤ 9999 * 9999 := gMulLe k1 k1
  have hPd : P * dg ≤ 9999 * 9999 := gMulLe k1 d9
  unfold J_X7_agreed_54 J_X12_alike_69
  simp only [k2, hl1 P k1, hl1 dg d9, lN_mul]
  have hlow : (lN (P * P) - lN ch).toInt = ((P * P : Nat) : Int) - ch := by rw [Int64.toInt_sub, pk_lT (by omega), pk_lT (by omega), gbm64 (by omega) (by omega)]
  have hup : (lN (P * dg) - lN ch).toInt = ((P * dg : Nat) : Int) - ch := by rw [Int64.toInt_sub, pk_lT (by omega), pk_lT (by omega), gbm64 (by omega) (by omega)]
  have z1 : (lN (P * P) - lN ch = 0) = (P * P = ch) := by
    rw [eq_iff_iff, ← Int64.toInt_inj, hlow]
    show ((P * P : Nat) : Int) - ch = 0 ↔ _
    omega
  have z2 : (lN P = 0) = (P = 0) := by rw [eq_iff_iff, show (0 : Int64) = lN 0 from rfl, pk_lEQ (by omega) (by decide)]
  have z3 : (lN (P * P) = lN ch) = (P * P = ch) := by rw [eq_iff_iff, pk_lEQ (by omega) (by omega)]
  simp only [z1, z2, z3]
  by_cases q : P * P = ch
  · simp only [if_pos q, Option.bind_some]
    refine ⟨(c, -2), (m0, -2), rfl, ?_, rfl, no⟩
    by_cases q2 : P = 0
    · rw [if_pos q2]
    · rw [if_neg q2]
  · have q2 : ¬ P = 0 := fun e => q (by rw [hz e, e])
    obtain ⟨w1, w2, w3, w4⟩ := gX_clear hr'
    obtain ⟨c3, m3, j1, j2, j3, j4, j5⟩ := gX_frac w2 (by decide) (x := lN (P * dg) - lN ch) (x' := lN (P * dg) - lN ch) (y := lN (P * P) - lN ch) (y' := lN (P * P) - lN ch) rfl rfl (by rw [hup]; omega) (by rw [hup]; omega) (by rw [hlow]; omega) (by rw [hlow]; omega) (by rw [hlow]; omega)
    have e21 : (zI c 0 0).1 21 = nI P := k2
    simp only [if_neg q, if_neg q2, w1, Option.bind_some, e21, hl1 P k1, lN_mul, j1, j2, lN_i]
    exact ⟨(c3, nI dg), (m3, nI dg), rfl, rfl, rfl, gRel_of h' (gOR_a (gOR_tr w3 j4)) (gORm_a (gORm_tr w4 j5)) j3⟩
