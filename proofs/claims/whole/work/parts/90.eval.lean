/-! what a law comes to, by the class -/
def gz (c0 : Zst) (R : Int32) (p : Nat) : Zst := zI (zI c0 2 R) 8 (nI p)
theorem gz_8 (c0 : Zst) (R : Int32) (p q : Nat) : zI (gz c0 R p) 8 (nI q) = gz c0 R q := gzII _ _ _ _
theorem gz_n (c0 : Zst) (R : Int32) (p : Nat) : zI (gz c0 R p) 8 ((gz c0 R p).1 8 + 1) = gz c0 R (p + 1) := by
  show zI (gz c0 R p) 8 (nI p + 1) = _
  rw [nI_1]; exact gz_8 _ _ _ _
theorem gz_2 (c0 : Zst) (R R' : Int32) (p : Nat) : zI (gz c0 R p) 2 R' = gz c0 R' p := by
  unfold gz zI
  simp only
  congr 1
  funext j
  by_cases h : j = 8
  · subst h; rfl
  · rw [if_neg h, if_neg h]
    by_cases h2 : j = 2
    · rw [if_pos h2, if_pos h2]
    · rw [if_neg h2, if_neg h2, if_neg h2]
theorem gEl {x : Nat} (k : Nat) (hx : x < 256) (hk : k < 256) : (nI x = nI k) = (x = k) := propext (nI_eq (by omega) (by omega))
theorem gE124 {x : Nat} (hx : x < 256) : (nI x = (124 : Int32)) = (x = 124) := gEl 124 hx (by decide)
theorem gE38 {x : Nat} (hx : x < 256) : (nI x = (38 : Int32)) = (x = 38) := gEl 38 hx (by decide)
theorem gE60 {x : Nat} (hx : x < 256) : (nI x = (60 : Int32)) = (x = 60) := gEl 60 hx (by decide)
theorem gE62 {x : Nat} (hx : x < 256) : (nI x = (62 : Int32)) = (x = 62) := gEl 62 hx (by decide)
theorem gE61 {x : Nat} (hx : x < 256) : (nI x = (61 : Int32)) = (x = 61) := gEl 61 hx (by decide)
theorem gE43 {x : Nat} (hx : x < 256) : (nI x = (43 : Int32)) = (x = 43) := gEl 43 hx (by decide)
theorem gE45 {x : Nat} (hx : x < 256) : (nI x = (45 : Int32)) = (x = 45) := gEl 45 hx (by decide)
theorem gE42 {x : Nat} (hx : x < 256) : (nI x = (42 : Int32)) = (x = 42) := gEl 42 hx (by decide)
theorem gE47 {x : Nat} (hx : x < 256) : (nI x = (47 : Int32)) = (x = 47) := gEl 47 hx (by decide)
theorem gE33 {x : Nat} (hx : x < 256) : (nI x = (33 : Int32)) = (x = 33) := gEl 33 hx (by decide)
theorem gE40 {x : Nat} (hx : x < 256) : (nI x = (40 : Int32)) = (x = 40) := gEl 40 hx (by decide)
theorem gE41 {x : Nat} (hx : x < 256) : (nI x = (41 : Int32)) = (x = 41) := gEl 41 hx (by decide)
theorem gE122 {x : Nat} (hx : x < 256) : (nI x = (122 : Int32)) = (x = 122) := gEl 122 hx (by decide)
theorem gDg : ∀ x, x < 256 → f_X2_isDigit (nI x) = if 48 ≤ x ∧ x ≤ 57 then 1 else 0 := by decide +kernel
theorem gCm : ∀ x, x < 256 → f_X2_isComparison (nI x) = if x = 60 ∨ x = 62 ∨ x = 61 then 1 else 0 := by decide +kernel
def gAc (ch : Nat) (a b : Int32) : Int32 :=
  if ch = 124 then (if a = 0 then (if b = 0 then 0 else 1) else 1)
  else if ch = 38 then (if a = 0 then 0 else (if b = 0 then 0 else 1))
  else if ch = 60 then (if b ≤ a then 0 else 1)
  else if ch = 62 then (if a ≤ b then 0 else 1)
  else if ch = 61 then (if a = b then 1 else 0)
  else if ch = 43 then a + b
  else if ch = 45 then a - b
  else if ch = 42 then a * b
  else (if b = 0 then 0 else a / b)
def gU1 (ch : Nat) (x : Int32) : Int32 := if ch = 45 then -x else (if x = 0 then 1 else 0)
def gUn (v : Nat → Nat) : Nat → Nat → Int32 → Int32
  | 0, _, x => x
  | t + 1, p, x => gU1 (v p) (gUn v t (p + 1) x)
def gR2 (R : Int32) : Int32 := R * (1103515245 : Int32) + (12345 : Int32)
def gDr (R : Int32) : Int32 := jRem (jUshr (gR2 R) 16) 10
/-- the class under way: law i, text v till to, what signs stand for -/
def gEC (c0 : Zst) (i to nS : Nat) (v : Nat → Nat) (val : Nat → Int32) : Prop := i < 6 ∧ to ≤ 40 ∧ (∀ j, v j < 256) ∧ c0.1 3 = nI i ∧ c0.1 9 = nI to ∧ c0.2.1 8 i = nI to ∧ (∀ j, j < to → c0.2.1 7 (40 * i + j) = nI (v j)) ∧ (∀ p, gIdx (v p) < nS → ¬ gIdx (v p) = 7 → c0.2.1 9 (v p - 97) = val (gIdx (v p)))
section
variable {c0 : Zst} {i to nS : Nat} {v : Nat → Nat} {val : Nat → Int32}
theorem gSa (h : gEC c0 i to nS v val) (R : Int32) (p : Nat) {j : Nat} (hj : j ≤ 40) : f_X1_signAt_L (gz c0 R p) (nI i) (nI j) = some (if j < to then nI (v j) else -1) := by
  obtain ⟨h1, h2, h3, h4, h5, h6, h7, -⟩ := h
  have hx : nI i * (40 : Int32) + nI j = nI (40 * i + j) := by rw [show (40 : Int32) = nI 40 from rfl, pk_mul, nI_add, Nat.mul_comm]
  have e8 : (gz c0 R p).2.1 8 = c0.2.1 8 := rfl
  have e7 : (gz c0 R p).2.1 7 = c0.2.1 7 := rfl
  unfold f_X1_signAt_L
  rw [if_neg (nI_pos (show i < 2 ^ 31 by omega)), if_neg (show ¬ (6 : Int32) ≤ nI i from nI_ge (b := 6) h1 (by decide)), if_neg (nI_pos (show j < 2 ^ 31 by omega)), gGx h1 (by decide), nI_clamp (show i < 2 ^ 31 by omega), e8, h6]
  by_cases q : j < to
  · rw [if_neg (show ¬ nI to ≤ nI j from nI_ge q (by omega)), if_pos q, if_neg (show ¬ (1 : Int32) = 0 by decide), hx, gGx (show 40 * i + j < 240 by omega) (by decide), nI_clamp (show 40 * i + j < 2 ^ 31 by omega), e7, h7 j q]
  · rw [if_pos (show nI to ≤ nI j from nI_le (by omega) (by omega)), if_pos rfl, if_neg q]
theorem gHe (h : gEC c0 i to nS v val) (R : Int32) {p : Nat} (hp : p ≤ 40) : f_X2_here (gz c0 R p) = some (if p < to then nI (v p) else -1) := by
  unfold f_X2_here
  rw [show (gz c0 R p).1 3 = nI i from h.2.2.2.1, show (gz c0 R p).1 8 = nI p from rfl, gSa h R p hp]
  rfl
theorem gHe1 (h : gEC c0 i to nS v val) (R : Int32) {p : Nat} (hp : p < to) : f_X2_here (gz c0 R p) = some (nI (v p)) := by
  rw [gHe h R (by have := h.2.1; omega), if_pos hp]
theorem gTi0 (h : gEC c0 i to nS v val) (R : Int32) {p : Nat} (hp : p < to) : ¬ (gz c0 R p).1 9 ≤ (gz c0 R p).1 8 := by
  rw [show (gz c0 R p).1 9 = nI to from h.2.2.2.2.1, show (gz c0 R p).1 8 = nI p from rfl]
  exact nI_ge hp (by have := h.2.1; omega)
theorem gTi1 (h : gEC c0 i to nS v val) (R : Int32) {p : Nat} (hp : p = to) : (gz c0 R p).1 9 ≤ (gz c0 R p).1 8 := by
  rw [show (gz c0 R p).1 9 = nI to from h.2.2.2.2.1, show (gz c0 R p).1 8 = nI p from rfl, hp]
  exact Int32.le_refl _
def gLp (r : Nat) (F : Nat → Zst → Int32 → Option (Zst × Int32)) (x : Int32) (n : Nat) (σ : Zst) (a : Int32) : Option (Zst × Int32) :=
  if r = 0 then L_X2_either_6 F x n σ a else if r = 1 then L_X2_both_6 F x n σ a else if r = 3 then L_X2_added_6 F x n σ a else L_X2_multiplied_6 F x n σ a
theorem gLp_step (h : gEC c0 i to nS v val) {r p p' n : Nat} {R R' a b x : Int32} {F : Nat → Zst → Int32 → Option (Zst × Int32)} (hr : r < 5) (hr2 : ¬ r = 2) (hp : p < to) (ho : gOp r (v p)) (hF : F (r + 1) (gz c0 R (p + 1)) x = some (gz c0 R' p', b)) :
    gLp r F x (n + 1) (gz c0 R p) a = gLp r F x n (gz c0 R' p') (gAc (v p) a b) := by
  have hT := gTi0 h R hp
  have hH := gHe1 h R hp
  have hv := h.2.2.1 p
  rcases (show r = 0 ∨ r = 1 ∨ r = 3 ∨ r = 4 by omega) with rfl | rfl | rfl | rfl
  · have e : v p = 124 := by unfold gOp at ho; omega
    show L_X2_either_6 F x (n + 1) (gz c0 R p) a = L_X2_either_6 F x n (gz c0 R' p') (gAc (v p) a b)
    have hF : F 1 (gz c0 R (p + 1)) x = some (gz c0 R' p', b) := hF
    rw [show gAc (v p) a b = (if a = 0 then (if b = 0 then 0 else 1) else 1) by rw [e]; rfl]
    simp only [L_X2_either_6, if_neg hT, hH, Option.bind_some, if_pos (show nI (v p) = (124 : Int32) by rw [e]; rfl), gz_n, hF]
  · have e : v p = 38 := by unfold gOp at ho; omega
    show L_X2_both_6 F x (n + 1) (gz c0 R p) a = L_X2_both_6 F x n (gz c0 R' p') (gAc (v p) a b)
    have hF : F 2 (gz c0 R (p + 1)) x = some (gz c0 R' p', b) := hF
    rw [show gAc (v p) a b = (if a = 0 then 0 else (if b = 0 then 0 else 1)) by rw [e]; rfl]
    simp only [L_X2_both_6, if_neg hT, hH, Option.bind_some, if_pos (show nI (v p) = (38 : Int32) by rw [e]; rfl), gz_n, hF]
  · show L_X2_added_6 F x (n + 1) (gz c0 R p) a = L_X2_added_6 F x n (gz c0 R' p') (gAc (v p) a b)
    have hF : F 4 (gz c0 R (p + 1)) x = some (gz c0 R' p', b) := hF
    rcases (show v p = 43 ∨ v p = 45 by unfold gOp at ho; omega) with e | e
    · rw [show gAc (v p) a b = a + b by rw [e]; rfl]
      simp only [L_X2_added_6, if_neg hT, hH, Option.bind_some, if_pos (show nI (v p) = (43 : Int32) by rw [e]; rfl), J_X2_added_35, gz_n, hF, gq_10, ↓reduceIte]
    · rw [show gAc (v p) a b = a - b by rw [e]; rfl]
      simp only [L_X2_added_6, if_neg hT, hH, Option.bind_some, if_neg (show ¬ nI (v p) = (43 : Int32) by rw [e]; decide), if_pos (show nI (v p) = (45 : Int32) by rw [e]; rfl), J_X2_added_35, gz_n, hF, ↓reduceIte]
  · show L_X2_multiplied_6 F x (n + 1) (gz c0 R p) a = L_X2_multiplied_6 F x n (gz c0 R' p') (gAc (v p) a b)
    have hF : F 5 (gz c0 R (p + 1)) x = some (gz c0 R' p', b) := hF
    rcases (show v p = 42 ∨ v p = 47 by unfold gOp at ho; omega) with e | e
    · rw [show gAc (v p) a b = a * b by rw [e]; rfl]
      simp only [L_X2_multiplied_6, if_neg hT, hH, Option.bind_some, if_pos (show nI (v p) = (42 : Int32) by rw [e]; rfl), J_X2_multiplied_35, gz_n, hF, gq_10, ↓reduceIte]
    · rw [show gAc (v p) a b = (if b = 0 then 0 else a / b) by rw [e]; rfl]
      simp only [L_X2_multiplied_6, if_neg hT, hH, Option.bind_some, if_neg (show ¬ nI (v p) = (42 : Int32) by rw [e]; decide), if_pos (show nI (v p) = (47 : Int32) by rw [e]; rfl), J_X2_multiplied_35, gz_n, hF, ↓reduceIte]
      by_cases hb : b = 0
      · rw [if_pos hb, if_pos hb]
      · rw [if_neg hb, if_neg hb, gNz_ok hb]
theorem gLp_exit (h : gEC c0 i to nS v val) {r p n : Nat} {R a x : Int32} {F : Nat → Zst → Int32 → Option (Zst × Int32)} (hr : r < 5) (hr2 : ¬ r = 2) (hp : p ≤ to) (ho : p < to → ¬ gOp r (v p)) :
    gLp r F x (n + 1) (gz c0 R p) a = some (gz c0 R p, a) := by
  by_cases hlt : p < to
  · have hT := gTi0 h R hlt
    have hH := gHe1 h R hlt
    have hv := h.2.2.1 p
    have ho := ho hlt
    unfold gOp at ho
    rcases (show r = 0 ∨ r = 1 ∨ r = 3 ∨ r = 4 by omega) with rfl | rfl | rfl | rfl
    · show L_X2_either_6 F x (n + 1) (gz c0 R p) a = _
      simp only [L_X2_either_6, if_neg hT, hH, Option.bind_some, gE124 hv, if_neg (show ¬ v p = 124 by omega)]
    · show L_X2_both_6 F x (n + 1) (gz c0 R p) a = _
      simp only [L_X2_both_6, if_neg hT, hH, Option.bind_some, gE38 hv, if_neg (show ¬ v p = 38 by omega)]
    · show L_X2_added_6 F x (n + 1) (gz c0 R p) a = _
      simp only [L_X2_added_6, if_neg hT, hH, Option.bind_some, gE43 hv, gE45 hv, if_neg (show ¬ v p = 43 by omega), if_neg (show ¬ v p = 45 by omega)]
    · show L_X2_multiplied_6 F x (n + 1) (gz c0 R p) a = _
      simp only [L_X2_multiplied_6, if_neg hT, hH, Option.bind_some, gE42 hv, gE47 hv, if_neg (show ¬ v p = 42 by omega), if_neg (show ¬ v p = 47 by omega)]
  · have hT := gTi1 h R (show p = to by omega)
    rcases (show r = 0 ∨ r = 1 ∨ r = 3 ∨ r = 4 by omega) with rfl | rfl | rfl | rfl
    · show L_X2_either_6 F x (n + 1) (gz c0 R p) a = _
      simp only [L_X2_either_6, if_pos hT]
    · show L_X2_both_6 F x (n + 1) (gz c0 R p) a = _
      simp only [L_X2_both_6, if_pos hT]
    · show L_X2_added_6 F x (n + 1) (gz c0 R p) a = _
      simp only [L_X2_added_6, if_pos hT]
    · show L_X2_multiplied_6 F x (n + 1) (gz c0 R p) a = _
      simp only [L_X2_multiplied_6, if_pos hT]
theorem gCmp0 (h : gEC c0 i to nS v val) {p p1 : Nat} {R R1 a x : Int32} {F : Nat → Zst → Int32 → Option (Zst × Int32)} (hF : F 3 (gz c0 R p) x = some (gz c0 R1 p1, a)) (hp : p1 ≤ to) (ho : p1 < to → ¬ gOp 2 (v p1)) :
    f_X2_comparison F (gz c0 R p) x = some (gz c0 R1 p1, a) := by
  unfold f_X2_comparison
  rw [hF, Option.bind_some, gHe h R1 (by have := h.2.1; omega), Option.bind_some]
  have : f_X2_isComparison (if p1 < to then nI (v p1) else -1) = 0 := by
    by_cases q : p1 < to
    · rw [if_pos q, gCm _ (h.2.2.1 p1), if_neg]
      have := ho q
      unfold gOp at this
      omega
    · rw [if_neg q]; rfl
  simp only [this, ↓reduceIte]
theorem gCmp1 (h : gEC c0 i to nS v val) {p p1 p' : Nat} {R R1 R' a b x : Int32} {F : Nat → Zst → Int32 → Option (Zst × Int32)} (hF : F 3 (gz c0 R p) x = some (gz c0 R1 p1, a)) (hp : p1 < to) (ho : gOp 2 (v p1)) (hF2 : F 3 (gz c0 R1 (p1 + 1)) x = some (gz c0 R' p', b)) :
    f_X2_comparison F (gz c0 R p) x = some (gz c0 R' p', gAc (v p1) a b) := by
  unfold f_X2_comparison
  rw [hF, Option.bind_some, gHe1 h R1 hp, Option.bind_some]
  have e : v p1 = 60 ∨ v p1 = 62 ∨ v p1 = 61 := by unfold gOp at ho; omega
  rw [gCm _ (h.2.2.1 p1), if_pos e, if_neg (show ¬ (1 : Int32) = 0 by decide)]
  simp only [gz_n, hF2, Option.bind_some, gE60 (h.2.2.1 p1), gE62 (h.2.2.1 p1)]
  rcases e with e | e | e
  · rw [show gAc (v p1) a b = (if b ≤ a then 0 else 1) by rw [e]; rfl, if_pos e]
    by_cases q : b ≤ a
    · simp only [if_pos q, ↓reduceIte]
    · simp only [if_neg q, gq_10, ↓reduceIte]
  · rw [show gAc (v p1) a b = (if a ≤ b then 0 else 1) by rw [e]; rfl, if_neg (show ¬ v p1 = 60 by omega), if_pos e]
    by_cases q : a ≤ b
    · simp only [if_pos q, ↓reduceIte]
    · simp only [if_neg q, gq_10, ↓reduceIte]
  · rw [show gAc (v p1) a b = (if a = b then 1 else 0) by rw [e]; rfl, if_neg (show ¬ v p1 = 60 by omega), if_neg (show ¬ v p1 = 62 by omega)]
    by_cases q : a = b
    · simp only [if_pos q, gq_10, ↓reduceIte]
    · simp only [if_neg q, ↓reduceIte]
theorem gNum_lt {p : Nat} : ∀ t, t ≤ 3 → (∀ j, j < t → 48 ≤ v (p + j) ∧ v (p + j) ≤ 57) → gNum v p t < 10 ^ t
  | 0, _, _ => Nat.one_pos
  | t + 1, ht, hd => by
    have h1 := gNum_lt t (by omega) (fun j hj => hd j (by omega))
    have h2 := hd t (by omega)
    show 10 * gNum v p t + v (p + t) - 48 < 10 ^ (t + 1)
    rw [Nat.pow_succ]
    omega
theorem gNum_b {p : Nat} {t : Nat} (ht : t ≤ 3) (hd : ∀ j, j < t → 48 ≤ v (p + j) ∧ v (p + j) ≤ 57) : gNum v p t < 1000 := by
  have := gNum_lt t ht hd
  have : 10 ^ t ≤ 10 ^ 3 := Nat.pow_le_pow_right (by decide) ht
  omega
theorem gBare0 (h : gEC c0 i to nS v val) {p t : Nat} {R x : Int32} {F : Nat → Zst → Int32 → Option (Zst × Int32)} (h1 : 1 ≤ t) (h3 : t ≤ 3) (hp : p + t ≤ to) (hd : ∀ j, j < t → 48 ≤ v (p + j) ∧ v (p + j) ≤ 57) (hn : p + t < to → ¬ (48 ≤ v (p + t) ∧ v (p + t) ≤ 57)) :
    f_X2_bareThing F (gz c0 R p) x = some (gz c0 R (p + t), nI (gNum v p t)) := by
  have key : ∀ d j n, j + d = t → d < n → L_X2_bareThing_14 F n (gz c0 R (p + j)) (nI (gNum v p j)) = some (gz c0 R (p + t), nI (gNum v p t)) := by
    intro d
    induction d with
    | zero =>
      intro j n hj hn2
      obtain ⟨n, rfl⟩ : ∃ k, n = k + 1 := ⟨n - 1, by omega⟩
      have hj : j = t := by omega
      subst hj
      by_cases q : p + j < to
      · simp only [L_X2_bareThing_14, if_neg (gTi0 h R q), gHe1 h R q, Option.bind_some, gDg _ (h.2.2.1 _), if_neg (hn q), ↓reduceIte]
      · simp only [L_X2_bareThing_14, if_pos (gTi1 h R (show p + j = to by omega))]
    | succ d ih =>
      intro j n hj hn2
      obtain ⟨n, rfl⟩ : ∃ k, n = k + 1 := ⟨n - 1, by omega⟩
      have q : p + j < to := by omega
      have hdj := hd j (by omega)
      have ea : nI (gNum v p j) * (10 : Int32) + nI (v (p + j)) - (48 : Int32) = nI (gNum v p (j + 1)) := by
        rw [show (10 : Int32) = nI 10 from rfl, show (48 : Int32) = nI 48 from rfl, pk_mul, nI_add, pk_sub (by omega)]
        show _ = nI (10 * gNum v p j + v (p + j) - 48)
        rw [Nat.mul_comm]
      simp only [L_X2_bareThing_14, if_neg (gTi0 h R q), gHe1 h R q, Option.bind_some, gDg _ (h.2.2.1 _), if_pos hdj, gq_10, ↓reduceIte, gz_n, ea]
      exact ih (j + 1) n (by omega) (by omega)
  have h0 := hd 0 (by omega)
  rw [Nat.add_zero] at h0
  unfold f_X2_bareThing
  rw [gHe1 h R (show p < to by omega), Option.bind_some, gDg _ (h.2.2.1 _), if_pos h0, if_neg (show ¬ (1 : Int32) = 0 by decide)]
  exact key t 0 zFu (by omega) (by rw [zFu_eq]; omega)
theorem gIdx_lt {x : Nat} (h : gIdx x < 10) : 97 ≤ x ∧ x ≤ 122 ∧ (x = 122 ↔ gIdx x = 7) := by
  unfold gIdx at *
  repeat' split at h
  all_goals (repeat' split) <;> omega
theorem gBare1 (h : gEC c0 i to nS v val) (hS : nS ≤ 10) {p : Nat} {R x : Int32} {F : Nat → Zst → Int32 → Option (Zst × Int32)} (hp : p < to) (hi : gIdx (v p) < nS) :
    f_X2_bareThing F (gz c0 R p) x = if gIdx (v p) = 7 then some (gz c0 (gR2 R) (p + 1), gDr R) else some (gz c0 R (p + 1), val (gIdx (v p))) := by
  obtain ⟨a1, a2, a3⟩ := gIdx_lt (show gIdx (v p) < 10 by omega)
  have hv := h.2.2.1 p
  unfold f_X2_bareThing J_X2_bareThing_104
  rw [gHe1 h R hp, Option.bind_some, gDg _ hv, if_neg (show ¬ (48 ≤ v p ∧ v p ≤ 57) by omega), if_pos rfl, if_neg (show ¬ nI (v p) = (40 : Int32) by rw [gE40 hv]; omega), gz_n]
  by_cases q : v p = 122
  · rw [if_pos (show nI (v p) = (122 : Int32) by rw [gE122 hv]; exact q), if_pos (a3.mp q)]
    unfold f_X4_draw
    rw [if_neg (show ¬ (10 : Int32) ≤ 0 by decide), gNz_ok (show ¬ (10 : Int32) = 0 by decide), Option.bind_some]
    show some (zI (gz c0 R (p + 1)) 2 (gR2 R), gDr R) = _
    rw [gz_2]
  · rw [if_neg (show ¬ nI (v p) = (122 : Int32) by rw [gE122 hv]; exact q), if_neg (fun e => q (a3.mpr e)), show (97 : Int32) = nI 97 from rfl, pk_sub a1, if_neg (nI_pos (show v p - 97 < 2 ^ 31 by omega)), if_neg (show ¬ (26 : Int32) ≤ nI (v p - 97) from nI_ge (b := 26) (by omega) (by decide)), gGx (show v p - 97 < 26 by omega) (by decide), nI_clamp (show v p - 97 < 2 ^ 31 by omega)]
    show some (gz c0 R (p + 1), c0.2.1 9 (v p - 97)) = _
    rw [h.2.2.2.2.2.2.2 p hi (fun e => q (a3.mpr e))]
theorem gBare2 (h : gEC c0 i to nS v val) {o p p' : Nat} {R R' a : Int32} {F : Nat → Zst → Int32 → Option (Zst × Int32)} (ho : o < 5) (hp : p < to) (e : v p = 40) (hF : F 0 (gz c0 R (p + 1)) (nI (o + 1)) = some (gz c0 R' p', a)) :
    f_X2_bareThing F (gz c0 R p) (nI o) = some (gz c0 R' (p' + 1), a) := by
  have hv := h.2.2.1 p
  unfold f_X2_bareThing
  rw [gHe1 h R hp, Option.bind_some, gDg _ hv, if_neg (show ¬ (48 ≤ v p ∧ v p ≤ 57) by omega), if_pos rfl, if_pos (show nI (v p) = (40 : Int32) by rw [gE40 hv]; exact e), if_neg (show ¬ (5 : Int32) ≤ nI o from nI_ge (b := 5) ho (by decide)), gz_n, nI_1, hF, Option.bind_some]
  show some (zI (gz c0 R' p') 8 ((gz c0 R' p').1 8 + 1), a) = _
  rw [gz_n]
theorem gThg (h : gEC c0 i to nS v val) {p p' t : Nat} {R R' b x : Int32} {F : Nat → Zst → Int32 → Option (Zst × Int32)} (hu : ∀ j, j < t → v (p + j) = 33 ∨ v (p + j) = 45) (hq : p + t < to) (n1 : ¬ v (p + t) = 33) (n2 : ¬ v (p + t) = 45) (hF : F 6 (gz c0 R (p + t)) x = some (gz c0 R' p', b)) :
    f_X2_thing F (gz c0 R p) x = some (gz c0 R' p', gUn v t p b) := by
  have hto := h.2.1
  have back : ∀ d s n, s + d = t → d < n → L_X2_thing_64 F (gz c0 R' p') (nI p) n (gUn v s (p + t - s) b) (nI (p + t - s) - 1) = some (gz c0 R' p', gUn v t p b) := by
    intro d
    induction d with
    | zero =>
      intro s n hs hn
      obtain ⟨n, rfl⟩ : ∃ k, n = k + 1 := ⟨n - 1, by omega⟩
      have hs : s = t := by omega
      subst hs
      rw [Nat.add_sub_cancel]
      have : nI p - 1 < nI p := by
        rw [Int32.lt_iff_toInt_lt, gq_m1 (by omega), nI_toInt (by omega)]
        omega
      simp only [L_X2_thing_64, if_pos this]
    | succ d ih =>
      intro s n hs hn
      obtain ⟨n, rfl⟩ : ∃ k, n = k + 1 := ⟨n - 1, by omega⟩
      obtain ⟨w, hw⟩ : ∃ w, p + t - s = w + 1 := ⟨p + t - s - 1, by omega⟩
      have hu := hu (w - p) (by omega)
      rw [show p + (w - p) = w by omega] at hu
      have hv := h.2.2.1 w
      have hsg := gSa h R' p' (show w ≤ 40 by omega)
      rw [if_pos (show w < to by omega)] at hsg
      rw [hw, nI_pred]
      simp only [L_X2_thing_64, if_neg (show ¬ nI w < nI p from nI_nlt (by omega) (by omega)), show (gz c0 R' p').1 3 = nI i from h.2.2.2.1, hsg, Option.bind_some, gE45 hv]
      have e1 : nI w + (-1 : Int32) = nI (p + t - (s + 1)) - 1 := by
        rw [show p + t - (s + 1) = w by omega]
        exact (Int32.sub_eq_add_neg _ _).symm
      have e2 : (if v w = 45 then -gUn v s (w + 1) b else (if gUn v s (w + 1) b = 0 then (1 : Int32) else 0)) = gUn v (s + 1) (p + t - (s + 1)) b := by
        rw [show p + t - (s + 1) = w by omega]
        rfl
      rw [e1, e2]
      exact ih (s + 1) n (by omega) (by omega)
  have fwd : ∀ d j n, j + d = t → d < n → L_X2_thing_5 F (fun σ8 => J_X2_thing_47 F σ8 x (nI p)) x (nI p) n (gz c0 R (p + j)) = J_X2_thing_47 F (gz c0 R (p + t)) x (nI p) := by
    intro d
    induction d with
    | zero =>
      intro j n hj hn
      obtain ⟨n, rfl⟩ : ∃ k, n = k + 1 := ⟨n - 1, by omega⟩
      have hj : j = t := by omega
      subst hj
      have hv := h.2.2.1 (p + j)
      simp only [L_X2_thing_5, if_neg (gTi0 h R hq), gHe1 h R hq, Option.bind_some, gE33 hv, gE45 hv, if_neg n1, if_neg n2]
    | succ d ih =>
      intro j n hj hn
      obtain ⟨n, rfl⟩ : ∃ k, n = k + 1 := ⟨n - 1, by omega⟩
      have q : p + j < to := by omega
      have hv := h.2.2.1 (p + j)
      have hu := hu j (by omega)
      by_cases e : v (p + j) = 33
      · simp only [L_X2_thing_5, if_neg (gTi0 h R q), gHe1 h R q, Option.bind_some, gE33 hv, if_pos e, gz_n]
        exact ih (j + 1) n (by omega) (by omega)
      · simp only [L_X2_thing_5, if_neg (gTi0 h R q), gHe1 h R q, Option.bind_some, gE33 hv, if_neg e, gE45 hv, if_pos (show v (p + j) = 45 by omega), gz_n]
        exact ih (j + 1) n (by omega) (by omega)
  unfold f_X2_thing
  show L_X2_thing_5 F (fun σ8 => J_X2_thing_47 F σ8 x (nI p)) x (nI p) zFu (gz c0 R (p + 0)) = _
  rw [fwd t 0 zFu (by omega) (by rw [zFu_eq]; omega)]
  unfold J_X2_thing_47
  rw [hF, Option.bind_some]
  exact back t 0 zFu (by omega) (by rw [zFu_eq]; omega)
end
