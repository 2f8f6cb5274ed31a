/-! the form of a law: what a text's signs from p till p' come to, as the reference's marks K; kinds 0 .. 4: ranks, 5: signs ahead and a thing, 6: a thing, 10 + r: rank r under way -/
def gOp (r ch : Nat) : Prop := (r = 0 ∧ ch = 124) ∨ (r = 1 ∧ ch = 38) ∨ (r = 2 ∧ (ch = 60 ∨ ch = 62 ∨ ch = 61)) ∨ (r = 3 ∧ (ch = 43 ∨ ch = 45)) ∨ (r = 4 ∧ (ch = 42 ∨ ch = 47))
def gIdx (ch : Nat) : Nat := if ch = 104 then 0 else if ch = 116 then 1 else if ch = 119 then 2 else if ch = 107 then 3 else if ch = 114 then 4 else if ch = 108 then 5 else if ch = 113 then 6 else if ch = 122 then 7 else if ch = 98 then 8 else if ch = 101 then 9 else 10
def gNum (v : Nat → Nat) (p : Nat) : Nat → Nat
  | 0 => 0
  | t + 1 => 10 * gNum v p t + v (p + t) - 48
def gRu (v : Nat → Nat) (to nS : Nat) (X : Nat → Nat → Nat → Nat → List Int32 → Prop) : Prop :=
  (∀ o p t, 1 ≤ t → t ≤ 3 → p + t ≤ to → (∀ j, j < t → 48 ≤ v (p + j) ∧ v (p + j) ≤ 57) → X 6 o p (p + t) [nI (gNum v p t)]) ∧
  (∀ o p, p < to → gIdx (v p) < nS → X 6 o p (p + 1) [nI (1000 + gIdx (v p))]) ∧
  (∀ o p p' K, o < 5 → p < to → v p = 40 → X 0 (o + 1) (p + 1) p' K → p' < to → v p' = 41 → X 6 o p (p' + 1) K) ∧
  (∀ o p p' K, p < to → ¬ v p = 33 → ¬ v p = 45 → X 6 o p p' K → X 5 o p p' K) ∧
  (∀ o p p' K, p < to → (v p = 33 ∨ v p = 45) → X 5 o (p + 1) p' K → X 5 o p p' (K ++ [nI (if v p = 33 then 2033 else 2126)])) ∧
  (∀ r o p p' K, r < 5 → X (r + 1) o p p' K → X (10 + r) o p p' K) ∧
  (∀ r o p p1 p' K1 K2, r < 5 → ¬ r = 2 → X (10 + r) o p p1 K1 → p1 < to → gOp r (v p1) → X (r + 1) o (p1 + 1) p' K2 → X (10 + r) o p p' (K1 ++ K2 ++ [nI (2000 + v p1)])) ∧
  (∀ r o p p' K, r < 5 → ¬ r = 2 → X (10 + r) o p p' K → (p' < to → ¬ gOp r (v p')) → X r o p p' K) ∧
  (∀ o p p' K, X 3 o p p' K → (p' < to → ¬ gOp 2 (v p')) → X 2 o p p' K) ∧
  (∀ o p p1 p' K1 K2, X 3 o p p1 K1 → p1 < to → gOp 2 (v p1) → X 3 o (p1 + 1) p' K2 → X 2 o p p' (K1 ++ K2 ++ [nI (2000 + v p1)]))
/-- the least such -/
def gFm (v : Nat → Nat) (to nS kind o p p' : Nat) (K : List Int32) : Prop := ∀ X, gRu v to nS X → X kind o p p' K
theorem gFm_ru (v : Nat → Nat) (to nS : Nat) : gRu v to nS (gFm v to nS) :=
  ⟨fun o p t h1 h2 h3 h4 X hX => hX.1 o p t h1 h2 h3 h4,
   fun o p h1 h2 X hX => hX.2.1 o p h1 h2,
   fun o p p' K h1 h2 h3 h4 h5 h6 X hX => hX.2.2.1 o p p' K h1 h2 h3 (h4 X hX) h5 h6,
   fun o p p' K h1 h2 h3 h4 X hX => hX.2.2.2.1 o p p' K h1 h2 h3 (h4 X hX),
   fun o p p' K h1 h2 h3 X hX => hX.2.2.2.2.1 o p p' K h1 h2 (h3 X hX),
   fun r o p p' K h1 h2 X hX => hX.2.2.2.2.2.1 r o p p' K h1 (h2 X hX),
   fun r o p p1 p' K1 K2 h0 h1 h2 h3 h4 h5 X hX => hX.2.2.2.2.2.2.1 r o p p1 p' K1 K2 h0 h1 (h2 X hX) h3 h4 (h5 X hX),
   fun r o p p' K h0 h1 h2 h3 X hX => hX.2.2.2.2.2.2.2.1 r o p p' K h0 h1 (h2 X hX) h3,
   fun o p p' K h1 h2 X hX => hX.2.2.2.2.2.2.2.2.1 o p p' K (h1 X hX) h2,
   fun o p p1 p' K1 K2 h1 h2 h3 h4 X hX => hX.2.2.2.2.2.2.2.2.2 o p p1 p' K1 K2 (h1 X hX) h2 h3 (h4 X hX)⟩
/-- a law that is told: its text and its marks -/
def gLaw (i n k : Nat) (c7 m9 : Nat → Int32) : Prop := ∃ (v : Nat → Nat) (K : List Int32), (∀ j, v j < 256) ∧ (∀ j, j < n → c7 (40 * i + j) = nI (v j)) ∧ gFm v n (8 + min i 2) 0 0 0 n K ∧ K.length = k ∧ ∀ j, j < k → m9 (48 * i + j) = K.getD j 0
def gLawD (c7 c8 m9 m10 : Nat → Int32) : Prop := ∀ i, i < 6 → ∀ n k : Nat, n ≤ 40 → k ≤ 48 → c8 i = nI n → m10 i = nI k → 0 < n → gLaw i n k c7 m9
