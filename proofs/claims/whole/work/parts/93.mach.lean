/-! a law's form, sign by sign, as the class asks it -/
abbrev gS4 : Type := Bool × Nat × Nat × Int32
def gMk (nS : Nat) (s : gS4) (ch : Nat) : Option gS4 :=
  if s.1 = true then
    (if ch = 33 ∨ ch = 45 then some s
    else if ch = 40 then (if s.2.1 < 5 then some (true, s.2.1 + 1, s.2.2.1, s.2.2.2 &&& (jShl 1 (nI (s.2.1 + 1)) ^^^ (-1))) else none)
    else if 48 ≤ ch ∧ ch ≤ 57 then some (false, s.2.1, 1, s.2.2.2)
    else if gIdx ch < nS then some (false, s.2.1, 0, s.2.2.2) else none)
  else
    (if 48 ≤ ch ∧ ch ≤ 57 then (if s.2.2.1 = 1 ∨ s.2.2.1 = 2 then some (false, s.2.1, s.2.2.1 + 1, s.2.2.2) else none)
    else if ch = 41 then (if 0 < s.2.1 then some (false, s.2.1 - 1, 0, s.2.2.2) else none)
    else if ch = 60 ∨ ch = 62 ∨ ch = 61 then (if bt s.2.2.2 s.2.1 = true then none else some (true, s.2.1, 0, s.2.2.2 ||| jShl 1 (nI s.2.1)))
    else if ch = 124 ∨ ch = 38 then some (true, s.2.1, 0, s.2.2.2 &&& (jShl 1 (nI s.2.1) ^^^ (-1)))
    else if ch = 43 ∨ ch = 45 ∨ ch = 42 ∨ ch = 47 then some (true, s.2.1, 0, s.2.2.2) else none)
def yMs (nS : Nat) (v : Nat → Nat) : Nat → Option gS4
  | 0 => some (true, 0, 0, 0)
  | p + 1 => (yMs nS v p).bind fun s => gMk nS s (v p)
def gqq (c0 : Zst) (a b d e : Int32) : Zst := zI (zI (zI (zI c0 4 a) 5 b) 6 d) 7 e
def gk4 (c0 : Zst) (s : gS4) : Zst := gqq c0 (if s.1 = true then 1 else 0) (nI s.2.1) (nI s.2.2.1) s.2.2.2
theorem gzC (c : Zst) {k l : Nat} (h : ¬ k = l) (x y : Int32) : zI (zI c k x) l y = zI (zI c l y) k x := by
  unfold zI
  simp only
  congr 1
  funext j
  by_cases e1 : j = l
  · rw [if_pos e1, if_neg (fun e => h (e.symm.trans e1)), if_pos e1]
  · rw [if_neg e1]
    by_cases e2 : j = k
    · rw [if_pos e2, if_pos e2]
    · rw [if_neg e2, if_neg e2, if_neg e1]
theorem gqq_7 (c0 : Zst) (a b d e x : Int32) : zI (gqq c0 a b d e) 7 x = gqq c0 a b d x := gzII _ _ _ _
theorem gqq_6 (c0 : Zst) (a b d e x : Int32) : zI (gqq c0 a b d e) 6 x = gqq c0 a b x e := by
  unfold gqq; rw [gzC _ (by decide), gzII]
theorem gqq_5 (c0 : Zst) (a b d e x : Int32) : zI (gqq c0 a b d e) 5 x = gqq c0 a x d e := by
  unfold gqq; rw [gzC _ (by decide), gzC _ (k := 6) (l := 5) (by decide), gzII]
theorem gqq_4 (c0 : Zst) (a b d e x : Int32) : zI (gqq c0 a b d e) 4 x = gqq c0 x b d e := by
  unfold gqq; rw [gzC _ (by decide), gzC _ (k := 6) (l := 4) (by decide), gzC _ (k := 5) (l := 4) (by decide), gzII]
def gTF (x p0 : Int32) : Int32 := (if p0 = (98 : Int32) then (if x ≤ (0 : Int32) then (0 : Int32) else (1 : Int32)) else (if p0 = (101 : Int32) then (if x ≤ (1 : Int32) then (0 : Int32) else (1 : Int32)) else (if p0 = (104 : Int32) then (1 : Int32) else (if p0 = (107 : Int32) then (1 : Int32) else (if p0 = (108 : Int32) then (1 : Int32) else (if p0 = (113 : Int32) then (1 : Int32) else (if p0 = (114 : Int32) then (1 : Int32) else (if p0 = (116 : Int32) then (1 : Int32) else (if p0 = (119 : Int32) then (1 : Int32) else (if p0 = (122 : Int32) then (1 : Int32) else (0 : Int32)))))))))))
theorem gTF_c : ∀ i, i < 6 → ∀ x, x < 256 → gTF (nI i) (nI x) = if gIdx x < 8 + min i 2 then 1 else 0 := by decide +kernel
theorem yThC {σ : Zst} {i x : Nat} (h3 : σ.1 3 = nI i) (hi : i < 6) (hx : x < 256) : f_X2_isThing σ (nI x) = if gIdx x < 8 + min i 2 then 1 else 0 := by
  rw [← gTF_c i hi x hx, ← h3]
  rfl
theorem gSub1 (o : Nat) : ∃ y : Int32, nI o - 1 = y := ⟨_, rfl⟩
/-- the class takes a sign, or not -/
theorem yTk {c0 : Zst} {i ch : Nat} {s : gS4} (h3 : c0.1 3 = nI i) (hi : i < 6) (hx : ch < 256) (ho : s.2.1 ≤ 5) (hd : s.2.2.1 ≤ 3) :
    (∀ s', gMk (8 + min i 2) s ch = some s' → f_X2_takes (gk4 c0 s) (nI ch) = some (gk4 c0 s', 1)) ∧ (gMk (8 + min i 2) s ch = none → ∃ a b d e, f_X2_takes (gk4 c0 s) (nI ch) = some (gqq c0 a b d e, 0)) := by
  obtain ⟨A, o, d, C⟩ := s
  have ho : o ≤ 5 := ho
  have hd : d ≤ 3 := hd
  have e33 := gE33 hx
  have e45 := gE45 hx
  have e40 := gE40 hx
  have dg := gDg ch hx
  unfold f_X2_takes gMk
  cases A
  · -- behind a thing
    have h4 : (gk4 c0 (false, o, d, C)).1 4 = 0 := rfl
    have h5 : (gk4 c0 (false, o, d, C)).1 5 = nI o := rfl
    have h6 : (gk4 c0 (false, o, d, C)).1 6 = nI d := rfl
    have h7 : (gk4 c0 (false, o, d, C)).1 7 = C := rfl
    have hg : gk4 c0 (false, o, d, C) = gqq c0 0 (nI o) (nI d) C := rfl
    rw [if_pos h4]
    unfold f_X2_takesBehind J_X2_takesBehind_134
    rw [dg, h5, h6, h7, hg]
    simp only [Bool.false_eq_true, ↓reduceIte]
    by_cases q1 : 48 ≤ ch ∧ ch ≤ 57
    · simp only [if_pos q1, gq_10, ↓reduceIte, nI_1, gqq_6]
      simp only [show (nI (d + 1) ≤ (1 : Int32)) = (d + 1 ≤ 1) from propext (nI_leI (b := 1) (by omega) (by decide)), show ((3 : Int32) < nI (d + 1)) = (3 < d + 1) from propext (nI_ltI (a := 3) (by decide) (by omega))]
      by_cases q2 : d = 1 ∨ d = 2
      · rw [if_pos q2, if_neg (show ¬ d + 1 ≤ 1 by omega), if_neg (show ¬ 3 < d + 1 by omega)]
        exact ⟨fun s' e => by cases e; rfl, fun e => by cases e⟩
      · rw [if_neg q2]
        refine ⟨fun s' e => (by cases e), fun _ => ?_⟩
        by_cases q3 : d + 1 ≤ 1
        · rw [if_pos q3]; exact ⟨_, _, _, _, rfl⟩
        · rw [if_neg q3, if_pos (show 3 < d + 1 by omega)]; exact ⟨_, _, _, _, rfl⟩
    · simp only [if_neg q1, ↓reduceIte]
      simp only [gCm ch hx, show (nI ch = (41 : Int32)) = (ch = 41) from gE41 hx, show (nI ch = (124 : Int32)) = (ch = 124) from gE124 hx, show (nI ch = (38 : Int32)) = (ch = 38) from gE38 hx, show (nI ch = (43 : Int32)) = (ch = 43) from gE43 hx, show (nI ch = (45 : Int32)) = (ch = 45) from gE45 hx, show (nI ch = (42 : Int32)) = (ch = 42) from gE42 hx, show (nI ch = (47 : Int32)) = (ch = 47) from gE47 hx]
      by_cases q2 : ch = 41
      · rw [if_pos q2, if_pos q2]
        by_cases q3 : 0 < o
        · have em : nI o - 1 = nI (o - 1) := by rw [show (1 : Int32) = nI 1 from rfl, pk_sub (show 1 ≤ o by omega)]
          rw [if_pos q3, em, if_neg (nI_pos (show o - 1 < 2 ^ 31 by omega)), gqq_6, gqq_5]
          exact ⟨fun s' e => by cases e; rfl, fun e => by cases e⟩
        · have o0 : o = 0 := by omega
          subst o0
          rw [if_neg q3, if_pos (show nI 0 - 1 < (0 : Int32) by decide), gqq_6, gqq_5]
          exact ⟨fun s' e => (by cases e), fun _ => ⟨_, _, _, _, rfl⟩⟩
      · rw [if_neg q2, if_neg q2]
        by_cases q3 : ch = 60 ∨ ch = 62 ∨ ch = 61
        · have hb : f_X11_hasBit C (nI o) = if bt C o = true then 1 else 0 := by
            unfold f_X11_hasBit
            rw [gb_shr C (show o < 32 by omega)]
            cases bt C o <;> rfl
          simp only [if_pos q3, gq_10, ↓reduceIte, hb, gqq_6, gqq_4, gqq_7]
          by_cases q4 : bt C o = true
          · simp only [if_pos q4]
            exact ⟨fun s' e => (by cases e), fun _ => ⟨_, _, _, _, rfl⟩⟩
          · simp only [if_neg q4]
            refine ⟨fun s' e => ?_, fun e => by cases e⟩
            cases e; rfl
        · simp only [if_neg q3, ↓reduceIte, gqq_6, gqq_4]
          by_cases q4 : ch = 124
          · rw [if_pos q4, if_pos (Or.inl q4)]
            refine ⟨fun s' e => ?_, fun e => by cases e⟩
            cases e
            show (some (zI (gqq c0 1 (nI o) 0 C) 7 (C &&& (jShl 1 (nI o) ^^^ (-1))), (1 : Int32))).bind _ = _
            rw [gqq_7]; rfl
          · rw [if_neg q4]
            by_cases q5 : ch = 38
            · rw [if_pos q5, if_pos (Or.inr q5)]
              refine ⟨fun s' e => ?_, fun e => by cases e⟩
              cases e
              show (some (zI (gqq c0 1 (nI o) 0 C) 7 (C &&& (jShl 1 (nI o) ^^^ (-1))), (1 : Int32))).bind _ = _
              rw [gqq_7]; rfl
            · rw [if_neg q5, if_neg (show ¬ (ch = 124 ∨ ch = 38) by omega)]
              by_cases q6 : ch = 43 ∨ ch = 45 ∨ ch = 42 ∨ ch = 47
              · have : (if ch = 43 then (1 : Int32) else (if ch = 45 then 1 else (if ch = 42 then 1 else (if ch = 47 then 1 else 0)))) = 1 := by
                  rcases q6 with rfl | rfl | rfl | rfl <;> rfl
                rw [this, if_pos q6]
                exact ⟨fun s' e => by cases e; rfl, fun e => by cases e⟩
              · rw [if_neg q6, if_neg (show ¬ ch = 43 by omega), if_neg (show ¬ ch = 45 by omega), if_neg (show ¬ ch = 42 by omega), if_neg (show ¬ ch = 47 by omega)]
                exact ⟨fun s' e => (by cases e), fun _ => ⟨_, _, _, _, rfl⟩⟩
  · -- ahead of a thing
    have h4 : ¬ (gk4 c0 (true, o, d, C)).1 4 = 0 := show ¬ (1 : Int32) = 0 by decide
    have h5 : (gk4 c0 (true, o, d, C)).1 5 = nI o := rfl
    have h7 : (gk4 c0 (true, o, d, C)).1 7 = C := rfl
    have hg : gk4 c0 (true, o, d, C) = gqq c0 1 (nI o) (nI d) C := rfl
    rw [if_neg h4]
    unfold f_X2_takesAhead
    rw [h5, h7, hg]
    simp only [↓reduceIte]
    by_cases q1 : ch = 33
    · rw [if_pos (show nI ch = (33 : Int32) by rw [e33]; exact q1), if_pos (Or.inl q1)]
      exact ⟨fun s' e => by cases e; rfl, fun e => by cases e⟩
    · rw [if_neg (show ¬ nI ch = (33 : Int32) by rw [e33]; exact q1)]
      by_cases q2 : ch = 45
      · rw [if_pos (show nI ch = (45 : Int32) by rw [e45]; exact q2), if_pos (Or.inr q2)]
        exact ⟨fun s' e => by cases e; rfl, fun e => by cases e⟩
      · rw [if_neg (show ¬ nI ch = (45 : Int32) by rw [e45]; exact q2), if_neg (show ¬ (ch = 33 ∨ ch = 45) by omega)]
        by_cases q3 : ch = 40
        · rw [if_pos (show nI ch = (40 : Int32) by rw [e40]; exact q3), if_pos q3, nI_1, gqq_5, gqq_7]
          by_cases q4 : o < 5
          · rw [if_pos q4, if_neg (show ¬ (5 : Int32) < nI (o + 1) from nI_nlt (a := 5) (b := o + 1) (by omega) (by decide))]
            exact ⟨fun s' e => by cases e; rfl, fun e => by cases e⟩
          · rw [if_neg q4, if_pos (show (5 : Int32) < nI (o + 1) from nI_lt (a := 5) (by omega) (by omega))]
            exact ⟨fun s' e => (by cases e), fun _ => ⟨_, _, _, _, rfl⟩⟩
        · rw [if_neg (show ¬ nI ch = (40 : Int32) by rw [e40]; exact q3), if_neg q3, dg]
          by_cases q4 : 48 ≤ ch ∧ ch ≤ 57
          · simp only [if_pos q4, gq_10, ↓reduceIte, gqq_6, gqq_4]
            exact ⟨fun s' e => by cases e; rfl, fun e => by cases e⟩
          · simp only [if_neg q4, gq_01, ↓reduceIte, gqq_6, gqq_4]
            rw [yThC (σ := gqq c0 0 (nI o) 0 C) (i := i) h3 hi hx]
            by_cases q5 : gIdx ch < 8 + min i 2
            · rw [if_pos q5, if_pos q5]
              exact ⟨fun s' e => by cases e; rfl, fun e => by cases e⟩
            · rw [if_neg q5, if_neg q5]
              exact ⟨fun s' e => (by cases e), fun _ => ⟨_, _, _, _, rfl⟩⟩
