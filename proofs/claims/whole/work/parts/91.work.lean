/-! what a law comes to, by the reference's marks -/
def gy (m0 : Zst) (R : Int32) (S : Nat → Int32) : Zst := zA (zI m0 4 R) 11 S
theorem gy_A (m0 : Zst) (R : Int32) (S S' : Nat → Int32) : zA (gy m0 R S) 11 S' = gy m0 R S' := gzAA _ _ _ _
theorem gy_4 (m0 : Zst) (R R' : Int32) (S : Nat → Int32) : zI (gy m0 R S) 4 R' = gy m0 R' S := by
  show zA (zI (zI m0 4 R) 4 R') 11 S = _
  rw [gzII]; rfl
/-- the reference under way: law i of cl marks, what signs stand for -/
def gEM (m0 : Zst) (i nS cl : Nat) (val : Nat → Int32) : Prop := i < 6 ∧ cl ≤ 48 ∧ m0.2.1 10 i = nI cl ∧ ∀ R S x, x < nS → ¬ x = 7 → f_X12_valueOf (gy m0 R S) (nI x) = some (gy m0 R S, val x)
theorem gVal7 (m0 : Zst) (R : Int32) (S : Nat → Int32) : f_X12_valueOf (gy m0 R S) (nI 7) = some (gy m0 (gR2 R) S, gDr R) := by
  unfold f_X12_valueOf
  rw [if_neg (by decide), if_neg (by decide), if_neg (by decide), if_neg (by decide), if_neg (by decide), if_neg (by decide), if_neg (by decide), if_pos (by decide)]
  unfold f_X12_draws
  rw [gNz_ok (show ¬ (10 : Int32) = 0 by decide), Option.bind_some]
  show some (zI (gy m0 R S) 4 (gR2 R), gDr R) = _
  rw [gy_4]
theorem gActed {r ch : Nat} (h : gOp r ch) (a b : Int32) : f_X12_acted (nI ch) a b = some (gAc ch a b) := by
  have f1 : f_X12_flag 1 = 1 := rfl
  have f0 : f_X12_flag 0 = 0 := rfl
  unfold gOp at h
  rcases (show ch = 124 ∨ ch = 38 ∨ ch = 60 ∨ ch = 62 ∨ ch = 61 ∨ ch = 43 ∨ ch = 45 ∨ ch = 42 ∨ ch = 47 by omega) with rfl | rfl | rfl | rfl | rfl | rfl | rfl | rfl | rfl
  · show some (f_X12_flag (if a = 0 then (if b = 0 then 0 else 1) else 1)) = some (if a = 0 then (if b = 0 then 0 else 1) else 1)
    by_cases q : a = 0
    · rw [if_pos q]
      by_cases w : b = 0
      · rw [if_pos w, f0]
      · rw [if_neg w, f1]
    · rw [if_neg q, f1]
  · show some (f_X12_flag (if a = 0 then 0 else (if b = 0 then 0 else 1))) = some (if a = 0 then 0 else (if b = 0 then 0 else 1))
    by_cases q : a = 0
    · rw [if_pos q, f0]
    · rw [if_neg q]
      by_cases w : b = 0
      · rw [if_pos w, f0]
      · rw [if_neg w, f1]
  · show some (f_X12_flag (if b ≤ a then 0 else 1)) = some (if b ≤ a then 0 else 1)
    by_cases q : b ≤ a
    · rw [if_pos q, f0]
    · rw [if_neg q, f1]
  · show some (f_X12_flag (if a ≤ b then 0 else 1)) = some (if a ≤ b then 0 else 1)
    by_cases q : a ≤ b
    · rw [if_pos q, f0]
    · rw [if_neg q, f1]
  · show some (f_X12_flag (if a = b then 1 else 0)) = some (if a = b then 1 else 0)
    by_cases q : a = b
    · rw [if_pos q, f1]
    · rw [if_neg q, f0]
  · rfl
  · rfl
  · rfl
  · show (if b = 0 then some (0 : Int32) else gNz b (some (a / b))) = some (if b = 0 then 0 else a / b)
    by_cases q : b = 0
    · rw [if_pos q, if_pos q]
    · rw [if_neg q, if_neg q, gNz_ok q]
section
variable {m0 : Zst} {i nS cl : Nat} {val : Nat → Int32}
theorem gW_go (h : gEM m0 i nS cl val) {R : Int32} {S : Nat → Int32} {k n : Nat} (v2 : Int32) (hk : k < cl) {x : Int32} (hx : m0.2.1 9 (48 * i + k) = x) (h2 : ¬ (2000 : Int32) ≤ x) (h1 : ¬ (1000 : Int32) ≤ x) {sp : Nat} (hv2 : v2 = nI sp) (hsp : sp < 48) :
    L_X12_worked_4 (nI i) (n + 1) (gy m0 R S) v2 (nI k) = L_X12_worked_4 (nI i) n (gy m0 R (upd S sp x)) (nI (sp + 1)) (nI (k + 1)) := by
  obtain ⟨h3, h4, h5, -⟩ := h
  subst hv2
  have e10 : (gy m0 R S).2.1 10 = m0.2.1 10 := rfl
  have e9 : (gy m0 R S).2.1 9 = m0.2.1 9 := rfl
  have e11 : (gy m0 R S).2.1 11 = S := rfl
  have hi : (48 : Int32) * nI i + nI k = nI (48 * i + k) := by rw [show (48 : Int32) = nI 48 from rfl, pk_mul, nI_add]
  simp only [L_X12_worked_4, gGx (show i < 7 by omega) (by decide), nI_clamp (show i < 2 ^ 31 by omega), e10, h5, if_neg (show ¬ nI cl ≤ nI k from nI_ge hk (by omega)), hi, gGx (show 48 * i + k < 336 by omega) (by decide), nI_clamp (show 48 * i + k < 2 ^ 31 by omega), e9, hx, if_neg h2, if_neg h1, gGx hsp (by decide), nI_clamp (show sp < 2 ^ 31 by omega), e11, gy_A, nI_1]
theorem gW_num (h : gEM m0 i nS cl val) {R : Int32} {S : Nat → Int32} {k n sp x : Nat} (hk : k < cl) (hx : m0.2.1 9 (48 * i + k) = nI x) (hx1 : x < 1000) (hsp : sp < 48) :
    L_X12_worked_4 (nI i) (n + 1) (gy m0 R S) (nI sp) (nI k) = L_X12_worked_4 (nI i) n (gy m0 R (upd S sp (nI x))) (nI (sp + 1)) (nI (k + 1)) :=
  gW_go h (nI sp) hk hx (show ¬ (2000 : Int32) ≤ nI x from nI_ge (b := 2000) (by omega) (by decide)) (show ¬ (1000 : Int32) ≤ nI x from nI_ge (b := 1000) (by omega) (by decide)) rfl hsp
theorem gW_val (h : gEM m0 i nS cl val) {R R' a : Int32} {S : Nat → Int32} {k n sp x : Nat} (hk : k < cl) (hx : m0.2.1 9 (48 * i + k) = nI (1000 + x)) (hx1 : x < 10) (hsp : sp < 48) (hv : f_X12_valueOf (gy m0 R S) (nI x) = some (gy m0 R' S, a)) :
    L_X12_worked_4 (nI i) (n + 1) (gy m0 R S) (nI sp) (nI k) = L_X12_worked_4 (nI i) n (gy m0 R' (upd S sp a)) (nI (sp + 1)) (nI (k + 1)) := by
  obtain ⟨h3, h4, h5, -⟩ := h
  have e10 : (gy m0 R S).2.1 10 = m0.2.1 10 := rfl
  have e9 : (gy m0 R S).2.1 9 = m0.2.1 9 := rfl
  have e11 : (gy m0 R' S).2.1 11 = S := rfl
  have hi : (48 : Int32) * nI i + nI k = nI (48 * i + k) := by rw [show (48 : Int32) = nI 48 from rfl, pk_mul, nI_add]
  have hs : nI (1000 + x) - (1000 : Int32) = nI x := by rw [show (1000 : Int32) = nI 1000 from rfl, pk_sub (by omega), Nat.add_sub_cancel_left]
  simp only [L_X12_worked_4, gGx (show i < 7 by omega) (by decide), nI_clamp (show i < 2 ^ 31 by omega), e10, h5, if_neg (show ¬ nI cl ≤ nI k from nI_ge hk (by omega)), hi, gGx (show 48 * i + k < 336 by omega) (by decide), nI_clamp (show 48 * i + k < 2 ^ 31 by omega), e9, hx, if_neg (show ¬ (2000 : Int32) ≤ nI (1000 + x) from nI_ge (b := 2000) (by omega) (by decide)), if_pos (show (1000 : Int32) ≤ nI (1000 + x) from nI_le (a := 1000) (by omega) (by omega)), hs, hv, Option.bind_some, gGx hsp (by decide), nI_clamp (show sp < 2 ^ 31 by omega), e11, gy_A, nI_1]
theorem gW_un (h : gEM m0 i nS cl val) {R : Int32} {S : Nat → Int32} {k n sp ch : Nat} (hc : ch = 33 ∨ ch = 45) (hk : k < cl) (hx : m0.2.1 9 (48 * i + k) = nI (if ch = 33 then 2033 else 2126)) (hsp : sp < 48) :
    L_X12_worked_4 (nI i) (n + 1) (gy m0 R S) (nI (sp + 1)) (nI k) = L_X12_worked_4 (nI i) n (gy m0 R (upd S sp (gU1 ch (S sp)))) (nI (sp + 1)) (nI (k + 1)) := by
  obtain ⟨h3, h4, h5, -⟩ := h
  have e10 : (gy m0 R S).2.1 10 = m0.2.1 10 := rfl
  have e9 : (gy m0 R S).2.1 9 = m0.2.1 9 := rfl
  have e11 : (gy m0 R S).2.1 11 = S := rfl
  have hi : (48 : Int32) * nI i + nI k = nI (48 * i + k) := by rw [show (48 : Int32) = nI 48 from rfl, pk_mul, nI_add]
  rcases hc with rfl | rfl
  · have hx : m0.2.1 9 (48 * i + k) = 2033 := hx
    have e : f_X12_flag (if S sp = 0 then (1 : Int32) else 0) = gU1 33 (S sp) := by
      show _ = (if S sp = 0 then (1 : Int32) else 0)
      by_cases q : S sp = 0
      · rw [if_pos q]; rfl
      · rw [if_neg q]; rfl
    simp only [L_X12_worked_4, gGx (show i < 7 by omega) (by decide), nI_clamp (show i < 2 ^ 31 by omega), e10, h5, if_neg (show ¬ nI cl ≤ nI k from nI_ge hk (by omega)), hi, gGx (show 48 * i + k < 336 by omega) (by decide), nI_clamp (show 48 * i + k < 2 ^ 31 by omega), e9, hx, if_pos (show (2000 : Int32) ≤ 2033 by decide), ↓reduceIte, nI_pred, gGx hsp (by decide), nI_clamp (show sp < 2 ^ 31 by omega), e11, gy_A, nI_1, e]
  · have hx : m0.2.1 9 (48 * i + k) = 2126 := hx
    have e : -(S sp) = gU1 45 (S sp) := rfl
    simp only [L_X12_worked_4, gGx (show i < 7 by omega) (by decide), nI_clamp (show i < 2 ^ 31 by omega), e10, h5, if_neg (show ¬ nI cl ≤ nI k from nI_ge hk (by omega)), hi, gGx (show 48 * i + k < 336 by omega) (by decide), nI_clamp (show 48 * i + k < 2 ^ 31 by omega), e9, hx, if_pos (show (2000 : Int32) ≤ 2126 by decide), if_neg (show ¬ (2126 : Int32) = 2033 by decide), ↓reduceIte, nI_pred, gGx hsp (by decide), nI_clamp (show sp < 2 ^ 31 by omega), e11, gy_A, nI_1, e]
theorem gW_bin (h : gEM m0 i nS cl val) {R : Int32} {S : Nat → Int32} {k n sp ch r : Nat} (hc : gOp r ch) (hk : k < cl) (hx : m0.2.1 9 (48 * i + k) = nI (2000 + ch)) (hsp : sp + 1 < 48) :
    L_X12_worked_4 (nI i) (n + 1) (gy m0 R S) (nI (sp + 2)) (nI k) = L_X12_worked_4 (nI i) n (gy m0 R (upd S sp (gAc ch (S sp) (S (sp + 1))))) (nI (sp + 1)) (nI (k + 1)) := by
  obtain ⟨h3, h4, h5, -⟩ := h
  have e10 : (gy m0 R S).2.1 10 = m0.2.1 10 := rfl
  have e9 : (gy m0 R S).2.1 9 = m0.2.1 9 := rfl
  have e11 : (gy m0 R S).2.1 11 = S := rfl
  have hi : (48 : Int32) * nI i + nI k = nI (48 * i + k) := by rw [show (48 : Int32) = nI 48 from rfl, pk_mul, nI_add]
  have hl : ch < 126 ∧ ¬ ch = 33 := by unfold gOp at hc; omega
  have hs : nI (2000 + ch) - (2000 : Int32) = nI ch := by rw [show (2000 : Int32) = nI 2000 from rfl, pk_sub (by omega), Nat.add_sub_cancel_left]
  have n1 : ¬ nI (2000 + ch) = (2033 : Int32) := fun q => by have := (nI_eq (b := 2033) (by omega) (by decide)).mp q; omega
  have n2 : ¬ nI (2000 + ch) = (2126 : Int32) := fun q => by have := (nI_eq (b := 2126) (by omega) (by decide)).mp q; omega
  have hm : nI (sp + 2) + (-1 : Int32) = nI (sp + 1) := pk_m1 (sp + 1)
  simp only [L_X12_worked_4, gGx (show i < 7 by omega) (by decide), nI_clamp (show i < 2 ^ 31 by omega), e10, h5, if_neg (show ¬ nI cl ≤ nI k from nI_ge hk (by omega)), hi, gGx (show 48 * i + k < 336 by omega) (by decide), nI_clamp (show 48 * i + k < 2 ^ 31 by omega), e9, hx, if_pos (show (2000 : Int32) ≤ nI (2000 + ch) from nI_le (a := 2000) (by omega) (by omega)), if_neg n1, if_neg n2, hm, nI_pred, gGx (show sp < 48 by omega) (by decide), gGx hsp (by decide), nI_clamp (show sp < 2 ^ 31 by omega), nI_clamp (show sp + 1 < 2 ^ 31 by omega), e11, hs, gActed hc, Option.bind_some, gy_A, nI_1]
/-- the marks K are run: one value more -/
def gRE (m0 : Zst) (i cl : Nat) (K : List Int32) (R a R' : Int32) : Prop := ∀ (S : Nat → Int32) (sp k : Nat), sp + K.length ≤ 48 → k + K.length ≤ cl → (∀ j, j < K.length → m0.2.1 9 (48 * i + (k + j)) = K.getD j 0) → ∃ S' : Nat → Int32, (∀ j, j < sp → S' j = S j) ∧ S' sp = a ∧ ∀ n, L_X12_worked_4 (nI i) (n + K.length) (gy m0 R S) (nI sp) (nI k) = L_X12_worked_4 (nI i) n (gy m0 R' S') (nI (sp + 1)) (nI (k + K.length))
theorem gRE_num (h : gEM m0 i nS cl val) {R : Int32} {x : Nat} (hx : x < 1000) : gRE m0 i cl [nI x] R (nI x) R := by
  intro S sp k h1 h2 h3
  exact ⟨upd S sp (nI x), fun j hj => gU_ne (by omega), gU_eq rfl, fun n => gW_num h (show k < cl by exact h2) (h3 0 Nat.one_pos) hx (show sp < 48 by exact h1)⟩
theorem gRE_val (h : gEM m0 i nS cl val) (hS : nS ≤ 10) {R : Int32} {x : Nat} (hx : x < nS) (h7 : ¬ x = 7) : gRE m0 i cl [nI (1000 + x)] R (val x) R := by
  intro S sp k h1 h2 h3
  exact ⟨upd S sp (val x), fun j hj => gU_ne (by omega), gU_eq rfl, fun n => gW_val h (show k < cl by exact h2) (h3 0 Nat.one_pos) (by omega) (show sp < 48 by exact h1) (h.2.2.2 R S x hx h7)⟩
theorem gRE_z (h : gEM m0 i nS cl val) {R : Int32} : gRE m0 i cl [nI (1000 + 7)] R (gDr R) (gR2 R) := by
  intro S sp k h1 h2 h3
  exact ⟨upd S sp (gDr R), fun j hj => gU_ne (by omega), gU_eq rfl, fun n => gW_val h (show k < cl by exact h2) (h3 0 Nat.one_pos) (by omega) (show sp < 48 by exact h1) (gVal7 m0 R S)⟩
theorem gGetL {K L : List Int32} {j : Nat} (h : j < K.length) : (K ++ L).getD j 0 = K.getD j 0 := by
  rw [List.getD_eq_getElem?_getD, List.getD_eq_getElem?_getD, List.getElem?_append_left h]
theorem gGetR {K L : List Int32} {j : Nat} : (K ++ L).getD (K.length + j) 0 = L.getD j 0 := by
  rw [List.getD_eq_getElem?_getD, List.getD_eq_getElem?_getD, List.getElem?_append_right (by omega), Nat.add_sub_cancel_left]
theorem gRE_un (h : gEM m0 i nS cl val) {K : List Int32} {R R' a : Int32} {ch : Nat} (hc : ch = 33 ∨ ch = 45) (hK : gRE m0 i cl K R a R') : gRE m0 i cl (K ++ [nI (if ch = 33 then 2033 else 2126)]) R (gU1 ch a) R' := by
  intro S sp k h1 h2 h3
  rw [List.length_append, List.length_singleton] at h1 h2 h3
  obtain ⟨S', s1, s2, s3⟩ := hK S sp k (by omega) (by omega) (fun j hj => by rw [h3 j (by omega), gGetL hj])
  have hx := h3 K.length (by omega)
  rw [show (K ++ [nI (if ch = 33 then 2033 else 2126)]).getD K.length 0 = nI (if ch = 33 then 2033 else 2126) from gGetR (j := 0)] at hx
  refine ⟨upd S' sp (gU1 ch (S' sp)), fun j hj => by rw [gU_ne (by omega)]; exact s1 j hj, by rw [gU_eq rfl, s2], fun n => ?_⟩
  rw [List.length_append, List.length_singleton, show n + (K.length + 1) = (n + 1) + K.length by omega, s3 (n + 1)]
  exact gW_un h hc (by omega) hx (by omega)
theorem gRE_bin (h : gEM m0 i nS cl val) {K1 K2 : List Int32} {R R1 R' a b : Int32} {r ch : Nat} (hc : gOp r ch) (l1 : 1 ≤ K1.length) (hK1 : gRE m0 i cl K1 R a R1) (hK2 : gRE m0 i cl K2 R1 b R') : gRE m0 i cl (K1 ++ K2 ++ [nI (2000 + ch)]) R (gAc ch a b) R' := by
  intro S sp k h1 h2 h3
  rw [List.length_append, List.length_append, List.length_singleton] at h1 h2 h3
  obtain ⟨S1, s1, s2, s3⟩ := hK1 S sp k (by omega) (by omega) (fun j hj => by rw [h3 j (by omega), List.append_assoc, gGetL hj])
  by_cases l2 : sp + 1 + K2.length ≤ 48
  · obtain ⟨S2, t1, t2, t3⟩ := hK2 S1 (sp + 1) (k + K1.length) l2 (by omega) (fun j hj => by rw [Nat.add_assoc k, h3 (K1.length + j) (by omega), List.append_assoc, gGetR, gGetL hj])
    have hx := h3 (K1.length + K2.length) (by omega)
    rw [show (K1 ++ K2 ++ [nI (2000 + ch)]).getD (K1.length + K2.length) 0 = nI (2000 + ch) by rw [← List.length_append]; exact gGetR (j := 0)] at hx
    refine ⟨upd S2 sp (gAc ch (S2 sp) (S2 (sp + 1))), fun j hj => by rw [gU_ne (by omega), t1 j (by omega)]; exact s1 j hj, by rw [gU_eq rfl, t2, t1 sp (by omega), s2], fun n => ?_⟩
    rw [List.length_append, List.length_append, List.length_singleton, show n + (K1.length + K2.length + 1) = (n + 1 + K2.length) + K1.length by omega, s3, t3, show sp + 1 + 1 = sp + 2 from rfl, Nat.add_assoc k]
    rw [gW_bin h hc (show k + (K1.length + K2.length) < cl by omega) hx (by omega)]
    rfl
  · omega
/-- the end -/
theorem gRE_end (h : gEM m0 i nS cl val) {R : Int32} {S : Nat → Int32} {v2 : Int32} {n : Nat} : L_X12_worked_4 (nI i) (n + 1) (gy m0 R S) v2 (nI cl) = some (gy m0 R S, S 0) := by
  obtain ⟨h3, h4, h5, -⟩ := h
  have e10 : (gy m0 R S).2.1 10 = m0.2.1 10 := rfl
  have e11 : (gy m0 R S).2.1 11 = S := rfl
  simp only [L_X12_worked_4, gGx (show i < 7 by omega) (by decide), nI_clamp (show i < 2 ^ 31 by omega), e10, h5, if_pos (show nI cl ≤ nI cl from Int32.le_refl _), e11]
  rfl
end
