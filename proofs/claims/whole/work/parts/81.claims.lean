theorem gzII (c : Zst) (k : Nat) (x y : Int32) : zI (zI c k x) k y = zI c k y := by
  unfold zI
  simp only
  congr 1
  funext j
  by_cases h : j = k
  · rw [if_pos h, if_pos h]
  · rw [if_neg h, if_neg h, if_neg h]
theorem gzLen : ∀ i, i < 14 → (zByt.getD i []).length = zLen.getD i 0 ∧ zLen.getD i 0 ≤ 10 := by decide
/-- the first sign of a constant that stands at the place -/
theorem gAmong {m : Zst} {cst p e : Nat} (hc : cst < 14) (h6 : m.1 6 = nI p) (h7 : m.1 7 = nI e) (he : e ≤ 60) (hp : p ≤ e) : f_X12_among m cst = some (if p < e then zStrIx cst (m.2.1 12 p) else -1) := by
  obtain ⟨l1, l2⟩ := gzLen cst hc
  have key : ∀ d j n, j + d = zLen.getD cst 0 → d < n → L_X12_among_2 m cst n (nI j) = some (if p < e then zIxF (m.2.1 12 p) ((zByt.getD cst []).drop j) j else -1) := by
    intro d
    induction d with
    | zero =>
      intro j n hj hn
      obtain ⟨n, rfl⟩ : ∃ k, n = k + 1 := ⟨n - 1, by omega⟩
      have hj : j = zLen.getD cst 0 := by omega
      have hd : (zByt.getD cst []).drop j = [] := List.drop_eq_nil_of_le (by omega)
      rw [hd]
      simp only [L_X12_among_2, gLe, if_pos (show cst + 1 ≤ 14 by omega), zStrLen, ← hj, if_pos (show nI j ≤ nI j from Int32.le_refl _), zIxF]
      split <;> rfl
    | succ d ih =>
      intro j n hj hn
      obtain ⟨n, rfl⟩ : ∃ k, n = k + 1 := ⟨n - 1, by omega⟩
      have hn : ¬ nI (zLen.getD cst 0) ≤ nI j := nI_ge (by omega) (by omega)
      by_cases hpe : p < e
      · have hlt : j < (zByt.getD cst []).length := by omega
        have hd : (zByt.getD cst []).drop j = (zByt.getD cst [])[j] :: (zByt.getD cst []).drop (j + 1) := List.drop_eq_getElem_cons hlt
        have hch : zStrCh cst (nI j) = (zByt.getD cst [])[j] := by
          unfold zStrCh
          rw [nI_clamp (by omega), List.getD_eq_getElem?_getD (l := zByt.getD cst []), List.getElem?_eq_getElem hlt, Option.getD_some]
        rw [if_pos hpe, hd]
        have ih := ih (j + 1) n (by omega) (by omega)
        rw [if_pos hpe] at ih
        simp only [L_X12_among_2, gLe, if_pos (show cst + 1 ≤ 14 by omega), zStrLen, if_neg hn, h6, h7, if_neg (nI_ge hpe (show e < 2 ^ 31 by omega)), gGx (show j < zLen.getD cst 0 by omega) (by omega), gGx (show p < 60 by omega) (by decide), nI_clamp (show p < 2 ^ 31 by omega), hch, zIxF]
        by_cases q : (zByt.getD cst [])[j] = m.2.1 12 p
        · rw [if_pos q, if_pos q]
        · rw [if_neg q, if_neg q, nI_1]
          exact ih
      · rw [if_neg hpe]
        simp only [L_X12_among_2, gLe, if_pos (show cst + 1 ≤ 14 by omega), zStrLen, if_neg hn, h6, h7, if_pos (show nI e ≤ nI p from nI_le (by omega) (by omega))]
  have := key (zLen.getD cst 0) 0 zFu (by omega) (by rw [zFu_eq]; omega)
  rw [List.drop_zero] at this
  exact this
theorem gTh : ∀ v, v < 256 → (zStrIx 0 (nI v) = -1 ∧ zStrIx 12 (nI v) = -1) ∨ (gTi v < 10 ∧ zStrIx 0 (nI v) = nI (gTi v) ∧ zStrIx 12 (nI v) = nI (gPi5 (gTi v))) := by decide +kernel
theorem gSig : ∀ v, v < 256 → (¬ v = 60 ∧ ¬ v = 62 ∧ ¬ v = 61 ∧ zStrIx 9 (nI v) = -1) ∨ (v = 60 ∧ zStrIx 9 (nI v) = nI 0) ∨ (v = 62 ∧ zStrIx 9 (nI v) = nI 1) ∨ (v = 61 ∧ zStrIx 9 (nI v) = nI 2) := by decide +kernel
theorem gSem : ∀ v, v < 256 → zStrIx 13 (nI v) = if v = 59 then 0 else -1 := by decide +kernel
theorem gChr : ∀ v, v < 256 → UInt32.toInt32 ((Int32.toUInt32 (nI v)) % 65536) = nI v := by decide +kernel
theorem gThing {v : Nat} (hv : v < 256) : f_X8_thingOf (nI v) = some (zStrIx 0 (nI v)) := by
  unfold f_X8_thingOf
  rw [if_neg (nI_pos (by omega)), if_neg (show ¬ (255 : Int32) < nI v by rw [Int32.not_lt]; exact nI_le (b := 255) (by omega) (by decide)), gChr v hv, gGx hv (by decide)]
  rfl
/-- the first place at which a story is wrong -/
theorem gWrong (v : Nat → Nat) : ∀ e, ∃ W, W ≤ e ∧ (∀ p, p < W → gOk v p) ∧ (W < e → ¬ gOk v W)
  | 0 => ⟨0, Nat.le_refl 0, fun p hp => absurd hp (Nat.not_lt_zero p), fun h => absurd h (Nat.not_lt_zero 0)⟩
  | e + 1 => by
    obtain ⟨W, h1, h2, h3⟩ := gWrong v e
    by_cases q : W < e
    · exact ⟨W, by omega, h2, fun _ => h3 q⟩
    · have hW : W = e := by omega
      subst hW
      by_cases r : gOk v W
      · refine ⟨W + 1, Nat.le_refl _, fun p hp => ?_, fun h => absurd h (Nat.lt_irrefl _)⟩
        by_cases s : p = W
        · rw [s]; exact r
        · exact h2 p (by omega)
      · exact ⟨W, by omega, h2, fun _ => r⟩
theorem gTakes {c : Zst} {i : Nat} {v : Nat → Nat} (hi : i < 60) (h20 : c.1 20 = nI i) (hv : v i < 256) : ∃ b : Bool, f_X8_takes c (nI (v i)) = some (zI c 20 (nI (i + 1)), if b then 1 else 0) ∧ (b = true ↔ gOk v i) := by
  have hr : jRem (nI i) 4 = nI (i % 4) := by
    rw [show (4 : Int32) = nI 4 from rfl]
    exact pk_rem (by omega) (by decide) (by decide)
  have e1 : (nI (i % 4) = (1 : Int32)) = (i % 4 = 1) := propext (nI_eq (b := 1) (by omega) (by decide))
  have e3 : (nI (i % 4) = (3 : Int32)) = (i % 4 = 3) := propext (nI_eq (b := 3) (by omega) (by decide))
  have v60 : (nI (v i) = (60 : Int32)) = (v i = 60) := propext (nI_eq (b := 60) (by omega) (by decide))
  have v62 : (nI (v i) = (62 : Int32)) = (v i = 62) := propext (nI_eq (b := 62) (by omega) (by decide))
  have v61 : (nI (v i) = (61 : Int32)) = (v i = 61) := propext (nI_eq (b := 61) (by omega) (by decide))
  have v59 : (nI (v i) = (59 : Int32)) = (v i = 59) := propext (nI_eq (b := 59) (by omega) (by decide))
  unfold f_X8_takes gOk
  rw [h20, hr, nI_1]
  simp only [e1, e3, v60, v62, v61, v59]
  by_cases a : i % 4 = 1
  · rw [if_pos a, if_pos a]
    by_cases b : v i = 60
    · rw [if_pos b]; exact ⟨true, rfl, fun _ => Or.inl b, fun _ => rfl⟩
    · rw [if_neg b]
      by_cases d : v i = 62
      · rw [if_pos d]; exact ⟨true, rfl, fun _ => Or.inr (Or.inl d), fun _ => rfl⟩
      · rw [if_neg d]
        by_cases f : v i = 61
        · rw [if_pos f]; exact ⟨true, rfl, fun _ => Or.inr (Or.inr f), fun _ => rfl⟩
        · rw [if_neg f]; exact ⟨false, rfl, fun q => Bool.noConfusion q, fun q => by omega⟩
  · rw [if_neg a, if_neg a]
    by_cases b : i % 4 = 3
    · rw [if_pos b, if_pos b]
      by_cases d : v i = 59
      · rw [if_pos d]; exact ⟨true, rfl, fun _ => d, fun _ => rfl⟩
      · rw [if_neg d]; exact ⟨false, rfl, fun q => Bool.noConfusion q, fun q => absurd q d⟩
    · rw [if_neg b, if_neg b, gThing hv, Option.bind_some]
      rcases gTh (v i) hv with ⟨q, -⟩ | ⟨q1, q2, -⟩
      · rw [q, if_pos (by decide)]; exact ⟨false, rfl, fun q => Bool.noConfusion q, fun q => absurd rfl q⟩
      · have hne : ¬ nI (gTi (v i)) = -1 := fun q => by
          have : nI (gTi (v i)) < 0 := by rw [q]; decide
          exact nI_pos (by omega) this
        rw [q2, if_neg (nI_pos (by omega))]; exact ⟨true, rfl, fun _ => hne, fun _ => rfl⟩
/-- where a story is wrong, as the class finds it -/
theorem gWrongC {c : Zst} {N W : Nat} {v : Nat → Nat} (hN : N ≤ 60) (h1 : c.1 1 = nI N) (hv : ∀ i, v i < 256) (ht : ∀ i, c.2.1 0 i = nI (v i)) (hW : W ≤ min N 40) (hok : ∀ p, p < W → gOk v p) (hbad : W < min N 40 → ¬ gOk v W) :
    ∃ x : Int32, f_X1_wrongPlace_S c = some (zI c 20 x, if W < min N 40 then nI W else if N ≤ 40 then (if N = 0 ∨ N % 4 = 3 then -1 else nI N) else 40) := by
  have key : ∀ d i n, i + d = W → d < n → ∃ x : Int32, L_X1_wrongPlace_S_6 (fun σ6 => J_X1_wrongPlace_S_40 σ6) n (zI c 20 (nI i)) (nI i) = some (zI c 20 x, if W < min N 40 then nI W else if N ≤ 40 then (if N = 0 ∨ N % 4 = 3 then -1 else nI N) else 40) := by
    intro d
    induction d with
    | zero =>
      intro i n hi hn
      obtain ⟨n, rfl⟩ : ∃ k, n = k + 1 := ⟨n - 1, by omega⟩
      have hi : i = W := by omega
      subst hi
      have hs : f_X9_size (zI c 20 (nI i)) = nI N := h1
      by_cases q : i < min N 40
      · have e1 : ¬ nI N ≤ nI i := nI_ge (by omega) (by omega)
        have e2 : ¬ (40 : Int32) ≤ nI i := nI_ge (b := 40) (by omega) (by decide)
        have ha : f_X9_at (zI c 20 (nI i)) (nI i) = some (nI (v i)) := by
          unfold f_X9_at
          rw [show (zI c 20 (nI i)).1 1 = nI N from h1, if_neg (nI_pos (by omega)), if_neg e1, gGx (show i < 60 by omega) (by decide), nI_clamp (by omega), ← ht i]; rfl
        obtain ⟨b, b1, b2⟩ := gTakes (c := zI c 20 (nI i)) (i := i) (v := v) (by omega) rfl (hv i)
        have hb : b = false := by
          cases b
          · rfl
          · exact absurd (b2.mp rfl) (hbad q)
        subst hb
        refine ⟨nI (i + 1), ?_⟩
        simp only [L_X1_wrongPlace_S_6, hs, if_neg e1, if_neg e2, ha, Option.bind_some, b1, Bool.false_eq_true, ↓reduceIte, if_pos q, gzII]
      · rw [if_neg q]
        refine ⟨nI i, ?_⟩
        have hcases : (N ≤ 40 ∧ i = N) ∨ (¬ N ≤ 40 ∧ i = 40) := by omega
        have hJ : L_X1_wrongPlace_S_6 (fun σ6 => J_X1_wrongPlace_S_40 σ6) (n + 1) (zI c 20 (nI i)) (nI i) = J_X1_wrongPlace_S_40 (zI c 20 (nI i)) := by
          rcases hcases with ⟨a, b⟩ | ⟨a, b⟩
          · simp only [L_X1_wrongPlace_S_6, hs, if_pos (show nI N ≤ nI i by rw [b]; exact Int32.le_refl _)]
          · simp only [L_X1_wrongPlace_S_6, hs, if_neg (show ¬ nI N ≤ nI i from nI_ge (by omega) (by omega)), if_pos (show (40 : Int32) ≤ nI i by rw [b]; decide)]
        rw [hJ]
        unfold J_X1_wrongPlace_S_40
        rw [hs]
        rcases hcases with ⟨a, b⟩ | ⟨a, b⟩
        · rw [if_pos (show nI N ≤ (40 : Int32) from nI_le (b := 40) a (by decide)), if_pos a]
          subst b
          have hr : jRem (nI i) 4 = nI (i % 4) := by
            rw [show (4 : Int32) = nI 4 from rfl]
            exact pk_rem (by omega) (by decide) (by decide)
          have hce : f_X8_couldEnd (zI c 20 (nI i)) = if i = 0 ∨ i % 4 = 3 then 1 else 0 := by
            unfold f_X8_couldEnd
            rw [show (zI c 20 (nI i)).1 20 = nI i from rfl, hr]
            simp only [show (nI i = (0 : Int32)) = (i = 0) from propext (nI_eq (b := 0) (by omega) (by decide)), show (nI (i % 4) = (3 : Int32)) = (i % 4 = 3) from propext (nI_eq (b := 3) (by omega) (by decide))]
            by_cases z : i = 0
            · rw [if_pos z, if_pos (Or.inl z)]
            · rw [if_neg z]
              by_cases y : i % 4 = 3
              · rw [if_pos y, if_pos (Or.inr y)]
              · rw [if_neg y, if_neg (by omega)]
          rw [hce]
          by_cases z : i = 0 ∨ i % 4 = 3
          · rw [if_pos z, if_neg (by decide), if_pos z]
          · rw [if_neg z, if_pos rfl, if_neg z]
        · rw [if_neg (show ¬ nI N ≤ (40 : Int32) from nI_ge (a := 40) (by omega) (by omega)), if_neg a]
    | succ d ih =>
      intro i n hi hn
      obtain ⟨n, rfl⟩ : ∃ k, n = k + 1 := ⟨n - 1, by omega⟩
      have hs : f_X9_size (zI c 20 (nI i)) = nI N := h1
      have e1 : ¬ nI N ≤ nI i := nI_ge (by omega) (by omega)
      have e2 : ¬ (40 : Int32) ≤ nI i := nI_ge (b := 40) (by omega) (by decide)
      have ha : f_X9_at (zI c 20 (nI i)) (nI i) = some (nI (v i)) := by
        unfold f_X9_at
        rw [show (zI c 20 (nI i)).1 1 = nI N from h1, if_neg (nI_pos (by omega)), if_neg e1, gGx (show i < 60 by omega) (by decide), nI_clamp (by omega), ← ht i]; rfl
      obtain ⟨b, b1, b2⟩ := gTakes (c := zI c 20 (nI i)) (i := i) (v := v) (by omega) rfl (hv i)
      have hb : b = true := b2.mpr (hok i (by omega))
      subst hb
      obtain ⟨x, hx⟩ := ih (i + 1) n (by omega) (by omega)
      refine ⟨x, ?_⟩
      simp only [L_X1_wrongPlace_S_6, hs, if_neg e1, if_neg e2, ha, Option.bind_some, b1, ↓reduceIte, gq_10, gzII, nI_1]
      exact hx
  obtain ⟨x, hx⟩ := key W 0 zFu (by omega) (by rw [zFu_eq]; omega)
  refine ⟨x, ?_⟩
  unfold f_X1_wrongPlace_S f_X8_begin
  rw [Option.bind_some]
  exact hx
