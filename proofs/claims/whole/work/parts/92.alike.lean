/-! both sides come to the same -/
theorem gRec0 (d : Nat) (σ : Zst) (x : Int32) : f_X2rec (d + 1) 0 σ x = f_X2_either (f_X2rec d) σ x := rfl
theorem gRec1 (d : Nat) (σ : Zst) (x : Int32) : f_X2rec (d + 1) 1 σ x = f_X2_both (f_X2rec d) σ x := rfl
theorem gRec2 (d : Nat) (σ : Zst) (x : Int32) : f_X2rec (d + 1) 2 σ x = f_X2_comparison (f_X2rec d) σ x := rfl
theorem gRec3 (d : Nat) (σ : Zst) (x : Int32) : f_X2rec (d + 1) 3 σ x = f_X2_added (f_X2rec d) σ x := rfl
theorem gRec4 (d : Nat) (σ : Zst) (x : Int32) : f_X2rec (d + 1) 4 σ x = f_X2_multiplied (f_X2rec d) σ x := rfl
theorem gRec5 (d : Nat) (σ : Zst) (x : Int32) : f_X2rec (d + 1) 5 σ x = f_X2_thing (f_X2rec d) σ x := rfl
theorem gRec6 (d : Nat) (σ : Zst) (x : Int32) : f_X2rec (d + 1) 6 σ x = f_X2_bareThing (f_X2rec d) σ x := rfl
/-- the class comes to a -/
def gCE (c0 : Zst) (v : Nat → Nat) (to kind o p p' : Nat) (R a R' : Int32) : Prop :=
  (kind < 5 → ∀ d, 8 * (5 - o) + 8 - kind ≤ d → f_X2rec d kind (gz c0 R p) (nI o) = some (gz c0 R' p', a)) ∧
  (kind = 6 → ∀ d, 8 * (5 - o) + 2 ≤ d → f_X2rec d 6 (gz c0 R p) (nI o) = some (gz c0 R' p', a)) ∧
  (kind = 5 → ∃ (t : Nat) (b : Int32), (∀ j, j < t → v (p + j) = 33 ∨ v (p + j) = 45) ∧ p + t < to ∧ ¬ v (p + t) = 33 ∧ ¬ v (p + t) = 45 ∧ a = gUn v t p b ∧ ∀ d, 8 * (5 - o) + 2 ≤ d → f_X2rec d 6 (gz c0 R (p + t)) (nI o) = some (gz c0 R' p', b)) ∧
  (∀ r, kind = 10 + r → r < 5 → ∃ t, t ≤ p' ∧ ∀ d, 8 * (5 - o) + 7 - r ≤ d → ∀ n, (f_X2rec d (r + 1) (gz c0 R p) (nI o)).bind (fun s => gLp r (f_X2rec d) (nI o) (n + t) s.1 s.2) = gLp r (f_X2rec d) (nI o) n (gz c0 R' p') a)
section
variable {c0 m0 : Zst} {i to nS cl : Nat} {v : Nat → Nat} {val : Nat → Int32}
theorem gCE_F (h : gEC c0 i to nS v val) {kind o p p' : Nat} {R a R' : Int32} (hk : kind < 6) (H : gCE c0 v to kind o p p' R a R') {d : Nat} (hd : 8 * (5 - o) + 8 - kind ≤ d) : f_X2rec d kind (gz c0 R p) (nI o) = some (gz c0 R' p', a) := by
  by_cases e : kind = 5
  · obtain ⟨t, b, h1, h2, h3, h4, h5, h6⟩ := H.2.2.1 e
    subst e
    obtain ⟨d, rfl⟩ : ∃ k, d = k + 1 := ⟨d - 1, by omega⟩
    rw [gRec5, h5]
    exact gThg h h1 h2 h3 h4 (h6 d (by omega))
  · exact H.1 (by omega) d hd
def gXX (c0 m0 : Zst) (i to cl : Nat) (v : Nat → Nat) (kind o p p' : Nat) (K : List Int32) : Prop :=
  (p < p' ∧ p' ≤ to ∧ K.length ≤ p' - p ∧ 1 ≤ K.length) ∧ ((p' < to → ¬ (48 ≤ v p' ∧ v p' ≤ 57)) → ∀ R, ∃ a R', gCE c0 v to kind o p p' R a R' ∧ gRE m0 i cl K R a R')
theorem gOp_nd {r ch : Nat} (h : gOp r ch) : ¬ (48 ≤ ch ∧ ch ≤ 57) := by unfold gOp at h; omega
theorem gFu2 (t : Nat) (ht : t ≤ 40) : ∃ n, zFu = (n + 1) + t := ⟨9999 - t, by rw [zFu_eq]; omega⟩
theorem gRunX (hC : gEC c0 i to nS v val) (hM : gEM m0 i nS cl val) (hS : nS ≤ 10) : gRu v to nS (gXX c0 m0 i to cl v) := by
  have hto := hC.2.1
  refine ⟨?_, ?_, ?_, ?_, ?_, ?_, ?_, ?_, ?_, ?_⟩
  · intro o p t h1 h2 h3 h4
    refine ⟨⟨by omega, h3, by show 1 ≤ p + t - p; omega, Nat.le_refl 1⟩, fun hn R => ⟨nI (gNum v p t), R, ⟨fun q => by omega, fun _ d hd => ?_, fun q => by omega, fun r q => by omega⟩, gRE_num hM (gNum_b h2 h4)⟩⟩
    obtain ⟨d, rfl⟩ : ∃ k, d = k + 1 := ⟨d - 1, by omega⟩
    rw [gRec6]
    exact gBare0 hC h1 h2 h3 h4 hn
  · intro o p h1 h2
    refine ⟨⟨by omega, h1, by show 1 ≤ p + 1 - p; omega, Nat.le_refl 1⟩, fun hn R => ?_⟩
    by_cases q : gIdx (v p) = 7
    · refine ⟨gDr R, gR2 R, ⟨fun q => by omega, fun _ d hd => ?_, fun q => by omega, fun r q => by omega⟩, by rw [q]; exact gRE_z hM⟩
      obtain ⟨d, rfl⟩ : ∃ k, d = k + 1 := ⟨d - 1, by omega⟩
      rw [gRec6, gBare1 hC hS h1 h2, if_pos q]
    · refine ⟨val (gIdx (v p)), R, ⟨fun q => by omega, fun _ d hd => ?_, fun q => by omega, fun r q => by omega⟩, gRE_val hM hS h2 q⟩
      obtain ⟨d, rfl⟩ : ∃ k, d = k + 1 := ⟨d - 1, by omega⟩
      rw [gRec6, gBare1 hC hS h1 h2, if_neg q]
  · intro o p p' K h1 h2 h3 h4 h5 h6
    obtain ⟨⟨a1, a2, a3, a4⟩, a5⟩ := h4
    refine ⟨⟨by omega, by omega, by omega, a4⟩, fun hn R => ?_⟩
    obtain ⟨a, R', b1, b2⟩ := a5 (fun _ => by omega) R
    refine ⟨a, R', ⟨fun q => by omega, fun _ d hd => ?_, fun q => by omega, fun r q => by omega⟩, b2⟩
    obtain ⟨d, rfl⟩ : ∃ k, d = k + 1 := ⟨d - 1, by omega⟩
    rw [gRec6]
    exact gBare2 hC h1 h2 h3 (gCE_F hC (by omega) b1 (by omega))
  · intro o p p' K h1 h2 h3 h4
    obtain ⟨a0, a5⟩ := h4
    refine ⟨a0, fun hn R => ?_⟩
    obtain ⟨a, R', b1, b2⟩ := a5 hn R
    exact ⟨a, R', ⟨fun q => by omega, fun q => by omega, fun _ => ⟨0, a, fun j hj => absurd hj (Nat.not_lt_zero j), h1, h2, h3, rfl, b1.2.1 rfl⟩, fun r q => by omega⟩, b2⟩
  · intro o p p' K h1 h2 h3
    obtain ⟨⟨a1, a2, a3, a4⟩, a5⟩ := h3
    refine ⟨⟨by omega, a2, by rw [List.length_append, List.length_singleton]; omega, by rw [List.length_append, List.length_singleton]; omega⟩, fun hn R => ?_⟩
    obtain ⟨a, R', b1, b2⟩ := a5 hn R
    obtain ⟨t, b, g1, g2, g3, g4, g5, g6⟩ := b1.2.2.1 rfl
    refine ⟨gU1 (v p) a, R', ⟨fun q => by omega, fun q => by omega, fun _ => ⟨t + 1, b, fun j hj => ?_, by omega, ?_, ?_, ?_, fun d hd => ?_⟩, fun r q => by omega⟩, gRE_un hM h2 b2⟩
    · by_cases q : j = 0
      · subst q; exact h2
      · have := g1 (j - 1) (by omega)
        rw [show p + 1 + (j - 1) = p + j by omega] at this
        exact this
    · rw [show p + (t + 1) = p + 1 + t by omega]; exact g3
    · rw [show p + (t + 1) = p + 1 + t by omega]; exact g4
    · rw [g5]; rfl
    · rw [show p + (t + 1) = p + 1 + t by omega]; exact g6 d hd
  · intro r o p p' K h1 h2
    obtain ⟨a0, a5⟩ := h2
    refine ⟨a0, fun hn R => ?_⟩
    obtain ⟨a, R', b1, b2⟩ := a5 hn R
    refine ⟨a, R', ⟨fun q => by omega, fun q => by omega, fun q => by omega, fun r' q hr => ⟨0, Nat.zero_le _, fun d hd n => ?_⟩⟩, b2⟩
    have : r' = r := by omega
    subst this
    rw [gCE_F hC (by omega) b1 (by omega), Option.bind_some]
    rfl
  · intro r o p p1 p' K1 K2 h1 h2 h3 h4 h5 h6
    obtain ⟨⟨a1, a2, a3, a4⟩, a5⟩ := h3
    obtain ⟨⟨e1, e2, e3, e4⟩, e5⟩ := h6
    refine ⟨⟨by omega, e2, by rw [List.length_append, List.length_append, List.length_singleton]; omega, by rw [List.length_append, List.length_append, List.length_singleton]; omega⟩, fun hn R => ?_⟩
    obtain ⟨a, R1, b1, b2⟩ := a5 (fun _ => gOp_nd h5) R
    obtain ⟨b, R', f1, f2⟩ := e5 hn R1
    refine ⟨gAc (v p1) a b, R', ⟨fun q => by omega, fun q => by omega, fun q => by omega, fun r' q hr => ?_⟩, gRE_bin hM h5 a4 b2 f2⟩
    have : r' = r := by omega
    subst this
    obtain ⟨t, t1, t2⟩ := b1.2.2.2 r' rfl hr
    refine ⟨t + 1, by omega, fun d hd n => ?_⟩
    have := t2 d hd (n + 1)
    rw [show n + (t + 1) = n + 1 + t by omega, this]
    exact gLp_step hC h1 h2 h4 h5 (gCE_F hC (by omega) f1 (by omega))
  · intro r o p p' K h1 h2 h3 h4
    obtain ⟨a0, a5⟩ := h3
    refine ⟨a0, fun hn R => ?_⟩
    obtain ⟨a, R', b1, b2⟩ := a5 hn R
    obtain ⟨t, t1, t2⟩ := b1.2.2.2 r rfl h1
    refine ⟨a, R', ⟨fun _ d hd => ?_, fun q => by omega, fun q => by omega, fun r' q => by omega⟩, b2⟩
    obtain ⟨d, rfl⟩ : ∃ k, d = k + 1 := ⟨d - 1, by omega⟩
    obtain ⟨n, hf⟩ := gFu2 t (by omega)
    have ht := t2 d (by omega) (n + 1)
    rw [gLp_exit hC h1 h2 a0.2.1 h4, ← hf] at ht
    rcases (show r = 0 ∨ r = 1 ∨ r = 3 ∨ r = 4 by omega) with rfl | rfl | rfl | rfl
    · rw [gRec0]; exact ht
    · rw [gRec1]; exact ht
    · rw [gRec3]; exact ht
    · rw [gRec4]; exact ht
  · intro o p p' K h1 h2
    obtain ⟨a0, a5⟩ := h1
    refine ⟨a0, fun hn R => ?_⟩
    obtain ⟨a, R', b1, b2⟩ := a5 hn R
    refine ⟨a, R', ⟨fun _ d hd => ?_, fun q => by omega, fun q => by omega, fun r' q => by omega⟩, b2⟩
    obtain ⟨d, rfl⟩ : ∃ k, d = k + 1 := ⟨d - 1, by omega⟩
    rw [gRec2]
    exact gCmp0 hC (gCE_F hC (by omega) b1 (by omega)) a0.2.1 h2
  · intro o p p1 p' K1 K2 h1 h2 h3 h4
    obtain ⟨⟨a1, a2, a3, a4⟩, a5⟩ := h1
    obtain ⟨⟨e1, e2, e3, e4⟩, e5⟩ := h4
    refine ⟨⟨by omega, e2, by rw [List.length_append, List.length_append, List.length_singleton]; omega, by rw [List.length_append, List.length_append, List.length_singleton]; omega⟩, fun hn R => ?_⟩
    obtain ⟨a, R1, b1, b2⟩ := a5 (fun _ => gOp_nd h3) R
    obtain ⟨b, R', f1, f2⟩ := e5 hn R1
    refine ⟨gAc (v p1) a b, R', ⟨fun _ d hd => ?_, fun q => by omega, fun q => by omega, fun r' q => by omega⟩, gRE_bin hM h3 a4 b2 f2⟩
    obtain ⟨d, rfl⟩ : ∃ k, d = k + 1 := ⟨d - 1, by omega⟩
    rw [gRec2]
    exact gCmp1 hC (gCE_F hC (by omega) b1 (by omega)) h2 h3 (gCE_F hC (by omega) f1 (by omega))
/-- a whole law: both sides come to the same, and draw the same -/
theorem gEval {K : List Int32} (hC : gEC c0 i to nS v val) (hM : gEM m0 i nS cl val) (hS : nS ≤ 10) (hK : gFm v to nS 0 0 0 to K) (hl : K.length = cl) (hm : ∀ j, j < cl → m0.2.1 9 (48 * i + j) = K.getD j 0) (R : Int32) (S : Nat → Int32) :
    ∃ (a R' : Int32) (S' : Nat → Int32), f_X2rec zDp 0 (gz c0 R 0) 0 = some (gz c0 R' to, a) ∧ f_X12_worked (gy m0 R S) (nI i) = some (gy m0 R' S', a) := by
  obtain ⟨⟨a1, a2, a3, a4⟩, a5⟩ := hK _ (gRunX hC hM hS)
  obtain ⟨a, R', b1, b2⟩ := a5 (fun q => absurd q (Nat.lt_irrefl _)) R
  obtain ⟨S', s1, s2, s3⟩ := b2 S 0 0 (by have := hC.2.1; omega) (by omega) (fun j hj => by rw [Nat.zero_add]; exact hm j (by omega))
  refine ⟨a, R', S', gCE_F hC (by omega) b1 (by rw [zDp_eq]; omega), ?_⟩
  have hcl : cl ≤ 40 := by have := hC.2.1; omega
  obtain ⟨n, hf⟩ := gFu2 K.length (by omega)
  unfold f_X12_worked
  show L_X12_worked_4 (nI i) zFu (gy m0 R S) (nI 0) (nI 0) = _
  rw [hf, s3, Nat.zero_add, Nat.zero_add, hl, gRE_end hM, s2]
end
