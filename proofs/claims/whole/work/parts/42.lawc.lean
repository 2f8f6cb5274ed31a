theorem lP_l {D : va_G} {cl : List vw_C} {X Y : va_W} {H : Heap} (h : va_P D cl (X ++ Y) H) : va_P D cl X H := fun k q hk => h k q (by rw [List.getElem?_append_left (List.getElem?_eq_some_iff.mp hk).1]; exact hk)
theorem lP_r {D : va_G} {cl : List vw_C} {X Y : va_W} {H : Heap} (h : va_P D cl (X ++ Y) H) : va_P D cl Y H := fun k q hk => h (X.length + k) q (by rw [y_ix]; exact hk)
theorem lD_l {A : Nat → Prop} {X Y : va_W} (h : va_D A (X ++ Y)) : va_D A X := ⟨fun i j p q hp hq e => h.1 i j p q (by rw [List.getElem?_append_left (List.getElem?_eq_some_iff.mp hp).1]; exact hp) (by rw [List.getElem?_append_left (List.getElem?_eq_some_iff.mp hq).1]; exact hq) e, fun k q hk => h.2 k q (by rw [List.getElem?_append_left (List.getElem?_eq_some_iff.mp hk).1]; exact hk)⟩
theorem lD_r {A : Nat → Prop} {X Y : va_W} (h : va_D A (X ++ Y)) : va_D A Y := ⟨fun i j p q hp hq e => by
    have := h.1 (X.length + i) (X.length + j) p q (by rw [y_ix]; exact hp) (by rw [y_ix]; exact hq) e
    omega, fun k q hk => h.2 (X.length + k) q (by rw [y_ix]; exact hk)⟩
theorem lD_x {A : Nat → Prop} {X Y : va_W} (h : va_D A (X ++ Y)) {i j : Nat} {p q : Nat × va_E} (hp : X[i]? = some p) (hq : Y[j]? = some q) : p.1 ≠ q.1 := fun e => by
  have hi := (List.getElem?_eq_some_iff.mp hp).1
  have := h.1 i (X.length + j) p q (by rw [List.getElem?_append_left hi]; exact hp) (by rw [y_ix]; exact hq) e
  omega
/-- the places of a world -/
def lA (ws : va_W) : Nat → Prop := fun q => ∃ (k : Nat) (e : va_E), ws[k]? = some (q, e)
theorem lD_A {A : Nat → Prop} {ws : va_W} (h : va_D A ws) : va_D (lA ws) ws := ⟨h.1, fun k q hk => ⟨k, q.2, hk⟩⟩
theorem lA_in {A : Nat → Prop} {ws : va_W} (h : va_D A ws) : ∀ q, lA ws q → A q := fun q ⟨k, e, hk⟩ => h.2 k (q, e) hk
theorem zE_narrow {D : va_G} {cl : List vw_C} {tys : List (ClassId × FieldType)} {A B : Nat → Prop} {ad : (Nat → Nat) × (Nat → Nat)} {U : State} {H : Heap} (h : zE D cl tys A ad U H) (hAB : ∀ q, B q → A q) : zE D cl tys B ad U H := ⟨h.1, h.2.1, h.2.2.1.narrow hAB, h.2.2.2.1, h.2.2.2.2.1.narrow hAB, h.2.2.2.2.2.narrow hAB⟩
def lW (a b : Nat → Nat) (qo : Nat) (cy : ClassId × (ClassId × (ClassId × ClassId))) (ad : (Nat → Nat) × (Nat → Nat)) (σc σm : Zst) (f : Nat → Int64) : va_W := cW a cy σc ++ (mW b cy ad σm ++ [(qo, .inl (cy.2.1, 1, .inr (.inl f)))])
def lC (l : Launch) (D : va_G) (a b : Nat → Nat) (qo : Nat) (cy : ClassId × (ClassId × (ClassId × ClassId))) (ad : (Nat → Nat) × (Nat → Nat)) (p : Program) (e : Env) (s : State) (m : MethodId) (args : Array Value) (below : List Frame) (meth : Method) (c : Code) (Q : State → Prop) (σc σm : Zst) (f : Nat → Int64) (k n : Nat) (lv : List (Nat × Value)) (pc : Nat) (st : List Value) : Prop :=
  ∀ (H : Heap) (locs : List Loc) (ls : Array Slot), va_P D zcl (lW a b qo cy ad σc σm f) H → va_S (fun q => s.heap.size ≤ q) s.heap H locs → lv_has ls 8 lv → W p l e room_1 s m args below meth c H locs k n Q (F0 m pc ls st)
def lM (l : Launch) (D : va_G) (a b : Nat → Nat) (qo : Nat) (cy : ClassId × (ClassId × (ClassId × ClassId))) (ad : (Nat → Nat) × (Nat → Nat)) (b0 L : Nat) (xs : Nat → Int32) (G : Zst → Zst → (Nat → Int64) → Nat → Nat → List (Nat × Value) → Nat → List Value → Prop) : Prop :=
  ∃ (p : Program) (e : Env) (s : State) (m : MethodId) (below : List Frame) (meth : Method) (c : Code), l.flags = flags0 ∧ p.tables.exec = Jvm.exec ∧ c.code = code ∧ c.maxLocals = 8 ∧ s.vm.findClass R_law = some m.cls ∧ (∀ w ∈ uw, w.before #[Value.ref b0] s = true) ∧ (∀ w ∈ lw_tbl, w.before #[Value.ref b0] s = true) ∧ zE D zcl (zty cy) (fun q => s.heap.size ≤ q) ad s s.heap ∧ (∀ σc σm f, va_D (fun q => s.heap.size ≤ q) (lW a b qo cy ad σc σm f)) ∧ va_X b0 L xs s s.heap ∧ b0 < s.heap.size ∧ meth.sig.returnType = ret ∧ meth.locks = false ∧ (Jvm.Cond.and given_1 narrow_1).before #[Value.ref b0] s = true ∧ G = lC l D a b qo cy ad p e s m #[Value.ref b0] below meth c (lw_Z below #[Value.ref b0] s)
section LR
variable {l : Launch} {D : va_G} {a b : Nat → Nat} {qo : Nat} {cy : ClassId × (ClassId × (ClassId × ClassId))} {ad : (Nat → Nat) × (Nat → Nat)} {b0 L : Nat} {xs : Nat → Int32} {G : Zst → Zst → (Nat → Int64) → Nat → Nat → List (Nat × Value) → Nat → List Value → Prop}
variable {σc σm : Zst} {f : Nat → Int64} {k n : Nat} {lv lv' : List (Nat × Value)} {pc : Nat} {st : List Value}
theorem l_iconst (M : lM l D a b qo cy ad b0 L xs G) {j : Int} {v : Int32} (d : decode code pc = .ok (.iconst j, 1)) (hv : Int32.ofInt j = v) (kk : G σc σm f k n lv (pc + 1) (.int v :: st)) : G σc σm f k n lv pc (st) := by
  obtain ⟨p, e, s, m, below, meth, c, hfl, hx, hb, hml, hown, hts, htl, hE, hD, hX, hbl, hr, hlk, hgv, rfl⟩ := M
  have hK := hE.1
  intro H locs ls hP hS hl
  exact lv_iconst hx hb d hv (kk H locs ls hP hS hl)
theorem l_bipush (M : lM l D a b qo cy ad b0 L xs G) {j : Int} {v : Int32} (d : decode code pc = .ok (.bipush j, 2)) (hv : (Int8.ofInt j).toInt32 = v) (kk : G σc σm f k n lv (pc + 2) (.int v :: st)) : G σc σm f k n lv pc (st) := by
  obtain ⟨p, e, s, m, below, meth, c, hfl, hx, hb, hml, hown, hts, htl, hE, hD, hX, hbl, hr, hlk, hgv, rfl⟩ := M
  have hK := hE.1
  intro H locs ls hP hS hl
  exact lv_bipush hx hb d hv (kk H locs ls hP hS hl)
theorem l_iload (M : lM l D a b qo cy ad b0 L xs G) {i : Nat} {x : Int32} (d : decode code pc = .ok (.iload i, 2)) (j : Nat) (hj : lv[j]? = some (i, .int x)) (kk : G σc σm f k n lv (pc + 2) (.int x :: st)) : G σc σm f k n lv pc (st) := by
  obtain ⟨p, e, s, m, below, meth, c, hfl, hx, hb, hml, hown, hts, htl, hE, hD, hX, hbl, hr, hlk, hgv, rfl⟩ := M
  have hK := hE.1
  intro H locs ls hP hS hl
  exact lv_iload hx hb d (lv_at hl j hj) (kk H locs ls hP hS hl)
theorem l_lload (M : lM l D a b qo cy ad b0 L xs G) {i : Nat} {x : Int64} (d : decode code pc = .ok (.lload i, 2)) (j : Nat) (hj : lv[j]? = some (i, .long x)) (kk : G σc σm f k n lv (pc + 2) (.long x :: st)) : G σc σm f k n lv pc (st) := by
  obtain ⟨p, e, s, m, below, meth, c, hfl, hx, hb, hml, hown, hts, htl, hE, hD, hX, hbl, hr, hlk, hgv, rfl⟩ := M
  have hK := hE.1
  intro H locs ls hP hS hl
  exact lv_lload hx hb d (lv_at hl j hj) (kk H locs ls hP hS hl)
theorem l_aload_n (M : lM l D a b qo cy ad b0 L xs G) {t : Fin 4} {i : Nat} {x : Nat} (d : decode code pc = .ok (.aload_n t, 1)) (hi : (t : Nat) = i) (j : Nat) (hj : lv[j]? = some (i, .ref x)) (kk : G σc σm f k n lv (pc + 1) (.ref x :: st)) : G σc σm f k n lv pc (st) := by
  obtain ⟨p, e, s, m, below, meth, c, hfl, hx, hb, hml, hown, hts, htl, hE, hD, hX, hbl, hr, hlk, hgv, rfl⟩ := M
  have hK := hE.1
  intro H locs ls hP hS hl
  exact lv_aload_n hx hb d hi (lv_at hl j hj) (kk H locs ls hP hS hl)
theorem l_iadd (M : lM l D a b qo cy ad b0 L xs G) {x y : Int32} (d : decode code pc = .ok (.iadd, 1))  (kk : G σc σm f k n lv (pc + 1) (.int (x + y) :: st)) : G σc σm f k n lv pc (.int y :: .int x :: st) := by
  obtain ⟨p, e, s, m, below, meth, c, hfl, hx, hb, hml, hown, hts, htl, hE, hD, hX, hbl, hr, hlk, hgv, rfl⟩ := M
  have hK := hE.1
  intro H locs ls hP hS hl
  exact lv_iadd hx hb d (kk H locs ls hP hS hl)
theorem l_isub (M : lM l D a b qo cy ad b0 L xs G) {x y : Int32} (d : decode code pc = .ok (.isub, 1))  (kk : G σc σm f k n lv (pc + 1) (.int (x - y) :: st)) : G σc σm f k n lv pc (.int y :: .int x :: st) := by
  obtain ⟨p, e, s, m, below, meth, c, hfl, hx, hb, hml, hown, hts, htl, hE, hD, hX, hbl, hr, hlk, hgv, rfl⟩ := M
  have hK := hE.1
  intro H locs ls hP hS hl
  exact lv_isub hx hb d (kk H locs ls hP hS hl)
theorem l_iand (M : lM l D a b qo cy ad b0 L xs G) {x y : Int32} (d : decode code pc = .ok (.iand, 1))  (kk : G σc σm f k n lv (pc + 1) (.int (x &&& y) :: st)) : G σc σm f k n lv pc (.int y :: .int x :: st) := by
  obtain ⟨p, e, s, m, below, meth, c, hfl, hx, hb, hml, hown, hts, htl, hE, hD, hX, hbl, hr, hlk, hgv, rfl⟩ := M
  have hK := hE.1
  intro H locs ls hP hS hl
  exact lv_iand hx hb d (kk H locs ls hP hS hl)
theorem l_i2l (M : lM l D a b qo cy ad b0 L xs G) {x : Int32} (d : decode code pc = .ok (.i2l, 1))  (kk : G σc σm f k n lv (pc + 1) (.long x.toInt64 :: st)) : G σc σm f k n lv pc (.int x :: st) := by
  obtain ⟨p, e, s, m, below, meth, c, hfl, hx, hb, hml, hown, hts, htl, hE, hD, hX, hbl, hr, hlk, hgv, rfl⟩ := M
  have hK := hE.1
  intro H locs ls hP hS hl
  exact lv_i2l hx hb d rfl (kk H locs ls hP hS hl)
theorem l_istore (M : lM l D a b qo cy ad b0 L xs G) {i : Nat} {x : Int32} (d : decode code pc = .ok (.istore i, 2)) (hn : i < 8) (hl0 : (i, Value.int x) :: lv.filter (fun q => !(q.1 == i) && !(q.1 + 1 == i && q.2.category == 2)) = lv') (kk : G σc σm f k n lv' (pc + 2) (st)) : G σc σm f k n lv pc (.int x :: st) := by
  obtain ⟨p, e, s, m, below, meth, c, hfl, hx, hb, hml, hown, hts, htl, hE, hD, hX, hbl, hr, hlk, hgv, rfl⟩ := M
  have hK := hE.1
  intro H locs ls hP hS hl
  exact lv_istore hx hb d hl hn hl0 (fun ls' hl' => kk H locs ls' hP hS hl')
theorem l_lstore (M : lM l D a b qo cy ad b0 L xs G) {i : Nat} {x : Int64} (d : decode code pc = .ok (.lstore i, 2)) (hn : i + 1 < 8) (hl0 : (i, Value.long x) :: lv.filter (fun q => !(q.1 == i) && (!(q.1 == i + 1) && !(q.1 + 1 == i && q.2.category == 2))) = lv') (kk : G σc σm f k n lv' (pc + 2) (st)) : G σc σm f k n lv pc (.long x :: st) := by
  obtain ⟨p, e, s, m, below, meth, c, hfl, hx, hb, hml, hown, hts, htl, hE, hD, hX, hbl, hr, hlk, hgv, rfl⟩ := M
  have hK := hE.1
  intro H locs ls hP hS hl
  exact lv_lstore hx hb d hl hn hl0 (fun ls' hl' => kk H locs ls' hP hS hl')
theorem l_iinc (M : lM l D a b qo cy ad b0 L xs G) {i t : Nat} {j : Int} {x v : Int32} (d : decode code pc = .ok (.iinc i j, 3)) (hk : lv[t]? = some (i, .int x)) (hv : x + Int32.ofInt j = v) (hn : i < 8) (hl0 : (i, Value.int v) :: lv.filter (fun q => !(q.1 == i) && !(q.1 + 1 == i && q.2.category == 2)) = lv') (kk : G σc σm f k n lv' (pc + 3) (st)) : G σc σm f k n lv pc (st) := by
  obtain ⟨p, e, s, m, below, meth, c, hfl, hx, hb, hml, hown, hts, htl, hE, hD, hX, hbl, hr, hlk, hgv, rfl⟩ := M
  have hK := hE.1
  intro H locs ls hP hS hl
  exact lv_iinc hx hb d hl hk hv hn hl0 (fun ls' hl' => kk H locs ls' hP hS hl')
theorem l_goto (M : lM l D a b qo cy ad b0 L xs G) {off : Int} {tgt : Nat} (d : decode code pc = .ok (.goto off, 3)) (ht : (pc : Int) + off = (tgt : Int)) (kk : G σc σm f k n lv tgt st) : G σc σm f k n lv pc st := by
  obtain ⟨p, e, s, m, below, meth, c, hfl, hx, hb, hml, hown, hts, htl, hE, hD, hX, hbl, hr, hlk, hgv, rfl⟩ := M
  have hK := hE.1
  intro H locs ls hP hS hl
  exact lv_goto hx hb d ht (kk H locs ls hP hS hl)
theorem l_icmp_eq (M : lM l D a b qo cy ad b0 L xs G) {x y : Int32} {off : Int} {tgt : Nat} (d : decode code pc = .ok (.if_icmp .eq off, 3)) (ht : (pc : Int) + off = (tgt : Int)) (kt : x = y → G σc σm f k n lv tgt st) (kf : ¬ x = y → G σc σm f k n lv (pc + 3) st) : G σc σm f k n lv pc (.int y :: .int x :: st) := by
  obtain ⟨p, e, s, m, below, meth, c, hfl, hx, hb, hml, hown, hts, htl, hE, hD, hX, hbl, hr, hlk, hgv, rfl⟩ := M
  have hK := hE.1
  intro H locs ls hP hS hl
  exact lv_icmp_eq hx hb d ht (fun q => kt q H locs ls hP hS hl) (fun q => kf q H locs ls hP hS hl)
theorem l_icmp_gt (M : lM l D a b qo cy ad b0 L xs G) {x y : Int32} {off : Int} {tgt : Nat} (d : decode code pc = .ok (.if_icmp .gt off, 3)) (ht : (pc : Int) + off = (tgt : Int)) (kt : y < x → G σc σm f k n lv tgt st) (kf : ¬ y < x → G σc σm f k n lv (pc + 3) st) : G σc σm f k n lv pc (.int y :: .int x :: st) := by
  obtain ⟨p, e, s, m, below, meth, c, hfl, hx, hb, hml, hown, hts, htl, hE, hD, hX, hbl, hr, hlk, hgv, rfl⟩ := M
  have hK := hE.1
  intro H locs ls hP hS hl
  exact lv_icmp_gt hx hb d ht (fun q => kt q H locs ls hP hS hl) (fun q => kf q H locs ls hP hS hl)
theorem l_if_eq (M : lM l D a b qo cy ad b0 L xs G) {x : Int32} {off : Int} {tgt : Nat} (d : decode code pc = .ok (.ifCond .eq off, 3)) (ht : (pc : Int) + off = (tgt : Int)) (kt : x = 0 → G σc σm f k n lv tgt st) (kf : ¬ x = 0 → G σc σm f k n lv (pc + 3) st) : G σc σm f k n lv pc (.int x :: st) := by
  obtain ⟨p, e, s, m, below, meth, c, hfl, hx, hb, hml, hown, hts, htl, hE, hD, hX, hbl, hr, hlk, hgv, rfl⟩ := M
  have hK := hE.1
  intro H locs ls hP hS hl
  exact lv_if_eq hx hb d ht (fun q => kt q H locs ls hP hS hl) (fun q => kf q H locs ls hP hS hl)
theorem l_if_ne (M : lM l D a b qo cy ad b0 L xs G) {x : Int32} {off : Int} {tgt : Nat} (d : decode code pc = .ok (.ifCond .ne off, 3)) (ht : (pc : Int) + off = (tgt : Int)) (kt : ¬ x = 0 → G σc σm f k n lv tgt st) (kf : x = 0 → G σc σm f k n lv (pc + 3) st) : G σc σm f k n lv pc (.int x :: st) := by
  obtain ⟨p, e, s, m, below, meth, c, hfl, hx, hb, hml, hown, hts, htl, hE, hD, hX, hbl, hr, hlk, hgv, rfl⟩ := M
  have hK := hE.1
  intro H locs ls hP hS hl
  exact lv_if_ne hx hb d ht (fun q => kt q H locs ls hP hS hl) (fun q => kf q H locs ls hP hS hl)
theorem l_lcmp_eq (M : lM l D a b qo cy ad b0 L xs G) {x y : Int64} {off : Int} {tgt : Nat} (d : decode code pc = .ok (.lcmp, 1)) (d2 : decode code (pc + 1) = .ok (.ifCond .eq off, 3)) (ht : ((pc + 1 : Nat) : Int) + off = (tgt : Int)) (kt : x = y → G σc σm f k n lv tgt st) (kf : ¬ x = y → G σc σm f k n lv (pc + 4) st) : G σc σm f k n lv pc (.long y :: .long x :: st) := by
  obtain ⟨p, e, s, m, below, meth, c, hfl, hx, hb, hml, hown, hts, htl, hE, hD, hX, hbl, hr, hlk, hgv, rfl⟩ := M
  have hK := hE.1
  intro H locs ls hP hS hl
  exact W.lcmp hx hb d (lv_if_eq hx hb d2 ht (fun q => kt ((lg_cmp_eq x y).mp q) H locs ls hP hS hl) (fun q => kf (fun z => q ((lg_cmp_eq x y).mpr z)) H locs ls hP hS hl))
theorem l_tabIn (M : lM l D a b qo cy ad b0 L xs G) {dflt lo hi : Int} {offs : Array Int} {len : Nat} {x : Int32} {off : Int} {tgt : Nat} (d : decode code pc = .ok (.tableswitch dflt lo hi offs, len)) (h1 : ¬ x.toInt < lo) (h2 : ¬ hi < x.toInt) (ho : offs[(x.toInt - lo).toNat]? = some off) (ht : (pc : Int) + off = (tgt : Int)) (kk : G σc σm f k n lv tgt st) : G σc σm f k n lv pc (.int x :: st) := by
  obtain ⟨p, e, s, m, below, meth, c, hfl, hx, hb, hml, hown, hts, htl, hE, hD, hX, hbl, hr, hlk, hgv, rfl⟩ := M
  have hK := hE.1
  intro H locs ls hP hS hl
  exact lv_tableIn hx hb d h1 h2 ho ht (kk H locs ls hP hS hl)
theorem l_tabOut (M : lM l D a b qo cy ad b0 L xs G) {dflt lo hi : Int} {offs : Array Int} {len : Nat} {x : Int32} {tgt : Nat} (d : decode code pc = .ok (.tableswitch dflt lo hi offs, len)) (h : x.toInt < lo ∨ hi < x.toInt) (ht : (pc : Int) + dflt = (tgt : Int)) (kk : G σc σm f k n lv tgt st) : G σc σm f k n lv pc (.int x :: st) := by
  obtain ⟨p, e, s, m, below, meth, c, hfl, hx, hb, hml, hown, hts, htl, hE, hD, hX, hbl, hr, hlk, hgv, rfl⟩ := M
  have hK := hE.1
  intro H locs ls hP hS hl
  exact lv_tableOut hx hb d h ht (kk H locs ls hP hS hl)
theorem l_sub (M : lM l D a b qo cy ad b0 L xs G) (ks : List Nat) (h : lv_pick lv ks = lv') (kk : G σc σm f k n lv' pc st) : G σc σm f k n lv pc st := by
  obtain ⟨p, e, s, m, below, meth, c, hfl, hx, hb, hml, hown, hts, htl, hE, hD, hX, hbl, hr, hlk, hgv, rfl⟩ := M
  have hK := hE.1
  intro H locs ls hP hS hl
  exact kk H locs ls hP hS (lv_sub hl ks h)
theorem l_sld (M : lM l D a b qo cy ad b0 L xs G) {i : Int32} (hin : vp_in i L) (d : decode code pc = .ok (.iaload, 1)) (kk : G σc σm f k n lv (pc + 1) (.int (xs i.toNatClampNeg) :: st)) : G σc σm f k n lv pc (.int i :: .ref b0 :: st) := by
  obtain ⟨p, e, s, m, below, meth, c, hfl, hx, hb, hml, hown, hts, htl, hE, hD, hX, hbl, hr, hlk, hgv, rfl⟩ := M
  have hK := hE.1
  intro H locs ls hP hS hl
  exact va_sld hx hb hX hbl (Nat.not_le.mpr hbl) hS hin d (kk H locs ls hP hS hl)
theorem l_slen (M : lM l D a b qo cy ad b0 L xs G) (d : decode code pc = .ok (.arraylength, 1)) (kk : G σc σm f k n lv (pc + 1) (.int (nI L) :: st)) : G σc σm f k n lv pc (.ref b0 :: st) := by
  obtain ⟨p, e, s, m, below, meth, c, hfl, hx, hb, hml, hown, hts, htl, hE, hD, hX, hbl, hr, hlk, hgv, rfl⟩ := M
  have hK := hE.1
  intro H locs ls hP hS hl
  exact va_slen hx hb hX hbl (Nat.not_le.mpr hbl) hS d (kk H locs ls hP hS hl)
theorem l_ret (M : lM l D a b qo cy ad b0 L xs G) (h1 : k ≤ 601024) (h2 : n ≤ 7293033) (d : decode code pc = .ok (.ireturn, 1)) : G σc σm f k n lv pc [.int 1] := by
  obtain ⟨p, e, s, m, below, meth, c, hfl, hx, hb, hml, hown, hts, htl, hE, hD, hX, hbl, hr, hlk, hgv, rfl⟩ := M
  have hK := hE.1
  intro H locs ls hP hS hl
  refine va_forget (fun q hq => hS.2.2 q hq) ?_
  refine W.widen (k := 601024) (n := 7293033) h1 h2 ?_
  exact lw_ret hx hb hr hlk d
theorem l_run {A1 A0 : Nat → Prop} {wf : Zst → va_W} {p : Program} {e : Env} {s : State} {m : MethodId} {args : Array Value} {below : List Frame} {meth : Method} {c : Code} {Q : State → Prop} {σ1 : Zst} {ov1 : Option Value} {aa : Array Value} {rest st0 : List Value} {H : Heap} {locs : List Loc} {ls : Array Slot} (hA : ∀ q, A1 q → A0 q)
    (hr : va_Run p l e room_1 s m args below meth c H locs k n 0 0 (F0 m pc ls st0) rest (zQ D zcl wf A1 σ1 ov1 aa) A1) (hS : va_S A0 s.heap H locs)
    (kk : ∀ (H1 : Heap) (locs1 : List Loc), va_P D zcl (wf σ1) H1 → (∀ q : Nat, q < H.size → ¬ A1 q → H1[q]? = H[q]?) → va_S A0 s.heap H1 locs1 → W p l e room_1 s m args below meth c H1 locs1 k n Q (F0 m (pc + 3) ls (ov1.toList ++ rest))) : W p l e room_1 s m args below meth c H locs k n Q (F0 m pc ls st0) := by
  intro T hT X
  obtain ⟨v, st₀, t, T', L, h0, X', hL, e1, e2, ⟨⟨hv, hP1⟩, hz, hk⟩, st⟩ := hr T hT X
  cases hv
  rw [h0] at hz hk
  have hS1 : va_S A0 s.heap T'.heap (locs ++ L) := ⟨Nat.le_trans hS.1 (by rw [e1]; exact hz), fun q h1 h2 => by rw [e1, hk q (Nat.lt_of_lt_of_le h1 hS.1) (fun z => h2 (hA q z))]; exact hS.2.1 q h1 h2, fun q hq => by
      rcases List.mem_append.mp hq with h | h
      · exact hS.2.2 q h
      · exact hA _ (hL q h)⟩
  obtain ⟨t2, a1, b1⟩ := kk T'.heap (locs ++ L) (by rw [e1]; exact hP1) (fun q h1 h2 => by rw [e1]; exact hk q h1 h2) hS1 T' rfl X'
  exact ⟨t2, st t2 a1, b1⟩
theorem cW_fst (σ σ' : Zst) : (cW a cy σ).map Prod.fst = (cW a cy σ').map Prod.fst := rfl
theorem mW_fst (σ σ' : Zst) : (mW b cy ad σ).map Prod.fst = (mW b cy ad σ').map Prod.fst := rfl
theorem room1_r {n1 maxL : Nat} (h : n1 ≤ 400) (hm : maxL ≤ 45) : (zR n1).frames + 1 ≤ room_1.frames ∧ 8 + (maxL + 11) + (zR n1).locals ≤ room_1.locals := ⟨by show n1 + 1 ≤ 2048; omega, by show 8 + (maxL + 11) + 64 * n1 ≤ 84000; omega⟩
theorem l_blind {A : Nat → Prop} {wf : Zst → va_W} {av : List Value} {σ : Zst} : FrameBlind (va_Pc av (fun U => va_P D zcl (wf σ) U.heap ∧ zE D zcl (zty cy) A ad U U.heap)) := fun a U g mk q => ⟨q.1, q.2.1, zE_blind g mk a q.2.2⟩
theorem l_callC (M : lM l D a b qo cy ad b0 L xs G) {y : MethodName} {bytes : ByteArray} {maxL n1 index : Nat} {ret9 : Option FieldType} {σ1 : Zst} {ov1 : Option Value} (As : List Value) {rest : List Value} (hM : ∀ A : Nat → Prop, (∀ σ, va_D A (cW a cy σ)) → zT l D zcl (zty cy) A ad (cW a cy) y bytes maxL ret9 n1 (.ref (a 0) :: As) σc σ1 ov1) (hC : y.cls = (zcl.getD 0 ("", TX0, 0)).1) (hl9 : Cond.methodLink R_law index y ∈ uw) (hini : Cond.initialized y.cls ∈ uw) (hcode : Cond.code y bytes maxL ret9 ∈ uw) (hi : Cond.instanceMethod y ∈ uw) (hs : Cond.selects y.cls y y ∈ uw) (hd : y.cls ≠ "java/lang/invoke/MethodHandle" ∧ y.cls ≠ "java/lang/invoke/VarHandle" ∧ (parseMethodDescriptor y.desc).map (fun d => d.parameters.length) = some As.length) (hR : n1 ≤ 400) (hm : maxL ≤ 45) (hk9 : k ≤ 601024) (hn9 : n ≤ 7293033) (hst : st = As.reverse ++ .ref (a 0) :: rest) (hW : (rest.map fun v => v.category).sum ≤ 8) (d : decode code pc = .ok (.invokevirtual index, 3)) (kk : G σ1 σm f k n lv (pc + 3) (ov1.toList ++ rest)) : G σc σm f k n lv pc st := by
  obtain ⟨p, e, s, m, below, meth, c, hfl, hx, hb, hml, hown, hts, htl, hE, hD, hX, hbl, hr, hlk, hgv, rfl⟩ := M
  have hK := hE.1
  intro H locs ls hP hS hl
  have hD0 := lD_l (hD σc σm f)
  have hP0 := lP_l hP
  have hDA : ∀ σ, va_D (lA (cW a cy σc)) (cW a cy σ) := fun σ => yD_map (cW_fst σc σ) (lD_A hD0)
  have hin := lA_in hD0
  have hcell : ∃ q, zcl[0]? = some q ∧ y.cls = q.1 := ⟨_, rfl, hC⟩
  obtain ⟨q9, hq9, hy9⟩ := hcell
  have hE1 := zE_narrow hE hin
  have hS1 : va_S (lA (cW a cy σc)) H H [] := va_S.rf
  refine l_run hin (va_runV (n := As.length) ⟨hx, hb, hml, hown, hts⟩ (hM _ hDA) ⟨callB_of As.length hts (fun w hw => ⟨(uw_good hcode w hw).1, (uw_good hcode w hw).2⟩) rfl rfl rfl (hts _ hini) (hts _ hl9) hd (room1_r hR hm), hts _ hi, hts _ hs⟩ ⟨l_blind, hy9 ▸ va_recv hK hP0 hq9 (hC0 σc), fun U hU hW => ⟨rfl, by rw [hU]; exact hP0, zE_narrow (zE_call hW hU hS hE) hin⟩⟩ rfl rfl hl.1 hst (lv_room hW) d ⟨hk9, hn9⟩) hS (fun H1 locs1 hP1 hk1 hS1 => ?_)
  have hkeep : ∀ (i : Nat) (z : Nat × va_E), (lW a b qo cy ad σc σm f)[i]? = some z → ¬ lA (cW a cy σc) z.1 → H1[z.1]? = H[z.1]? := fun i z hz hn => hk1 z.1 ((hP i z hz).lt) hn
  refine kk H1 locs1 ls (va_P.app hP1 (va_P.kept (lP_r hP) (fun i z hz => ?_))) hS1 hl
  exact hkeep ((cW a cy σc).length + i) z (by show (cW a cy σc ++ _)[_]? = _; rw [y_ix]; exact hz) (fun ⟨j, e9, hj⟩ => lD_x (hD σc σm f) hj hz rfl)
theorem l_callM (M : lM l D a b qo cy ad b0 L xs G) {y : MethodName} {bytes : ByteArray} {maxL n1 index : Nat} {ret9 : Option FieldType} {σ1 : Zst} {ov1 : Option Value} (As : List Value) {rest : List Value} (hM : ∀ A : Nat → Prop, (∀ σ, va_D A (mW b cy ad σ)) → zT l D zcl (zty cy) A ad (mW b cy ad) y bytes maxL ret9 n1 (.ref (b 0) :: As) σm σ1 ov1) (hC : y.cls = (zcl.getD 11 ("", TX0, 0)).1) (hl9 : Cond.methodLink R_law index y ∈ uw) (hini : Cond.initialized y.cls ∈ uw) (hcode : Cond.code y bytes maxL ret9 ∈ uw) (hi : Cond.instanceMethod y ∈ uw) (hs : Cond.selects y.cls y y ∈ uw) (hd : y.cls ≠ "java/lang/invoke/MethodHandle" ∧ y.cls ≠ "java/lang/invoke/VarHandle" ∧ (parseMethodDescriptor y.desc).map (fun d => d.parameters.length) = some As.length) (hR : n1 ≤ 400) (hm : maxL ≤ 45) (hk9 : k ≤ 601024) (hn9 : n ≤ 7293033) (hst : st = As.reverse ++ .ref (b 0) :: rest) (hW : (rest.map fun v => v.category).sum ≤ 8) (d : decode code pc = .ok (.invokevirtual index, 3)) (kk : G σc σ1 f k n lv (pc + 3) (ov1.toList ++ rest)) : G σc σm f k n lv pc st := by
  obtain ⟨p, e, s, m, below, meth, c, hfl, hx, hb, hml, hown, hts, htl, hE, hD, hX, hbl, hr, hlk, hgv, rfl⟩ := M
  have hK := hE.1
  intro H locs ls hP hS hl
  have hD0 := lD_l (lD_r (hD σc σm f))
  have hP0 := lP_l (lP_r hP)
  have hDA : ∀ σ, va_D (lA (mW b cy ad σm)) (mW b cy ad σ) := fun σ => yD_map (mW_fst σm σ) (lD_A hD0)
  have hin := lA_in hD0
  have hcell : ∃ q, zcl[11]? = some q ∧ y.cls = q.1 := ⟨_, rfl, hC⟩
  obtain ⟨q9, hq9, hy9⟩ := hcell
  have hE1 := zE_narrow hE hin
  have hS1 : va_S (lA (mW b cy ad σm)) H H [] := va_S.rf
  refine l_run hin (va_runV (n := As.length) ⟨hx, hb, hml, hown, hts⟩ (hM _ hDA) ⟨callB_of As.length hts (fun w hw => ⟨(uw_good hcode w hw).1, (uw_good hcode w hw).2⟩) rfl rfl rfl (hts _ hini) (hts _ hl9) hd (room1_r hR hm), hts _ hi, hts _ hs⟩ ⟨l_blind, hy9 ▸ va_recv hK hP0 hq9 (hM0 σm), fun U hU hW => ⟨rfl, by rw [hU]; exact hP0, zE_narrow (zE_call hW hU hS hE) hin⟩⟩ rfl rfl hl.1 hst (lv_room hW) d ⟨hk9, hn9⟩) hS (fun H1 locs1 hP1 hk1 hS1 => ?_)
  have hkeep : ∀ (i : Nat) (z : Nat × va_E), (lW a b qo cy ad σc σm f)[i]? = some z → ¬ lA (mW b cy ad σm) z.1 → H1[z.1]? = H[z.1]? := fun i z hz hn => hk1 z.1 ((hP i z hz).lt) hn
  refine kk H1 locs1 ls (va_P.app (va_P.kept (lP_l hP) (fun i z hz => ?_)) (va_P.app hP1 (va_P.kept (lP_r (lP_r hP)) (fun i z hz => ?_)))) hS1 hl
  · exact hkeep i z (by show (cW a cy σc ++ _)[_]? = _; rw [List.getElem?_append_left (List.getElem?_eq_some_iff.mp hz).1]; exact hz) (fun ⟨j, e9, hj⟩ => lD_x (hD σc σm f) hz (show (mW b cy ad σm ++ [(qo, (.inl (cy.2.1, 1, .inr (.inl f)) : va_E))])[j]? = some (z.1, e9) by rw [List.getElem?_append_left (List.getElem?_eq_some_iff.mp hj).1]; exact hj) rfl)
  · exact hkeep ((cW a cy σc).length + ((mW b cy ad σm).length + i)) z (by show (cW a cy σc ++ _)[_]? = _; rw [y_ix]; rw [y_ix]; exact hz) (fun ⟨j, e9, hj⟩ => lD_x (lD_r (hD σc σm f)) hj hz rfl)
end LR
