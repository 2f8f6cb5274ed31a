theorem y_ix {X Y : va_W} {k : Nat} : (X ++ Y)[X.length + k]? = Y[k]? := by
  rw [List.getElem?_append_right (Nat.le_add_right _ _), Nat.add_sub_cancel_left]
theorem y_set {X Y : va_W} {k : Nat} {v : Nat × va_E} : (X ++ Y).set (X.length + k) v = X ++ Y.set k v := by
  rw [List.set_append_right _ _ (Nat.le_add_right _ _), Nat.add_sub_cancel_left]
def yE (D : va_G) (cy : ClassId × (ClassId × (ClassId × ClassId))) (A : Nat → Prop) (ad : (Nat → Nat) × (Nat → Nat)) (U : State) (H : Heap) : Prop := zE D zcl (zty cy) A ad U H ∧ ∀ a : Array Value, (Cond.arrayOver (.array .int)).before a U = true
theorem yE_call {D : va_G} {cy : ClassId × (ClassId × (ClassId × ClassId))} {A : Nat → Prop} {ad : (Nat → Nat) × (Nat → Nat)} {s U : State} {H : Heap} {locs : List Loc} (hW : s.WarmedH U.vm) (hU : U.heap = H) (hS : va_S A s.heap H locs) (h : yE D cy A ad s s.heap) : yE D cy A ad U U.heap := ⟨zE_call hW hU hS h.1, fun a => Jvm.Stand.arrayOver_alikeB hW.alike (h.2 a)⟩
theorem yE_blind {D : va_G} {cy : ClassId × (ClassId × (ClassId × ClassId))} {A : Nat → Prop} {ad : (Nat → Nat) × (Nat → Nat)} {U : State} (g : JFrame) (mk : MethodId) (a : Array Value) (h : yE D cy A ad U U.heap) : yE D cy A ad (U.calling g mk a) (U.calling g mk a).heap := ⟨zE_blind g mk a h.1, fun b => Jvm.Stand.arrayOver_alikeB (s := U) (U := U.calling g mk a) (Vm.Alike.refl U.vm) (h.2 b)⟩
theorem y_arr {c : ClassId} {N : Nat} {f g : Nat → Value} (h : ∀ j, j < N → f j = g j) : arrV c N f = arrV c N g := by
  unfold arrV
  rw [show (fun j : Fin N => f j.val) = (fun j : Fin N => g j.val) from funext fun j => h j.val j.isLt]
theorem yD_map {A : Nat → Prop} {ws ws' : va_W} (h : ws.map Prod.fst = ws'.map Prod.fst) (hD : va_D A ws) : va_D A ws' := by
  have key : ∀ (i : Nat) (p : Nat × va_E), ws'[i]? = some p → ∃ p0, ws[i]? = some p0 ∧ p0.1 = p.1 := by
    intro i p hp
    have h1 : (ws'.map Prod.fst)[i]? = some p.1 := by rw [List.getElem?_map, hp]; rfl
    rw [← h, List.getElem?_map] at h1
    cases h2 : ws[i]? with
    | none => rw [h2] at h1; cases h1
    | some p0 => rw [h2] at h1; exact ⟨p0, rfl, Option.some.inj h1⟩
  refine ⟨fun i j p q hp hq e => ?_, fun k q hq => ?_⟩
  · obtain ⟨p0, hp0, ep⟩ := key i p hp
    obtain ⟨q0, hq0, eq⟩ := key j q hq
    exact hD.1 i j p0 q0 hp0 hq0 (ep.trans (e.trans eq.symm))
  · obtain ⟨q0, hq0, eq⟩ := key k q hq
    rw [← eq]
    exact hD.2 k q0 hq0
def yR (d mc ms : Nat) : Room := { frames := d, cells := mc, slots := ms, locals := 64 * d }
def yQ (D : va_G) (A : Nat → Prop) (Wo : va_W → Prop) : Array Value → State → Outcome → State → Prop := fun _ st oc t => (oc = .returned none ∧ ∃ ws, Wo ws ∧ va_P D zcl ws t.heap ∧ va_D A ws) ∧ va_F A st t
/-- the contract of a constructor: over a world ws, places from N0 on are free; behind it a world of Wo -/
def yT (l : Launch) (D : va_G) (cy : ClassId × (ClassId × (ClassId × ClassId))) (ad : (Nat → Nat) × (Nat → Nat)) (N0 : Nat) (y : MethodName) (cc : ByteArray) (nL d mc ms : Nat) (av : List Value) (ws : va_W) (Wo : va_W → Prop) : Prop :=
  Met l y (Cond.code y cc nL none :: uw) (yR d mc ms) (va_Pc av (fun U => (N0 ≤ U.heap.size ∧ va_P D zcl ws U.heap) ∧ yE D cy (fun q => N0 ≤ q) ad U U.heap)) (yQ D (fun q => N0 ≤ q) Wo) mc ms (fun q => N0 ≤ q)
def yC (l : Launch) (D : va_G) (A : Nat → Prop) (R : Room) (nL : Nat) (p : Program) (e : Env) (s : State) (m : MethodId) (args : Array Value) (below : List Frame) (meth : Method) (c : Code) (Q : State → Prop) (ws : va_W) (k n : Nat) (lv : List (Nat × Value)) (pc : Nat) (st : List Value) : Prop :=
  ∀ (H : Heap) (locs : List Loc) (ls : Array Slot), va_P D zcl ws H → va_D A ws → va_S A s.heap H locs → lv_has ls nL lv → W p l e R s m args below meth c H locs k n Q (F0 m pc ls st)
def yM (l : Launch) (D : va_G) (cy : ClassId × (ClassId × (ClassId × ClassId))) (A : Nat → Prop) (ad : (Nat → Nat) × (Nat → Nat)) (R : Room) (own : String) (cc : ByteArray) (nL mc ms : Nat) (Wo : va_W → Prop) (G : va_W → Nat → Nat → List (Nat × Value) → Nat → List Value → Prop) : Prop :=
  ∃ (p : Program) (e : Env) (s : State) (m : MethodId) (args : Array Value) (below : List Frame) (meth : Method) (c : Code), p.tables.exec = Jvm.exec ∧ c.code = cc ∧ c.maxLocals = nL ∧ s.vm.findClass own = some m.cls ∧ (∀ w ∈ uw, w.before args s = true) ∧ yE D cy A ad s s.heap ∧ (∀ q, s.heap.size ≤ q → A q) ∧ meth.sig.returnType = none ∧ meth.locks = false ∧ meth.name = "<init>" ∧ G = yC l D A R nL p e s m args below meth c (MQ below (yQ D A Wo) args s mc ms A)
theorem y_ty {D : va_G} {cy : ClassId × (ClassId × (ClassId × ClassId))} {U : State} {cA : ClassId} {ty : FieldType} {i : Nat} {c0 : ClassId} (h0 : (zty cy)[i]? = some (c0, ty)) (ho : ∀ C, ty ≠ .object C) (h : va_K D zcl (zty cy ++ [(cA, ty)]) U) : cA = c0 := by
  have h1 := (h.2 4 (cA, ty) (by rfl)).2
  have hi : i < (zty cy).length := (List.getElem?_eq_some_iff.mp h0).1
  have h2 := (h.2 i (c0, ty) (by rw [List.getElem?_append_left hi]; exact h0)).2
  cases ty with
  | object C => exact absurd rfl (ho C)
  | _ => exact Option.some.inj (h1.symm.trans h2)
section YR
variable {l : Launch} {D : va_G} {A : Nat → Prop} {ad : (Nat → Nat) × (Nat → Nat)} {cy : ClassId × (ClassId × (ClassId × ClassId))} {R : Room} {own : String} {cc : ByteArray} {nL mc ms : Nat} {Wo : va_W → Prop} {G : va_W → Nat → Nat → List (Nat × Value) → Nat → List Value → Prop}
variable {X Y : va_W} {k n : Nat} {lv lv' : List (Nat × Value)} {pc : Nat} {st : List Value}
theorem y_iconst (M : yM l D cy A ad R own cc nL mc ms Wo G) {ws : va_W} {j : Int} {v : Int32} (d : decode cc pc = .ok (.iconst j, 1)) (hv : Int32.ofInt j = v) (kk : G ws k n lv (pc + 1) (.int v :: st)) : G ws k n lv pc (st) := by
  obtain ⟨p, e, s, m, args, below, meth, c, hx, hb, hml, hown, hts, hE, hA, hr, hlk, hin9, rfl⟩ := M
  have hK := hE.1.1
  intro H locs ls hP hD hS hl
  exact lv_iconst hx hb d hv (kk H locs ls hP hD hS hl)
theorem y_bipush (M : yM l D cy A ad R own cc nL mc ms Wo G) {ws : va_W} {j : Int} {v : Int32} (d : decode cc pc = .ok (.bipush j, 2)) (hv : (Int8.ofInt j).toInt32 = v) (kk : G ws k n lv (pc + 2) (.int v :: st)) : G ws k n lv pc (st) := by
  obtain ⟨p, e, s, m, args, below, meth, c, hx, hb, hml, hown, hts, hE, hA, hr, hlk, hin9, rfl⟩ := M
  have hK := hE.1.1
  intro H locs ls hP hD hS hl
  exact lv_bipush hx hb d hv (kk H locs ls hP hD hS hl)
theorem y_sipush (M : yM l D cy A ad R own cc nL mc ms Wo G) {ws : va_W} {j : Int} {v : Int32} (d : decode cc pc = .ok (.sipush j, 3)) (hv : (Int16.ofInt j).toInt32 = v) (kk : G ws k n lv (pc + 3) (.int v :: st)) : G ws k n lv pc (st) := by
  obtain ⟨p, e, s, m, args, below, meth, c, hx, hb, hml, hown, hts, hE, hA, hr, hlk, hin9, rfl⟩ := M
  have hK := hE.1.1
  intro H locs ls hP hD hS hl
  exact lv_sipush hx hb d hv (kk H locs ls hP hD hS hl)
theorem y_aload_n (M : yM l D cy A ad R own cc nL mc ms Wo G) {ws : va_W} {t : Fin 4} {i : Nat} {x : Nat} (d : decode cc pc = .ok (.aload_n t, 1)) (hi : (t : Nat) = i) (j : Nat) (hj : lv[j]? = some (i, .ref x)) (kk : G ws k n lv (pc + 1) (.ref x :: st)) : G ws k n lv pc (st) := by
  obtain ⟨p, e, s, m, args, below, meth, c, hx, hb, hml, hown, hts, hE, hA, hr, hlk, hin9, rfl⟩ := M
  have hK := hE.1.1
  intro H locs ls hP hD hS hl
  exact lv_aload_n hx hb d hi (lv_at hl j hj) (kk H locs ls hP hD hS hl)
theorem y_iload_n (M : yM l D cy A ad R own cc nL mc ms Wo G) {ws : va_W} {t : Fin 4} {i : Nat} {x : Int32} (d : decode cc pc = .ok (.iload_n t, 1)) (hi : (t : Nat) = i) (j : Nat) (hj : lv[j]? = some (i, .int x)) (kk : G ws k n lv (pc + 1) (.int x :: st)) : G ws k n lv pc (st) := by
  obtain ⟨p, e, s, m, args, below, meth, c, hx, hb, hml, hown, hts, hE, hA, hr, hlk, hin9, rfl⟩ := M
  have hK := hE.1.1
  intro H locs ls hP hD hS hl
  exact lv_iload_n hx hb d hi (lv_at hl j hj) (kk H locs ls hP hD hS hl)
theorem y_dup (M : yM l D cy A ad R own cc nL mc ms Wo G) {ws : va_W} {v : Value} (d : decode cc pc = .ok (.dup, 1)) (h1 : v.category = 1) (kk : G ws k n lv (pc + 1) (v :: v :: st)) : G ws k n lv pc (v :: st) := by
  obtain ⟨p, e, s, m, args, below, meth, c, hx, hb, hml, hown, hts, hE, hA, hr, hlk, hin9, rfl⟩ := M
  have hK := hE.1.1
  intro H locs ls hP hD hS hl
  exact lv_dup hx hb d h1 (kk H locs ls hP hD hS hl)
theorem y_istore_n (M : yM l D cy A ad R own cc nL mc ms Wo G) {ws : va_W} {t : Fin 4} {i : Nat} {x : Int32} (d : decode cc pc = .ok (.istore_n t, 1)) (hi : (t : Nat) = i) (hn : i < nL) (hl0 : (i, Value.int x) :: lv.filter (fun q => !(q.1 == i) && !(q.1 + 1 == i && q.2.category == 2)) = lv') (kk : G ws k n lv' (pc + 1) (st)) : G ws k n lv pc (.int x :: st) := by
  obtain ⟨p, e, s, m, args, below, meth, c, hx, hb, hml, hown, hts, hE, hA, hr, hlk, hin9, rfl⟩ := M
  have hK := hE.1.1
  intro H locs ls hP hD hS hl
  exact lv_istore_n hx hb d hi hl hn hl0 (fun ls' hl' => kk H locs ls' hP hD hS hl')
theorem y_iinc (M : yM l D cy A ad R own cc nL mc ms Wo G) {ws : va_W} {i t : Nat} {j : Int} {x v : Int32} (d : decode cc pc = .ok (.iinc i j, 3)) (hk : lv[t]? = some (i, .int x)) (hv : x + Int32.ofInt j = v) (hn : i < nL) (hl0 : (i, Value.int v) :: lv.filter (fun q => !(q.1 == i) && !(q.1 + 1 == i && q.2.category == 2)) = lv') (kk : G ws k n lv' (pc + 3) (st)) : G ws k n lv pc (st) := by
  obtain ⟨p, e, s, m, args, below, meth, c, hx, hb, hml, hown, hts, hE, hA, hr, hlk, hin9, rfl⟩ := M
  have hK := hE.1.1
  intro H locs ls hP hD hS hl
  exact lv_iinc hx hb d hl hk hv hn hl0 (fun ls' hl' => kk H locs ls' hP hD hS hl')
theorem y_goto (M : yM l D cy A ad R own cc nL mc ms Wo G) {ws : va_W} {off : Int} {tgt : Nat} (d : decode cc pc = .ok (.goto off, 3)) (ht : (pc : Int) + off = (tgt : Int)) (kk : G ws k n lv tgt st) : G ws k n lv pc st := by
  obtain ⟨p, e, s, m, args, below, meth, c, hx, hb, hml, hown, hts, hE, hA, hr, hlk, hin9, rfl⟩ := M
  have hK := hE.1.1
  intro H locs ls hP hD hS hl
  exact lv_goto hx hb d ht (kk H locs ls hP hD hS hl)
theorem y_icmp_ge (M : yM l D cy A ad R own cc nL mc ms Wo G) {ws : va_W} {x y : Int32} {off : Int} {tgt : Nat} (d : decode cc pc = .ok (.if_icmp .ge off, 3)) (ht : (pc : Int) + off = (tgt : Int)) (kt : y ≤ x → G ws k n lv tgt st) (kf : ¬ y ≤ x → G ws k n lv (pc + 3) st) : G ws k n lv pc (.int y :: .int x :: st) := by
  obtain ⟨p, e, s, m, args, below, meth, c, hx, hb, hml, hown, hts, hE, hA, hr, hlk, hin9, rfl⟩ := M
  have hK := hE.1.1
  intro H locs ls hP hD hS hl
  exact lv_icmp_ge hx hb d ht (fun q => kt q H locs ls hP hD hS hl) (fun q => kf q H locs ls hP hD hS hl)
theorem y_widen (M : yM l D cy A ad R own cc nL mc ms Wo G) {ws : va_W} {k1 n1 : Nat} (h1 : k ≤ k1) (h2 : n ≤ n1) (kk : G ws k1 n1 lv pc st) : G ws k n lv pc st := by
  obtain ⟨p, e, s, m, args, below, meth, c, hx, hb, hml, hown, hts, hE, hA, hr, hlk, hin9, rfl⟩ := M
  have hK := hE.1.1
  intro H locs ls hP hD hS hl
  exact W.widen h1 h2 (kk H locs ls hP hD hS hl)
theorem y_objInit {d mc9 ms9 : Nat} (M : yM l D cy A ad (yR (d + 1) mc9 ms9) own cc nL mc ms Wo G) {ws : va_W} {a idx : Nat} (h1 : Cond.methodLink own idx Lib.objectInit ∈ uw) (h2 : Cond.instanceMethod Lib.objectInit ∈ uw) (h3 : Cond.code Lib.objectInit ⟨#[0xb1]⟩ 1 none ∈ uw) (hW : (st.map fun v => v.category).sum ≤ 8) (dd : decode cc pc = .ok (.invokespecial idx, 3)) (kk : G ws k n lv (pc + 3) st) : G ws k n lv pc (.ref a :: st) := by
  obtain ⟨p, e, s, m, args, below, meth, c, hx, hb, hml, hown, hts, hE, hA, hr, hlk, hin9, rfl⟩ := M
  have hK := hE.1.1
  intro H locs ls hP hD hS hl
  have h9 := lv_room (m := m) (pc := pc) (ls := ls) (rest := .ref a :: st) (st := st) hW
  exact W.objInit hx hb hown (hts _ h1) (hts _ h2) (hts _ h3) rfl (by rw [hml]; exact hl.1) rfl dd (Nat.le_add_left 1 d) (by show _ ≤ 64 * (d + 1); omega) (kk H locs ls hP hD hS hl)
theorem y_newaI (M : yM l D cy A ad R own cc nL mc ms Wo G) {ws : va_W} {v : Int32} {N : Nat} (harr : Cond.arrayClass .int ∈ uw) (hn : ¬ v < 0) (hN : v.toNatClampNeg = N) (hb9 : N * 8 ≤ 536870912) (hc : k + 1 ≤ R.cells) (hs : n + N ≤ R.slots) (d : decode cc pc = .ok (.newarray .int, 2)) (kk : ∀ q : Nat, G (ws ++ [(q, .inl (cy.1, N, .inl (fun _ => 0)))]) (k + 1) (n + N) lv (pc + 2) (.ref q :: st)) : G ws k n lv pc (.int v :: st) := by
  obtain ⟨p, e, s, m, args, below, meth, c, hx, hb, hml, hown, hts, hE, hA, hr, hlk, hin9, rfl⟩ := M
  have hK := hE.1.1
  intro H locs ls hP hD hS hl
  refine va_newa (atype := .int) (ty := .int) (N' := N) (a0 := (N, .inl (fun _ => 0))) hx hb (hts _ harr) rfl hK hP hD hS hA (fun cA => rfl) hn hN (Nat.le_trans (Nat.mul_le_mul_left N (by decide)) hb9) hc hs d (fun q cA H1 hK1 hP1 hD1 hS1 => ?_)
  have e := y_ty (cy := cy) (i := 0) (c0 := cy.1) rfl (fun C q => by cases q) hK1
  subst e
  exact kk q H1 locs ls hP1 hD1 hS1 hl
theorem y_newaJ (M : yM l D cy A ad R own cc nL mc ms Wo G) {ws : va_W} {v : Int32} {N : Nat} (harr : Cond.arrayClass .long ∈ uw) (hn : ¬ v < 0) (hN : v.toNatClampNeg = N) (hb9 : N * 8 ≤ 536870912) (hc : k + 1 ≤ R.cells) (hs : n + N ≤ R.slots) (d : decode cc pc = .ok (.newarray .long, 2)) (kk : ∀ q : Nat, G (ws ++ [(q, .inl (cy.2.1, N, .inr (.inl (fun _ => 0))))]) (k + 1) (n + N) lv (pc + 2) (.ref q :: st)) : G ws k n lv pc (.int v :: st) := by
  obtain ⟨p, e, s, m, args, below, meth, c, hx, hb, hml, hown, hts, hE, hA, hr, hlk, hin9, rfl⟩ := M
  have hK := hE.1.1
  intro H locs ls hP hD hS hl
  refine va_newa (atype := .long) (ty := .long) (N' := N) (a0 := (N, .inr (.inl (fun _ => 0)))) hx hb (hts _ harr) rfl hK hP hD hS hA (fun cA => rfl) hn hN (Nat.le_trans (Nat.mul_le_mul_left N (by decide)) hb9) hc hs d (fun q cA H1 hK1 hP1 hD1 hS1 => ?_)
  have e := y_ty (cy := cy) (i := 1) (c0 := cy.2.1) rfl (fun C q => by cases q) hK1
  subst e
  exact kk q H1 locs ls hP1 hD1 hS1 hl
theorem y_newaZ (M : yM l D cy A ad R own cc nL mc ms Wo G) {ws : va_W} {v : Int32} {N : Nat} (harr : Cond.arrayClass .boolean ∈ uw) (hn : ¬ v < 0) (hN : v.toNatClampNeg = N) (hb9 : N * 8 ≤ 536870912) (hc : k + 1 ≤ R.cells) (hs : n + N ≤ R.slots) (d : decode cc pc = .ok (.newarray .boolean, 2)) (kk : ∀ q : Nat, G (ws ++ [(q, .inl (cy.2.2.1, N, .inl (fun _ => 0)))]) (k + 1) (n + N) lv (pc + 2) (.ref q :: st)) : G ws k n lv pc (.int v :: st) := by
  obtain ⟨p, e, s, m, args, below, meth, c, hx, hb, hml, hown, hts, hE, hA, hr, hlk, hin9, rfl⟩ := M
  have hK := hE.1.1
  intro H locs ls hP hD hS hl
  refine va_newa (atype := .boolean) (ty := .boolean) (N' := N) (a0 := (N, .inl (fun _ => 0))) hx hb (hts _ harr) rfl hK hP hD hS hA (fun cA => rfl) hn hN (Nat.le_trans (Nat.mul_le_mul_left N (by decide)) hb9) hc hs d (fun q cA H1 hK1 hP1 hD1 hS1 => ?_)
  have e := y_ty (cy := cy) (i := 2) (c0 := cy.2.2.1) rfl (fun C q => by cases q) hK1
  subst e
  exact kk q H1 locs ls hP1 hD1 hS1 hl
theorem y_new (M : yM l D cy A ad R own cc nL mc ms Wo G) {ws : va_W} {C : String} {T : u_T} {N ci index : Nat} (hin : ∀ w ∈ u_ws C T N, w ∈ uw) (ty : Nat → FieldType) (hty : ∀ k, k < N → parseFieldDescriptor (T k).2.2.1 = some (ty k)) (hcl : Cond.classLink own index C ∈ uw) (hinst : Cond.instantiable C N ∈ uw) (hini : Cond.initialized C ∈ uw) (hc : zcl[ci]? = some (C, T, N)) {fs : List Value} (hfs : ∀ j, j < N → defaultValue (ty j) = vp_V fs j) (h1 : k + 1 ≤ R.cells) (h2 : n + N ≤ R.slots) (d : decode cc pc = .ok (.new index, 3)) (kk : ∀ q : Nat, G (ws ++ [(q, .inr (ci, fs))]) (k + 1) (n + N) lv (pc + 3) (.ref q :: st)) : G ws k n lv pc st := by
  obtain ⟨p, e, s, m, args, below, meth, c, hx, hb, hml, hown, hts, hE, hA, hr, hlk, hin9, rfl⟩ := M
  have hK := hE.1.1
  intro H locs ls hP hD hS hl
  exact va_new hx hb hts hin ty hty hown (hts _ hcl) (hts _ hinst) (hts _ hini) hK hP hD hS hA hc hfs h1 h2 d (fun q H1 hP1 hD1 hS1 => kk q H1 locs ls hP1 hD1 hS1 hl)
theorem y_getf (M : yM l D cy A ad R own cc nL mc ms Wo G) {ref C : String} {T : u_T} {N ci index : Nat} (hin : ∀ w ∈ u_ws C T N, w ∈ uw) (q0 : Nat) {a : Nat} {fs : List Value} (he : Y[q0]? = some (a, .inr (ci, fs))) (hc : zcl[ci]? = some (C, T, N)) (t : Nat) (hk : t < N) (hlink : Cond.fieldLink own index ref (T t).2.1 (T t).2.2.1 ∈ uw) (hsame : ref = (T t).1) {v : Value} (hv : fs[t]? = some v) (d : decode cc pc = .ok (.getfield index, 3)) (kk : G (X ++ Y) k n lv (pc + 3) (v :: st)) : G (X ++ Y) k n lv pc (.ref a :: st) := by
  obtain ⟨p, e, s, m, args, below, meth, c, hx, hb, hml, hown, hts, hE, hA, hr, hlk, hin9, rfl⟩ := M
  have hK := hE.1.1
  intro H locs ls hP hD hS hl
  exact va_get hx hb hts hin hown hK hP (X.length + q0) (y_ix.trans he) hc t hk (hts _ hlink) (fun _ h9 => by rw [hsame]; exact h9) hv d (kk H locs ls hP hD hS hl)
theorem y_putF (M : yM l D cy A ad R own cc nL mc ms Wo G) {ref C : String} {T : u_T} {N ci index : Nat} (hin : ∀ w ∈ u_ws C T N, w ∈ uw) (ty0 : Nat → FieldType) (hty : ∀ k, k < N → parseFieldDescriptor (T k).2.2.1 = some (ty0 k)) (hnm : ∀ a, a < N → ∀ b, b < N → a ≠ b → (T a).2.1 ≠ (T b).2.1) (q0 : Nat) {a : Nat} {fs : List Value} (he : Y[q0]? = some (a, .inr (ci, fs))) (hc : zcl[ci]? = some (C, T, N)) (t : Nat) (hk : t < N) (hlink : Cond.fieldLink own index ref (T t).2.1 (T t).2.2.1 ∈ uw) (hsame : ref = (T t).1) (hfin : (T t).2.2.2 = true) (hdecl : (T t).1 = own) {ty : FieldType} {v : Value} (hd : parseFieldDescriptor (T t).2.2.1 = some ty) (hn : narrow ty v = v) (hfit : fits ty v = true) (hl9 : t < fs.length) {Y' : va_W} (hY : Y.set q0 (a, .inr (ci, fs.set t v)) = Y') (d : decode cc pc = .ok (.putfield index, 3)) (kk : G (X ++ Y') k n lv (pc + 3) st) : G (X ++ Y) k n lv pc (v :: .ref a :: st) := by
  obtain ⟨p, e, s, m, args, below, meth, c, hx, hb, hml, hown, hts, hE, hA, hr, hlk, hin9, rfl⟩ := M
  have hK := hE.1.1
  intro H locs ls hP hD hS hl
  subst hY
  exact va_putF hx hb hts hin ty0 hty hnm hown hK hP hD hS (X.length + q0) (y_ix.trans he) hc t hk (hts _ hlink) (fun _ h9 => by rw [hsame]; exact h9) hfin hin9 hdecl hd hn hfit hl9 d (fun H1 locs1 hP1 hD1 hS1 => kk H1 locs1 ls (y_set ▸ hP1) (y_set ▸ hD1) hS1 hl)
theorem y_put (M : yM l D cy A ad R own cc nL mc ms Wo G) {ref C : String} {T : u_T} {N ci index : Nat} (hin : ∀ w ∈ u_ws C T N, w ∈ uw) (ty0 : Nat → FieldType) (hty : ∀ k, k < N → parseFieldDescriptor (T k).2.2.1 = some (ty0 k)) (hnm : ∀ a, a < N → ∀ b, b < N → a ≠ b → (T a).2.1 ≠ (T b).2.1) (q0 : Nat) {a : Nat} {fs : List Value} (he : Y[q0]? = some (a, .inr (ci, fs))) (hc : zcl[ci]? = some (C, T, N)) (t : Nat) (hk : t < N) (hlink : Cond.fieldLink own index ref (T t).2.1 (T t).2.2.1 ∈ uw) (hsame : ref = (T t).1) (hfin : (T t).2.2.2 = false) {ty : FieldType} {v : Value} (hd : parseFieldDescriptor (T t).2.2.1 = some ty) (hn : narrow ty v = v) (hfit : fits ty v = true) (hl9 : t < fs.length) {Y' : va_W} (hY : Y.set q0 (a, .inr (ci, fs.set t v)) = Y') (d : decode cc pc = .ok (.putfield index, 3)) (kk : G (X ++ Y') k n lv (pc + 3) st) : G (X ++ Y) k n lv pc (v :: .ref a :: st) := by
  obtain ⟨p, e, s, m, args, below, meth, c, hx, hb, hml, hown, hts, hE, hA, hr, hlk, hin9, rfl⟩ := M
  have hK := hE.1.1
  intro H locs ls hP hD hS hl
  subst hY
  exact va_put hx hb hts hin ty0 hty hnm hown hK hP hD hS (X.length + q0) (y_ix.trans he) hc t hk (hts _ hlink) (fun _ h9 => by rw [hsame]; exact h9) hfin hd hn hfit hl9 d (fun H1 locs1 hP1 hD1 hS1 => kk H1 locs1 ls (y_set ▸ hP1) (y_set ▸ hD1) hS1 hl)
theorem y_iast (M : yM l D cy A ad R own cc nL mc ms Wo G) (q0 : Nat) {a N : Nat} {f : Nat → Int32} (he : Y[q0]? = some (a, .inl (cy.1, N, .inl f))) {i x : Int32} (hin : vp_in i N) {Y' : va_W} (hY : Y.set q0 (a, .inl (cy.1, N, .inl (upd f i.toNatClampNeg x))) = Y') (d : decode cc pc = .ok (.iastore, 1)) (kk : G (X ++ Y') k n lv (pc + 1) st) : G (X ++ Y) k n lv pc (.int x :: .int i :: .ref a :: st) := by
  obtain ⟨p, e, s, m, args, below, meth, c, hx, hb, hml, hown, hts, hE, hA, hr, hlk, hin9, rfl⟩ := M
  have hK := hE.1.1
  intro H locs ls hP hD hS hl
  subst hY
  exact va_iast hx hb hK hP hD hS (X.length + q0) 0 (y_ix.trans he) rfl hin d (fun H1 locs1 hP1 hD1 hS1 => kk H1 locs1 ls (y_set ▸ hP1) (y_set ▸ hD1) hS1 hl)
theorem y_vret {ws : va_W} (M : yM l D cy A ad R own cc nL mc ms Wo G) (hW : Wo ws) (d : decode cc pc = .ok (.return_, 1)) : G ws mc ms lv pc [] := by
  obtain ⟨p, e, s, m, args, below, meth, c, hx, hb, hml, hown, hts, hE, hA, hr, hlk, hin9, rfl⟩ := M
  have hK := hE.1.1
  intro H locs ls hP hD hS hl
  exact W.vret hx hb hr (fun t ht hW9 => ⟨⟨rfl, ws, hW, by rw [ht]; exact hP, hD⟩, hS.F ht⟩) hS.2.2 d hlk
theorem y_multi (M : yM l D cy A ad R own cc nL mc ms Wo G) {ws : va_W} {index : Nat} (hcl : Cond.classLink own index "[[I" ∈ uw) (harr : Cond.arrayClass .int ∈ uw) {v w : Int32} {K9 : Nat} (hv : v = 3) (hw0 : ¬ w < 0) (hK9 : w.toNatClampNeg = K9) (hb9 : K9 * 4 ≤ 536870912) (hc : k + (1 + 3) ≤ R.cells) (hs : n + (3 + 3 * K9) ≤ R.slots) (d : decode cc pc = .ok (.multianewarray index 2, 4)) (kk : ∀ q r0 r1 r2 : Nat, G (ws ++ [(q, .inl (cy.2.2.2, 3, .inr (.inr (.inr (.inr (fun i => if i = 0 then some r0 else if i = 1 then some r1 else some r2)))))), (r0, .inl (cy.1, K9, .inl (fun _ => 0))), (r1, .inl (cy.1, K9, .inl (fun _ => 0))), (r2, .inl (cy.1, K9, .inl (fun _ => 0)))]) (k + 1 + 3) (n + 3 + 3 * K9) lv (pc + 4) (.ref q :: st)) : G ws k n lv pc (.int w :: .int v :: st) := by
  obtain ⟨p, e, s, m, args, below, meth, c, hx, hb, hml, hown, hts, hE, hA, hr, hlk, hin9, rfl⟩ := M
  have hK := hE.1.1
  intro H locs ls hP hD hS hl
  have hcy : s.vm.findClass (FieldType.array .int).toString = some cy.1 := (hK.2 0 (cy.1, .int) rfl).2
  refine va_mna (X := ws) (L := []) (f := fun _ => .inl (cy.1, 0, .inl (fun _ => 0))) (ty := .int) (N' := 3) (K' := K9) (z := (K9, .inl (fun _ => 0))) hx hb hown (hts _ hcl) (hE.2 _) (hts _ harr) hcy hK (by simpa [va_pl] using hP) (by simpa [va_pl] using hD) hS hA (by rw [hv]; decide) hw0 (by rw [hv]; rfl) hK9 (by decide) (show K9 * 4 ≤ _ from hb9) (by omega) rfl rfl hc hs (fun c => by show ({ cls := c, slots := Array.replicate K9 (.int 0), vm := .none } : Cell) = arrV c K9 (fun _ => .int 0); rw [arrV_new]) d (fun q r cA H1 hinj hL hK1 hP1 hD1 hS1 => ?_)
  have e := y_ty (cy := cy) (i := 3) (c0 := cy.2.2.2) rfl (fun C q => by cases q) hK1
  subst e
  have eW : (ws ++ [(q, (.inl (cy.2.2.2, 3, .inr (.inr (.inr (.inr (fun i => if i < 3 then some (r i) else none))))) : va_E))]) ++ va_pl ([] ++ (List.range 3).map r) (vr_up (fun _ => .inl (cy.1, 0, .inl (fun _ => 0))) ((List.range 3).map r) (.inl (cy.1, K9, .inl (fun _ => 0)))) = ws ++ [(q, .inl (cy.2.2.2, 3, .inr (.inr (.inr (.inr (fun i => if i < 3 then some (r i) else none)))))), (r 0, .inl (cy.1, K9, .inl (fun _ => 0))), (r 1, .inl (cy.1, K9, .inl (fun _ => 0))), (r 2, .inl (cy.1, K9, .inl (fun _ => 0)))] := by
    simp [va_pl, vr_up, List.range, List.range.loop]
  rw [eW] at hP1 hD1
  have hP2 : va_P D zcl (ws ++ [(q, .inl (cy.2.2.2, 3, .inr (.inr (.inr (.inr (fun i => if i = 0 then some (r 0) else if i = 1 then some (r 1) else some (r 2))))))), (r 0, .inl (cy.1, K9, .inl (fun _ => 0))), (r 1, .inl (cy.1, K9, .inl (fun _ => 0))), (r 2, .inl (cy.1, K9, .inl (fun _ => 0)))]) H1 := by
    intro i z hz
    have hcell : vp_cell cy.2.2.2 (3, .inr (.inr (.inr (.inr (fun i => if i = 0 then some (r 0) else if i = 1 then some (r 1) else some (r 2)))))) = vp_cell cy.2.2.2 (3, .inr (.inr (.inr (.inr (fun i => if i < 3 then some (r i) else none))))) := by
      rw [vp_cell_q, vp_cell_q]
      refine y_arr (fun j hj => ?_)
      match j, hj with
      | 0, _ => rfl
      | 1, _ => rfl
      | 2, _ => rfl
    by_cases hi : i = ws.length
    · subst hi
      have h0 := hP1 ws.length (q, .inl (cy.2.2.2, 3, .inr (.inr (.inr (.inr (fun i => if i < 3 then some (r i) else none)))))) (by simp)
      have hz2 : z = (q, .inl (cy.2.2.2, 3, .inr (.inr (.inr (.inr (fun i => if i = 0 then some (r 0) else if i = 1 then some (r 1) else some (r 2))))))) := by simpa using hz.symm
      subst hz2
      show H1[q]? = some (vp_cell _ _)
      rw [hcell]
      exact h0
    · refine hP1 i z ?_
      rw [← hz]
      rcases Nat.lt_or_ge i ws.length with h | h
      · rw [List.getElem?_append_left h, List.getElem?_append_left h]
      · obtain ⟨j, rfl⟩ : ∃ j, i = ws.length + j := ⟨i - ws.length, by omega⟩
        rw [y_ix, y_ix]
        cases j with
        | zero => exact absurd rfl hi
        | succ j => rfl
  have hD2 : va_D A (ws ++ [(q, .inl (cy.2.2.2, 3, .inr (.inr (.inr (.inr (fun i => if i = 0 then some (r 0) else if i = 1 then some (r 1) else some (r 2))))))), (r 0, .inl (cy.1, K9, .inl (fun _ => 0))), (r 1, .inl (cy.1, K9, .inl (fun _ => 0))), (r 2, .inl (cy.1, K9, .inl (fun _ => 0)))]) := by
    exact yD_map (by simp) hD1
  exact kk q (r 0) (r 1) (r 2) H1 locs ls hP2 hD2 hS1 hl
theorem yR_r {d1 mc1 ms1 d mc9 ms9 maxL : Nat} (h : d1 + 1 ≤ d) (hm : maxL ≤ 45) : (yR d1 mc1 ms1).frames + 1 ≤ (yR d mc9 ms9).frames ∧ 8 + (maxL + 11) + (yR d1 mc1 ms1).locals ≤ (yR d mc9 ms9).locals := ⟨h, by show 8 + (maxL + 11) + 64 * d1 ≤ 64 * d; omega⟩
theorem y_run {N0 : Nat} {p : Program} {e : Env} {s : State} {m : MethodId} {args : Array Value} {below : List Frame} {meth : Method} {c : Code} {Q : State → Prop} {mc1 ms1 : Nat} {a : Array Value} {rest st0 : List Value} {H : Heap} {locs : List Loc} {ls : Array Slot}
    (hr : va_Run p l e R s m args below meth c H locs k n mc1 ms1 (F0 m pc ls st0) rest (yQ D (fun q => N0 ≤ q) Wo a) (fun q => N0 ≤ q)) (hS : va_S (fun q => N0 ≤ q) s.heap H locs) (hl : lv_has ls nL lv)
    (kk : ∀ ws, Wo ws → yC l D (fun q => N0 ≤ q) R nL p e s m args below meth c Q ws (k + mc1) (n + ms1) lv (pc + 3) rest) : W p l e R s m args below meth c H locs k n Q (F0 m pc ls st0) := by
  intro T hT X
  obtain ⟨v, st₀, t, T', L, h0, X', hL, e1, e2, ⟨⟨hv, ws, hWo, hP1, hD1⟩, hz, hk⟩, st⟩ := hr T hT X
  cases hv
  rw [h0] at hz hk
  have hS1 : va_S (fun q => N0 ≤ q) s.heap T'.heap (locs ++ L) := ⟨Nat.le_trans hS.1 (by rw [e1]; exact hz), fun q h1 h2 => by rw [e1, hk q (Nat.lt_of_lt_of_le h1 hS.1) h2]; exact hS.2.1 q h1 h2, fun q hq => by
      rcases List.mem_append.mp hq with h | h
      · exact hS.2.2 q h
      · exact hL q h⟩
  obtain ⟨t2, a1, b1⟩ := kk ws hWo T'.heap (locs ++ L) ls (by rw [e1]; exact hP1) hD1 hS1 hl T' rfl X'
  exact ⟨t2, st t2 a1, b1⟩
theorem y_blind {N0 : Nat} {av : List Value} {ws : va_W} : FrameBlind (va_Pc av (fun U => (N0 ≤ U.heap.size ∧ va_P D zcl ws U.heap) ∧ yE D cy (fun q => N0 ≤ q) ad U U.heap)) := fun a U g mk q => ⟨q.1, q.2.1, yE_blind g mk a q.2.2⟩
theorem y_callI {N0 d mc9 ms9 : Nat} (M : yM l D cy (fun q => N0 ≤ q) ad (yR d mc9 ms9) own cc nL mc ms Wo G) {ws : va_W} {y : MethodName} {bytes : ByteArray} {maxL d1 mc1 ms1 index b : Nat} {Wo1 : va_W → Prop} (As : List Value) {rest : List Value} (hM : yT l D cy ad N0 y bytes maxL d1 mc1 ms1 (.ref b :: As) ws Wo1) (hl9 : Cond.methodLink own index y ∈ uw) (hini : Cond.initialized y.cls ∈ uw) (hcode : Cond.code y bytes maxL none ∈ uw) (hi : Cond.instanceMethod y ∈ uw) (hy : y.name = "<init>") (hd : y.cls ≠ "java/lang/invoke/MethodHandle" ∧ y.cls ≠ "java/lang/invoke/VarHandle" ∧ (parseMethodDescriptor y.desc).map (fun d => d.parameters.length) = some As.length) (hR : d1 + 1 ≤ d) (hm : maxL ≤ 45) (hc : k + mc1 ≤ mc9) (hs : n + ms1 ≤ ms9) (hst : st = As.reverse ++ .ref b :: rest) (hW : (rest.map fun v => v.category).sum ≤ 8) (dd : decode cc pc = .ok (.invokespecial index, 3)) (kk : ∀ ws', Wo1 ws' → G ws' (k + mc1) (n + ms1) lv (pc + 3) rest) : G ws k n lv pc st := by
  obtain ⟨p, e, s, m, args, below, meth, c, hx, hb, hml, hown, hts, hE, hA, hr, hlk, hin9, rfl⟩ := M
  have hK := hE.1.1
  intro H locs ls hP hD hS hl
  have hN0 : N0 ≤ s.heap.size := Nat.le_of_not_lt (fun h => absurd (hA s.heap.size (Nat.le_refl _)) (Nat.not_le.mpr h))
  exact y_run (va_runI (n := As.length) ⟨hx, hb, hml, hown, hts⟩ hM ⟨callB_of As.length hts (fun w hw => ⟨(uw_good hcode w hw).1, (uw_good hcode w hw).2⟩) rfl rfl rfl (hts _ hini) (hts _ hl9) hd (yR_r hR hm), hy, hts _ hi⟩ ⟨y_blind, fun U hU hW => ⟨rfl, ⟨by rw [hU]; exact Nat.le_trans hN0 hS.1, by rw [hU]; exact hP⟩, yE_call hW hU hS hE⟩⟩ rfl rfl hl.1 hst (lv_room hW) dd ⟨hc, hs⟩) hS hl kk
theorem y_callIN {N0 d mc9 ms9 : Nat} (M : yM l D cy (fun q => N0 ≤ q) ad (yR d mc9 ms9) own cc nL mc ms Wo G) {ws : va_W} {y : MethodName} {bytes : ByteArray} {maxL d1 mc1 ms1 index b : Nat} {Wo1 : va_W → Prop} (As : List Value) {rest : List Value} (hM : yT l D cy ad N0 y bytes maxL d1 mc1 ms1 (.ref b :: As) ws Wo1) {host : String} (hl9 : Cond.methodLinkNest own index y host ∈ zNw) (hini : Cond.initialized y.cls ∈ uw) (hcode : Cond.code y bytes maxL none ∈ uw) (hi : Cond.instanceMethod y ∈ uw) (hy : y.name = "<init>") (hd : y.cls ≠ "java/lang/invoke/MethodHandle" ∧ y.cls ≠ "java/lang/invoke/VarHandle" ∧ (parseMethodDescriptor y.desc).map (fun d => d.parameters.length) = some As.length) (hR : d1 + 1 ≤ d) (hm : maxL ≤ 45) (hc : k + mc1 ≤ mc9) (hs : n + ms1 ≤ ms9) (hst : st = As.reverse ++ .ref b :: rest) (hW : (rest.map fun v => v.category).sum ≤ 8) (dd : decode cc pc = .ok (.invokespecial index, 3)) (kk : ∀ ws', Wo1 ws' → G ws' (k + mc1) (n + ms1) lv (pc + 3) rest) : G ws k n lv pc st := by
  obtain ⟨p, e, s, m, args, below, meth, c, hx, hb, hml, hown, hts, hE, hA, hr, hlk, hin9, rfl⟩ := M
  have hK := hE.1.1
  intro H locs ls hP hD hS hl
  have hN0 : N0 ≤ s.heap.size := Nat.le_of_not_lt (fun h => absurd (hA s.heap.size (Nat.le_refl _)) (Nat.not_le.mpr h))
  exact y_run (va_runIN (n := As.length) ⟨hx, hb, hml, hown, hts⟩ hM ⟨va_cnB As.length hts (uw_good hcode) rfl rfl rfl (hE.1.2.1 _ hl9) (hts _ hini) hd (yR_r hR hm), hy, hts _ hi⟩ ⟨y_blind, fun U hU hW => ⟨rfl, ⟨by rw [hU]; exact Nat.le_trans hN0 hS.1, by rw [hU]; exact hP⟩, yE_call hW hU hS hE⟩⟩ rfl rfl hl.1 hst (lv_room hW) dd ⟨hc, hs⟩) hS hl kk
theorem y_met {N0 d : Nat} {y : MethodName} {av : List Value} {ws : va_W} (hy : plainName y.cls = true) (hD : va_D (fun q => N0 ≤ q) ws) (hargs : (lg_sl av).length ≤ nL) (hlv : lv_args 0 av = lv) (hnm : y.name = "<init>") (kk : ∀ G, yM l D cy (fun q => N0 ≤ q) ad (yR d mc ms) y.cls cc nL mc ms Wo G → G ws 0 0 lv 0 []) : yT l D cy ad N0 y cc nL d mc ms av ws Wo := by
  refine Met.ofW (cc := cc) (maxL := nL) (ret := none) hy rfl ?_
  intro p e s m args below meth c s₁ B hml hv
  obtain ⟨rfl, ⟨hN, hP⟩, hE⟩ := hv
  have hts := atoms_spec (ws := Cond.code y cc nL none :: uw) B.pre
  have hl := lv_entry av hargs
  rw [lg_entry_eq]
  rw [hlv] at hl
  exact kk _ ⟨p, e, s, m, av.toArray, below, meth, c, B.exec, B.bytes, hml, findClass_of_methodNamed B.named, fun w hw => hts w (List.mem_cons_of_mem _ hw), hE, fun q hq => Nat.le_trans hN hq, B.returns, B.notSynchronized, (name_of_methodNamed B.named B.method).1.trans hnm, rfl⟩ s.heap [] _ hP hD va_S.rf hl
end YR
