/-- the private method of the abstract class, selected through its two subclasses: not among the printed words, but they follow -/
def uwX : List Cond := [Cond.selects "BinsThatTell$Laws" ⟨"BinsThatTell$Book", "wrongPlace", "(LBinsThatTell$Text;)I"⟩ ⟨"BinsThatTell$Book", "wrongPlace", "(LBinsThatTell$Text;)I"⟩, Cond.selects "BinsThatTell$Stories" ⟨"BinsThatTell$Book", "wrongPlace", "(LBinsThatTell$Text;)I"⟩ ⟨"BinsThatTell$Book", "wrongPlace", "(LBinsThatTell$Text;)I"⟩]
def uw : List Cond := uwX ++ lw_tbl.filter goodWord
theorem uw_at {w : Cond} (i : Nat) (h : lw_tbl[i]? = some w) (g : goodWord w = true) : w ∈ uw := List.mem_append_right _ (List.mem_filter.mpr ⟨List.mem_of_getElem? h, g⟩)
theorem uw_ex {w : Cond} (i : Nat) (h : uwX[i]? = some w) : w ∈ uw := List.mem_append_left _ (List.mem_of_getElem? h)
theorem uw_in : ∀ w ∈ uw, w ∈ uwX ∨ w ∈ lw_tbl := fun w h => (List.mem_append.mp h).imp id (fun h => (List.mem_filter.mp h).1)
theorem uwX_gw : ∀ w ∈ uwX, goodWord w = true := by decide +kernel
theorem uw_gw : ∀ w ∈ uw, goodWord w = true := fun w h => (List.mem_append.mp h).elim (uwX_gw w) (fun h => (List.mem_filter.mp h).2)
theorem uw_good {y : MethodName} {b : ByteArray} {n : Nat} {r : Option FieldType} (hc : Cond.code y b n r ∈ uw) : GoodIn uw (Cond.code y b n r :: uw) := by
  intro w hw
  rcases List.mem_cons.mp hw with rfl | hw
  · exact ⟨hc, good_of_word (uw_gw _ hc)⟩
  · exact ⟨hw, good_of_word (uw_gw _ hw)⟩
theorem uw_goodC {y y2 : MethodName} {b b2 : ByteArray} {n n2 : Nat} {r r2 : Option FieldType} (hc : Cond.code y b n r ∈ uw) : GoodIn (Cond.code y2 b2 n2 r2 :: uw) (Cond.code y b n r :: uw) := fun w hw => ⟨List.mem_cons_of_mem _ (uw_good hc w hw).1, (uw_good hc w hw).2⟩
abbrev Zst : Type := (Nat → Int32) × ((Nat → Nat → Int32) × ((Nat → Nat → Int64) × (Nat → Nat)))
def zI (σ : Zst) (k : Nat) (x : Int32) : Zst := (fun j => if j = k then x else σ.1 j, σ.2)
def zA (σ : Zst) (k : Nat) (f : Nat → Int32) : Zst := (σ.1, ((fun j => if j = k then f else σ.2.1 j), σ.2.2))
def zL (σ : Zst) (k : Nat) (f : Nat → Int64) : Zst := (σ.1, (σ.2.1, ((fun j => if j = k then f else σ.2.2.1 j), σ.2.2.2)))
def zN (σ : Zst) (k : Nat) (v : Nat) : Zst := (σ.1, (σ.2.1, (σ.2.2.1, fun j => if j = k then v else σ.2.2.2 j)))
def zSg (ad : (Nat → Nat) × (Nat → Nat)) : Nat → Value
  | 0 => .null
  | i + 1 => .ref (ad.1 i)
def jRem (x y : Int32) : Int32 := x - x / y * y
def jRemL (x y : Int64) : Int64 := x - x / y * y
def jShl (x y : Int32) : Int32 := x <<< (y &&& 31)
def jShr (x y : Int32) : Int32 := x >>> (y &&& 31)
def jUshr (x y : Int32) : Int32 := (x.toUInt32 >>> (y.toUInt32 &&& Int32.toUInt32 31)).toInt32
def jShrL (x : Int64) (y : Int32) : Int64 := x >>> (y.toInt64 &&& 63)
def jUshrL (x : Int64) (y : Int32) : Int64 := (x.toUInt64 >>> (y.toInt64.toUInt64 &&& Int64.toUInt64 63)).toInt64
def jMax (x y : Int32) : Int32 := if x < y then y else x
def jMin (x y : Int32) : Int32 := if y < x then y else x
def jAbs (x : Int32) : Int32 := if 0 ≤ x then x else 0 - x
def jAbsL (x : Int64) : Int64 := if 0 < x then x else -x
/-- fuels: numbers that no unfolding opens -/
noncomputable def zFu : Nat := Classical.choose (⟨10000, rfl⟩ : ∃ n : Nat, n = 10000)
theorem zFu_eq : zFu = 10000 := Classical.choose_spec (⟨10000, rfl⟩ : ∃ n : Nat, n = 10000)
noncomputable def zDp : Nat := Classical.choose (⟨200, rfl⟩ : ∃ n : Nat, n = 200)
theorem zDp_eq : zDp = 200 := Classical.choose_spec (⟨200, rfl⟩ : ∃ n : Nat, n = 200)
/-- guards of the pure text: where the machine itself would throw there is no value -/
def gIx {α : Type} (i : Int32) (n : Nat) (k : Option α) : Option α := if i < 0 ∨ n ≤ i.toNatClampNeg then none else k
def gNz {α : Type} (y : Int32) (k : Option α) : Option α := if y = 0 then none else k
def gNzL {α : Type} (y : Int64) (k : Option α) : Option α := if y = 0 then none else k
def gBo {α : Type} (x : Int32) (k : Option α) : Option α := if x = 0 ∨ x = 1 then k else none
def gSg {α : Type} (n : Nat) (k : Nat → Option α) : Option α := match n with
  | 0 => none
  | i + 1 => k i
def gLe {α : Type} (a b : Nat) (k : Option α) : Option α := if a ≤ b then k else none
theorem gIx_s {α : Type} {i : Int32} {n : Nat} {k : Option α} {o : α} (h : gIx i n k = some o) : vp_in i n ∧ k = some o := by
  unfold gIx at h
  by_cases c : i < 0 ∨ n ≤ i.toNatClampNeg
  · rw [if_pos c] at h; cases h
  · rw [if_neg c] at h; exact ⟨c, h⟩
theorem gNz_s {α : Type} {y : Int32} {k : Option α} {o : α} (h : gNz y k = some o) : ¬ y = 0 ∧ k = some o := by
  unfold gNz at h
  by_cases c : y = 0
  · rw [if_pos c] at h; cases h
  · rw [if_neg c] at h; exact ⟨c, h⟩
theorem gNzL_s {α : Type} {y : Int64} {k : Option α} {o : α} (h : gNzL y k = some o) : ¬ y = 0 ∧ k = some o := by
  unfold gNzL at h
  by_cases c : y = 0
  · rw [if_pos c] at h; cases h
  · rw [if_neg c] at h; exact ⟨c, h⟩
theorem gBo_s {α : Type} {x : Int32} {k : Option α} {o : α} (h : gBo x k = some o) : (x = 0 ∨ x = 1) ∧ k = some o := by
  unfold gBo at h
  by_cases c : x = 0 ∨ x = 1
  · rw [if_pos c] at h; exact ⟨c, h⟩
  · rw [if_neg c] at h; cases h
theorem gSg_s {α : Type} {n : Nat} {k : Nat → Option α} {o : α} (h : gSg n k = some o) : ∃ i, n = i + 1 ∧ k i = some o := by
  cases n with
  | zero => cases h
  | succ i => exact ⟨i, rfl, h⟩
theorem gLe_s {α : Type} {a b : Nat} {k : Option α} {o : α} (h : gLe a b k = some o) : a ≤ b ∧ k = some o := by
  unfold gLe at h
  by_cases c : a ≤ b
  · rw [if_pos c] at h; exact ⟨c, h⟩
  · rw [if_neg c] at h; cases h
theorem gIt {α : Type} {c : Prop} {_ : Decidable c} {A B : Option α} {o : α} (hc : c) (h : (if c then A else B) = some o) : A = some o := by rw [if_pos hc] at h; exact h
theorem gIf {α : Type} {c : Prop} {_ : Decidable c} {A B : Option α} {o : α} (hc : ¬ c) (h : (if c then A else B) = some o) : B = some o := by rw [if_neg hc] at h; exact h
theorem gTt {α : Type} {c : Prop} {_ : Decidable c} {A B o : α} (hc : c) (h : (if c then A else B) = o) : A = o := by rw [if_pos hc] at h; exact h
theorem gTf {α : Type} {c : Prop} {_ : Decidable c} {A B o : α} (hc : ¬ c) (h : (if c then A else B) = o) : B = o := by rw [if_neg hc] at h; exact h
theorem gBd {α β : Type} {x : Option α} {f : α → Option β} {o : β} (h : x.bind f = some o) : ∃ t, x = some t ∧ f t = some o := Option.bind_eq_some_iff.mp h
theorem nBo {x : Int32} (h : x = 0 ∨ x = 1) : narrow .boolean (.int x) = .int x := by rcases h with rfl | rfl <;> rfl
def zR (n : Nat) : Room := { frames := n, cells := 0, slots := 0, locals := 64 * n }
def zIsNw : Cond → Bool
  | .methodLinkNest .. => true
  | .declares _ => true
  | _ => false
def zNw : List Cond := lw_tbl.filter zIsNw
theorem zNw_at {w : Cond} (i : Nat) (h : lw_tbl[i]? = some w) (g : zIsNw w = true) : w ∈ zNw := List.mem_filter.mpr ⟨List.mem_of_getElem? h, g⟩
theorem zNw_warm {s U : State} (hW : s.WarmedH U.vm) (h : ∀ w ∈ zNw, va_Nw w s) : ∀ w ∈ zNw, va_Nw w U := by
  intro w hw
  have h1 := h w hw
  have h2 := (List.mem_filter.mp hw).2
  cases w <;> first | exact va_Nw.warmM hW h1 | exact va_Nw.warmD hW h1 | cases h2
theorem zNw_same {u U : State} (hv : u.vm = U.vm) (h : ∀ w ∈ zNw, va_Nw w u) : ∀ w ∈ zNw, va_Nw w U := by
  intro w hw
  have h1 := h w hw
  have h2 := (List.mem_filter.mp hw).2
  cases w <;> first | exact va_Nw.same rfl hv h1 | cases h2
/-- the text constants: owner, place in its pool, text, number -/
def zSr : List (String × Nat × String × Nat) := [("BinsThatTell$Stories", 49, "WwBbEeNnSs", 0), ("BinsThatTellModel", 184, "htwkrlqz", 1), ("BinsThatTellModel", 186, "htwkrlqzb", 2), ("BinsThatTellModel", 188, "htwkrlqzbe", 3), ("BinsThatTellModel", 163, "!-", 4), ("BinsThatTellModel", 156, "(", 5), ("BinsThatTellModel", 161, ")", 6), ("BinsThatTellModel", 171, "|", 7), ("BinsThatTellModel", 173, "&", 8), ("BinsThatTellModel", 175, "<>=", 9), ("BinsThatTellModel", 177, "+-", 10), ("BinsThatTellModel", 179, "*/", 11), ("BinsThatTellModel", 340, "WBENSwbens", 12), ("BinsThatTellModel", 354, ";", 13)]
def zByt : List (List Int32) := [[87, 119, 66, 98, 69, 101, 78, 110, 83, 115], [104, 116, 119, 107, 114, 108, 113, 122], [104, 116, 119, 107, 114, 108, 113, 122, 98], [104, 116, 119, 107, 114, 108, 113, 122, 98, 101], [33, 45], [40], [41], [124], [38], [60, 62, 61], [43, 45], [42, 47], [87, 66, 69, 78, 83, 119, 98, 101, 110, 115], [59]]
def zLen : List Nat := [10, 8, 9, 10, 2, 1, 1, 1, 1, 3, 2, 2, 10, 1]
/-- what holds around every call: the classes, the nest mates' links, the text constants -/
def zE (D : va_G) (cl : List vw_C) (tys : List (ClassId × FieldType)) (A : Nat → Prop) (ad : (Nat → Nat) × (Nat → Nat)) (U : State) (H : Heap) : Prop :=
  va_K D cl tys U ∧ (∀ w ∈ zNw, va_Nw w U) ∧ vk_S 14 zLen zByt ad.1 ad.2 A U H ∧ (∀ q ∈ zSr, vk_R q.1 q.2.1 q.2.2.1 (ad.1 q.2.2.2) U) ∧ va_Z "java/lang/String" "COMPACT_STRINGS" "Z" (.int 1) A U H ∧ va_Zq "jdk/internal/util/Preconditions" "SIOOBE_FORMATTER" "Ljava/util/function/BiFunction;" A U H
theorem zE_call {D : va_G} {cl : List vw_C} {tys : List (ClassId × FieldType)} {A : Nat → Prop} {ad : (Nat → Nat) × (Nat → Nat)} {s U : State} {H : Heap} {locs : List Loc} (hW : s.WarmedH U.vm) (hU : U.heap = H) (hS : va_S A s.heap H locs) (h : zE D cl tys A ad s s.heap) : zE D cl tys A ad U U.heap := by
  obtain ⟨h1, h2, h3, h4, h5, h6⟩ := h
  have hq : ∀ a : Nat, a < s.heap.size → ¬ A a → U.heap[a]? = s.heap[a]? := fun a ha hA => by rw [hU]; exact hS.2.1 a ha hA
  exact ⟨va_K.moved hW.alike h1, zNw_warm hW h2, (h3.kept hq).moved hW.alike, fun q hq => (h4 q hq).warm hW, (h5.kept hq).moved hW.alike, (h6.kept hq).moved hW.alike⟩
theorem zE_blind {D : va_G} {cl : List vw_C} {tys : List (ClassId × FieldType)} {A : Nat → Prop} {ad : (Nat → Nat) × (Nat → Nat)} {U : State} (g : JFrame) (mk : MethodId) (a : Array Value) (h : zE D cl tys A ad U U.heap) : zE D cl tys A ad (U.calling g mk a) (U.calling g mk a).heap := by
  obtain ⟨h1, h2, h3, h4, h5, h6⟩ := h
  exact ⟨va_K.moved (u := U) (U := U.calling g mk a) (Vm.Alike.refl U.vm) h1, zNw_same (u := U) (U := U.calling g mk a) rfl h2, vk_S.moved (u := U) (U := U.calling g mk a) (Vm.Alike.refl U.vm) h3, fun q hq => vk_R.same (u := U) (U := U.calling g mk a) rfl (h4 q hq), va_Z.moved (u := U) (U := U.calling g mk a) (Vm.Alike.refl U.vm) h5, va_Zq.moved (u := U) (U := U.calling g mk a) (Vm.Alike.refl U.vm) h6⟩
def zQ (D : va_G) (cl : List vw_C) (wf : Zst → va_W) (A : Nat → Prop) (σo : Zst) (ov : Option Value) : Array Value → State → Outcome → State → Prop := fun _ st oc t => (oc = .returned ov ∧ va_P D cl (wf σo) t.heap) ∧ va_F A st t
/-- the contract of a method: called with these values in the state σ it returns ov, in the state σo -/
def zT (l : Launch) (D : va_G) (cl : List vw_C) (tys : List (ClassId × FieldType)) (A : Nat → Prop) (ad : (Nat → Nat) × (Nat → Nat)) (wf : Zst → va_W) (y : MethodName) (cc : ByteArray) (nL : Nat) (rt : Option FieldType) (n : Nat) (av : List Value) (σ σo : Zst) (ov : Option Value) : Prop :=
  Met l y (Cond.code y cc nL rt :: uw) (zR n) (va_Pc av (fun U => va_P D cl (wf σ) U.heap ∧ zE D cl tys A ad U U.heap)) (zQ D cl wf A σo ov) 0 0 A
/-- the judgement: at pc, in every heap that holds the state σ, with these locals and this stack -/
def zC (l : Launch) (D : va_G) (cl : List vw_C) (A : Nat → Prop) (R : Room) (wf : Zst → va_W) (nL : Nat) (p : Program) (e : Env) (s : State) (m : MethodId) (args : Array Value) (below : List Frame) (meth : Method) (c : Code) (Q : State → Prop) (σ : Zst) (lv : List (Nat × Value)) (pc : Nat) (st : List Value) : Prop :=
  ∀ (H : Heap) (locs : List Loc) (ls : Array Slot), va_P D cl (wf σ) H → va_S A s.heap H locs → lv_has ls nL lv → W p l e R s m args below meth c H locs 0 0 Q (F0 m pc ls st)
def zM (l : Launch) (D : va_G) (cl : List vw_C) (tys : List (ClassId × FieldType)) (A : Nat → Prop) (ad : (Nat → Nat) × (Nat → Nat)) (R : Room) (wf : Zst → va_W) (own : String) (cc : ByteArray) (nL : Nat) (rt : Option FieldType) (σo : Zst) (ov : Option Value) (G : Zst → List (Nat × Value) → Nat → List Value → Prop) : Prop :=
  ∃ (p : Program) (e : Env) (s : State) (m : MethodId) (args : Array Value) (below : List Frame) (meth : Method) (c : Code), p.tables.exec = Jvm.exec ∧ c.code = cc ∧ c.maxLocals = nL ∧ s.vm.findClass own = some m.cls ∧ (∀ w ∈ uw, w.before args s = true) ∧ zE D cl tys A ad s s.heap ∧ (∀ σ, va_D A (wf σ)) ∧ meth.sig.returnType = rt ∧ meth.locks = false ∧ G = zC l D cl A R wf nL p e s m args below meth c (MQ below (zQ D cl wf A σo ov) args s 0 0 A)
section ZR
variable {l : Launch} {D : va_G} {cl : List vw_C} {tys : List (ClassId × FieldType)} {A : Nat → Prop} {ad : (Nat → Nat) × (Nat → Nat)} {R : Room} {wf : Zst → va_W} {own : String} {cc : ByteArray} {nL : Nat} {rt : Option FieldType} {σo : Zst} {ov : Option Value} {G : Zst → List (Nat × Value) → Nat → List Value → Prop}
variable {σ : Zst} {lv lv' : List (Nat × Value)} {pc : Nat} {st : List Value}
theorem z_iconst (M : zM l D cl tys A ad R wf own cc nL rt σo ov G) {n : Int} {v : Int32} (d : decode cc pc = .ok (.iconst n, 1)) (hv : Int32.ofInt n = v) (kk : G σ lv (pc + 1) (.int v :: st)) : G σ lv pc (st) := by
  obtain ⟨p, e, s, m, args, below, meth, c, hx, hb, hml, hown, hts, hE, hD, hr, hlk, rfl⟩ := M
  have hK := hE.1
  intro H locs ls hP hS hl
  exact lv_iconst hx hb d hv (kk H locs ls hP hS hl)
theorem z_bipush (M : zM l D cl tys A ad R wf own cc nL rt σo ov G) {n : Int} {v : Int32} (d : decode cc pc = .ok (.bipush n, 2)) (hv : (Int8.ofInt n).toInt32 = v) (kk : G σ lv (pc + 2) (.int v :: st)) : G σ lv pc (st) := by
  obtain ⟨p, e, s, m, args, below, meth, c, hx, hb, hml, hown, hts, hE, hD, hr, hlk, rfl⟩ := M
  have hK := hE.1
  intro H locs ls hP hS hl
  exact lv_bipush hx hb d hv (kk H locs ls hP hS hl)
theorem z_sipush (M : zM l D cl tys A ad R wf own cc nL rt σo ov G) {n : Int} {v : Int32} (d : decode cc pc = .ok (.sipush n, 3)) (hv : (Int16.ofInt n).toInt32 = v) (kk : G σ lv (pc + 3) (.int v :: st)) : G σ lv pc (st) := by
  obtain ⟨p, e, s, m, args, below, meth, c, hx, hb, hml, hown, hts, hE, hD, hr, hlk, rfl⟩ := M
  have hK := hE.1
  intro H locs ls hP hS hl
  exact lv_sipush hx hb d hv (kk H locs ls hP hS hl)
theorem z_lconst (M : zM l D cl tys A ad R wf own cc nL rt σo ov G) {n : Fin 2} {v : Int64} (d : decode cc pc = .ok (.lconst n, 1)) (hv : Int64.ofNat (n : Nat) = v) (kk : G σ lv (pc + 1) (.long v :: st)) : G σ lv pc (st) := by
  obtain ⟨p, e, s, m, args, below, meth, c, hx, hb, hml, hown, hts, hE, hD, hr, hlk, rfl⟩ := M
  have hK := hE.1
  intro H locs ls hP hS hl
  exact lv_lconst hx hb d hv (kk H locs ls hP hS hl)
theorem z_ldc (M : zM l D cl tys A ad R wf own cc nL rt σo ov G) {i : Nat} {v : Int32} (d : decode cc pc = .ok (.ldc i, 2)) (hw : Cond.constant own i v ∈ uw) (kk : G σ lv (pc + 2) (.int v :: st)) : G σ lv pc (st) := by
  obtain ⟨p, e, s, m, args, below, meth, c, hx, hb, hml, hown, hts, hE, hD, hr, hlk, rfl⟩ := M
  have hK := hE.1
  intro H locs ls hP hS hl
  exact lv_ldc hx hb hown (hts _ hw) d (kk H locs ls hP hS hl)
theorem z_ldc2 (M : zM l D cl tys A ad R wf own cc nL rt σo ov G) {i : Nat} {v : Int64} (d : decode cc pc = .ok (.ldc2_w i, 3)) (hw : Cond.constantLong own i v ∈ uw) (kk : G σ lv (pc + 3) (.long v :: st)) : G σ lv pc (st) := by
  obtain ⟨p, e, s, m, args, below, meth, c, hx, hb, hml, hown, hts, hE, hD, hr, hlk, rfl⟩ := M
  have hK := hE.1
  intro H locs ls hP hS hl
  exact lv_ldc2 hx hb hown (hts _ hw) d (kk H locs ls hP hS hl)
theorem z_iload_n (M : zM l D cl tys A ad R wf own cc nL rt σo ov G) {k : Fin 4} {i : Nat} {x : Int32} (d : decode cc pc = .ok (.iload_n k, 1)) (hi : (k : Nat) = i) (j : Nat) (hj : lv[j]? = some (i, .int x)) (kk : G σ lv (pc + 1) (.int x :: st)) : G σ lv pc (st) := by
  obtain ⟨p, e, s, m, args, below, meth, c, hx, hb, hml, hown, hts, hE, hD, hr, hlk, rfl⟩ := M
  have hK := hE.1
  intro H locs ls hP hS hl
  exact lv_iload_n hx hb d hi (lv_at hl j hj) (kk H locs ls hP hS hl)
theorem z_iload (M : zM l D cl tys A ad R wf own cc nL rt σo ov G) {i : Nat} {x : Int32} (d : decode cc pc = .ok (.iload i, 2)) (j : Nat) (hj : lv[j]? = some (i, .int x)) (kk : G σ lv (pc + 2) (.int x :: st)) : G σ lv pc (st) := by
  obtain ⟨p, e, s, m, args, below, meth, c, hx, hb, hml, hown, hts, hE, hD, hr, hlk, rfl⟩ := M
  have hK := hE.1
  intro H locs ls hP hS hl
  exact lv_iload hx hb d (lv_at hl j hj) (kk H locs ls hP hS hl)
theorem z_lload_n (M : zM l D cl tys A ad R wf own cc nL rt σo ov G) {k : Fin 4} {i : Nat} {x : Int64} (d : decode cc pc = .ok (.lload_n k, 1)) (hi : (k : Nat) = i) (j : Nat) (hj : lv[j]? = some (i, .long x)) (kk : G σ lv (pc + 1) (.long x :: st)) : G σ lv pc (st) := by
  obtain ⟨p, e, s, m, args, below, meth, c, hx, hb, hml, hown, hts, hE, hD, hr, hlk, rfl⟩ := M
  have hK := hE.1
  intro H locs ls hP hS hl
  exact lv_lload_n hx hb d hi (lv_at hl j hj) (kk H locs ls hP hS hl)
theorem z_lload (M : zM l D cl tys A ad R wf own cc nL rt σo ov G) {i : Nat} {x : Int64} (d : decode cc pc = .ok (.lload i, 2)) (j : Nat) (hj : lv[j]? = some (i, .long x)) (kk : G σ lv (pc + 2) (.long x :: st)) : G σ lv pc (st) := by
  obtain ⟨p, e, s, m, args, below, meth, c, hx, hb, hml, hown, hts, hE, hD, hr, hlk, rfl⟩ := M
  have hK := hE.1
  intro H locs ls hP hS hl
  exact lv_lload hx hb d (lv_at hl j hj) (kk H locs ls hP hS hl)
theorem z_aload_n (M : zM l D cl tys A ad R wf own cc nL rt σo ov G) {k : Fin 4} {i : Nat} {x : Nat} (d : decode cc pc = .ok (.aload_n k, 1)) (hi : (k : Nat) = i) (j : Nat) (hj : lv[j]? = some (i, .ref x)) (kk : G σ lv (pc + 1) (.ref x :: st)) : G σ lv pc (st) := by
  obtain ⟨p, e, s, m, args, below, meth, c, hx, hb, hml, hown, hts, hE, hD, hr, hlk, rfl⟩ := M
  have hK := hE.1
  intro H locs ls hP hS hl
  exact lv_aload_n hx hb d hi (lv_at hl j hj) (kk H locs ls hP hS hl)
theorem z_aload (M : zM l D cl tys A ad R wf own cc nL rt σo ov G) {i : Nat} {x : Nat} (d : decode cc pc = .ok (.aload i, 2)) (j : Nat) (hj : lv[j]? = some (i, .ref x)) (kk : G σ lv (pc + 2) (.ref x :: st)) : G σ lv pc (st) := by
  obtain ⟨p, e, s, m, args, below, meth, c, hx, hb, hml, hown, hts, hE, hD, hr, hlk, rfl⟩ := M
  have hK := hE.1
  intro H locs ls hP hS hl
  exact lv_aload hx hb d (lv_at hl j hj) (kk H locs ls hP hS hl)
theorem z_istore_n (M : zM l D cl tys A ad R wf own cc nL rt σo ov G) {k : Fin 4} {i : Nat} {x : Int32} (d : decode cc pc = .ok (.istore_n k, 1)) (hi : (k : Nat) = i) (hn : i < nL) (hl0 : (i, Value.int x) :: lv.filter (fun q => !(q.1 == i) && !(q.1 + 1 == i && q.2.category == 2)) = lv') (kk : G σ lv' (pc + 1) (st)) : G σ lv pc (.int x :: st) := by
  obtain ⟨p, e, s, m, args, below, meth, c, hx, hb, hml, hown, hts, hE, hD, hr, hlk, rfl⟩ := M
  have hK := hE.1
  intro H locs ls hP hS hl
  exact lv_istore_n hx hb d hi hl hn hl0 (fun ls' hl' => kk H locs ls' hP hS hl')
theorem z_istore (M : zM l D cl tys A ad R wf own cc nL rt σo ov G) {i : Nat} {x : Int32} (d : decode cc pc = .ok (.istore i, 2)) (hn : i < nL) (hl0 : (i, Value.int x) :: lv.filter (fun q => !(q.1 == i) && !(q.1 + 1 == i && q.2.category == 2)) = lv') (kk : G σ lv' (pc + 2) (st)) : G σ lv pc (.int x :: st) := by
  obtain ⟨p, e, s, m, args, below, meth, c, hx, hb, hml, hown, hts, hE, hD, hr, hlk, rfl⟩ := M
  have hK := hE.1
  intro H locs ls hP hS hl
  exact lv_istore hx hb d hl hn hl0 (fun ls' hl' => kk H locs ls' hP hS hl')
theorem z_lstore_n (M : zM l D cl tys A ad R wf own cc nL rt σo ov G) {k : Fin 4} {i : Nat} {x : Int64} (d : decode cc pc = .ok (.lstore_n k, 1)) (hi : (k : Nat) = i) (hn : i + 1 < nL) (hl0 : (i, Value.long x) :: lv.filter (fun q => !(q.1 == i) && (!(q.1 == i + 1) && !(q.1 + 1 == i && q.2.category == 2))) = lv') (kk : G σ lv' (pc + 1) (st)) : G σ lv pc (.long x :: st) := by
  obtain ⟨p, e, s, m, args, below, meth, c, hx, hb, hml, hown, hts, hE, hD, hr, hlk, rfl⟩ := M
  have hK := hE.1
  intro H locs ls hP hS hl
  exact lv_lstore_n hx hb d hi hl hn hl0 (fun ls' hl' => kk H locs ls' hP hS hl')
theorem z_lstore (M : zM l D cl tys A ad R wf own cc nL rt σo ov G) {i : Nat} {x : Int64} (d : decode cc pc = .ok (.lstore i, 2)) (hn : i + 1 < nL) (hl0 : (i, Value.long x) :: lv.filter (fun q => !(q.1 == i) && (!(q.1 == i + 1) && !(q.1 + 1 == i && q.2.category == 2))) = lv') (kk : G σ lv' (pc + 2) (st)) : G σ lv pc (.long x :: st) := by
  obtain ⟨p, e, s, m, args, below, meth, c, hx, hb, hml, hown, hts, hE, hD, hr, hlk, rfl⟩ := M
  have hK := hE.1
  intro H locs ls hP hS hl
  exact lv_lstore hx hb d hl hn hl0 (fun ls' hl' => kk H locs ls' hP hS hl')
theorem z_astore_n (M : zM l D cl tys A ad R wf own cc nL rt σo ov G) {k : Fin 4} {i : Nat} {x : Nat} (d : decode cc pc = .ok (.astore_n k, 1)) (hi : (k : Nat) = i) (hn : i < nL) (hl0 : (i, Value.ref x) :: lv.filter (fun q => !(q.1 == i) && !(q.1 + 1 == i && q.2.category == 2)) = lv') (kk : G σ lv' (pc + 1) (st)) : G σ lv pc (.ref x :: st) := by
  obtain ⟨p, e, s, m, args, below, meth, c, hx, hb, hml, hown, hts, hE, hD, hr, hlk, rfl⟩ := M
  have hK := hE.1
  intro H locs ls hP hS hl
  exact lv_astore_n hx hb d hi hl hn hl0 (fun ls' hl' => kk H locs ls' hP hS hl')
theorem z_astore (M : zM l D cl tys A ad R wf own cc nL rt σo ov G) {i : Nat} {x : Nat} (d : decode cc pc = .ok (.astore i, 2)) (hn : i < nL) (hl0 : (i, Value.ref x) :: lv.filter (fun q => !(q.1 == i) && !(q.1 + 1 == i && q.2.category == 2)) = lv') (kk : G σ lv' (pc + 2) (st)) : G σ lv pc (.ref x :: st) := by
  obtain ⟨p, e, s, m, args, below, meth, c, hx, hb, hml, hown, hts, hE, hD, hr, hlk, rfl⟩ := M
  have hK := hE.1
  intro H locs ls hP hS hl
  exact lv_astore hx hb d hl hn hl0 (fun ls' hl' => kk H locs ls' hP hS hl')
theorem z_iinc (M : zM l D cl tys A ad R wf own cc nL rt σo ov G) {i k : Nat} {n : Int} {x v : Int32} (d : decode cc pc = .ok (.iinc i n, 3)) (hk : lv[k]? = some (i, .int x)) (hv : x + Int32.ofInt n = v) (hn : i < nL) (hl0 : (i, Value.int v) :: lv.filter (fun q => !(q.1 == i) && !(q.1 + 1 == i && q.2.category == 2)) = lv') (kk : G σ lv' (pc + 3) (st)) : G σ lv pc (st) := by
  obtain ⟨p, e, s, m, args, below, meth, c, hx, hb, hml, hown, hts, hE, hD, hr, hlk, rfl⟩ := M
  have hK := hE.1
  intro H locs ls hP hS hl
  exact lv_iinc hx hb d hl hk hv hn hl0 (fun ls' hl' => kk H locs ls' hP hS hl')
theorem z_iadd (M : zM l D cl tys A ad R wf own cc nL rt σo ov G) {x y : Int32} (d : decode cc pc = .ok (.iadd, 1))  (kk : G σ lv (pc + 1) (.int (x + y) :: st)) : G σ lv pc (.int y :: .int x :: st) := by
  obtain ⟨p, e, s, m, args, below, meth, c, hx, hb, hml, hown, hts, hE, hD, hr, hlk, rfl⟩ := M
  have hK := hE.1
  intro H locs ls hP hS hl
  exact lv_iadd hx hb d (kk H locs ls hP hS hl)
theorem z_isub (M : zM l D cl tys A ad R wf own cc nL rt σo ov G) {x y : Int32} (d : decode cc pc = .ok (.isub, 1))  (kk : G σ lv (pc + 1) (.int (x - y) :: st)) : G σ lv pc (.int y :: .int x :: st) := by
  obtain ⟨p, e, s, m, args, below, meth, c, hx, hb, hml, hown, hts, hE, hD, hr, hlk, rfl⟩ := M
  have hK := hE.1
  intro H locs ls hP hS hl
  exact lv_isub hx hb d (kk H locs ls hP hS hl)
theorem z_imul (M : zM l D cl tys A ad R wf own cc nL rt σo ov G) {x y : Int32} (d : decode cc pc = .ok (.imul, 1))  (kk : G σ lv (pc + 1) (.int (x * y) :: st)) : G σ lv pc (.int y :: .int x :: st) := by
  obtain ⟨p, e, s, m, args, below, meth, c, hx, hb, hml, hown, hts, hE, hD, hr, hlk, rfl⟩ := M
  have hK := hE.1
  intro H locs ls hP hS hl
  exact lv_imul hx hb d (kk H locs ls hP hS hl)
theorem z_iand (M : zM l D cl tys A ad R wf own cc nL rt σo ov G) {x y : Int32} (d : decode cc pc = .ok (.iand, 1))  (kk : G σ lv (pc + 1) (.int (x &&& y) :: st)) : G σ lv pc (.int y :: .int x :: st) := by
  obtain ⟨p, e, s, m, args, below, meth, c, hx, hb, hml, hown, hts, hE, hD, hr, hlk, rfl⟩ := M
  have hK := hE.1
  intro H locs ls hP hS hl
  exact lv_iand hx hb d (kk H locs ls hP hS hl)
theorem z_ior (M : zM l D cl tys A ad R wf own cc nL rt σo ov G) {x y : Int32} (d : decode cc pc = .ok (.ior, 1))  (kk : G σ lv (pc + 1) (.int (x ||| y) :: st)) : G σ lv pc (.int y :: .int x :: st) := by
  obtain ⟨p, e, s, m, args, below, meth, c, hx, hb, hml, hown, hts, hE, hD, hr, hlk, rfl⟩ := M
  have hK := hE.1
  intro H locs ls hP hS hl
  exact lv_ior hx hb d (kk H locs ls hP hS hl)
theorem z_ixor (M : zM l D cl tys A ad R wf own cc nL rt σo ov G) {x y : Int32} (d : decode cc pc = .ok (.ixor, 1))  (kk : G σ lv (pc + 1) (.int (x ^^^ y) :: st)) : G σ lv pc (.int y :: .int x :: st) := by
  obtain ⟨p, e, s, m, args, below, meth, c, hx, hb, hml, hown, hts, hE, hD, hr, hlk, rfl⟩ := M
  have hK := hE.1
  intro H locs ls hP hS hl
  exact lv_ixor hx hb d (kk H locs ls hP hS hl)
theorem z_ladd (M : zM l D cl tys A ad R wf own cc nL rt σo ov G) {x y : Int64} (d : decode cc pc = .ok (.ladd, 1))  (kk : G σ lv (pc + 1) (.long (x + y) :: st)) : G σ lv pc (.long y :: .long x :: st) := by
  obtain ⟨p, e, s, m, args, below, meth, c, hx, hb, hml, hown, hts, hE, hD, hr, hlk, rfl⟩ := M
  have hK := hE.1
  intro H locs ls hP hS hl
  exact lv_ladd hx hb d (kk H locs ls hP hS hl)
theorem z_lsub (M : zM l D cl tys A ad R wf own cc nL rt σo ov G) {x y : Int64} (d : decode cc pc = .ok (.lsub, 1))  (kk : G σ lv (pc + 1) (.long (x - y) :: st)) : G σ lv pc (.long y :: .long x :: st) := by
  obtain ⟨p, e, s, m, args, below, meth, c, hx, hb, hml, hown, hts, hE, hD, hr, hlk, rfl⟩ := M
  have hK := hE.1
  intro H locs ls hP hS hl
  exact lv_lsub hx hb d (kk H locs ls hP hS hl)
theorem z_lmul (M : zM l D cl tys A ad R wf own cc nL rt σo ov G) {x y : Int64} (d : decode cc pc = .ok (.lmul, 1))  (kk : G σ lv (pc + 1) (.long (x * y) :: st)) : G σ lv pc (.long y :: .long x :: st) := by
  obtain ⟨p, e, s, m, args, below, meth, c, hx, hb, hml, hown, hts, hE, hD, hr, hlk, rfl⟩ := M
  have hK := hE.1
  intro H locs ls hP hS hl
  exact lv_lmul hx hb d (kk H locs ls hP hS hl)
theorem z_idiv (M : zM l D cl tys A ad R wf own cc nL rt σo ov G) {x y : Int32} (d : decode cc pc = .ok (.idiv, 1)) (hne : ¬ y = 0) (kk : G σ lv (pc + 1) (.int (x / y) :: st)) : G σ lv pc (.int y :: .int x :: st) := by
  obtain ⟨p, e, s, m, args, below, meth, c, hx, hb, hml, hown, hts, hE, hD, hr, hlk, rfl⟩ := M
  have hK := hE.1
  intro H locs ls hP hS hl
  exact lv_idiv hx hb d hne (kk H locs ls hP hS hl)
theorem z_irem (M : zM l D cl tys A ad R wf own cc nL rt σo ov G) {x y : Int32} (d : decode cc pc = .ok (.irem, 1)) (hne : ¬ y = 0) (kk : G σ lv (pc + 1) (.int (jRem x y) :: st)) : G σ lv pc (.int y :: .int x :: st) := by
  obtain ⟨p, e, s, m, args, below, meth, c, hx, hb, hml, hown, hts, hE, hD, hr, hlk, rfl⟩ := M
  have hK := hE.1
  intro H locs ls hP hS hl
  exact lv_irem hx hb d hne (kk H locs ls hP hS hl)
theorem z_ldiv (M : zM l D cl tys A ad R wf own cc nL rt σo ov G) {x y : Int64} (d : decode cc pc = .ok (.ldiv, 1)) (hne : ¬ y = 0) (kk : G σ lv (pc + 1) (.long (x / y) :: st)) : G σ lv pc (.long y :: .long x :: st) := by
  obtain ⟨p, e, s, m, args, below, meth, c, hx, hb, hml, hown, hts, hE, hD, hr, hlk, rfl⟩ := M
  have hK := hE.1
  intro H locs ls hP hS hl
  exact lv_ldiv hx hb d hne (kk H locs ls hP hS hl)
theorem z_lrem (M : zM l D cl tys A ad R wf own cc nL rt σo ov G) {x y : Int64} (d : decode cc pc = .ok (.lrem, 1)) (hne : ¬ y = 0) (kk : G σ lv (pc + 1) (.long (jRemL x y) :: st)) : G σ lv pc (.long y :: .long x :: st) := by
  obtain ⟨p, e, s, m, args, below, meth, c, hx, hb, hml, hown, hts, hE, hD, hr, hlk, rfl⟩ := M
  have hK := hE.1
  intro H locs ls hP hS hl
  exact lv_lrem hx hb d hne (kk H locs ls hP hS hl)
theorem z_ineg (M : zM l D cl tys A ad R wf own cc nL rt σo ov G) {x : Int32} (d : decode cc pc = .ok (.ineg, 1))  (kk : G σ lv (pc + 1) (.int (-x) :: st)) : G σ lv pc (.int x :: st) := by
  obtain ⟨p, e, s, m, args, below, meth, c, hx, hb, hml, hown, hts, hE, hD, hr, hlk, rfl⟩ := M
  have hK := hE.1
  intro H locs ls hP hS hl
  exact lv_ineg hx hb d (kk H locs ls hP hS hl)
theorem z_lneg (M : zM l D cl tys A ad R wf own cc nL rt σo ov G) {x : Int64} (d : decode cc pc = .ok (.lneg, 1))  (kk : G σ lv (pc + 1) (.long (-x) :: st)) : G σ lv pc (.long x :: st) := by
  obtain ⟨p, e, s, m, args, below, meth, c, hx, hb, hml, hown, hts, hE, hD, hr, hlk, rfl⟩ := M
  have hK := hE.1
  intro H locs ls hP hS hl
  exact lv_lneg hx hb d (kk H locs ls hP hS hl)
theorem z_ishl (M : zM l D cl tys A ad R wf own cc nL rt σo ov G) {x y : Int32} (d : decode cc pc = .ok (.ishl, 1))  (kk : G σ lv (pc + 1) (.int (jShl x y) :: st)) : G σ lv pc (.int y :: .int x :: st) := by
  obtain ⟨p, e, s, m, args, below, meth, c, hx, hb, hml, hown, hts, hE, hD, hr, hlk, rfl⟩ := M
  have hK := hE.1
  intro H locs ls hP hS hl
  exact lv_ishl hx hb d (kk H locs ls hP hS hl)
theorem z_ishr (M : zM l D cl tys A ad R wf own cc nL rt σo ov G) {x y : Int32} (d : decode cc pc = .ok (.ishr, 1))  (kk : G σ lv (pc + 1) (.int (jShr x y) :: st)) : G σ lv pc (.int y :: .int x :: st) := by
  obtain ⟨p, e, s, m, args, below, meth, c, hx, hb, hml, hown, hts, hE, hD, hr, hlk, rfl⟩ := M
  have hK := hE.1
  intro H locs ls hP hS hl
  exact lv_ishr hx hb d (kk H locs ls hP hS hl)
theorem z_iushr (M : zM l D cl tys A ad R wf own cc nL rt σo ov G) {x y : Int32} (d : decode cc pc = .ok (.iushr, 1))  (kk : G σ lv (pc + 1) (.int (jUshr x y) :: st)) : G σ lv pc (.int y :: .int x :: st) := by
  obtain ⟨p, e, s, m, args, below, meth, c, hx, hb, hml, hown, hts, hE, hD, hr, hlk, rfl⟩ := M
  have hK := hE.1
  intro H locs ls hP hS hl
  exact lv_iushr hx hb d rfl (kk H locs ls hP hS hl)
theorem z_ldcw (M : zM l D cl tys A ad R wf own cc nL rt σo ov G) {i : Nat} {v : Int32} (d : decode cc pc = .ok (.ldc_w i, 3)) (hw : Cond.constant own i v ∈ uw) (kk : G σ lv (pc + 3) (.int v :: st)) : G σ lv pc (st) := by
  obtain ⟨p, e, s, m, args, below, meth, c, hx, hb, hml, hown, hts, hE, hD, hr, hlk, rfl⟩ := M
  have hK := hE.1
  intro H locs ls hP hS hl
  exact lv_ldcw hx hb hown (hts _ hw) d (kk H locs ls hP hS hl)
theorem z_lor (M : zM l D cl tys A ad R wf own cc nL rt σo ov G) {x y : Int64} (d : decode cc pc = .ok (.lor, 1))  (kk : G σ lv (pc + 1) (.long (x ||| y) :: st)) : G σ lv pc (.long y :: .long x :: st) := by
  obtain ⟨p, e, s, m, args, below, meth, c, hx, hb, hml, hown, hts, hE, hD, hr, hlk, rfl⟩ := M
  have hK := hE.1
  intro H locs ls hP hS hl
  exact lv_lor hx hb d (kk H locs ls hP hS hl)
theorem z_lshr (M : zM l D cl tys A ad R wf own cc nL rt σo ov G) {x : Int64} {y : Int32} (d : decode cc pc = .ok (.lshr, 1))  (kk : G σ lv (pc + 1) (.long (jShrL x y) :: st)) : G σ lv pc (.int y :: .long x :: st) := by
  obtain ⟨p, e, s, m, args, below, meth, c, hx, hb, hml, hown, hts, hE, hD, hr, hlk, rfl⟩ := M
  have hK := hE.1
  intro H locs ls hP hS hl
  exact lv_lshr hx hb d rfl (kk H locs ls hP hS hl)
theorem z_lushr (M : zM l D cl tys A ad R wf own cc nL rt σo ov G) {x : Int64} {y : Int32} (d : decode cc pc = .ok (.lushr, 1))  (kk : G σ lv (pc + 1) (.long (jUshrL x y) :: st)) : G σ lv pc (.int y :: .long x :: st) := by
  obtain ⟨p, e, s, m, args, below, meth, c, hx, hb, hml, hown, hts, hE, hD, hr, hlk, rfl⟩ := M
  have hK := hE.1
  intro H locs ls hP hS hl
  exact lv_lushr hx hb d rfl (kk H locs ls hP hS hl)
theorem z_i2l (M : zM l D cl tys A ad R wf own cc nL rt σo ov G) {x : Int32} (d : decode cc pc = .ok (.i2l, 1))  (kk : G σ lv (pc + 1) (.long x.toInt64 :: st)) : G σ lv pc (.int x :: st) := by
  obtain ⟨p, e, s, m, args, below, meth, c, hx, hb, hml, hown, hts, hE, hD, hr, hlk, rfl⟩ := M
  have hK := hE.1
  intro H locs ls hP hS hl
  exact lv_i2l hx hb d rfl (kk H locs ls hP hS hl)
theorem z_l2i (M : zM l D cl tys A ad R wf own cc nL rt σo ov G) {x : Int64} (d : decode cc pc = .ok (.l2i, 1))  (kk : G σ lv (pc + 1) (.int x.toInt32 :: st)) : G σ lv pc (.long x :: st) := by
  obtain ⟨p, e, s, m, args, below, meth, c, hx, hb, hml, hown, hts, hE, hD, hr, hlk, rfl⟩ := M
  have hK := hE.1
  intro H locs ls hP hS hl
  exact lv_l2i hx hb d rfl (kk H locs ls hP hS hl)
theorem z_i2b (M : zM l D cl tys A ad R wf own cc nL rt σo ov G) {x : Int32} (d : decode cc pc = .ok (.i2b, 1))  (kk : G σ lv (pc + 1) (.int x.toInt8.toInt32 :: st)) : G σ lv pc (.int x :: st) := by
  obtain ⟨p, e, s, m, args, below, meth, c, hx, hb, hml, hown, hts, hE, hD, hr, hlk, rfl⟩ := M
  have hK := hE.1
  intro H locs ls hP hS hl
  exact lv_i2b hx hb d rfl (kk H locs ls hP hS hl)
theorem z_i2s (M : zM l D cl tys A ad R wf own cc nL rt σo ov G) {x : Int32} (d : decode cc pc = .ok (.i2s, 1))  (kk : G σ lv (pc + 1) (.int x.toInt16.toInt32 :: st)) : G σ lv pc (.int x :: st) := by
  obtain ⟨p, e, s, m, args, below, meth, c, hx, hb, hml, hown, hts, hE, hD, hr, hlk, rfl⟩ := M
  have hK := hE.1
  intro H locs ls hP hS hl
  exact lv_i2s hx hb d rfl (kk H locs ls hP hS hl)
theorem z_i2c (M : zM l D cl tys A ad R wf own cc nL rt σo ov G) {x v : Int32} (d : decode cc pc = .ok (.i2c, 1)) (hv : (x.toUInt32 % 65536).toInt32 = v) (kk : G σ lv (pc + 1) (.int v :: st)) : G σ lv pc (.int x :: st) := by
  obtain ⟨p, e, s, m, args, below, meth, c, hx, hb, hml, hown, hts, hE, hD, hr, hlk, rfl⟩ := M
  have hK := hE.1
  intro H locs ls hP hS hl
  exact lv_i2c hx hb d hv (kk H locs ls hP hS hl)
theorem z_dup (M : zM l D cl tys A ad R wf own cc nL rt σo ov G) {v : Value} (d : decode cc pc = .ok (.dup, 1)) (h1 : v.category = 1) (kk : G σ lv (pc + 1) (v :: v :: st)) : G σ lv pc (v :: st) := by
  obtain ⟨p, e, s, m, args, below, meth, c, hx, hb, hml, hown, hts, hE, hD, hr, hlk, rfl⟩ := M
  have hK := hE.1
  intro H locs ls hP hS hl
  exact lv_dup hx hb d h1 (kk H locs ls hP hS hl)
theorem z_pop (M : zM l D cl tys A ad R wf own cc nL rt σo ov G) {v : Value} (d : decode cc pc = .ok (.pop, 1)) (h1 : v.category = 1) (kk : G σ lv (pc + 1) (st)) : G σ lv pc (v :: st) := by
  obtain ⟨p, e, s, m, args, below, meth, c, hx, hb, hml, hown, hts, hE, hD, hr, hlk, rfl⟩ := M
  have hK := hE.1
  intro H locs ls hP hS hl
  exact lv_pop hx hb d h1 (kk H locs ls hP hS hl)
theorem z_dup2_11 (M : zM l D cl tys A ad R wf own cc nL rt σo ov G) {v w : Value} (d : decode cc pc = .ok (.dup2, 1)) (h1 : v.category = 1) (h2 : w.category = 1) (kk : G σ lv (pc + 1) (v :: w :: v :: w :: st)) : G σ lv pc (v :: w :: st) := by
  obtain ⟨p, e, s, m, args, below, meth, c, hx, hb, hml, hown, hts, hE, hD, hr, hlk, rfl⟩ := M
  have hK := hE.1
  intro H locs ls hP hS hl
  exact lv_dup2_11 hx hb d h1 h2 (kk H locs ls hP hS hl)
theorem z_dup2_2 (M : zM l D cl tys A ad R wf own cc nL rt σo ov G) {v : Value} (d : decode cc pc = .ok (.dup2, 1)) (h1 : v.category = 2) (kk : G σ lv (pc + 1) (v :: v :: st)) : G σ lv pc (v :: st) := by
  obtain ⟨p, e, s, m, args, below, meth, c, hx, hb, hml, hown, hts, hE, hD, hr, hlk, rfl⟩ := M
  have hK := hE.1
  intro H locs ls hP hS hl
  exact lv_dup2_2 hx hb d h1 (kk H locs ls hP hS hl)
theorem z_dup_x1 (M : zM l D cl tys A ad R wf own cc nL rt σo ov G) {v w : Value} (d : decode cc pc = .ok (.dup_x1, 1)) (h1 : v.category = 1) (h2 : w.category = 1) (kk : G σ lv (pc + 1) (v :: w :: v :: st)) : G σ lv pc (v :: w :: st) := by
  obtain ⟨p, e, s, m, args, below, meth, c, hx, hb, hml, hown, hts, hE, hD, hr, hlk, rfl⟩ := M
  have hK := hE.1
  intro H locs ls hP hS hl
  exact lv_dup_x1 hx hb d h1 h2 (kk H locs ls hP hS hl)
theorem z_if_eq (M : zM l D cl tys A ad R wf own cc nL rt σo ov G) {x : Int32} {off : Int} {tgt : Nat} (d : decode cc pc = .ok (.ifCond .eq off, 3)) (ht : (pc : Int) + off = (tgt : Int)) (kt : x = 0 → G σ lv tgt st) (kf : ¬ (x = 0) → G σ lv (pc + 3) st) : G σ lv pc (.int x :: st) := by
  obtain ⟨p, e, s, m, args, below, meth, c, hx, hb, hml, hown, hts, hE, hD, hr, hlk, rfl⟩ := M
  have hK := hE.1
  intro H locs ls hP hS hl
  exact lv_if_eq hx hb d ht (fun q => kt q H locs ls hP hS hl) (fun q => kf q H locs ls hP hS hl)
theorem z_icmp_eq (M : zM l D cl tys A ad R wf own cc nL rt σo ov G) {x y : Int32} {off : Int} {tgt : Nat} (d : decode cc pc = .ok (.if_icmp .eq off, 3)) (ht : (pc : Int) + off = (tgt : Int)) (kt : x = y → G σ lv tgt st) (kf : ¬ (x = y) → G σ lv (pc + 3) st) : G σ lv pc (.int y :: .int x :: st) := by
  obtain ⟨p, e, s, m, args, below, meth, c, hx, hb, hml, hown, hts, hE, hD, hr, hlk, rfl⟩ := M
  have hK := hE.1
  intro H locs ls hP hS hl
  exact lv_icmp_eq hx hb d ht (fun q => kt q H locs ls hP hS hl) (fun q => kf q H locs ls hP hS hl)
theorem z_if_ne (M : zM l D cl tys A ad R wf own cc nL rt σo ov G) {x : Int32} {off : Int} {tgt : Nat} (d : decode cc pc = .ok (.ifCond .ne off, 3)) (ht : (pc : Int) + off = (tgt : Int)) (kt : ¬ x = 0 → G σ lv tgt st) (kf : x = 0 → G σ lv (pc + 3) st) : G σ lv pc (.int x :: st) := by
  obtain ⟨p, e, s, m, args, below, meth, c, hx, hb, hml, hown, hts, hE, hD, hr, hlk, rfl⟩ := M
  have hK := hE.1
  intro H locs ls hP hS hl
  exact lv_if_ne hx hb d ht (fun q => kt q H locs ls hP hS hl) (fun q => kf q H locs ls hP hS hl)
theorem z_icmp_ne (M : zM l D cl tys A ad R wf own cc nL rt σo ov G) {x y : Int32} {off : Int} {tgt : Nat} (d : decode cc pc = .ok (.if_icmp .ne off, 3)) (ht : (pc : Int) + off = (tgt : Int)) (kt : ¬ x = y → G σ lv tgt st) (kf : x = y → G σ lv (pc + 3) st) : G σ lv pc (.int y :: .int x :: st) := by
  obtain ⟨p, e, s, m, args, below, meth, c, hx, hb, hml, hown, hts, hE, hD, hr, hlk, rfl⟩ := M
  have hK := hE.1
  intro H locs ls hP hS hl
  exact lv_icmp_ne hx hb d ht (fun q => kt q H locs ls hP hS hl) (fun q => kf q H locs ls hP hS hl)
theorem z_if_lt (M : zM l D cl tys A ad R wf own cc nL rt σo ov G) {x : Int32} {off : Int} {tgt : Nat} (d : decode cc pc = .ok (.ifCond .lt off, 3)) (ht : (pc : Int) + off = (tgt : Int)) (kt : x < 0 → G σ lv tgt st) (kf : ¬ (x < 0) → G σ lv (pc + 3) st) : G σ lv pc (.int x :: st) := by
  obtain ⟨p, e, s, m, args, below, meth, c, hx, hb, hml, hown, hts, hE, hD, hr, hlk, rfl⟩ := M
  have hK := hE.1
  intro H locs ls hP hS hl
  exact lv_if_lt hx hb d ht (fun q => kt q H locs ls hP hS hl) (fun q => kf q H locs ls hP hS hl)
theorem z_icmp_lt (M : zM l D cl tys A ad R wf own cc nL rt σo ov G) {x y : Int32} {off : Int} {tgt : Nat} (d : decode cc pc = .ok (.if_icmp .lt off, 3)) (ht : (pc : Int) + off = (tgt : Int)) (kt : x < y → G σ lv tgt st) (kf : ¬ (x < y) → G σ lv (pc + 3) st) : G σ lv pc (.int y :: .int x :: st) := by
  obtain ⟨p, e, s, m, args, below, meth, c, hx, hb, hml, hown, hts, hE, hD, hr, hlk, rfl⟩ := M
  have hK := hE.1
  intro H locs ls hP hS hl
  exact lv_icmp_lt hx hb d ht (fun q => kt q H locs ls hP hS hl) (fun q => kf q H locs ls hP hS hl)
theorem z_if_ge (M : zM l D cl tys A ad R wf own cc nL rt σo ov G) {x : Int32} {off : Int} {tgt : Nat} (d : decode cc pc = .ok (.ifCond .ge off, 3)) (ht : (pc : Int) + off = (tgt : Int)) (kt : 0 ≤ x → G σ lv tgt st) (kf : ¬ (0 ≤ x) → G σ lv (pc + 3) st) : G σ lv pc (.int x :: st) := by
  obtain ⟨p, e, s, m, args, below, meth, c, hx, hb, hml, hown, hts, hE, hD, hr, hlk, rfl⟩ := M
  have hK := hE.1
  intro H locs ls hP hS hl
  exact lv_if_ge hx hb d ht (fun q => kt q H locs ls hP hS hl) (fun q => kf q H locs ls hP hS hl)
theorem z_icmp_ge (M : zM l D cl tys A ad R wf own cc nL rt σo ov G) {x y : Int32} {off : Int} {tgt : Nat} (d : decode cc pc = .ok (.if_icmp .ge off, 3)) (ht : (pc : Int) + off = (tgt : Int)) (kt : y ≤ x → G σ lv tgt st) (kf : ¬ (y ≤ x) → G σ lv (pc + 3) st) : G σ lv pc (.int y :: .int x :: st) := by
  obtain ⟨p, e, s, m, args, below, meth, c, hx, hb, hml, hown, hts, hE, hD, hr, hlk, rfl⟩ := M
  have hK := hE.1
  intro H locs ls hP hS hl
  exact lv_icmp_ge hx hb d ht (fun q => kt q H locs ls hP hS hl) (fun q => kf q H locs ls hP hS hl)
theorem z_if_gt (M : zM l D cl tys A ad R wf own cc nL rt σo ov G) {x : Int32} {off : Int} {tgt : Nat} (d : decode cc pc = .ok (.ifCond .gt off, 3)) (ht : (pc : Int) + off = (tgt : Int)) (kt : 0 < x → G σ lv tgt st) (kf : ¬ (0 < x) → G σ lv (pc + 3) st) : G σ lv pc (.int x :: st) := by
  obtain ⟨p, e, s, m, args, below, meth, c, hx, hb, hml, hown, hts, hE, hD, hr, hlk, rfl⟩ := M
  have hK := hE.1
  intro H locs ls hP hS hl
  exact lv_if_gt hx hb d ht (fun q => kt q H locs ls hP hS hl) (fun q => kf q H locs ls hP hS hl)
theorem z_icmp_gt (M : zM l D cl tys A ad R wf own cc nL rt σo ov G) {x y : Int32} {off : Int} {tgt : Nat} (d : decode cc pc = .ok (.if_icmp .gt off, 3)) (ht : (pc : Int) + off = (tgt : Int)) (kt : y < x → G σ lv tgt st) (kf : ¬ (y < x) → G σ lv (pc + 3) st) : G σ lv pc (.int y :: .int x :: st) := by
  obtain ⟨p, e, s, m, args, below, meth, c, hx, hb, hml, hown, hts, hE, hD, hr, hlk, rfl⟩ := M
  have hK := hE.1
  intro H locs ls hP hS hl
  exact lv_icmp_gt hx hb d ht (fun q => kt q H locs ls hP hS hl) (fun q => kf q H locs ls hP hS hl)
theorem z_if_le (M : zM l D cl tys A ad R wf own cc nL rt σo ov G) {x : Int32} {off : Int} {tgt : Nat} (d : decode cc pc = .ok (.ifCond .le off, 3)) (ht : (pc : Int) + off = (tgt : Int)) (kt : x ≤ 0 → G σ lv tgt st) (kf : ¬ (x ≤ 0) → G σ lv (pc + 3) st) : G σ lv pc (.int x :: st) := by
  obtain ⟨p, e, s, m, args, below, meth, c, hx, hb, hml, hown, hts, hE, hD, hr, hlk, rfl⟩ := M
  have hK := hE.1
  intro H locs ls hP hS hl
  exact lv_if_le hx hb d ht (fun q => kt q H locs ls hP hS hl) (fun q => kf q H locs ls hP hS hl)
theorem z_icmp_le (M : zM l D cl tys A ad R wf own cc nL rt σo ov G) {x y : Int32} {off : Int} {tgt : Nat} (d : decode cc pc = .ok (.if_icmp .le off, 3)) (ht : (pc : Int) + off = (tgt : Int)) (kt : x ≤ y → G σ lv tgt st) (kf : ¬ (x ≤ y) → G σ lv (pc + 3) st) : G σ lv pc (.int y :: .int x :: st) := by
  obtain ⟨p, e, s, m, args, below, meth, c, hx, hb, hml, hown, hts, hE, hD, hr, hlk, rfl⟩ := M
  have hK := hE.1
  intro H locs ls hP hS hl
  exact lv_icmp_le hx hb d ht (fun q => kt q H locs ls hP hS hl) (fun q => kf q H locs ls hP hS hl)
theorem z_lcmp_eq (M : zM l D cl tys A ad R wf own cc nL rt σo ov G) {x y : Int64} {off : Int} {tgt : Nat} (d : decode cc pc = .ok (.lcmp, 1)) (d2 : decode cc (pc + 1) = .ok (.ifCond .eq off, 3)) (ht : ((pc + 1 : Nat) : Int) + off = (tgt : Int)) (kt : x = y → G σ lv tgt st) (kf : ¬ (x = y) → G σ lv (pc + 4) st) : G σ lv pc (.long y :: .long x :: st) := by
  obtain ⟨p, e, s, m, args, below, meth, c, hx, hb, hml, hown, hts, hE, hD, hr, hlk, rfl⟩ := M
  have hK := hE.1
  intro H locs ls hP hS hl
  exact W.lcmp hx hb d (lv_if_eq hx hb d2 ht (fun q => kt ((lg_cmp_eq x y).mp q) H locs ls hP hS hl) (fun q => kf (fun z => q ((lg_cmp_eq x y).mpr z)) H locs ls hP hS hl))
theorem z_lcmp_ne (M : zM l D cl tys A ad R wf own cc nL rt σo ov G) {x y : Int64} {off : Int} {tgt : Nat} (d : decode cc pc = .ok (.lcmp, 1)) (d2 : decode cc (pc + 1) = .ok (.ifCond .ne off, 3)) (ht : ((pc + 1 : Nat) : Int) + off = (tgt : Int)) (kt : ¬ x = y → G σ lv tgt st) (kf : x = y → G σ lv (pc + 4) st) : G σ lv pc (.long y :: .long x :: st) := by
  obtain ⟨p, e, s, m, args, below, meth, c, hx, hb, hml, hown, hts, hE, hD, hr, hlk, rfl⟩ := M
  have hK := hE.1
  intro H locs ls hP hS hl
  exact W.lcmp hx hb d (lv_if_ne hx hb d2 ht (fun q => kt (fun z => q ((lg_cmp_eq x y).mpr z)) H locs ls hP hS hl) (fun q => kf ((lg_cmp_eq x y).mp q) H locs ls hP hS hl))
theorem z_lcmp_lt (M : zM l D cl tys A ad R wf own cc nL rt σo ov G) {x y : Int64} {off : Int} {tgt : Nat} (d : decode cc pc = .ok (.lcmp, 1)) (d2 : decode cc (pc + 1) = .ok (.ifCond .lt off, 3)) (ht : ((pc + 1 : Nat) : Int) + off = (tgt : Int)) (kt : x < y → G σ lv tgt st) (kf : ¬ (x < y) → G σ lv (pc + 4) st) : G σ lv pc (.long y :: .long x :: st) := by
  obtain ⟨p, e, s, m, args, below, meth, c, hx, hb, hml, hown, hts, hE, hD, hr, hlk, rfl⟩ := M
  have hK := hE.1
  intro H locs ls hP hS hl
  exact W.lcmp hx hb d (lv_if_lt hx hb d2 ht (fun q => kt ((lg_cmp_lt x y).mp q) H locs ls hP hS hl) (fun q => kf (fun z => q ((lg_cmp_lt x y).mpr z)) H locs ls hP hS hl))
theorem z_lcmp_ge (M : zM l D cl tys A ad R wf own cc nL rt σo ov G) {x y : Int64} {off : Int} {tgt : Nat} (d : decode cc pc = .ok (.lcmp, 1)) (d2 : decode cc (pc + 1) = .ok (.ifCond .ge off, 3)) (ht : ((pc + 1 : Nat) : Int) + off = (tgt : Int)) (kt : y ≤ x → G σ lv tgt st) (kf : ¬ (y ≤ x) → G σ lv (pc + 4) st) : G σ lv pc (.long y :: .long x :: st) := by
  obtain ⟨p, e, s, m, args, below, meth, c, hx, hb, hml, hown, hts, hE, hD, hr, hlk, rfl⟩ := M
  have hK := hE.1
  intro H locs ls hP hS hl
  exact W.lcmp hx hb d (lv_if_ge hx hb d2 ht (fun q => kt ((lg_cmp_ge x y).mp q) H locs ls hP hS hl) (fun q => kf (fun z => q ((lg_cmp_ge x y).mpr z)) H locs ls hP hS hl))
theorem z_lcmp_gt (M : zM l D cl tys A ad R wf own cc nL rt σo ov G) {x y : Int64} {off : Int} {tgt : Nat} (d : decode cc pc = .ok (.lcmp, 1)) (d2 : decode cc (pc + 1) = .ok (.ifCond .gt off, 3)) (ht : ((pc + 1 : Nat) : Int) + off = (tgt : Int)) (kt : y < x → G σ lv tgt st) (kf : ¬ (y < x) → G σ lv (pc + 4) st) : G σ lv pc (.long y :: .long x :: st) := by
  obtain ⟨p, e, s, m, args, below, meth, c, hx, hb, hml, hown, hts, hE, hD, hr, hlk, rfl⟩ := M
  have hK := hE.1
  intro H locs ls hP hS hl
  exact W.lcmp hx hb d (lv_if_gt hx hb d2 ht (fun q => kt ((lg_cmp_gt x y).mp q) H locs ls hP hS hl) (fun q => kf (fun z => q ((lg_cmp_gt x y).mpr z)) H locs ls hP hS hl))
theorem z_lcmp_le (M : zM l D cl tys A ad R wf own cc nL rt σo ov G) {x y : Int64} {off : Int} {tgt : Nat} (d : decode cc pc = .ok (.lcmp, 1)) (d2 : decode cc (pc + 1) = .ok (.ifCond .le off, 3)) (ht : ((pc + 1 : Nat) : Int) + off = (tgt : Int)) (kt : x ≤ y → G σ lv tgt st) (kf : ¬ (x ≤ y) → G σ lv (pc + 4) st) : G σ lv pc (.long y :: .long x :: st) := by
  obtain ⟨p, e, s, m, args, below, meth, c, hx, hb, hml, hown, hts, hE, hD, hr, hlk, rfl⟩ := M
  have hK := hE.1
  intro H locs ls hP hS hl
  exact W.lcmp hx hb d (lv_if_le hx hb d2 ht (fun q => kt ((lg_cmp_le x y).mp q) H locs ls hP hS hl) (fun q => kf (fun z => q ((lg_cmp_le x y).mpr z)) H locs ls hP hS hl))
theorem z_goto (M : zM l D cl tys A ad R wf own cc nL rt σo ov G) {off : Int} {tgt : Nat} (d : decode cc pc = .ok (.goto off, 3)) (ht : (pc : Int) + off = (tgt : Int)) (kk : G σ lv tgt st) : G σ lv pc st := by
  obtain ⟨p, e, s, m, args, below, meth, c, hx, hb, hml, hown, hts, hE, hD, hr, hlk, rfl⟩ := M
  have hK := hE.1
  intro H locs ls hP hS hl
  exact lv_goto hx hb d ht (kk H locs ls hP hS hl)
theorem z_tabIn (M : zM l D cl tys A ad R wf own cc nL rt σo ov G) {dflt lo hi : Int} {offs : Array Int} {len : Nat} {x : Int32} {off : Int} {tgt : Nat} (d : decode cc pc = .ok (.tableswitch dflt lo hi offs, len)) (h1 : ¬ x.toInt < lo) (h2 : ¬ hi < x.toInt) (ho : offs[(x.toInt - lo).toNat]? = some off) (ht : (pc : Int) + off = (tgt : Int)) (kk : G σ lv tgt st) : G σ lv pc (.int x :: st) := by
  obtain ⟨p, e, s, m, args, below, meth, c, hx, hb, hml, hown, hts, hE, hD, hr, hlk, rfl⟩ := M
  have hK := hE.1
  intro H locs ls hP hS hl
  exact lv_tableIn hx hb d h1 h2 ho ht (kk H locs ls hP hS hl)
theorem z_tabOut (M : zM l D cl tys A ad R wf own cc nL rt σo ov G) {dflt lo hi : Int} {offs : Array Int} {len : Nat} {x : Int32} {tgt : Nat} (d : decode cc pc = .ok (.tableswitch dflt lo hi offs, len)) (h : x.toInt < lo ∨ hi < x.toInt) (ht : (pc : Int) + dflt = (tgt : Int)) (kk : G σ lv tgt st) : G σ lv pc (.int x :: st) := by
  obtain ⟨p, e, s, m, args, below, meth, c, hx, hb, hml, hown, hts, hE, hD, hr, hlk, rfl⟩ := M
  have hK := hE.1
  intro H locs ls hP hS hl
  exact lv_tableOut hx hb d h ht (kk H locs ls hP hS hl)
theorem z_sub (M : zM l D cl tys A ad R wf own cc nL rt σo ov G) (ks : List Nat) (h : lv_pick lv ks = lv') (kk : G σ lv' pc st) : G σ lv pc st := by
  obtain ⟨p, e, s, m, args, below, meth, c, hx, hb, hml, hown, hts, hE, hD, hr, hlk, rfl⟩ := M
  have hK := hE.1
  intro H locs ls hP hS hl
  exact kk H locs ls hP hS (lv_sub hl ks h)
theorem z_iret {v : Int32} (M : zM l D cl tys A ad R wf own cc nL (some .int) σ (some (.int v)) G) (d : decode cc pc = .ok (.ireturn, 1)) : G σ lv pc [.int v] := by
  obtain ⟨p, e, s, m, args, below, meth, c, hx, hb, hml, hown, hts, hE, hD, hr, hlk, rfl⟩ := M
  have hK := hE.1
  intro H locs ls hP hS hl
  exact W.iret hx hb hr (fun t ht hW => ⟨⟨rfl, by rw [ht]; exact hP⟩, hS.F ht⟩) hS.2.2 d hlk
theorem z_zret {v : Int32} (M : zM l D cl tys A ad R wf own cc nL (some .boolean) σ (some (.int v)) G) (h : narrow .boolean (.int v) = .int v) (d : decode cc pc = .ok (.ireturn, 1)) : G σ lv pc [.int v] := by
  obtain ⟨p, e, s, m, args, below, meth, c, hx, hb, hml, hown, hts, hE, hD, hr, hlk, rfl⟩ := M
  have hK := hE.1
  intro H locs ls hP hS hl
  exact W.zret hx hb hr h (fun t ht hW => ⟨⟨rfl, by rw [ht]; exact hP⟩, hS.F ht⟩) hS.2.2 d hlk
theorem z_lret {v : Int64} (M : zM l D cl tys A ad R wf own cc nL (some .long) σ (some (.long v)) G) (d : decode cc pc = .ok (.lreturn, 1)) : G σ lv pc [.long v] := by
  obtain ⟨p, e, s, m, args, below, meth, c, hx, hb, hml, hown, hts, hE, hD, hr, hlk, rfl⟩ := M
  have hK := hE.1
  intro H locs ls hP hS hl
  exact W.lret hx hb hr (fun t ht hW => ⟨⟨rfl, by rw [ht]; exact hP⟩, hS.F ht⟩) hS.2.2 d hlk
theorem z_vret (M : zM l D cl tys A ad R wf own cc nL none σ none G) (d : decode cc pc = .ok (.return_, 1)) : G σ lv pc [] := by
  obtain ⟨p, e, s, m, args, below, meth, c, hx, hb, hml, hown, hts, hE, hD, hr, hlk, rfl⟩ := M
  have hK := hE.1
  intro H locs ls hP hS hl
  exact W.vret hx hb hr (fun t ht hW => ⟨⟨rfl, by rw [ht]; exact hP⟩, hS.F ht⟩) hS.2.2 d hlk
theorem z_aret {v : Nat} {C : String} (M : zM l D cl tys A ad R wf own cc nL (some (.object C)) σ (some (.ref v)) G) (d : decode cc pc = .ok (.areturn, 1)) : G σ lv pc [.ref v] := by
  obtain ⟨p, e, s, m, args, below, meth, c, hx, hb, hml, hown, hts, hE, hD, hr, hlk, rfl⟩ := M
  have hK := hE.1
  intro H locs ls hP hS hl
  exact W.aret hx hb hr (Or.inl ⟨C, rfl⟩) (Or.inr ⟨v, rfl⟩) (fun t ht hW => ⟨⟨rfl, by rw [ht]; exact hP⟩, hS.F ht⟩) hS.2.2 d hlk
theorem z_getf (M : zM l D cl tys A ad R wf own cc nL rt σo ov G) {ref C : String} {T : u_T} {N ci index : Nat} (hin : ∀ w ∈ u_ws C T N, w ∈ uw) (q0 : Nat) {a : Nat} {fs : List Value} (he : (wf σ)[q0]? = some (a, .inr (ci, fs))) (hc : cl[ci]? = some (C, T, N)) (k : Nat) (hk : k < N) (hlink : Cond.fieldLink own index ref (T k).2.1 (T k).2.2.1 ∈ uw) (hsame : ref = (T k).1) {v : Value} (hv : fs[k]? = some v) (d : decode cc pc = .ok (.getfield index, 3)) (kk : G σ lv (pc + 3) (v :: st)) : G σ lv pc (.ref a :: st) := by
  obtain ⟨p, e, s, m, args, below, meth, c, hx, hb, hml, hown, hts, hE, hD, hr, hlk, rfl⟩ := M
  have hK := hE.1
  intro H locs ls hP hS hl
  exact va_get hx hb hts hin hown hK hP q0 he hc k hk (hts _ hlink) (fun _ h9 => by rw [hsame]; exact h9) hv d (kk H locs ls hP hS hl)
theorem z_putf (M : zM l D cl tys A ad R wf own cc nL rt σo ov G) {ref C : String} {T : u_T} {N ci index : Nat} (hin : ∀ w ∈ u_ws C T N, w ∈ uw) (ty0 : Nat → FieldType) (hty : ∀ k, k < N → parseFieldDescriptor (T k).2.2.1 = some (ty0 k)) (hnm : ∀ a, a < N → ∀ b, b < N → a ≠ b → (T a).2.1 ≠ (T b).2.1) (q0 : Nat) {a : Nat} {fs : List Value} (he : (wf σ)[q0]? = some (a, .inr (ci, fs))) (hc : cl[ci]? = some (C, T, N)) (k : Nat) (hk : k < N) (hlink : Cond.fieldLink own index ref (T k).2.1 (T k).2.2.1 ∈ uw) (hsame : ref = (T k).1) (hfin : (T k).2.2.2 = false) {ty : FieldType} {v : Value} (hd : parseFieldDescriptor (T k).2.2.1 = some ty) (hn : narrow ty v = v) (hfit : fits ty v = true) (hl9 : k < fs.length) {σ1 : Zst} (hw : (wf σ).set q0 (a, .inr (ci, fs.set k v)) = wf σ1) (d : decode cc pc = .ok (.putfield index, 3)) (kk : G σ1 lv (pc + 3) st) : G σ lv pc (v :: .ref a :: st) := by
  obtain ⟨p, e, s, m, args, below, meth, c, hx, hb, hml, hown, hts, hE, hD, hr, hlk, rfl⟩ := M
  have hK := hE.1
  intro H locs ls hP hS hl
  exact va_put hx hb hts hin ty0 hty hnm hown hK hP (hD σ) hS q0 he hc k hk (hts _ hlink) (fun _ h9 => by rw [hsame]; exact h9) hfin hd hn hfit hl9 d (fun H1 locs1 hP1 _ hS1 => kk H1 locs1 ls (by rw [← hw]; exact hP1) hS1 hl)
theorem z_iald (M : zM l D cl tys A ad R wf own cc nL rt σo ov G) (q0 t0 : Nat) {a : Nat} {cA : ClassId} {n : Nat} {f : Nat → Int32} (ha : (wf σ)[q0]? = some (a, .inl (cA, n, .inl f))) (ht : tys[t0]? = some (cA, .int)) {i : Int32} (hin : vp_in i n) (d : decode cc pc = .ok (.iaload, 1)) (kk : G σ lv (pc + 1) (.int (f i.toNatClampNeg) :: st)) : G σ lv pc (.int i :: .ref a :: st) := by
  obtain ⟨p, e, s, m, args, below, meth, c, hx, hb, hml, hown, hts, hE, hD, hr, hlk, rfl⟩ := M
  have hK := hE.1
  intro H locs ls hP hS hl
  exact va_iald hx hb hK hP q0 t0 ha ht hin d (kk H locs ls hP hS hl)
theorem z_iast (M : zM l D cl tys A ad R wf own cc nL rt σo ov G) (q0 t0 : Nat) {a : Nat} {cA : ClassId} {n : Nat} {f : Nat → Int32} (ha : (wf σ)[q0]? = some (a, .inl (cA, n, .inl f))) (ht : tys[t0]? = some (cA, .int)) {i : Int32} {x : Int32} (hin : vp_in i n) {σ1 : Zst} (hw : (wf σ).set q0 (a, .inl (cA, n, .inl (upd f i.toNatClampNeg x))) = wf σ1) (d : decode cc pc = .ok (.iastore, 1)) (kk : G σ1 lv (pc + 1) st) : G σ lv pc (.int x :: .int i :: .ref a :: st) := by
  obtain ⟨p, e, s, m, args, below, meth, c, hx, hb, hml, hown, hts, hE, hD, hr, hlk, rfl⟩ := M
  have hK := hE.1
  intro H locs ls hP hS hl
  exact va_iast hx hb hK hP (hD σ) hS q0 t0 ha ht hin d (fun H1 locs1 hP1 _ hS1 => kk H1 locs1 ls (by rw [← hw]; exact hP1) hS1 hl)
theorem z_lald (M : zM l D cl tys A ad R wf own cc nL rt σo ov G) (q0 t0 : Nat) {a : Nat} {cA : ClassId} {n : Nat} {f : Nat → Int64} (ha : (wf σ)[q0]? = some (a, .inl (cA, n, .inr (.inl f)))) (ht : tys[t0]? = some (cA, .long)) {i : Int32} (hin : vp_in i n) (d : decode cc pc = .ok (.laload, 1)) (kk : G σ lv (pc + 1) (.long (f i.toNatClampNeg) :: st)) : G σ lv pc (.int i :: .ref a :: st) := by
  obtain ⟨p, e, s, m, args, below, meth, c, hx, hb, hml, hown, hts, hE, hD, hr, hlk, rfl⟩ := M
  have hK := hE.1
  intro H locs ls hP hS hl
  exact va_lald hx hb hK hP q0 t0 ha ht hin d (kk H locs ls hP hS hl)
theorem z_last (M : zM l D cl tys A ad R wf own cc nL rt σo ov G) (q0 t0 : Nat) {a : Nat} {cA : ClassId} {n : Nat} {f : Nat → Int64} (ha : (wf σ)[q0]? = some (a, .inl (cA, n, .inr (.inl f)))) (ht : tys[t0]? = some (cA, .long)) {i : Int32} {x : Int64} (hin : vp_in i n) {σ1 : Zst} (hw : (wf σ).set q0 (a, .inl (cA, n, .inr (.inl (vp_updL f i.toNatClampNeg x)))) = wf σ1) (d : decode cc pc = .ok (.lastore, 1)) (kk : G σ1 lv (pc + 1) st) : G σ lv pc (.long x :: .int i :: .ref a :: st) := by
  obtain ⟨p, e, s, m, args, below, meth, c, hx, hb, hml, hown, hts, hE, hD, hr, hlk, rfl⟩ := M
  have hK := hE.1
  intro H locs ls hP hS hl
  exact va_last hx hb hK hP (hD σ) hS q0 t0 ha ht hin d (fun H1 locs1 hP1 _ hS1 => kk H1 locs1 ls (by rw [← hw]; exact hP1) hS1 hl)
theorem z_zald (M : zM l D cl tys A ad R wf own cc nL rt σo ov G) (q0 t0 : Nat) {a : Nat} {cA : ClassId} {n : Nat} {f : Nat → Int32} (ha : (wf σ)[q0]? = some (a, .inl (cA, n, .inl f))) (ht : tys[t0]? = some (cA, .boolean)) {i : Int32} (hin : vp_in i n) (d : decode cc pc = .ok (.baload, 1)) (kk : G σ lv (pc + 1) (.int (f i.toNatClampNeg) :: st)) : G σ lv pc (.int i :: .ref a :: st) := by
  obtain ⟨p, e, s, m, args, below, meth, c, hx, hb, hml, hown, hts, hE, hD, hr, hlk, rfl⟩ := M
  have hK := hE.1
  intro H locs ls hP hS hl
  exact va_zald hx hb hK hP q0 t0 ha ht hin d (kk H locs ls hP hS hl)
theorem z_zast (M : zM l D cl tys A ad R wf own cc nL rt σo ov G) (q0 t0 : Nat) {a : Nat} {cA : ClassId} {n : Nat} {f : Nat → Int32} (ha : (wf σ)[q0]? = some (a, .inl (cA, n, .inl f))) (ht : tys[t0]? = some (cA, .boolean)) {i : Int32} {x : Int32} (hin : vp_in i n) {σ1 : Zst} (hw : (wf σ).set q0 (a, .inl (cA, n, .inl (upd f i.toNatClampNeg (vp_nar .boolean x)))) = wf σ1) (d : decode cc pc = .ok (.bastore, 1)) (kk : G σ1 lv (pc + 1) st) : G σ lv pc (.int x :: .int i :: .ref a :: st) := by
  obtain ⟨p, e, s, m, args, below, meth, c, hx, hb, hml, hown, hts, hE, hD, hr, hlk, rfl⟩ := M
  have hK := hE.1
  intro H locs ls hP hS hl
  exact va_zast hx hb hK hP (hD σ) hS q0 t0 ha ht hin d (fun H1 locs1 hP1 _ hS1 => kk H1 locs1 ls (by rw [← hw]; exact hP1) hS1 hl)
theorem z_alen (M : zM l D cl tys A ad R wf own cc nL rt σo ov G) (q0 t0 : Nat) {a : Nat} {cA : ClassId} {x : vp_A} (ha : (wf σ)[q0]? = some (a, .inl (cA, x))) {ty : FieldType} (ht : tys[t0]? = some (cA, ty)) {v : Int32} (hv : Int32.ofNat x.1 = v) (d : decode cc pc = .ok (.arraylength, 1)) (kk : G σ lv (pc + 1) (.int v :: st)) : G σ lv pc (.ref a :: st) := by
  obtain ⟨p, e, s, m, args, below, meth, c, hx, hb, hml, hown, hts, hE, hD, hr, hlk, rfl⟩ := M
  have hK := hE.1
  intro H locs ls hP hS hl
  exact va_alen hx hb hK hP q0 t0 ha ht hv d (kk H locs ls hP hS hl)
theorem zNw40 {n k : Nat} (h : 1 ≤ n) (hW : k ≤ 8) : k + (nativeFrameWords "java/lang/System" "arraycopy" 5 + 11) ≤ (zR n).locals := by
  have e : nativeFrameWords "java/lang/System" "arraycopy" 5 ≤ 40 := by decide +kernel
  show _ ≤ 64 * n
  omega
theorem zR_r {n1 n maxL : Nat} (h : n1 + 1 ≤ n) (hm : maxL ≤ 45) : (zR n1).frames + 1 ≤ (zR n).frames ∧ 8 + (maxL + 11) + (zR n1).locals ≤ (zR n).locals := ⟨h, by show 8 + (maxL + 11) + 64 * n1 ≤ 64 * n; omega⟩
theorem z_run {p : Program} {e : Env} {s : State} {m : MethodId} {args : Array Value} {below : List Frame} {meth : Method} {c : Code} {Q : State → Prop} {σ1 : Zst} {ov1 : Option Value} {a : Array Value} {rest st0 : List Value} {H : Heap} {locs : List Loc} {ls : Array Slot} {nL : Nat}
    (hr : va_Run p l e R s m args below meth c H locs 0 0 0 0 (F0 m pc ls st0) rest (zQ D cl wf A σ1 ov1 a) A) (hS : va_S A s.heap H locs) (hl : lv_has ls nL lv)
    (kk : zC l D cl A R wf nL p e s m args below meth c Q σ1 lv (pc + 3) (ov1.toList ++ rest)) : W p l e R s m args below meth c H locs 0 0 Q (F0 m pc ls st0) := by
  intro T hT X
  obtain ⟨v, st₀, t, T', L, h0, X', hL, e1, e2, ⟨⟨hv, hP1⟩, hz, hk⟩, st⟩ := hr T hT X
  cases hv
  rw [h0] at hz hk
  have hS1 : va_S A s.heap T'.heap (locs ++ L) := ⟨Nat.le_trans hS.1 (by rw [e1]; exact hz), fun q h1 h2 => by rw [e1, hk q (Nat.lt_of_lt_of_le h1 hS.1) h2]; exact hS.2.1 q h1 h2, fun q hq => by
      rcases List.mem_append.mp hq with h | h
      · exact hS.2.2 q h
      · exact hL q h⟩
  obtain ⟨t2, a1, b1⟩ := kk T'.heap (locs ++ L) ls (by rw [e1]; exact hP1) hS1 hl T' rfl X'
  exact ⟨t2, st t2 a1, b1⟩
theorem z_blind {av : List Value} {σ : Zst} : FrameBlind (va_Pc av (fun U => va_P D cl (wf σ) U.heap ∧ zE D cl tys A ad U U.heap)) := fun a U g mk q => ⟨q.1, q.2.1, zE_blind g mk a q.2.2⟩
theorem z_callV {n : Nat} (M : zM l D cl tys A ad (zR n) wf own cc nL rt σo ov G) {y : MethodName} {bytes : ByteArray} {maxL n1 index : Nat} {ret : Option FieldType} {σ1 : Zst} {ov1 : Option Value} (As : List Value) {rest : List Value} {b ci N q0 : Nat} {C : String} {T : u_T} {fs : List Value} (hM : zT l D cl tys A ad wf y bytes maxL ret n1 (.ref b :: As) σ σ1 ov1) (he : (wf σ)[q0]? = some (b, .inr (ci, fs))) (hc : cl[ci]? = some (C, T, N)) (hl9 : Cond.methodLink own index y ∈ uw) (hini : Cond.initialized y.cls ∈ uw) (hcode : Cond.code y bytes maxL ret ∈ uw) (hi : Cond.instanceMethod y ∈ uw) (hs : Cond.selects C y y ∈ uw) (hd : y.cls ≠ "java/lang/invoke/MethodHandle" ∧ y.cls ≠ "java/lang/invoke/VarHandle" ∧ (parseMethodDescriptor y.desc).map (fun d => d.parameters.length) = some As.length) (hR : n1 + 1 ≤ n) (hm : maxL ≤ 45) (hst : st = As.reverse ++ .ref b :: rest) (hW : (rest.map fun v => v.category).sum ≤ 8) (d : decode cc pc = .ok (.invokevirtual index, 3)) (kk : G σ1 lv (pc + 3) (ov1.toList ++ rest)) : G σ lv pc st := by
  obtain ⟨p, e, s, m, args, below, meth, c, hx, hb, hml, hown, hts, hE, hD, hr, hlk, rfl⟩ := M
  have hK := hE.1
  intro H locs ls hP hS hl
  exact z_run (va_runV (n := As.length) ⟨hx, hb, hml, hown, hts⟩ hM ⟨callB_of As.length hts (fun w hw => ⟨(uw_good hcode w hw).1, (uw_good hcode w hw).2⟩) rfl rfl rfl (hts _ hini) (hts _ hl9) hd (zR_r hR hm), hts _ hi, hts _ hs⟩ ⟨z_blind, va_recv hK hP hc he, fun U hU hW => ⟨rfl, by rw [hU]; exact hP, zE_call hW hU hS hE⟩⟩ rfl rfl hl.1 hst (lv_room hW) d ⟨Nat.le_refl _, Nat.le_refl _⟩) hS hl kk
theorem z_callS {n : Nat} (M : zM l D cl tys A ad (zR n) wf own cc nL rt σo ov G) {y : MethodName} {bytes : ByteArray} {maxL n1 index : Nat} {ret : Option FieldType} {σ1 : Zst} {ov1 : Option Value} (As : List Value) {rest : List Value} (hM : zT l D cl tys A ad wf y bytes maxL ret n1 As σ σ1 ov1) (hl9 : Cond.methodLink own index y ∈ uw) (hini : Cond.initialized y.cls ∈ uw) (hcode : Cond.code y bytes maxL ret ∈ uw) (hi : Cond.static y ∈ uw) (hd : y.cls ≠ "java/lang/invoke/MethodHandle" ∧ y.cls ≠ "java/lang/invoke/VarHandle" ∧ (parseMethodDescriptor y.desc).map (fun d => d.parameters.length) = some As.length) (hR : n1 + 1 ≤ n) (hm : maxL ≤ 45) (hst : st = As.reverse ++ rest) (hW : (rest.map fun v => v.category).sum ≤ 8) (d : decode cc pc = .ok (.invokestatic index, 3)) (kk : G σ1 lv (pc + 3) (ov1.toList ++ rest)) : G σ lv pc st := by
  obtain ⟨p, e, s, m, args, below, meth, c, hx, hb, hml, hown, hts, hE, hD, hr, hlk, rfl⟩ := M
  have hK := hE.1
  intro H locs ls hP hS hl
  exact z_run (va_runS (n := As.length) ⟨hx, hb, hml, hown, hts⟩ hM ⟨callB_of As.length hts (fun w hw => ⟨(uw_good hcode w hw).1, (uw_good hcode w hw).2⟩) rfl rfl rfl (hts _ hini) (hts _ hl9) hd (zR_r hR hm), hts _ hi⟩ ⟨z_blind, fun U hU hW => ⟨rfl, by rw [hU]; exact hP, zE_call hW hU hS hE⟩⟩ rfl rfl hl.1 hst (lv_room hW) d ⟨Nat.le_refl _, Nat.le_refl _⟩) hS hl kk
theorem z_callSN {n : Nat} (M : zM l D cl tys A ad (zR n) wf own cc nL rt σo ov G) {y : MethodName} {bytes : ByteArray} {maxL n1 index : Nat} {ret : Option FieldType} {σ1 : Zst} {ov1 : Option Value} {host : String} (As : List Value) {rest : List Value} (hM : zT l D cl tys A ad wf y bytes maxL ret n1 As σ σ1 ov1) (hl9 : Cond.methodLinkNest own index y host ∈ zNw) (hini : Cond.initialized y.cls ∈ uw) (hcode : Cond.code y bytes maxL ret ∈ uw) (hi : Cond.static y ∈ uw) (hd : y.cls ≠ "java/lang/invoke/MethodHandle" ∧ y.cls ≠ "java/lang/invoke/VarHandle" ∧ (parseMethodDescriptor y.desc).map (fun d => d.parameters.length) = some As.length) (hR : n1 + 1 ≤ n) (hm : maxL ≤ 45) (hst : st = As.reverse ++ rest) (hW : (rest.map fun v => v.category).sum ≤ 8) (d : decode cc pc = .ok (.invokestatic index, 3)) (kk : G σ1 lv (pc + 3) (ov1.toList ++ rest)) : G σ lv pc st := by
  obtain ⟨p, e, s, m, args, below, meth, c, hx, hb, hml, hown, hts, hE, hD, hr, hlk, rfl⟩ := M
  have hK := hE.1
  intro H locs ls hP hS hl
  exact z_run (va_runSN (n := As.length) ⟨hx, hb, hml, hown, hts⟩ hM ⟨va_cnB As.length hts (uw_good hcode) rfl rfl rfl (hE.2.1 _ hl9) (hts _ hini) hd (zR_r hR hm), hts _ hi, trivial⟩ ⟨z_blind, fun U hU hW => ⟨rfl, by rw [hU]; exact hP, zE_call hW hU hS hE⟩⟩ rfl rfl hl.1 hst (lv_room hW) d ⟨Nat.le_refl _, Nat.le_refl _⟩) hS hl kk
theorem uw_U {own C owner : String} {index maxL : Nat} {x y : MethodName} {bytes : ByteArray} {ret : Option FieldType} (hl9 : Cond.methodLink own index x ∈ uw) (hsm : Cond.sameMethod x.cls owner x.name x.desc ∈ uw) (hs : Cond.selects C x y ∈ uw) (hi : Cond.instanceMethod y ∈ uw) (hini : Cond.initialized y.cls ∈ uw) (hcode : Cond.code y bytes maxL ret ∈ uw) : GoodIn uw (va_wsU own index C owner x y (Cond.code y bytes maxL ret :: uw)) := by
  have gd : ∀ w, w ∈ uw → w ∈ uw ∧ ((w.onTables && w.keeps) = true ∨ ∃ ty, w = .arrayClass ty) := fun w hw => ⟨hw, good_of_word (uw_gw _ hw)⟩
  intro w hw
  rcases List.mem_append.mp hw with hw | hw
  · simp only [List.mem_cons, List.not_mem_nil, or_false] at hw
    rcases hw with rfl | rfl | rfl | rfl | rfl
    · exact gd _ hl9
    · exact gd _ hsm
    · exact gd _ hs
    · exact gd _ hi
    · exact gd _ hini
  · exact uw_good hcode w hw
theorem z_callU {n : Nat} (M : zM l D cl tys A ad (zR n) wf own cc nL rt σo ov G) {x : MethodName} {owner : String} {y : MethodName} {bytes : ByteArray} {maxL n1 index : Nat} {ret : Option FieldType} {σ1 : Zst} {ov1 : Option Value} (As : List Value) {rest : List Value} {b ci N q0 : Nat} {C : String} {T : u_T} {fs : List Value} (hM : zT l D cl tys A ad wf y bytes maxL ret n1 (.ref b :: As) σ σ1 ov1) (he : (wf σ)[q0]? = some (b, .inr (ci, fs))) (hc : cl[ci]? = some (C, T, N)) (hl9 : Cond.methodLink own index x ∈ uw) (hsm : Cond.sameMethod x.cls owner x.name x.desc ∈ uw) (hs : Cond.selects C x y ∈ uw) (hi : Cond.instanceMethod y ∈ uw) (hini : Cond.initialized y.cls ∈ uw) (hcode : Cond.code y bytes maxL ret ∈ uw) (hyx : y = ⟨owner, x.name, x.desc⟩) (hd : owner ≠ "java/lang/invoke/MethodHandle" ∧ owner ≠ "java/lang/invoke/VarHandle" ∧ (parseMethodDescriptor x.desc).map (fun d => d.parameters.length) = some As.length) (hR : n1 + 1 ≤ n) (hm : maxL ≤ 45) (hst : st = As.reverse ++ .ref b :: rest) (hW : (rest.map fun v => v.category).sum ≤ 8) (d : decode cc pc = .ok (.invokevirtual index, 3)) (kk : G σ1 lv (pc + 3) (ov1.toList ++ rest)) : G σ lv pc st := by
  obtain ⟨p, e, s, m, args, below, meth, c, hx, hb, hml, hown, hts, hE, hD, hr, hlk, rfl⟩ := M
  have hK := hE.1
  intro H locs ls hP hS hl
  exact z_run (va_runU (n := As.length) ⟨hx, hb, hml, hown, hts⟩ hM (va_cwU As.length hts (uw_U hl9 hsm hs hi hini hcode) rfl rfl rfl hyx hd (zR_r hR hm)) ⟨z_blind, va_recv hK hP hc he, fun U hU hW => ⟨rfl, by rw [hU]; exact hP, zE_call hW hU hS hE⟩⟩ rfl rfl hl.1 hst (lv_room hW) d ⟨Nat.le_refl _, Nat.le_refl _⟩) hS hl kk
theorem z_callA {n : Nat} (M : zM l D cl tys A ad (zR n) wf own cc nL rt σo ov G) {x : MethodName} {owner : String} {y : MethodName} {bytes : ByteArray} {maxL n1 index : Nat} {ret : Option FieldType} {σ1 : Zst} {ov1 : Option Value} (As : List Value) {rest : List Value} {b ci N q0 : Nat} {C : String} {T : u_T} {fs : List Value} (hM : zT l D cl tys A ad wf y bytes maxL ret n1 (.ref b :: As) σ σ1 ov1) (he : (wf σ)[q0]? = some (b, .inr (ci, fs))) (hc : cl[ci]? = some (C, T, N)) (hl9 : Cond.methodLink own index x ∈ uw) (hsm : Cond.sameMethod x.cls owner x.name x.desc ∈ uw) (hs : Cond.selects C x y ∈ uw) (hi : Cond.instanceMethod y ∈ uw) (hini : Cond.initialized y.cls ∈ uw) (hcode : Cond.code y bytes maxL ret ∈ uw) (hz : Cond.declares ⟨owner, x.name, x.desc⟩ ∈ zNw) (hd : owner ≠ "java/lang/invoke/MethodHandle" ∧ owner ≠ "java/lang/invoke/VarHandle" ∧ (parseMethodDescriptor x.desc).map (fun d => d.parameters.length) = some As.length) (hR : n1 + 1 ≤ n) (hm : maxL ≤ 45) (hst : st = As.reverse ++ .ref b :: rest) (hW : (rest.map fun v => v.category).sum ≤ 8) (d : decode cc pc = .ok (.invokevirtual index, 3)) (kk : G σ1 lv (pc + 3) (ov1.toList ++ rest)) : G σ lv pc st := by
  obtain ⟨p, e, s, m, args, below, meth, c, hx, hb, hml, hown, hts, hE, hD, hr, hlk, rfl⟩ := M
  have hK := hE.1
  intro H locs ls hP hS hl
  exact z_run (va_runU (n := As.length) ⟨hx, hb, hml, hown, hts⟩ hM (va_cwA As.length hts (uw_U hl9 hsm hs hi hini hcode) rfl rfl rfl (hE.2.1 _ hz) hd (zR_r hR hm)) ⟨z_blind, va_recv hK hP hc he, fun U hU hW => ⟨rfl, by rw [hU]; exact hP, zE_call hW hU hS hE⟩⟩ rfl rfl hl.1 hst (lv_room hW) d ⟨Nat.le_refl _, Nat.le_refl _⟩) hS hl kk
theorem z_mmax {n : Nat} (M : zM l D cl tys A ad (zR n) wf own cc nL rt σo ov G) {index : Nat} {x y : Int32} (hl9 : Cond.methodLink own index Lib.Math.max.name ∈ uw) (hi : Cond.static Lib.Math.max.name ∈ uw) (hini : Cond.initialized "java/lang/Math" ∈ uw) (hcode : Cond.code Lib.Math.max.name Lib.Math.max.code 2 (some .int) ∈ uw) (hR : 1 ≤ n) (hW : (st.map fun v => v.category).sum ≤ 8) (d : decode cc pc = .ok (.invokestatic index, 3)) (kk : G σ lv (pc + 3) (.int (jMax x y) :: st)) : G σ lv pc (.int y :: .int x :: st) := by
  obtain ⟨p, e, s, m, args, below, meth, c, hx, hb, hml, hown, hts, hE, hD, hr, hlk, rfl⟩ := M
  have hK := hE.1
  intro H locs ls hP hS hl
  exact va_mmax hx hb (by rw [hml]; exact hl.1.symm) hown (hts _ hl9) (hts _ hi) (hts _ hini) (hts _ hcode) hR (by show _ ≤ 64 * n; omega) (Nat.le_refl _) (Nat.le_refl _) d (kk H locs ls hP hS hl)
theorem z_mmin {n : Nat} (M : zM l D cl tys A ad (zR n) wf own cc nL rt σo ov G) {index : Nat} {x y : Int32} (hl9 : Cond.methodLink own index Lib.Math.min.name ∈ uw) (hi : Cond.static Lib.Math.min.name ∈ uw) (hini : Cond.initialized "java/lang/Math" ∈ uw) (hcode : Cond.code Lib.Math.min.name Lib.Math.min.code 2 (some .int) ∈ uw) (hR : 1 ≤ n) (hW : (st.map fun v => v.category).sum ≤ 8) (d : decode cc pc = .ok (.invokestatic index, 3)) (kk : G σ lv (pc + 3) (.int (jMin x y) :: st)) : G σ lv pc (.int y :: .int x :: st) := by
  obtain ⟨p, e, s, m, args, below, meth, c, hx, hb, hml, hown, hts, hE, hD, hr, hlk, rfl⟩ := M
  have hK := hE.1
  intro H locs ls hP hS hl
  exact va_mmin hx hb (by rw [hml]; exact hl.1.symm) hown (hts _ hl9) (hts _ hi) (hts _ hini) (hts _ hcode) hR (by show _ ≤ 64 * n; omega) (Nat.le_refl _) (Nat.le_refl _) d (kk H locs ls hP hS hl)
theorem z_mabs {n : Nat} (M : zM l D cl tys A ad (zR n) wf own cc nL rt σo ov G) {index : Nat} {x : Int32} (hl9 : Cond.methodLink own index Lib.Math.abs.name ∈ uw) (hi : Cond.static Lib.Math.abs.name ∈ uw) (hini : Cond.initialized "java/lang/Math" ∈ uw) (hcode : Cond.code Lib.Math.abs.name Lib.Math.abs.code 1 (some .int) ∈ uw) (hR : 1 ≤ n) (hW : (st.map fun v => v.category).sum ≤ 8) (d : decode cc pc = .ok (.invokestatic index, 3)) (kk : G σ lv (pc + 3) (.int (jAbs x) :: st)) : G σ lv pc (.int x :: st) := by
  obtain ⟨p, e, s, m, args, below, meth, c, hx, hb, hml, hown, hts, hE, hD, hr, hlk, rfl⟩ := M
  have hK := hE.1
  intro H locs ls hP hS hl
  exact va_mabs hx hb (by rw [hml]; exact hl.1.symm) hown (hts _ hl9) (hts _ hi) (hts _ hini) (hts _ hcode) hR (by show _ ≤ 64 * n; omega) (Nat.le_refl _) (Nat.le_refl _) d (kk H locs ls hP hS hl)
theorem z_mabsL {n : Nat} (M : zM l D cl tys A ad (zR n) wf own cc nL rt σo ov G) {index : Nat} {x : Int64} (hl9 : Cond.methodLink own index Lib.MathLoose.abs_long.x ∈ uw) (hi : Cond.static Lib.MathLoose.abs_long.x ∈ uw) (hini : Cond.initialized "java/lang/Math" ∈ uw) (hcode : Cond.code Lib.MathLoose.abs_long.x Lib.MathLoose.abs_long.code 2 (some .long) ∈ uw) (hR : 1 ≤ n) (hW : (st.map fun v => v.category).sum ≤ 8) (d : decode cc pc = .ok (.invokestatic index, 3)) (kk : G σ lv (pc + 3) (.long (jAbsL x) :: st)) : G σ lv pc (.long x :: st) := by
  obtain ⟨p, e, s, m, args, below, meth, c, hx, hb, hml, hown, hts, hE, hD, hr, hlk, rfl⟩ := M
  have hK := hE.1
  intro H locs ls hP hS hl
  exact va_mabs_long hx hb (by rw [hml]; exact hl.1.symm) hown (hts _ hl9) (hts _ hi) (hts _ hini) (hts _ hcode) hR (by show _ ≤ 64 * n; omega) (Nat.le_refl _) (Nat.le_refl _) d (kk H locs ls hP hS hl)
theorem z_copyi {n : Nat} (M : zM l D cl tys A ad (zR n) wf own cc nL rt σo ov G) {index : Nat} (hl9 : Cond.methodLink own index arraycopyName ∈ uw) (hnat : Cond.native arraycopyName ∈ uw) (hi : Cond.static arraycopyName ∈ uw) (hini : Cond.initialized "java/lang/System" ∈ uw) (q0 q1 t0 : Nat) {a0 a : Nat} {c0 : ClassId} {n0 n1 : Nat} {f g : Nat → Int32} (ha0 : (wf σ)[q0]? = some (a0, .inl (c0, n0, .inl f))) (ha1 : (wf σ)[q1]? = some (a, .inl (c0, n1, .inl g))) (ht : tys[t0]? = some (c0, .int)) {sp dp k : Int32} (h1 : ¬ sp < 0) (h2 : ¬ dp < 0) (h3 : ¬ k < 0) (h4 : sp.toNatClampNeg + k.toNatClampNeg ≤ n0) (h5 : dp.toNatClampNeg + k.toNatClampNeg ≤ n1) (hR : 1 ≤ n) (hW : (st.map fun v => v.category).sum ≤ 8) {σ1 : Zst} (hw : (wf σ).set q1 (a, .inl (c0, n1, .inl (va_cpy f g sp.toNatClampNeg dp.toNatClampNeg k.toNatClampNeg))) = wf σ1) (d : decode cc pc = .ok (.invokestatic index, 3)) (kk : G σ1 lv (pc + 3) st) : G σ lv pc (.int k :: .int dp :: .ref a :: .int sp :: .ref a0 :: st) := by
  obtain ⟨p, e, s, m, args, below, meth, c, hx, hb, hml, hown, hts, hE, hD, hr, hlk, rfl⟩ := M
  have hK := hE.1
  intro H locs ls hP hS hl
  exact va_copyi hx hb (by rw [hml]; exact hl.1.symm) hown (hts _ hl9) (hts _ hnat) (hts _ hi) (hts _ hini) hK hP (hD σ) hS q0 q1 t0 t0 ha0 ha1 ht ht rfl h1 h2 h3 h4 h5 (fun _ _ => rfl) hR (zNw40 hR hW) d (fun H1 locs1 hP1 _ hS1 => kk H1 locs1 ls (by rw [← hw]; exact hP1) hS1 hl)
theorem z_ldcwSW {p : Program} {e : Env} {s : State} {m : MethodId} {args : Array Value} {below : List Frame} {meth : Method} {c : Code} {H : Heap} {locs : List Loc} {cells slots : Nat} {Q : State → Prop} {ls : Array Slot} {rest : List Value} (hexec : p.tables.exec = Jvm.exec) (hb : c.code = cc) {tx : String} {index q : Nat} (hown : s.vm.findClass own = some m.cls) (hZ : vk_R own index tx q s) (hdg : decode cc pc = .ok (.ldc_w index, 3))
    (k : W p l e R s m args below meth c H locs cells slots Q (F0 m (pc + 3) ls (.ref q :: rest))) : W p l e R s m args below meth c H locs cells slots Q (F0 m pc ls rest) := by
  intro T hT X
  obtain ⟨t, a1, b1⟩ := k T hT X
  obtain ⟨k, cf, i, a', hk, hcf, hcp, -, hr, hev'⟩ := Cond.stringRef_spec hown hZ.1
  cases hZ.2.symm.trans hev'
  obtain ⟨k', hk', he⟩ := X.warmed.alike.2.2 _ _ hk
  have hr' : k'.resolved[index]? = some (some (.string q)) := by
    rcases X.warmed.entry hk hk' index with h | ⟨h, -⟩
    · rw [h]; exact hr
    · rw [hr] at h; cases h
  refine ⟨t, ?_, b1⟩
  jvm_step X.here [hexec, hb, hdg, ldc_w.wp_string (e := e) (s := T) (f := F0 m pc ls rest) X.here.top hk' (by rw [he]; exact hcf) hcp hr']
  exact a1
theorem z_ldcwS (M : zM l D cl tys A ad R wf own cc nL rt σo ov G) {k : Nat} {tx : String} {i : Nat} (hq : (own, k, tx, i) ∈ zSr) (d : decode cc pc = .ok (.ldc_w k, 3)) (kk : G σ lv (pc + 3) (.ref (ad.1 i) :: st)) : G σ lv pc st := by
  obtain ⟨p, e, s, m, args, below, meth, c, hx, hb, hml, hown, hts, hE, hD, hr, hlk, rfl⟩ := M
  have hK := hE.1
  intro H locs ls hP hS hl
  exact z_ldcwSW hx hb hown (hE.2.2.2.1 _ hq) d (kk H locs ls hP hS hl)
theorem z_ldcS (M : zM l D cl tys A ad R wf own cc nL rt σo ov G) {k : Nat} {tx : String} {i : Nat} (hq : (own, k, tx, i) ∈ zSr) (d : decode cc pc = .ok (.ldc k, 2)) (kk : G σ lv (pc + 2) (.ref (ad.1 i) :: st)) : G σ lv pc st := by
  obtain ⟨p, e, s, m, args, below, meth, c, hx, hb, hml, hown, hts, hE, hD, hr, hlk, rfl⟩ := M
  have hK := hE.1
  intro H locs ls hP hS hl
  exact va_ldcS hx hb hown (hE.2.2.2.1 _ hq) d (kk H locs ls hP hS hl)
theorem z_met {y : MethodName} {n : Nat} {av : List Value} (hy : plainName y.cls = true) (hD : ∀ σ, va_D A (wf σ)) (hargs : (lg_sl av).length ≤ nL) (hlv : lv_args 0 av = lv) (k : ∀ G, zM l D cl tys A ad (zR n) wf y.cls cc nL rt σo ov G → G σ lv 0 []) : zT l D cl tys A ad wf y cc nL rt n av σ σo ov := by
  refine Met.ofW (cc := cc) (maxL := nL) (ret := rt) hy rfl ?_
  intro p e s m args below meth c s₁ B hml hv
  obtain ⟨rfl, hP, hE⟩ := hv
  have hts := atoms_spec (ws := Cond.code y cc nL rt :: uw) B.pre
  have hl := lv_entry av hargs
  rw [lg_entry_eq]
  rw [hlv] at hl
  exact k _ ⟨p, e, s, m, av.toArray, below, meth, c, B.exec, B.bytes, hml, findClass_of_methodNamed B.named, fun w hw => hts w (List.mem_cons_of_mem _ hw), hE, hD, B.returns, B.notSynchronized, rfl⟩ s.heap [] _ hP va_S.rf hl
theorem zTt {c : Prop} {_ : Decidable c} {x y : Int32} (hc : c) (k : G σ lv pc (.int (if c then x else y) :: st)) : G σ lv pc (.int x :: st) := by rw [if_pos hc] at k; exact k
theorem zTf {c : Prop} {_ : Decidable c} {x y : Int32} (hc : ¬ c) (k : G σ lv pc (.int (if c then x else y) :: st)) : G σ lv pc (.int y :: st) := by rw [if_neg hc] at k; exact k
theorem zTtL {c : Prop} {_ : Decidable c} {x y : Int64} (hc : c) (k : G σ lv pc (.long (if c then x else y) :: st)) : G σ lv pc (.long x :: st) := by rw [if_pos hc] at k; exact k
theorem zTfL {c : Prop} {_ : Decidable c} {x y : Int64} (hc : ¬ c) (k : G σ lv pc (.long (if c then x else y) :: st)) : G σ lv pc (.long y :: st) := by rw [if_neg hc] at k; exact k
theorem zM_hD (M : zM l D cl tys A ad R wf own cc nL rt σo ov G) : ∀ σ, va_D A (wf σ) := by
  obtain ⟨p, e, s, m, args, below, meth, c, hx, hb, hml, hown, hts, hE, hD, hr, hlk, rfl⟩ := M
  exact hD
theorem z_aald (M : zM l D cl tys A ad R wf own cc nL rt σo ov G) (q0 t0 : Nat) {a : Nat} {cA : ClassId} {n : Nat} {f : Nat → Option Nat} {ty : FieldType} (ha : (wf σ)[q0]? = some (a, .inl (cA, n, .inr (.inr (.inr (.inr f)))))) (ht : tys[t0]? = some (cA, ty)) (hty : ty.isReference = true) {i : Int32} (hin : vp_in i n) (d : decode cc pc = .ok (.aaload, 1)) (kk : G σ lv (pc + 1) (va_rf (f i.toNatClampNeg) :: st)) : G σ lv pc (.int i :: .ref a :: st) := by
  obtain ⟨p, e, s, m, args, below, meth, c, hx, hb, hml, hown, hts, hE, hD, hr, hlk, rfl⟩ := M
  have hK := hE.1
  intro H locs ls hP hS hl
  have hlt : i.toNatClampNeg < n := Nat.not_le.mp fun q => hin (Or.inr q)
  exact W.aald (v := va_rf (f i.toNatClampNeg)) (ty := ty) hx hb (hP q0 _ ha) ((hK.2 t0 _ ht).1 n (fun j => va_rf (f j))) hty (fun q => by cases q) (by show ¬ (i < 0 ∨ (arrV _ _ _).slots.size ≤ _); rw [arrV_size]; exact hin) (by show (arrV _ _ _).slots[_]? = _; rw [arrV_read _ _ hlt]) rfl rfl d (kk H locs ls hP hS hl)
theorem z_tabX {lo hi : Int} {x : Int32} (h : ¬ (x.toInt < lo ∨ hi < x.toInt)) : ¬ x.toInt < lo ∧ ¬ hi < x.toInt := ⟨fun q => h (Or.inl q), fun q => h (Or.inr q)⟩
end ZR
