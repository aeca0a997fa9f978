/-! THE LAYER: a method runs from a picture of the cells to another, in numbers alone -/
/-- the numbers of a world: of each cell its ints, of each cell its longs -/
abbrev QS : Type := (Nat → Nat → Int32) × (Nat → Nat → Int64)
def qx_up (σ : QS) (c i : Nat) (v : Int32) : QS := (fun k => if k = c then upd (σ.1 c) i v else σ.1 k, σ.2)
def qx_upl (σ : QS) (c i : Nat) (v : Int64) : QS := (σ.1, fun k => if k = c then vp_updL (σ.2 c) i v else σ.2 k)
/-- launch, class numbers, array classes, the cells of the numbers, whose cells they are, what is said of old cells -/
abbrev QG : Type := Launch × va_G × List (ClassId × FieldType) × (QS → va_W) × (Nat → Prop) × (State → Heap → Prop)
/-- a method: name, code, locals, type -/
abbrev QM : Type := MethodName × ByteArray × Nat × Option FieldType
def qx_rm (d : Nat) : Room := { frames := d, cells := 0, slots := 0, locals := 60 * d }
def qx_ws (M : QM) : List Cond := .code M.1 M.2.1 M.2.2.1 M.2.2.2 :: qx_tb
/-- what is said of old cells stays -/
def qx_Zok (g : QG) : Prop := (∀ (u U : State) (H : Heap), U.vm = u.vm → g.2.2.2.2.2 u H → g.2.2.2.2.2 U H) ∧ (∀ (u U : State) (H : Heap), u.WarmedH U.vm → g.2.2.2.2.2 u H → g.2.2.2.2.2 U H) ∧ (∀ (U : State) (H H1 : Heap), (∀ q : Nat, q < H.size → ¬ g.2.2.2.2.1 q → H1[q]? = H[q]?) → g.2.2.2.2.2 U H → g.2.2.2.2.2 U H1)
def qx_X (g : QG) (M : QM) (p : Program) (s : State) (m : MethodId) (args : Array Value) (meth : Method) (c : Code) : Prop :=
  p.tables.exec = Jvm.exec ∧ c.code = M.2.1 ∧ c.maxLocals = M.2.2.1 ∧ meth.sig.returnType = M.2.2.2 ∧ meth.locks = false ∧ s.vm.findClass M.1.cls = some m.cls ∧ (∀ w ∈ qx_tb, w.before args s = true) ∧ va_K g.2.1 vwCl g.2.2.1 s ∧ g.2.2.2.2.2 s s.heap ∧ qx_Zok g
def qx_B (g : QG) (σ : QS) (U : State) : Prop := va_P g.2.1 vwCl (g.2.2.2.1 σ) U.heap ∧ va_K g.2.1 vwCl g.2.2.1 U ∧ va_D g.2.2.2.2.1 (g.2.2.2.1 σ) ∧ g.2.2.2.2.2 U U.heap ∧ qx_Zok g
def qx_Q (g : QG) (o : Option Value × QS) : Array Value → State → Outcome → State → Prop := fun _ st oc t =>
  (oc = .returned o.1 ∧ va_P g.2.1 vwCl (g.2.2.2.1 o.2) t.heap ∧ va_D g.2.2.2.2.1 (g.2.2.2.1 o.2)) ∧ va_F g.2.2.2.2.1 st t
/-- from pc on, with these locals, this stack and these numbers, the method ends with o -/
def qx_E (g : QG) (d : Nat) (M : QM) (o : Option Value × QS) (pc : Nat) (lv : List (Nat × Value)) (st : List Value) (σ : QS) : Prop :=
  ∀ (p : Program) (e : Env) (s : State) (m : MethodId) (args : Array Value) (below : List Frame) (meth : Method) (c : Code) (H : Heap) (locs : List Loc) (ls : Array Slot),
    qx_X g M p s m args meth c → va_P g.2.1 vwCl (g.2.2.2.1 σ) H → va_D g.2.2.2.2.1 (g.2.2.2.1 σ) → va_S g.2.2.2.2.1 s.heap H locs → lv_has ls M.2.2.1 lv →
    W p g.1 e (qx_rm d) s m args below meth c H locs 0 0 (MQ below (qx_Q g o) args s 0 0 g.2.2.2.2.1) (F0 m pc ls st)
section QX
variable {g : QG} {d : Nat} {M : QM} {o : Option Value × QS} {pc : Nat} {lv : List (Nat × Value)} {st : List Value} {σ : QS}
theorem qx_sub (ks : List Nat) {lv' : List (Nat × Value)} (hl : lv_pick lv ks = lv') (k : qx_E g d M o pc lv' st σ) : qx_E g d M o pc lv st σ := by
  intro p e s m args below meth c H locs ls X hP hD hS h
  exact k p e s m args below meth c H locs ls X hP hD hS (lv_sub h ks hl)
-- constants
theorem qx_iconst {n : Int} (v : Int32) (hd : decode M.2.1 pc = .ok (.iconst n, 1)) (hv : Int32.ofInt n = v) (k : qx_E g d M o (pc + 1) lv (.int v :: st) σ) : qx_E g d M o pc lv st σ := by
  intro p e s m args below meth c H locs ls X hP hD hS h
  exact lv_iconst X.1 X.2.1 hd hv (k p e s m args below meth c H locs ls X hP hD hS h)
theorem qx_bipush {n : Int} (v : Int32) (hd : decode M.2.1 pc = .ok (.bipush n, 2)) (hv : (Int8.ofInt n).toInt32 = v) (k : qx_E g d M o (pc + 2) lv (.int v :: st) σ) : qx_E g d M o pc lv st σ := by
  intro p e s m args below meth c H locs ls X hP hD hS h
  exact lv_bipush X.1 X.2.1 hd hv (k p e s m args below meth c H locs ls X hP hD hS h)
theorem qx_sipush {n : Int} (v : Int32) (hd : decode M.2.1 pc = .ok (.sipush n, 3)) (hv : (Int16.ofInt n).toInt32 = v) (k : qx_E g d M o (pc + 3) lv (.int v :: st) σ) : qx_E g d M o pc lv st σ := by
  intro p e s m args below meth c H locs ls X hP hD hS h
  exact lv_sipush X.1 X.2.1 hd hv (k p e s m args below meth c H locs ls X hP hD hS h)
theorem qx_lconst {n : Fin 2} (v : Int64) (hd : decode M.2.1 pc = .ok (.lconst n, 1)) (hv : Int64.ofNat (n : Nat) = v) (k : qx_E g d M o (pc + 1) lv (.long v :: st) σ) : qx_E g d M o pc lv st σ := by
  intro p e s m args below meth c H locs ls X hP hD hS h
  exact lv_lconst X.1 X.2.1 hd hv (k p e s m args below meth c H locs ls X hP hD hS h)
theorem qx_ldc2 {index : Nat} (v : Int64) (hd : decode M.2.1 pc = .ok (.ldc2_w index, 3)) (hw : Cond.constantLong M.1.cls index v ∈ qx_tb) (k : qx_E g d M o (pc + 3) lv (.long v :: st) σ) : qx_E g d M o pc lv st σ := by
  intro p e s m args below meth c H locs ls X hP hD hS h
  exact lv_ldc2 X.1 X.2.1 X.2.2.2.2.2.1 (X.2.2.2.2.2.2.1 _ hw) hd (k p e s m args below meth c H locs ls X hP hD hS h)
-- locals
theorem qx_iload_n {q : Fin 4} {x : Int32} (i : Nat) (hd : decode M.2.1 pc = .ok (.iload_n q, 1)) (hk : lv[i]? = some ((q : Nat), .int x)) (k : qx_E g d M o (pc + 1) lv (.int x :: st) σ) : qx_E g d M o pc lv st σ := by
  intro p e s m args below meth c H locs ls X hP hD hS h
  exact lv_iload_n X.1 X.2.1 hd rfl (lv_at h i hk) (k p e s m args below meth c H locs ls X hP hD hS h)
theorem qx_iload {q : Nat} {x : Int32} (i : Nat) (hd : decode M.2.1 pc = .ok (.iload q, 2)) (hk : lv[i]? = some (q, .int x)) (k : qx_E g d M o (pc + 2) lv (.int x :: st) σ) : qx_E g d M o pc lv st σ := by
  intro p e s m args below meth c H locs ls X hP hD hS h
  exact lv_iload X.1 X.2.1 hd (lv_at h i hk) (k p e s m args below meth c H locs ls X hP hD hS h)
theorem qx_lload_n {q : Fin 4} {x : Int64} (i : Nat) (hd : decode M.2.1 pc = .ok (.lload_n q, 1)) (hk : lv[i]? = some ((q : Nat), .long x)) (k : qx_E g d M o (pc + 1) lv (.long x :: st) σ) : qx_E g d M o pc lv st σ := by
  intro p e s m args below meth c H locs ls X hP hD hS h
  exact lv_lload_n X.1 X.2.1 hd rfl (lv_at h i hk) (k p e s m args below meth c H locs ls X hP hD hS h)
theorem qx_lload {q : Nat} {x : Int64} (i : Nat) (hd : decode M.2.1 pc = .ok (.lload q, 2)) (hk : lv[i]? = some (q, .long x)) (k : qx_E g d M o (pc + 2) lv (.long x :: st) σ) : qx_E g d M o pc lv st σ := by
  intro p e s m args below meth c H locs ls X hP hD hS h
  exact lv_lload X.1 X.2.1 hd (lv_at h i hk) (k p e s m args below meth c H locs ls X hP hD hS h)
theorem qx_aload_n {q : Fin 4} {x : Nat} (i : Nat) (hd : decode M.2.1 pc = .ok (.aload_n q, 1)) (hk : lv[i]? = some ((q : Nat), .ref x)) (k : qx_E g d M o (pc + 1) lv (.ref x :: st) σ) : qx_E g d M o pc lv st σ := by
  intro p e s m args below meth c H locs ls X hP hD hS h
  exact lv_aload_n X.1 X.2.1 hd rfl (lv_at h i hk) (k p e s m args below meth c H locs ls X hP hD hS h)
theorem qx_aload {q : Nat} {x : Nat} (i : Nat) (hd : decode M.2.1 pc = .ok (.aload q, 2)) (hk : lv[i]? = some (q, .ref x)) (k : qx_E g d M o (pc + 2) lv (.ref x :: st) σ) : qx_E g d M o pc lv st σ := by
  intro p e s m args below meth c H locs ls X hP hD hS h
  exact lv_aload X.1 X.2.1 hd (lv_at h i hk) (k p e s m args below meth c H locs ls X hP hD hS h)
theorem qx_istore_n {q : Fin 4} {x : Int32} {lv' : List (Nat × Value)} (hd : decode M.2.1 pc = .ok (.istore_n q, 1)) (hn : (q : Nat) < M.2.2.1) (hl : ((q : Nat), Value.int x) :: lv.filter (fun r => !(r.1 == (q : Nat)) && !(r.1 + 1 == (q : Nat) && r.2.category == 2)) = lv') (k : qx_E g d M o (pc + 1) lv' st σ) : qx_E g d M o pc lv (.int x :: st) σ := by
  intro p e s m args below meth c H locs ls X hP hD hS h
  exact lv_istore_n X.1 X.2.1 hd rfl h hn hl (fun ls' h' => k p e s m args below meth c H locs ls' X hP hD hS h')
theorem qx_istore {q : Nat} {x : Int32} {lv' : List (Nat × Value)} (hd : decode M.2.1 pc = .ok (.istore q, 2)) (hn : q < M.2.2.1) (hl : (q, Value.int x) :: lv.filter (fun r => !(r.1 == q) && !(r.1 + 1 == q && r.2.category == 2)) = lv') (k : qx_E g d M o (pc + 2) lv' st σ) : qx_E g d M o pc lv (.int x :: st) σ := by
  intro p e s m args below meth c H locs ls X hP hD hS h
  exact lv_istore X.1 X.2.1 hd h hn hl (fun ls' h' => k p e s m args below meth c H locs ls' X hP hD hS h')
theorem qx_lstore_n {q : Fin 4} {x : Int64} {lv' : List (Nat × Value)} (hd : decode M.2.1 pc = .ok (.lstore_n q, 1)) (hn : (q : Nat) + 1 < M.2.2.1) (hl : ((q : Nat), Value.long x) :: lv.filter (fun r => !(r.1 == (q : Nat)) && (!(r.1 == (q : Nat) + 1) && !(r.1 + 1 == (q : Nat) && r.2.category == 2))) = lv') (k : qx_E g d M o (pc + 1) lv' st σ) : qx_E g d M o pc lv (.long x :: st) σ := by
  intro p e s m args below meth c H locs ls X hP hD hS h
  exact lv_lstore_n X.1 X.2.1 hd rfl h hn hl (fun ls' h' => k p e s m args below meth c H locs ls' X hP hD hS h')
theorem qx_lstore {q : Nat} {x : Int64} {lv' : List (Nat × Value)} (hd : decode M.2.1 pc = .ok (.lstore q, 2)) (hn : q + 1 < M.2.2.1) (hl : (q, Value.long x) :: lv.filter (fun r => !(r.1 == q) && (!(r.1 == q + 1) && !(r.1 + 1 == q && r.2.category == 2))) = lv') (k : qx_E g d M o (pc + 2) lv' st σ) : qx_E g d M o pc lv (.long x :: st) σ := by
  intro p e s m args below meth c H locs ls X hP hD hS h
  exact lv_lstore X.1 X.2.1 hd h hn hl (fun ls' h' => k p e s m args below meth c H locs ls' X hP hD hS h')
theorem qx_astore_n {q : Fin 4} {x : Nat} {lv' : List (Nat × Value)} (hd : decode M.2.1 pc = .ok (.astore_n q, 1)) (hn : (q : Nat) < M.2.2.1) (hl : ((q : Nat), Value.ref x) :: lv.filter (fun r => !(r.1 == (q : Nat)) && !(r.1 + 1 == (q : Nat) && r.2.category == 2)) = lv') (k : qx_E g d M o (pc + 1) lv' st σ) : qx_E g d M o pc lv (.ref x :: st) σ := by
  intro p e s m args below meth c H locs ls X hP hD hS h
  exact lv_astore_n X.1 X.2.1 hd rfl h hn hl (fun ls' h' => k p e s m args below meth c H locs ls' X hP hD hS h')
theorem qx_iinc {q : Nat} {n : Int} {x : Int32} {lv' : List (Nat × Value)} (i : Nat) (v : Int32) (hd : decode M.2.1 pc = .ok (.iinc q n, 3)) (hk : lv[i]? = some (q, .int x)) (hv : x + Int32.ofInt n = v) (hn : q < M.2.2.1) (hl : (q, Value.int v) :: lv.filter (fun r => !(r.1 == q) && !(r.1 + 1 == q && r.2.category == 2)) = lv') (k : qx_E g d M o (pc + 3) lv' st σ) : qx_E g d M o pc lv st σ := by
  intro p e s m args below meth c H locs ls X hP hD hS h
  exact lv_iinc X.1 X.2.1 hd h hk hv hn hl (fun ls' h' => k p e s m args below meth c H locs ls' X hP hD hS h')
-- the stack
theorem qx_dup {v : Value} (hd : decode M.2.1 pc = .ok (.dup, 1)) (hv : v.category = 1) (k : qx_E g d M o (pc + 1) lv (v :: v :: st) σ) : qx_E g d M o pc lv (v :: st) σ := by
  intro p e s m args below meth c H locs ls X hP hD hS h
  exact lv_dup X.1 X.2.1 hd hv (k p e s m args below meth c H locs ls X hP hD hS h)
theorem qx_dup2 {v w : Value} (hd : decode M.2.1 pc = .ok (.dup2, 1)) (hv : v.category = 1) (hw : w.category = 1) (k : qx_E g d M o (pc + 1) lv (v :: w :: v :: w :: st) σ) : qx_E g d M o pc lv (v :: w :: st) σ := by
  intro p e s m args below meth c H locs ls X hP hD hS h
  exact lv_dup2_11 X.1 X.2.1 hd hv hw (k p e s m args below meth c H locs ls X hP hD hS h)
theorem qx_pop {v : Value} (hd : decode M.2.1 pc = .ok (.pop, 1)) (hv : v.category = 1) (k : qx_E g d M o (pc + 1) lv st σ) : qx_E g d M o pc lv (v :: st) σ := by
  intro p e s m args below meth c H locs ls X hP hD hS h
  exact lv_pop X.1 X.2.1 hd hv (k p e s m args below meth c H locs ls X hP hD hS h)
-- numbers
theorem qx_iadd {x y : Int32} (hd : decode M.2.1 pc = .ok (.iadd, 1)) (k : qx_E g d M o (pc + 1) lv (.int (x + y) :: st) σ) : qx_E g d M o pc lv (.int y :: .int x :: st) σ := by
  intro p e s m args below meth c H locs ls X hP hD hS h
  exact lv_iadd X.1 X.2.1 hd (k p e s m args below meth c H locs ls X hP hD hS h)
theorem qx_isub {x y : Int32} (hd : decode M.2.1 pc = .ok (.isub, 1)) (k : qx_E g d M o (pc + 1) lv (.int (x - y) :: st) σ) : qx_E g d M o pc lv (.int y :: .int x :: st) σ := by
  intro p e s m args below meth c H locs ls X hP hD hS h
  exact lv_isub X.1 X.2.1 hd (k p e s m args below meth c H locs ls X hP hD hS h)
theorem qx_imul {x y : Int32} (hd : decode M.2.1 pc = .ok (.imul, 1)) (k : qx_E g d M o (pc + 1) lv (.int (x * y) :: st) σ) : qx_E g d M o pc lv (.int y :: .int x :: st) σ := by
  intro p e s m args below meth c H locs ls X hP hD hS h
  exact lv_imul X.1 X.2.1 hd (k p e s m args below meth c H locs ls X hP hD hS h)
theorem qx_idiv {x y : Int32} (hd : decode M.2.1 pc = .ok (.idiv, 1)) (hy : ¬ y = 0) (k : qx_E g d M o (pc + 1) lv (.int (x / y) :: st) σ) : qx_E g d M o pc lv (.int y :: .int x :: st) σ := by
  intro p e s m args below meth c H locs ls X hP hD hS h
  exact lv_idiv X.1 X.2.1 hd hy (k p e s m args below meth c H locs ls X hP hD hS h)
theorem qx_irem {x y : Int32} (hd : decode M.2.1 pc = .ok (.irem, 1)) (hy : ¬ y = 0) (k : qx_E g d M o (pc + 1) lv (.int (x - x / y * y) :: st) σ) : qx_E g d M o pc lv (.int y :: .int x :: st) σ := by
  intro p e s m args below meth c H locs ls X hP hD hS h
  exact lv_irem X.1 X.2.1 hd hy (k p e s m args below meth c H locs ls X hP hD hS h)
theorem qx_ineg {x : Int32} (hd : decode M.2.1 pc = .ok (.ineg, 1)) (k : qx_E g d M o (pc + 1) lv (.int (-x) :: st) σ) : qx_E g d M o pc lv (.int x :: st) σ := by
  intro p e s m args below meth c H locs ls X hP hD hS h
  exact lv_ineg X.1 X.2.1 hd (k p e s m args below meth c H locs ls X hP hD hS h)
theorem qx_iand {x y : Int32} (hd : decode M.2.1 pc = .ok (.iand, 1)) (k : qx_E g d M o (pc + 1) lv (.int (x &&& y) :: st) σ) : qx_E g d M o pc lv (.int y :: .int x :: st) σ := by
  intro p e s m args below meth c H locs ls X hP hD hS h
  exact lv_iand X.1 X.2.1 hd (k p e s m args below meth c H locs ls X hP hD hS h)
theorem qx_ishr {x y : Int32} (hd : decode M.2.1 pc = .ok (.ishr, 1)) (k : qx_E g d M o (pc + 1) lv (.int (x >>> (y &&& 31)) :: st) σ) : qx_E g d M o pc lv (.int y :: .int x :: st) σ := by
  intro p e s m args below meth c H locs ls X hP hD hS h
  exact lv_ishr X.1 X.2.1 hd (k p e s m args below meth c H locs ls X hP hD hS h)
theorem qx_i2l {x : Int32} (hd : decode M.2.1 pc = .ok (.i2l, 1)) (k : qx_E g d M o (pc + 1) lv (.long x.toInt64 :: st) σ) : qx_E g d M o pc lv (.int x :: st) σ := by
  intro p e s m args below meth c H locs ls X hP hD hS h
  exact lv_i2l X.1 X.2.1 hd rfl (k p e s m args below meth c H locs ls X hP hD hS h)
theorem qx_l2i {x : Int64} (hd : decode M.2.1 pc = .ok (.l2i, 1)) (k : qx_E g d M o (pc + 1) lv (.int x.toInt32 :: st) σ) : qx_E g d M o pc lv (.long x :: st) σ := by
  intro p e s m args below meth c H locs ls X hP hD hS h
  exact lv_l2i X.1 X.2.1 hd rfl (k p e s m args below meth c H locs ls X hP hD hS h)
theorem qx_i2b {x : Int32} (hd : decode M.2.1 pc = .ok (.i2b, 1)) (k : qx_E g d M o (pc + 1) lv (.int x.toInt8.toInt32 :: st) σ) : qx_E g d M o pc lv (.int x :: st) σ := by
  intro p e s m args below meth c H locs ls X hP hD hS h
  exact lv_i2b X.1 X.2.1 hd rfl (k p e s m args below meth c H locs ls X hP hD hS h)
theorem qx_ladd {x y : Int64} (hd : decode M.2.1 pc = .ok (.ladd, 1)) (k : qx_E g d M o (pc + 1) lv (.long (x + y) :: st) σ) : qx_E g d M o pc lv (.long y :: .long x :: st) σ := by
  intro p e s m args below meth c H locs ls X hP hD hS h
  exact lv_ladd X.1 X.2.1 hd (k p e s m args below meth c H locs ls X hP hD hS h)
theorem qx_lmul {x y : Int64} (hd : decode M.2.1 pc = .ok (.lmul, 1)) (k : qx_E g d M o (pc + 1) lv (.long (x * y) :: st) σ) : qx_E g d M o pc lv (.long y :: .long x :: st) σ := by
  intro p e s m args below meth c H locs ls X hP hD hS h
  exact lv_lmul X.1 X.2.1 hd (k p e s m args below meth c H locs ls X hP hD hS h)
theorem qx_land {x y : Int64} (hd : decode M.2.1 pc = .ok (.land, 1)) (k : qx_E g d M o (pc + 1) lv (.long (x &&& y) :: st) σ) : qx_E g d M o pc lv (.long y :: .long x :: st) σ := by
  intro p e s m args below meth c H locs ls X hP hD hS h
  exact lv_land X.1 X.2.1 hd (k p e s m args below meth c H locs ls X hP hD hS h)
theorem qx_lor {x y : Int64} (hd : decode M.2.1 pc = .ok (.lor, 1)) (k : qx_E g d M o (pc + 1) lv (.long (x ||| y) :: st) σ) : qx_E g d M o pc lv (.long y :: .long x :: st) σ := by
  intro p e s m args below meth c H locs ls X hP hD hS h
  exact lv_lor X.1 X.2.1 hd (k p e s m args below meth c H locs ls X hP hD hS h)
theorem qx_lxor {x y : Int64} (hd : decode M.2.1 pc = .ok (.lxor, 1)) (k : qx_E g d M o (pc + 1) lv (.long (x ^^^ y) :: st) σ) : qx_E g d M o pc lv (.long y :: .long x :: st) σ := by
  intro p e s m args below meth c H locs ls X hP hD hS h
  exact lv_lxor X.1 X.2.1 hd (k p e s m args below meth c H locs ls X hP hD hS h)
theorem qx_lushr {x : Int64} {y : Int32} (hd : decode M.2.1 pc = .ok (.lushr, 1)) (k : qx_E g d M o (pc + 1) lv (.long ((x.toUInt64 >>> (y.toInt64.toUInt64 &&& Int64.toUInt64 63)).toInt64) :: st) σ) : qx_E g d M o pc lv (.int y :: .long x :: st) σ := by
  intro p e s m args below meth c H locs ls X hP hD hS h
  exact lv_lushr X.1 X.2.1 hd rfl (k p e s m args below meth c H locs ls X hP hD hS h)
theorem qx_lshl {x : Int64} {y : Int32} (hd : decode M.2.1 pc = .ok (.lshl, 1)) (k : qx_E g d M o (pc + 1) lv (.long (x <<< (y.toInt64 &&& 63)) :: st) σ) : qx_E g d M o pc lv (.int y :: .long x :: st) σ := by
  intro p e s m args below meth c H locs ls X hP hD hS h
  exact lv_lshl X.1 X.2.1 hd rfl (k p e s m args below meth c H locs ls X hP hD hS h)
-- ways
theorem qx_goto {off : Int} (tgt : Nat) (hd : decode M.2.1 pc = .ok (.goto off, 3)) (ht : (pc : Int) + off = (tgt : Int)) (k : qx_E g d M o tgt lv st σ) : qx_E g d M o pc lv st σ := by
  intro p e s m args below meth c H locs ls X hP hD hS h
  exact lv_goto X.1 X.2.1 hd ht (k p e s m args below meth c H locs ls X hP hD hS h)
theorem qx_at {pc' : Nat} (h : pc = pc') (k : qx_E g d M o pc' lv st σ) : qx_E g d M o pc lv st σ := h ▸ k
end QX
theorem qx_ite {β : Type} {c : Prop} [Decidable c] {a b : Option β} {r : β} (h : (if c then a else b) = some r) : (c ∧ a = some r) ∨ (¬ c ∧ b = some r) := by
  by_cases hc : c
  · exact Or.inl ⟨hc, by rwa [if_pos hc] at h⟩
  · exact Or.inr ⟨hc, by rwa [if_neg hc] at h⟩
