/-! THE LAYER OF CONSTRUCTORS: worlds that grow -/
def qy_rm (d mc ms : Nat) : Room := { frames := d, cells := mc, slots := ms, locals := 60 * d }
def qy_X (D : va_G) (ci : Nat → ClassId) (M : QM) (A : Nat → Prop) (p : Program) (s : State) (m : MethodId) (args : Array Value) (meth : Method) (c : Code) : Prop :=
  p.tables.exec = Jvm.exec ∧ c.code = M.2.1 ∧ c.maxLocals = M.2.2.1 ∧ meth.sig.returnType = M.2.2.2 ∧ meth.locks = false ∧ s.vm.findClass M.1.cls = some m.cls ∧ (∀ w ∈ qx_tb, w.before args s = true) ∧ va_K D vwCl (qx_tys ci) s ∧ meth.name = "<init>" ∧ ∀ q : Nat, s.heap.size ≤ q → A q
/-- from pc on, with these locals, this stack and these cells, so many made already, the constructor ends as Qc says -/
def qy_E (l : Launch) (D : va_G) (ci : Nat → ClassId) (M : QM) (d mc ms : Nat) (A : Nat → Prop) (Qc : Array Value → State → Outcome → State → Prop) (cells slots pc : Nat) (lv : List (Nat × Value)) (st : List Value) (ws : va_W) : Prop :=
  ∀ (p : Program) (e : Env) (s : State) (m : MethodId) (args : Array Value) (below : List Frame) (meth : Method) (c : Code) (H : Heap) (locs : List Loc) (ls : Array Slot),
    qy_X D ci M A p s m args meth c → va_P D vwCl ws H → va_D A ws → va_S A s.heap H locs → lv_has ls M.2.2.1 lv →
    W p l e (qy_rm d mc ms) s m args below meth c H locs cells slots (MQ below Qc args s mc ms A) (F0 m pc ls st)
/-- what a constructor does: from the cells w0 (its own) to the cells w1 u -/
def qy_C (l : Launch) (D : va_G) (ci : Nat → ClassId) (M : QM) (d mc ms : Nat) (av : List Value) (w0 : va_W) (w1 : (Nat → Nat) → va_W) : Prop :=
  ∀ sz : Nat, Met l M.1 (qx_ws M) (qy_rm d mc ms) (va_Pc av (fun U => U.heap.size = sz ∧ va_P D vwCl w0 U.heap ∧ va_K D vwCl (qx_tys ci) U ∧ va_D (fun _ => True) w0)) (va_Qv (fun _ : Nat → Nat => True) (fun u t => va_P D vwCl (w1 u) t.heap ∧ va_D (va_A w0 sz) (w1 u)) (va_A w0 sz)) mc ms (va_A w0 sz)
theorem qy_oi : Cond.instanceMethod Lib.objectInit ∈ qx_tb := qx_tbOf (List.mem_of_getElem? (i := 91) (by decide +kernel)) (by decide +kernel)
theorem qy_oc : Cond.code Lib.objectInit ⟨#[0xb1]⟩ 1 none ∈ qx_tb := qx_tbOf (List.mem_of_getElem? (i := 92) (by decide +kernel)) (by decide +kernel)
theorem qy_aI : Cond.arrayClass .int ∈ qx_tb := qx_tbOf (List.mem_of_getElem? (i := 114) (by decide +kernel)) (by decide +kernel)
theorem qy_aZ : Cond.arrayClass .boolean ∈ qx_tb := qx_tbOf (List.mem_of_getElem? (i := 167) (by decide +kernel)) (by decide +kernel)
theorem qy_aB : Cond.arrayClass .byte ∈ qx_tb := qx_tbOf (List.mem_of_getElem? (i := 251) (by decide +kernel)) (by decide +kernel)
theorem qy_aJ : Cond.arrayClass .long ∈ qx_tb := qx_tbOf (List.mem_of_getElem? (i := 209) (by decide +kernel)) (by decide +kernel)
section QY
variable {l : Launch} {D : va_G} {ci : Nat → ClassId} {M : QM} {d mc ms : Nat} {A : Nat → Prop} {Qc : Array Value → State → Outcome → State → Prop} {cells slots pc : Nat} {lv : List (Nat × Value)} {st : List Value} {ws : va_W}
theorem qy_iconst {n : Int} (v : Int32) (hd : decode M.2.1 pc = .ok (.iconst n, 1)) (hv : Int32.ofInt n = v) (k : qy_E l D ci M d mc ms A Qc cells slots (pc + 1) lv (.int v :: st) ws) : qy_E l D ci M d mc ms A Qc cells slots pc lv st ws := by
  intro p e s m args below meth c H locs ls X hP hD hS h
  exact lv_iconst X.1 X.2.1 hd hv (k p e s m args below meth c H locs ls X hP hD hS h)
theorem qy_bipush {n : Int} (v : Int32) (hd : decode M.2.1 pc = .ok (.bipush n, 2)) (hv : (Int8.ofInt n).toInt32 = v) (k : qy_E l D ci M d mc ms A Qc cells slots (pc + 2) lv (.int v :: st) ws) : qy_E l D ci M d mc ms A Qc cells slots pc lv st ws := by
  intro p e s m args below meth c H locs ls X hP hD hS h
  exact lv_bipush X.1 X.2.1 hd hv (k p e s m args below meth c H locs ls X hP hD hS h)
theorem qy_sipush {n : Int} (v : Int32) (hd : decode M.2.1 pc = .ok (.sipush n, 3)) (hv : (Int16.ofInt n).toInt32 = v) (k : qy_E l D ci M d mc ms A Qc cells slots (pc + 3) lv (.int v :: st) ws) : qy_E l D ci M d mc ms A Qc cells slots pc lv st ws := by
  intro p e s m args below meth c H locs ls X hP hD hS h
  exact lv_sipush X.1 X.2.1 hd hv (k p e s m args below meth c H locs ls X hP hD hS h)
theorem qy_aload_n {q : Fin 4} {x : Nat} (i : Nat) (hd : decode M.2.1 pc = .ok (.aload_n q, 1)) (hk : lv[i]? = some ((q : Nat), .ref x)) (k : qy_E l D ci M d mc ms A Qc cells slots (pc + 1) lv (.ref x :: st) ws) : qy_E l D ci M d mc ms A Qc cells slots pc lv st ws := by
  intro p e s m args below meth c H locs ls X hP hD hS h
  exact lv_aload_n X.1 X.2.1 hd rfl (lv_at h i hk) (k p e s m args below meth c H locs ls X hP hD hS h)
theorem qy_dup {v : Value} (hd : decode M.2.1 pc = .ok (.dup, 1)) (hv : v.category = 1) (k : qy_E l D ci M d mc ms A Qc cells slots (pc + 1) lv (v :: v :: st) ws) : qy_E l D ci M d mc ms A Qc cells slots pc lv (v :: st) ws := by
  intro p e s m args below meth c H locs ls X hP hD hS h
  exact lv_dup X.1 X.2.1 hd hv (k p e s m args below meth c H locs ls X hP hD hS h)
theorem qy_obj {index a : Nat} (hw : Cond.methodLink M.1.cls index Lib.objectInit ∈ qx_tb) (hd1 : 1 ≤ d) (hW : (st.map fun v => v.category).sum ≤ 8) (hd : decode M.2.1 pc = .ok (.invokespecial index, 3)) (k : qy_E l D ci M d mc ms A Qc cells slots (pc + 3) lv st ws) : qy_E l D ci M d mc ms A Qc cells slots pc lv (.ref a :: st) ws := by
  intro p e s m args below meth c H locs ls X hP hD hS h
  have hts := X.2.2.2.2.2.2.1
  have hr := lv_room (m := m) (pc := pc) (ls := ls) (rest := .ref a :: st) hW
  exact W.objInit X.1 X.2.1 X.2.2.2.2.2.1 (hts _ hw) (hts _ qy_oi) (hts _ qy_oc) rfl (h.1.trans X.2.2.1.symm) rfl hd (show 1 ≤ d from hd1) (show _ ≤ 60 * d by omega) (k p e s m args below meth c H locs ls X hP hD hS h)
theorem qy_ary {ty : FieldType} {cA cB : ClassId} {s : State} {tys : List (ClassId × FieldType)} (h1 : va_K D vwCl (tys ++ [(cA, ty)]) s) (t0 : Nat) (h2 : va_K D vwCl tys s) (ht : tys[t0]? = some (cB, ty)) (hR : va_RA s cA ty = (s.vm.findClass ("[" ++ ty.toString) = some cA)) (hR2 : va_RA s cB ty = (s.vm.findClass ("[" ++ ty.toString) = some cB)) : cA = cB := by
  have a1 := (h1.2 tys.length (cA, ty) (by simp)).2
  have a2 := (h2.2 t0 (cB, ty) ht).2
  have a1 : va_RA s cA ty := a1
  have a2 : va_RA s cB ty := a2
  rw [hR] at a1
  rw [hR2] at a2
  exact Option.some.inj (a1.symm.trans a2)
theorem qy_newi {n : Int32} (N : Nat) (hN : n = nI N) (hN2 : N ≤ 1000) (hc : cells + 1 ≤ mc) (hs : slots + N ≤ ms) (hd : decode M.2.1 pc = .ok (.newarray .int, 2)) (k : ∀ q : Nat, qy_E l D ci M d mc ms A Qc (cells + 1) (slots + N) (pc + 2) lv (.ref q :: st) (ws ++ [(q, .inl (ci 0, N, .inl (fun _ => 0)))])) : qy_E l D ci M d mc ms A Qc cells slots pc lv (.int n :: st) ws := by
  intro p e s m args below meth c H locs ls X hP hD hS h
  have hK := X.2.2.2.2.2.2.2.1
  refine va_newa (D := D) (cl := vwCl) (atype := .int) (ty := .int) (tys := qx_tys ci) (a0 := (N, .inl (fun _ => 0))) X.1 X.2.1 (X.2.2.2.2.2.2.1 _ qy_aI) rfl hK hP hD hS X.2.2.2.2.2.2.2.2.2 (fun cA => rfl) (by rw [hN]; exact nI_pos (by omega)) (by rw [hN]; exact nI_clamp (by omega)) (show N * 4 ≤ 536870912 by omega) hc hs hd (fun q cA H1 hK1 hP1 hD1 hS1 => ?_)
  have e : cA = ci 0 := qy_ary hK1 0 hK rfl rfl rfl
  subst e
  exact k q p e s m args below meth c H1 locs ls X hP1 hD1 hS1 h
theorem qy_newz {n : Int32} (N : Nat) (hN : n = nI N) (hN2 : N ≤ 1000) (hc : cells + 1 ≤ mc) (hs : slots + N ≤ ms) (hd : decode M.2.1 pc = .ok (.newarray .boolean, 2)) (k : ∀ q : Nat, qy_E l D ci M d mc ms A Qc (cells + 1) (slots + N) (pc + 2) lv (.ref q :: st) (ws ++ [(q, .inl (ci 1, N, .inl (fun _ => 0)))])) : qy_E l D ci M d mc ms A Qc cells slots pc lv (.int n :: st) ws := by
  intro p e s m args below meth c H locs ls X hP hD hS h
  have hK := X.2.2.2.2.2.2.2.1
  refine va_newa (D := D) (cl := vwCl) (atype := .boolean) (ty := .boolean) (tys := qx_tys ci) (a0 := (N, .inl (fun _ => 0))) X.1 X.2.1 (X.2.2.2.2.2.2.1 _ qy_aZ) rfl hK hP hD hS X.2.2.2.2.2.2.2.2.2 (fun cA => rfl) (by rw [hN]; exact nI_pos (by omega)) (by rw [hN]; exact nI_clamp (by omega)) (show N * 1 ≤ 536870912 by omega) hc hs hd (fun q cA H1 hK1 hP1 hD1 hS1 => ?_)
  have e : cA = ci 1 := qy_ary hK1 1 hK rfl rfl rfl
  subst e
  exact k q p e s m args below meth c H1 locs ls X hP1 hD1 hS1 h
theorem qy_newb {n : Int32} (N : Nat) (hN : n = nI N) (hN2 : N ≤ 1000) (hc : cells + 1 ≤ mc) (hs : slots + N ≤ ms) (hd : decode M.2.1 pc = .ok (.newarray .byte, 2)) (k : ∀ q : Nat, qy_E l D ci M d mc ms A Qc (cells + 1) (slots + N) (pc + 2) lv (.ref q :: st) (ws ++ [(q, .inl (ci 2, N, .inl (fun _ => 0)))])) : qy_E l D ci M d mc ms A Qc cells slots pc lv (.int n :: st) ws := by
  intro p e s m args below meth c H locs ls X hP hD hS h
  have hK := X.2.2.2.2.2.2.2.1
  refine va_newa (D := D) (cl := vwCl) (atype := .byte) (ty := .byte) (tys := qx_tys ci) (a0 := (N, .inl (fun _ => 0))) X.1 X.2.1 (X.2.2.2.2.2.2.1 _ qy_aB) rfl hK hP hD hS X.2.2.2.2.2.2.2.2.2 (fun cA => rfl) (by rw [hN]; exact nI_pos (by omega)) (by rw [hN]; exact nI_clamp (by omega)) (show N * 1 ≤ 536870912 by omega) hc hs hd (fun q cA H1 hK1 hP1 hD1 hS1 => ?_)
  have e : cA = ci 2 := qy_ary hK1 2 hK rfl rfl rfl
  subst e
  exact k q p e s m args below meth c H1 locs ls X hP1 hD1 hS1 h
theorem qy_newj {n : Int32} (N : Nat) (hN : n = nI N) (hN2 : N ≤ 1000) (hc : cells + 1 ≤ mc) (hs : slots + N ≤ ms) (hd : decode M.2.1 pc = .ok (.newarray .long, 2)) (k : ∀ q : Nat, qy_E l D ci M d mc ms A Qc (cells + 1) (slots + N) (pc + 2) lv (.ref q :: st) (ws ++ [(q, .inl (ci 3, N, .inr (.inl (fun _ => 0))))])) : qy_E l D ci M d mc ms A Qc cells slots pc lv (.int n :: st) ws := by
  intro p e s m args below meth c H locs ls X hP hD hS h
  have hK := X.2.2.2.2.2.2.2.1
  refine va_newa (D := D) (cl := vwCl) (atype := .long) (ty := .long) (tys := qx_tys ci) (a0 := (N, .inr (.inl (fun _ => 0)))) X.1 X.2.1 (X.2.2.2.2.2.2.1 _ qy_aJ) rfl hK hP hD hS X.2.2.2.2.2.2.2.2.2 (fun cA => rfl) (by rw [hN]; exact nI_pos (by omega)) (by rw [hN]; exact nI_clamp (by omega)) (show N * 8 ≤ 536870912 by omega) hc hs hd (fun q cA H1 hK1 hP1 hD1 hS1 => ?_)
  have e : cA = ci 3 := qy_ary hK1 3 hK rfl rfl rfl
  subst e
  exact k q p e s m args below meth c H1 locs ls X hP1 hD1 hS1 h
theorem qy_get (q0 j : Nat) {b cx : Nat} {fs : List Value} {C : String} {T : u_T} {N index : Nat} {v : Value} (he : ws[q0]? = some (b, .inr (cx, fs))) (hc : vwCl[cx]? = some (C, T, N)) (hj : j < N) (hv : fs[j]? = some v) (hin : ∀ w ∈ u_ws C T N, w ∈ qx_tb) (hw : Cond.fieldLink M.1.cls index (T j).1 (T j).2.1 (T j).2.2.1 ∈ qx_tb) (hd : decode M.2.1 pc = .ok (.getfield index, 3)) (k : qy_E l D ci M d mc ms A Qc cells slots (pc + 3) lv (v :: st) ws) : qy_E l D ci M d mc ms A Qc cells slots pc lv (.ref b :: st) ws := by
  intro p e s m args below meth c H locs ls X hP hD hS hl
  exact va_get (D := D) (cl := vwCl) X.1 X.2.1 X.2.2.2.2.2.2.1 hin X.2.2.2.2.2.1 X.2.2.2.2.2.2.2.1 hP q0 he hc j hj (X.2.2.2.2.2.2.1 _ hw) (fun _ h => h) hv hd (k p e s m args below meth c H locs ls X hP hD hS hl)
theorem qy_put (q0 j : Nat) {b cx : Nat} {fs : List Value} {C : String} {T : u_T} {N index : Nat} {v : Value} {ty : FieldType} (ws1 : va_W) (ty0 : Nat → FieldType) (he : ws[q0]? = some (b, .inr (cx, fs))) (hc : vwCl[cx]? = some (C, T, N)) (hj : j < N) (hin : ∀ w ∈ u_ws C T N, w ∈ qx_tb) (hty : ∀ k, k < N → parseFieldDescriptor (T k).2.2.1 = some (ty0 k)) (hnm : ∀ a, a < N → ∀ b, b < N → a ≠ b → (T a).2.1 ≠ (T b).2.1) (hfin : (T j).2.2.2 = false) (hpd : parseFieldDescriptor (T j).2.2.1 = some ty) (hn : narrow ty v = v) (hfit : fits ty v = true) (hlt : j < fs.length) (hws : ws.set q0 (b, .inr (cx, fs.set j v)) = ws1) (hw : Cond.fieldLink M.1.cls index (T j).1 (T j).2.1 (T j).2.2.1 ∈ qx_tb) (hd : decode M.2.1 pc = .ok (.putfield index, 3)) (k : qy_E l D ci M d mc ms A Qc cells slots (pc + 3) lv st ws1) : qy_E l D ci M d mc ms A Qc cells slots pc lv (v :: .ref b :: st) ws := by
  intro p e s m args below meth c H locs ls X hP hD hS hl
  refine va_put (D := D) (cl := vwCl) X.1 X.2.1 X.2.2.2.2.2.2.1 hin ty0 hty hnm X.2.2.2.2.2.1 X.2.2.2.2.2.2.2.1 hP hD hS q0 he hc j hj (X.2.2.2.2.2.2.1 _ hw) (fun _ h => h) hfin hpd hn hfit hlt hd (fun H1 locs1 hP1 hD1 hS1 => ?_)
  rw [hws] at hP1 hD1
  exact k p e s m args below meth c H1 locs1 ls X hP1 hD1 hS1 hl
theorem qy_putF (q0 j : Nat) {b cx : Nat} {fs : List Value} {C : String} {T : u_T} {N index : Nat} {v : Value} {ty : FieldType} (ws1 : va_W) (ty0 : Nat → FieldType) (he : ws[q0]? = some (b, .inr (cx, fs))) (hc : vwCl[cx]? = some (C, T, N)) (hj : j < N) (hin : ∀ w ∈ u_ws C T N, w ∈ qx_tb) (hty : ∀ k, k < N → parseFieldDescriptor (T k).2.2.1 = some (ty0 k)) (hnm : ∀ a, a < N → ∀ b, b < N → a ≠ b → (T a).2.1 ≠ (T b).2.1) (hfin : (T j).2.2.2 = true) (hdecl : (T j).1 = M.1.cls) (hpd : parseFieldDescriptor (T j).2.2.1 = some ty) (hn : narrow ty v = v) (hfit : fits ty v = true) (hlt : j < fs.length) (hws : ws.set q0 (b, .inr (cx, fs.set j v)) = ws1) (hw : Cond.fieldLink M.1.cls index (T j).1 (T j).2.1 (T j).2.2.1 ∈ qx_tb) (hd : decode M.2.1 pc = .ok (.putfield index, 3)) (k : qy_E l D ci M d mc ms A Qc cells slots (pc + 3) lv st ws1) : qy_E l D ci M d mc ms A Qc cells slots pc lv (v :: .ref b :: st) ws := by
  intro p e s m args below meth c H locs ls X hP hD hS hl
  refine va_putF (D := D) (cl := vwCl) X.1 X.2.1 X.2.2.2.2.2.2.1 hin ty0 hty hnm X.2.2.2.2.2.1 X.2.2.2.2.2.2.2.1 hP hD hS q0 he hc j hj (X.2.2.2.2.2.2.1 _ hw) (fun _ h => h) hfin X.2.2.2.2.2.2.2.2.1 hdecl hpd hn hfit hlt hd (fun H1 locs1 hP1 hD1 hS1 => ?_)
  rw [hws] at hP1 hD1
  exact k p e s m args below meth c H1 locs1 ls X hP1 hD1 hS1 hl
theorem qy_new {C : String} {T : u_T} {N cx index : Nat} {fs : List Value} (ty : Nat → FieldType) (hty : ∀ k, k < N → parseFieldDescriptor (T k).2.2.1 = some (ty k)) (hin : ∀ w ∈ u_ws C T N, w ∈ qx_tb) (hcl : Cond.classLink M.1.cls index C ∈ qx_tb) (hinst : Cond.instantiable C N ∈ qx_tb) (hini : Cond.initialized C ∈ qx_tb) (hc : vwCl[cx]? = some (C, T, N)) (hfs : ∀ j, j < N → defaultValue (ty j) = vp_V fs j) (hcc : cells + 1 ≤ mc) (hs : slots + N ≤ ms) (hd : decode M.2.1 pc = .ok (.new index, 3)) (k : ∀ q : Nat, qy_E l D ci M d mc ms A Qc (cells + 1) (slots + N) (pc + 3) lv (.ref q :: st) (ws ++ [(q, .inr (cx, fs))])) : qy_E l D ci M d mc ms A Qc cells slots pc lv st ws := by
  intro p e s m args below meth c H locs ls X hP hD hS h
  have hts := X.2.2.2.2.2.2.1
  exact va_new (D := D) (cl := vwCl) X.1 X.2.1 hts hin ty hty X.2.2.2.2.2.1 (hts _ hcl) (hts _ hinst) (hts _ hini) X.2.2.2.2.2.2.2.1 hP hD hS X.2.2.2.2.2.2.2.2.2 hc hfs hcc hs hd (fun q H1 hP1 hD1 hS1 => k q p e s m args below meth c H1 locs ls X hP1 hD1 hS1 h)
theorem qy_vret {w1 : (Nat → Nat) → va_W} (u : Nat → Nat) (hu : ws = w1 u) (hr : M.2.2.2 = none) (hd : decode M.2.1 pc = .ok (.return_, 1)) : qy_E l D ci M d mc ms A (va_Qv (fun _ : Nat → Nat => True) (fun u t => va_P D vwCl (w1 u) t.heap ∧ va_D A (w1 u)) A) mc ms pc lv [] ws := by
  intro p e s m args below meth c H locs ls X hP hD hS hl
  rw [hu] at hP hD
  exact W.vret X.1 X.2.1 (X.2.2.2.1.trans hr) (fun t ht hW => ⟨⟨u, rfl, trivial, by rw [ht]; exact hP, hD⟩, hS.F ht⟩) hS.2.2 hd X.2.2.2.2.1
theorem qy_met {w0 : va_W} {w1 : (Nat → Nat) → va_W} (hp : plainName M.1.cls = true) (hi : M.1.name = "<init>") (av : List Value) (hlen : (lg_sl av).length ≤ M.2.2.1) (h : ∀ sz, qy_E l D ci M d mc ms (va_A w0 sz) (va_Qv (fun _ : Nat → Nat => True) (fun u t => va_P D vwCl (w1 u) t.heap ∧ va_D (va_A w0 sz) (w1 u)) (va_A w0 sz)) 0 0 0 (lv_args 0 av) [] w0) : qy_C l D ci M d mc ms av w0 w1 := by
  intro sz
  refine Met.ofW (cc := M.2.1) (maxL := M.2.2.1) (ret := M.2.2.2) hp rfl ?_
  intro p e s m args below meth c s₁ B hml hv
  obtain ⟨rfl, hsz, hP, hK, hD⟩ := hv
  subst hsz
  rw [lg_entry_eq]
  exact h s.heap.size p e s m _ below meth c s.heap [] _ ⟨B.exec, B.bytes, hml, B.returns, B.notSynchronized, findClass_of_methodNamed B.named, fun w hw => atoms_spec (ws := qx_ws M) B.pre w (List.mem_cons_of_mem _ hw), hK, ((name_of_methodNamed B.named B.method).1).trans hi, fun q hq => Or.inr hq⟩ hP hD.self va_S.rf (lv_entry av hlen)
theorem qy_callI {M' : QM} {d' mc' ms' index n b : Nat} {w0 wr : va_W} {w1 : (Nat → Nat) → va_W} (As rest : List Value) (hC : qy_C l D ci M' d' mc' ms' (.ref b :: As) w0 w1) (isC isR : List Nat) (hsC : isC.filterMap (fun i => ws[i]?) = w0) (hmC : isC.map (fun i => ws[i]?) = w0.map some) (hnC : va_nd isC = true) (hmR : isR.map (fun i => ws[i]?) = wr.map some) (hnR : va_nd isR = true) (hdis : ∀ i ∈ isR, i ∉ isC) (hst : st = As.reverse ++ .ref b :: rest) (hm : qx_cm M' n) (hret : M'.2.2.2 = none) (hnm : M'.1.name = "<init>") (hv : Cond.instanceMethod M'.1 ∈ qx_tb) (hw : Cond.methodLink M.1.cls index M'.1 ∈ qx_tb) (hn : As.length = n) (hW : (rest.map fun v => v.category).sum ≤ 8) (hdd : d' < d) (hcc : cells + mc' ≤ mc) (hss : slots + ms' ≤ ms) (hd : decode M.2.1 pc = .ok (.invokespecial index, 3))
    (k : ∀ u : Nat → Nat, qy_E l D ci M d mc ms A Qc (cells + mc') (slots + ms') (pc + 3) lv rest (wr ++ w1 u)) : qy_E l D ci M d mc ms A Qc cells slots pc lv st ws := by
  intro p e s m args below meth c H locs ls X hP hD hS hl
  have hts := X.2.2.2.2.2.2.1
  have hK := X.2.2.2.2.2.2.2.1
  have hPc := hP.sub isC hsC
  have hDc := hD.sub isC hnC hmC
  have hFc := va_free (wc := w0) hD hS X.2.2.2.2.2.2.2.2.2 isC hmC
  have h40 := hm.2.2.2.2
  refine va_callv (va_runI (As := As) (rest := rest) (n := n) (Ts := qx_tb) (bytes := M'.2.1) (maxL := M'.2.2.1) ⟨X.1, X.2.1, X.2.2.1, X.2.2.2.2.2.1, hts⟩ (hC H.size) ⟨callB_of n hts (qx_goodIn hm.1) (by unfold qx_ws; rw [hret]) rfl rfl (hts _ hm.2.1) (hts _ hw) hm.2.2.1 ⟨show d' + 1 ≤ d from hdd, show 8 + (M'.2.2.1 + 11) + 60 * d' ≤ 60 * d by omega⟩, hnm, hts _ hv⟩ ⟨fun a U g mk q => by obtain ⟨q0, q1, qP, qK, qD⟩ := q; exact ⟨q0, q1, qP, va_K.moved (u := U) (U := U.calling g mk a) (Vm.Alike.refl U.vm) qK, qD⟩, fun U hU hW => ⟨rfl, by rw [hU], by rw [hU]; exact hPc, va_K.moved hW.alike hK, hDc.weaken (fun _ _ _ _ => trivial)⟩⟩ rfl hn hl.1 hst (lv_room hW) hd ⟨hcc, hss⟩) hS (fun q _ h => hFc q h) hFc (fun u t H1 locs1 ht hvm hw1 hB hz1 hk1 hS1 => ?_)
  obtain ⟨hP1, hD1⟩ := hB
  rw [ht] at hP1
  obtain ⟨hP2, hD2⟩ := va_join hP hD isC isR hmC hmR hnR hdis hk1 hFc hP1 hD1
  exact k u p e s m args below meth c H1 locs1 ls X hP2 hD2 hS1 hl
end QY
