/-! THE CLAIM OUT OF ONE WALK OF THE LAW'S BODY. Your part is whole_start (and what it stands on); all else here is the same for every law, but numbers. -/
def R_law : String := "LabelPlacerLaw"
def lw_P (b : Addr) (xs : List Int32) (args : Array Value) (s : State) : Prop := args = #[.ref b] ∧ s.IntsAt b xs ∧ xs.length ≤ 3584 ∧ (Jvm.Cond.and given_1 narrow_1).before args s = true
def lw_Q (_ : Array Value) (s : State) (o : Outcome) (t : State) : Prop := o = .returned (some (.int 1)) ∧ Framed s o t [] 600000 7302250
def lw_Z (below : List Frame) (a : Array Value) (s : State) : State → Prop := fun t => ∃ o, t.status = .running ∧ Ended t below o ∧ lw_Q a s o t
/-- the law's own end, with 1 on the stack, nothing written that was there before, its room as the claim has it -/
theorem lw_ret {p : Program} {l : Launch} {e : Env} {s : State} {m : MethodId} {below : List Frame} {meth : Method} {c : Code} {b : Nat} (hx : p.tables.exec = Jvm.exec) (hb : c.code = code) (hr : meth.sig.returnType = ret) (hlocks : meth.locks = false) {pc : Nat} {H : Heap} {ls : Array Slot} (hdg : decode code pc = .ok (.ireturn, 1)) : W p l e room_1 s m #[Value.ref b] below meth c H [] 600000 7302250 (lw_Z below #[Value.ref b] s) (F0 m pc ls [.int 1]) := by
  intro T hT X
  obtain ⟨fs, hret, hrun, hended, hW, hframe⟩ := X.leave (v := some (.int 1)) (hlocks := hlocks) (fun h => by rw [hr] at h; cases h)
  have hmeth' : T.vm.method? m = some meth := X.method'
  refine ⟨T.setFrames fs, ?_, .returned (some (.int 1)), hrun, hended, rfl, ⟨_, rfl⟩, hW, hframe⟩
  jvm_step X.here [X.here.top, hx, hb, hdg, hmeth', hr, ret, narrow_b1]
  (try refine ⟨rfl, ?_⟩); (try refine ⟨rfl, ?_⟩)
  first | (intro acts; rw [hret _ acts rfl rfl rfl]) | rw [hret _ _ rfl rfl rfl]
  exact Steps.refl _
/-- what holds at the law's entry: the machine, the code, the tables' words (any of lw_tbl by 'hts w (by decide +kernel)'), the script of L ints xs at the cell b, what the Statement gives of the start (any of its parts by flat_of_before) -/
def lw_At (p : Program) (s : State) (m : MethodId) (meth : Method) (c : Code) (b L : Nat) (xs : Nat → Int32) : Prop :=
  p.tables.exec = Jvm.exec ∧ c.code = code ∧ meth.sig.returnType = ret ∧ c.maxLocals = 4 ∧ s.vm.findClass R_law = some m.cls ∧ (∀ w ∈ lw_tbl, w.before #[Value.ref b] s = true) ∧ va_X b L xs s s.heap ∧ b < s.heap.size ∧ meth.locks = false ∧ (Jvm.Cond.and given_1 narrow_1).before #[Value.ref b] s = true
/-- what stands while the law runs -/
def qw_X (p : Program) (s : State) (m : MethodId) (meth : Method) (c : Code) (b L : Nat) (xs : Nat → Int32) (D : va_G) (ci : Nat → ClassId) (a z a2 : Nat → Nat) : Prop := lw_At p s m meth c b L xs ∧ va_K D vwCl (qx_tys ci) s ∧ qx_ZC (fun q => s.heap.size ≤ q) z s s.heap ∧ (∀ k, k < 23 → s.heap.size ≤ a k) ∧ (∀ k, k < 11 → s.heap.size ≤ a2 k) ∧ (∀ i j, i < 23 → j < 11 → ¬ a i = a2 j) ∧ L ≤ 3584
def qw_lv (b : Nat) (a a2 : Nat → Nat) (i : Nat) : List (Nat × Value) := [(0, .ref b), (1, .ref (a 0)), (2, .ref (a2 0)), (3, .int (nI i))]
/-- the law, at pc, the i-th int next, with this stack, class and reference holding these numbers, comes to its end with true -/
def qw_E (p : Program) (l : Launch) (e : Env) (s : State) (m : MethodId) (below : List Frame) (meth : Method) (c : Code) (b : Nat) (D : va_G) (ci : Nat → ClassId) (a a2 : Nat → Nat) (pc i : Nat) (st : List Value) (σ τ : QS) : Prop :=
  ∀ (H : Heap) (locs : List Loc) (ls : Array Slot), va_P D vwCl (qx_wC ci a σ) H → va_D (qx_AC a) (qx_wC ci a σ) → va_P D vwCl (qx_wM ci a2 τ) H → va_D (qx_AM a2) (qx_wM ci a2 τ) → va_S (fun q => s.heap.size ≤ q) s.heap H locs → lv_has ls 4 (qw_lv b a a2 i) →
    W p l e room_1 s m #[Value.ref b] below meth c H locs 34 1858 (lw_Z below #[Value.ref b] s) (F0 m pc ls st)
section QWL
variable {p : Program} {l : Launch} {e : Env} {s : State} {m : MethodId} {below : List Frame} {meth : Method} {c : Code} {b L : Nat} {xs : Nat → Int32} {D : va_G} {ci : Nat → ClassId} {a z a2 : Nat → Nat} {pc i : Nat} {st : List Value} {σ τ : QS}
theorem qw_ax (X : qw_X p s m meth c b L xs D ci a z a2) (hd : decode code pc = .ok (.aload_n 1, 1)) (k : qw_E p l e s m below meth c b D ci a a2 (pc + 1) i (.ref (a 0) :: st) σ τ) : qw_E p l e s m below meth c b D ci a a2 pc i st σ τ := by
  intro H locs ls hP hD hP2 hD2 hS hl
  exact lv_aload_n X.1.1 X.1.2.1 hd rfl (lv_at hl 1 rfl) (k H locs ls hP hD hP2 hD2 hS hl)
theorem qw_am (X : qw_X p s m meth c b L xs D ci a z a2) (hd : decode code pc = .ok (.aload_n 2, 1)) (k : qw_E p l e s m below meth c b D ci a a2 (pc + 1) i (.ref (a2 0) :: st) σ τ) : qw_E p l e s m below meth c b D ci a a2 pc i st σ τ := by
  intro H locs ls hP hD hP2 hD2 hS hl
  exact lv_aload_n X.1.1 X.1.2.1 hd rfl (lv_at hl 2 rfl) (k H locs ls hP hD hP2 hD2 hS hl)
theorem qw_arg (X : qw_X p s m meth c b L xs D ci a z a2) {n : Int} (kk : Nat) (hv : Int32.ofInt n = nI kk) (h : i + kk < L) (d0 : decode code pc = .ok (.aload_n 0, 1)) (d1 : decode code (pc + 1) = .ok (.iload_n 3, 1)) (d2 : decode code (pc + 2) = .ok (.iconst n, 1)) (d3 : decode code (pc + 3) = .ok (.iadd, 1)) (d4 : decode code (pc + 4) = .ok (.iaload, 1)) (k : qw_E p l e s m below meth c b D ci a a2 (pc + 5) i (.int (xs (i + kk)) :: st) σ τ) : qw_E p l e s m below meth c b D ci a a2 pc i st σ τ := by
  intro H locs ls hP hD hP2 hD2 hS hl
  obtain ⟨⟨hx, hb, -, -, -, -, hX, hbl, -, -⟩, -, -, -, -, -, hL⟩ := X
  have hbA : ¬ (fun q : Nat => s.heap.size ≤ q) b := Nat.not_le.mpr hbl
  refine lv_aload_n hx hb d0 rfl (lv_at hl 0 rfl) ?_
  refine lv_iload_n hx hb d1 rfl (lv_at hl 3 rfl) ?_
  refine lv_iconst hx hb d2 hv ?_
  refine lv_iadd hx hb d3 ?_
  rw [nI_add]
  refine va_sld hx hb hX hbl hbA hS (vp_in_nI h (by omega)) d4 ?_
  rw [nI_clamp (by omega)]
  exact k H locs ls hP hD hP2 hD2 hS hl
theorem qw_arg6 (X : qw_X p s m meth c b L xs D ci a z a2) (h : i + 6 < L) (d0 : decode code pc = .ok (.aload_n 0, 1)) (d1 : decode code (pc + 1) = .ok (.iload_n 3, 1)) (d2 : decode code (pc + 2) = .ok (.bipush 6, 2)) (d3 : decode code (pc + 4) = .ok (.iadd, 1)) (d4 : decode code (pc + 5) = .ok (.iaload, 1)) (k : qw_E p l e s m below meth c b D ci a a2 (pc + 6) i (.int (xs (i + 6)) :: st) σ τ) : qw_E p l e s m below meth c b D ci a a2 pc i st σ τ := by
  intro H locs ls hP hD hP2 hD2 hS hl
  obtain ⟨⟨hx, hb, -, -, -, -, hX, hbl, -, -⟩, -, -, -, -, -, hL⟩ := X
  have hbA : ¬ (fun q : Nat => s.heap.size ≤ q) b := Nat.not_le.mpr hbl
  refine lv_aload_n hx hb d0 rfl (lv_at hl 0 rfl) ?_
  refine lv_iload_n hx hb d1 rfl (lv_at hl 3 rfl) ?_
  refine lv_bipush (v := nI 6) hx hb d2 (by decide) ?_
  refine lv_iadd hx hb d3 ?_
  rw [nI_add]
  refine va_sld hx hb hX hbl hbA hS (vp_in_nI h (by omega)) d4 ?_
  rw [nI_clamp (by omega)]
  exact k H locs ls hP hD hP2 hD2 hS hl
theorem qw_callC (X : qw_X p s m meth c b L xs D ci a z a2) {M' : QM} {d' index n : Nat} (o1 : Option Value × QS) (As rest : List Value) (hst : st = As.reverse ++ .ref (a 0) :: rest) (hc : vwCl[8]? = some (M'.1.cls, TX8, 8)) (hm : qx_cm M' n) (hv : qx_cv M') (hw : Cond.methodLink RL index M'.1 ∈ qx_tb) (hn : As.length = n) (hlen : (lg_sl (.ref (a 0) :: As)).length ≤ M'.2.2.1) (hW : (rest.map fun v => v.category).sum ≤ 8) (hdd : d' ≤ 1000) (hd : decode code pc = .ok (.invokevirtual index, 3))
    (h1 : qx_E (qx_gC l D ci a z) d' M' o1 0 (lv_args 0 (.ref (a 0) :: As)) [] σ) (k : qw_E p l e s m below meth c b D ci a a2 (pc + 3) i (o1.1.toList ++ rest) o1.2 τ) : qw_E p l e s m below meth c b D ci a a2 pc i st σ τ := by
  intro H locs ls hP hD hP2 hD2 hS hl
  obtain ⟨⟨hx, hb, -, hml, hown, htl, -, -, -, -⟩, hK, hZ, ha, ha2, hab, -⟩ := X
  have hts : ∀ w ∈ qx_tb, w.before #[Value.ref b] s = true := fun w hw => htl w (qx_tbIn hw)
  have hAC : ∀ q, qx_AC a q → s.heap.size ≤ q := fun q ⟨k, hk, e⟩ => by rw [e]; exact ha k hk
  have hZ' : qx_ZC (qx_AC a) z s s.heap := hZ.narrow hAC
  have h40 := hm.2.2.2.2
  have hr := va_runV (l := l) (e := e) (R := room_1) (cells := 34) (slots := 1858) (below := below) (meth := meth) (locs := locs) (H := H) (g := F0 m pc ls st) (As := As) (rest := rest) (C := M'.1.cls) (n := n) (Ts := qx_tb) ⟨hx, hb, hml, hown, hts⟩ (qx_met (g := qx_gC l D ci a z) hm.2.2.2.1 (.ref (a 0) :: As) hlen h1) (ret := M'.2.2.2) (bytes := M'.2.1) (maxL := M'.2.2.1) ⟨callB_of n hts (qx_goodIn hm.1) rfl rfl rfl (hts _ hm.2.1) (hts _ hw) hm.2.2.1 ⟨show d' + 1 ≤ 2048 by omega, show 8 + (M'.2.2.1 + 11) + 60 * d' ≤ 84000 by omega⟩, hts _ hv.1, hts _ hv.2⟩ ⟨qx_blind _, va_recv hK hP hc (q0 := 0) rfl, fun U hU hW => ⟨rfl, by rw [hU]; exact hP, va_K.moved hW.alike hK, hD, (by
      show qx_ZC (qx_AC a) z U U.heap
      rw [hU]
      exact (qx_ZokC (l := l) (D := D) (ci := ci) (a := a) (z := z)).2.1 s U H hW ((qx_ZokC (l := l) (D := D) (ci := ci) (a := a) (z := z)).2.2 s s.heap H (fun q h1 _ => hS.2.1 q h1 (Nat.not_le.mpr h1)) hZ')), qx_ZokC⟩⟩ rfl hn hl.1 hst (lv_room hW) hd ⟨Nat.le_of_ble_eq_true rfl, Nat.le_of_ble_eq_true rfl⟩
  intro T hT Xs
  obtain ⟨v, st₀, t, T', Lc, h0, X', hLc, e1, e2, ⟨⟨hv1, hP1, hD1⟩, hz, hk⟩, stp⟩ := hr T hT Xs
  cases hv1
  rw [h0] at hz hk
  have hk : ∀ q : Nat, q < H.size → ¬ qx_AC a q → t.heap[q]? = H[q]? := hk
  have hLc : ∀ q ∈ Lc, qx_AC a q.base := hLc
  have hP2' : va_P D vwCl (qx_wM ci a2 τ) t.heap := hP2.kept (fun j x hx => hk x.1 ((hP2 j x hx).lt) (fun ⟨i1, hi1, q1⟩ => by
    obtain ⟨j1, hj1, q2⟩ := hD2.2 j x hx
    exact hab i1 j1 hi1 hj1 (q1.symm.trans q2)))
  obtain ⟨t2, a1, b1⟩ := k T'.heap (locs ++ Lc) ls (by rw [e1]; exact hP1) hD1 (by rw [e1]; exact hP2') hD2
    ⟨Nat.le_trans hS.1 (by rw [e1]; exact hz), fun q h1 h2 => by rw [e1, hk q (Nat.lt_of_lt_of_le h1 hS.1) (fun z => h2 (hAC q z))]; exact hS.2.1 q h1 h2, fun q hq => by
      rcases List.mem_append.mp hq with h | h
      · exact hS.2.2 q h
      · exact hAC _ (hLc q h)⟩ hl T' rfl X'
  exact ⟨t2, stp t2 a1, b1⟩
theorem qw_callM (X : qw_X p s m meth c b L xs D ci a z a2) {M' : QM} {d' index n : Nat} (o1 : Option Value × QS) (As rest : List Value) (hst : st = As.reverse ++ .ref (a2 0) :: rest) (hc : vwCl[9]? = some (M'.1.cls, TX9, 21)) (hm : qx_cm M' n) (hv : qx_cv M') (hw : Cond.methodLink RL index M'.1 ∈ qx_tb) (hn : As.length = n) (hlen : (lg_sl (.ref (a2 0) :: As)).length ≤ M'.2.2.1) (hW : (rest.map fun v => v.category).sum ≤ 8) (hdd : d' ≤ 1000) (hd : decode code pc = .ok (.invokevirtual index, 3))
    (h1 : qx_E (qx_gM l D ci a2) d' M' o1 0 (lv_args 0 (.ref (a2 0) :: As)) [] τ) (k : qw_E p l e s m below meth c b D ci a a2 (pc + 3) i (o1.1.toList ++ rest) σ o1.2) : qw_E p l e s m below meth c b D ci a a2 pc i st σ τ := by
  intro H locs ls hP hD hP2 hD2 hS hl
  obtain ⟨⟨hx, hb, -, hml, hown, htl, -, -, -, -⟩, hK, hZ, ha, ha2, hab, -⟩ := X
  have hts : ∀ w ∈ qx_tb, w.before #[Value.ref b] s = true := fun w hw => htl w (qx_tbIn hw)
  have hAM : ∀ q, qx_AM a2 q → s.heap.size ≤ q := fun q ⟨k, hk, e⟩ => by rw [e]; exact ha2 k hk
  have h40 := hm.2.2.2.2
  have hr := va_runV (l := l) (e := e) (R := room_1) (cells := 34) (slots := 1858) (below := below) (meth := meth) (locs := locs) (H := H) (g := F0 m pc ls st) (As := As) (rest := rest) (C := M'.1.cls) (n := n) (Ts := qx_tb) ⟨hx, hb, hml, hown, hts⟩ (qx_met (g := qx_gM l D ci a2) hm.2.2.2.1 (.ref (a2 0) :: As) hlen h1) (ret := M'.2.2.2) (bytes := M'.2.1) (maxL := M'.2.2.1) ⟨callB_of n hts (qx_goodIn hm.1) rfl rfl rfl (hts _ hm.2.1) (hts _ hw) hm.2.2.1 ⟨show d' + 1 ≤ 2048 by omega, show 8 + (M'.2.2.1 + 11) + 60 * d' ≤ 84000 by omega⟩, hts _ hv.1, hts _ hv.2⟩ ⟨qx_blind _, va_recv hK hP2 hc (q0 := 0) rfl, fun U hU hW => ⟨rfl, by rw [hU]; exact hP2, va_K.moved hW.alike hK, hD2, trivial, qx_ZokM⟩⟩ rfl hn hl.1 hst (lv_room hW) hd ⟨Nat.le_of_ble_eq_true rfl, Nat.le_of_ble_eq_true rfl⟩
  intro T hT Xs
  obtain ⟨v, st₀, t, T', Lc, h0, X', hLc, e1, e2, ⟨⟨hv1, hP1, hD1⟩, hz, hk⟩, stp⟩ := hr T hT Xs
  cases hv1
  rw [h0] at hz hk
  have hk : ∀ q : Nat, q < H.size → ¬ qx_AM a2 q → t.heap[q]? = H[q]? := hk
  have hLc : ∀ q ∈ Lc, qx_AM a2 q.base := hLc
  have hP' : va_P D vwCl (qx_wC ci a σ) t.heap := hP.kept (fun j x hx => hk x.1 ((hP j x hx).lt) (fun ⟨j1, hj1, q2⟩ => by
    obtain ⟨i1, hi1, q1⟩ := hD.2 j x hx
    exact hab i1 j1 hi1 hj1 (q1.symm.trans q2)))
  obtain ⟨t2, a1, b1⟩ := k T'.heap (locs ++ Lc) ls (by rw [e1]; exact hP') hD (by rw [e1]; exact hP1) hD1
    ⟨Nat.le_trans hS.1 (by rw [e1]; exact hz), fun q h1 h2 => by rw [e1, hk q (Nat.lt_of_lt_of_le h1 hS.1) (fun z => h2 (hAM q z))]; exact hS.2.1 q h1 h2, fun q hq => by
      rcases List.mem_append.mp hq with h | h
      · exact hS.2.2 q h
      · exact hAM _ (hLc q h)⟩ hl T' rfl X'
  exact ⟨t2, stp t2 a1, b1⟩
theorem qw_eqi (X : qw_X p s m meth c b L xs D ci a z a2) {r : Int32} {off : Int} (tgt : Nat) (hd : decode code pc = .ok (.if_icmp .eq off, 3)) (ht : (pc : Int) + off = (tgt : Int)) (k : qw_E p l e s m below meth c b D ci a a2 tgt i [] σ τ) : qw_E p l e s m below meth c b D ci a a2 pc i [.int r, .int r] σ τ := by
  intro H locs ls hP hD hP2 hD2 hS hl
  exact lv_icmp_eq X.1.1 X.1.2.1 hd ht (fun _ => k H locs ls hP hD hP2 hD2 hS hl) (fun q => absurd rfl q)
theorem qw_eql (X : qw_X p s m meth c b L xs D ci a z a2) {r : Int64} {off : Int} (tgt : Nat) (hd0 : decode code pc = .ok (.lcmp, 1)) (hd : decode code (pc + 1) = .ok (.ifCond .eq off, 3)) (ht : (pc + 1 : Nat) + off = (tgt : Int)) (k : qw_E p l e s m below meth c b D ci a a2 tgt i [] σ τ) : qw_E p l e s m below meth c b D ci a a2 pc i [.long r, .long r] σ τ := by
  intro H locs ls hP hD hP2 hD2 hS hl
  refine W.lcmp X.1.1 X.1.2.1 hd0 ?_
  exact lv_if_eq X.1.1 X.1.2.1 hd ht (fun _ => k H locs ls hP hD hP2 hD2 hS hl) (fun q => absurd ((lg_cmp_eq r r).mpr rfl) q)
end QWL
