/-! the layer, second half: ways, cells, calls, ends -/
def qx_ob {β : Type} (i : Int32) (n : Nat) (K : Option β) : Option β := if i < 0 ∨ n ≤ i.toNatClampNeg then none else K
theorem qx_obE {β : Type} {i : Int32} {n : Nat} {K : Option β} {r : β} (h : qx_ob i n K = some r) : vp_in i n ∧ K = some r := by
  unfold qx_ob at h
  by_cases hc : i < 0 ∨ n ≤ i.toNatClampNeg
  · rw [if_pos hc] at h; cases h
  · rw [if_neg hc] at h; exact ⟨hc, h⟩
theorem qx_bindE {α β : Type} {X : Option α} {K : α → Option β} {r : β} (h : X.bind K = some r) : ∃ q, X = some q ∧ K q = some r := by
  cases X with
  | none => cases h
  | some q => exact ⟨q, rfl, h⟩
section QW
variable {g : QG} {d : Nat} {M : QM} {o : Option Value × QS} {pc : Nat} {lv : List (Nat × Value)} {st : List Value} {σ : QS} {β : Type} {r : β} {A1 A2 : Option β}
theorem qx_if_eq {x : Int32} {off : Int} (tgt : Nat) (h : (if x = 0 then A1 else A2) = some r) (hd : decode M.2.1 pc = .ok (.ifCond .eq off, 3)) (ht : (pc : Nat) + off = (tgt : Int)) (kt : A1 = some r → qx_E g d M o tgt lv st σ) (kf : A2 = some r → qx_E g d M o (pc + 3) lv st σ) : qx_E g d M o pc lv (.int x :: st) σ := by
  intro p e s m args below meth c H locs ls X hP hD hS hl
  exact lv_if_eq X.1 X.2.1 hd ht (fun hc => kt (by rwa [if_pos hc] at h) p e s m args below meth c H locs ls X hP hD hS hl) (fun hc => kf (by rwa [if_neg hc] at h) p e s m args below meth c H locs ls X hP hD hS hl)
theorem qx_icmp_eq {x y : Int32} {off : Int} (tgt : Nat) (h : (if x = y then A1 else A2) = some r) (hd : decode M.2.1 pc = .ok (.if_icmp .eq off, 3)) (ht : (pc : Nat) + off = (tgt : Int)) (kt : A1 = some r → qx_E g d M o tgt lv st σ) (kf : A2 = some r → qx_E g d M o (pc + 3) lv st σ) : qx_E g d M o pc lv (.int y :: .int x :: st) σ := by
  intro p e s m args below meth c H locs ls X hP hD hS hl
  exact lv_icmp_eq X.1 X.2.1 hd ht (fun hc => kt (by rwa [if_pos hc] at h) p e s m args below meth c H locs ls X hP hD hS hl) (fun hc => kf (by rwa [if_neg hc] at h) p e s m args below meth c H locs ls X hP hD hS hl)
theorem qx_lcmp_eq {x y : Int64} {off : Int} (tgt : Nat) (h : (if x = y then A1 else A2) = some r) (hd0 : decode M.2.1 pc = .ok (.lcmp, 1)) (hd : decode M.2.1 (pc + 1) = .ok (.ifCond .eq off, 3)) (ht : (pc + 1 : Nat) + off = (tgt : Int)) (kt : A1 = some r → qx_E g d M o tgt lv st σ) (kf : A2 = some r → qx_E g d M o ((pc + 1) + 3) lv st σ) : qx_E g d M o pc lv (.long y :: .long x :: st) σ := by
  intro p e s m args below meth c H locs ls X hP hD hS hl
  refine W.lcmp X.1 X.2.1 hd0 ?_
  exact lv_if_eq X.1 X.2.1 hd ht (fun hc => kt (by rwa [if_pos ((lg_cmp_eq x y).mp hc)] at h) p e s m args below meth c H locs ls X hP hD hS hl) (fun hc => kf (by rwa [if_neg (fun q => hc ((lg_cmp_eq x y).mpr q))] at h) p e s m args below meth c H locs ls X hP hD hS hl)
theorem qx_if_ne {x : Int32} {off : Int} (tgt : Nat) (h : (if x = 0 then A2 else A1) = some r) (hd : decode M.2.1 pc = .ok (.ifCond .ne off, 3)) (ht : (pc : Nat) + off = (tgt : Int)) (kt : A1 = some r → qx_E g d M o tgt lv st σ) (kf : A2 = some r → qx_E g d M o (pc + 3) lv st σ) : qx_E g d M o pc lv (.int x :: st) σ := by
  intro p e s m args below meth c H locs ls X hP hD hS hl
  exact lv_if_ne X.1 X.2.1 hd ht (fun hc => kt (by rwa [if_neg hc] at h) p e s m args below meth c H locs ls X hP hD hS hl) (fun hc => kf (by rwa [if_pos hc] at h) p e s m args below meth c H locs ls X hP hD hS hl)
theorem qx_icmp_ne {x y : Int32} {off : Int} (tgt : Nat) (h : (if x = y then A2 else A1) = some r) (hd : decode M.2.1 pc = .ok (.if_icmp .ne off, 3)) (ht : (pc : Nat) + off = (tgt : Int)) (kt : A1 = some r → qx_E g d M o tgt lv st σ) (kf : A2 = some r → qx_E g d M o (pc + 3) lv st σ) : qx_E g d M o pc lv (.int y :: .int x :: st) σ := by
  intro p e s m args below meth c H locs ls X hP hD hS hl
  exact lv_icmp_ne X.1 X.2.1 hd ht (fun hc => kt (by rwa [if_neg hc] at h) p e s m args below meth c H locs ls X hP hD hS hl) (fun hc => kf (by rwa [if_pos hc] at h) p e s m args below meth c H locs ls X hP hD hS hl)
theorem qx_lcmp_ne {x y : Int64} {off : Int} (tgt : Nat) (h : (if x = y then A2 else A1) = some r) (hd0 : decode M.2.1 pc = .ok (.lcmp, 1)) (hd : decode M.2.1 (pc + 1) = .ok (.ifCond .ne off, 3)) (ht : (pc + 1 : Nat) + off = (tgt : Int)) (kt : A1 = some r → qx_E g d M o tgt lv st σ) (kf : A2 = some r → qx_E g d M o ((pc + 1) + 3) lv st σ) : qx_E g d M o pc lv (.long y :: .long x :: st) σ := by
  intro p e s m args below meth c H locs ls X hP hD hS hl
  refine W.lcmp X.1 X.2.1 hd0 ?_
  exact lv_if_ne X.1 X.2.1 hd ht (fun hc => kt (by rwa [if_neg (fun q => hc ((lg_cmp_eq x y).mpr q))] at h) p e s m args below meth c H locs ls X hP hD hS hl) (fun hc => kf (by rwa [if_pos ((lg_cmp_eq x y).mp hc)] at h) p e s m args below meth c H locs ls X hP hD hS hl)
theorem qx_if_lt {x : Int32} {off : Int} (tgt : Nat) (h : (if x < 0 then A1 else A2) = some r) (hd : decode M.2.1 pc = .ok (.ifCond .lt off, 3)) (ht : (pc : Nat) + off = (tgt : Int)) (kt : A1 = some r → qx_E g d M o tgt lv st σ) (kf : A2 = some r → qx_E g d M o (pc + 3) lv st σ) : qx_E g d M o pc lv (.int x :: st) σ := by
  intro p e s m args below meth c H locs ls X hP hD hS hl
  exact lv_if_lt X.1 X.2.1 hd ht (fun hc => kt (by rwa [if_pos hc] at h) p e s m args below meth c H locs ls X hP hD hS hl) (fun hc => kf (by rwa [if_neg hc] at h) p e s m args below meth c H locs ls X hP hD hS hl)
theorem qx_icmp_lt {x y : Int32} {off : Int} (tgt : Nat) (h : (if x < y then A1 else A2) = some r) (hd : decode M.2.1 pc = .ok (.if_icmp .lt off, 3)) (ht : (pc : Nat) + off = (tgt : Int)) (kt : A1 = some r → qx_E g d M o tgt lv st σ) (kf : A2 = some r → qx_E g d M o (pc + 3) lv st σ) : qx_E g d M o pc lv (.int y :: .int x :: st) σ := by
  intro p e s m args below meth c H locs ls X hP hD hS hl
  exact lv_icmp_lt X.1 X.2.1 hd ht (fun hc => kt (by rwa [if_pos hc] at h) p e s m args below meth c H locs ls X hP hD hS hl) (fun hc => kf (by rwa [if_neg hc] at h) p e s m args below meth c H locs ls X hP hD hS hl)
theorem qx_lcmp_lt {x y : Int64} {off : Int} (tgt : Nat) (h : (if x < y then A1 else A2) = some r) (hd0 : decode M.2.1 pc = .ok (.lcmp, 1)) (hd : decode M.2.1 (pc + 1) = .ok (.ifCond .lt off, 3)) (ht : (pc + 1 : Nat) + off = (tgt : Int)) (kt : A1 = some r → qx_E g d M o tgt lv st σ) (kf : A2 = some r → qx_E g d M o ((pc + 1) + 3) lv st σ) : qx_E g d M o pc lv (.long y :: .long x :: st) σ := by
  intro p e s m args below meth c H locs ls X hP hD hS hl
  refine W.lcmp X.1 X.2.1 hd0 ?_
  exact lv_if_lt X.1 X.2.1 hd ht (fun hc => kt (by rwa [if_pos ((lg_cmp_lt x y).mp hc)] at h) p e s m args below meth c H locs ls X hP hD hS hl) (fun hc => kf (by rwa [if_neg (fun q => hc ((lg_cmp_lt x y).mpr q))] at h) p e s m args below meth c H locs ls X hP hD hS hl)
theorem qx_if_ge {x : Int32} {off : Int} (tgt : Nat) (h : (if 0 ≤ x then A1 else A2) = some r) (hd : decode M.2.1 pc = .ok (.ifCond .ge off, 3)) (ht : (pc : Nat) + off = (tgt : Int)) (kt : A1 = some r → qx_E g d M o tgt lv st σ) (kf : A2 = some r → qx_E g d M o (pc + 3) lv st σ) : qx_E g d M o pc lv (.int x :: st) σ := by
  intro p e s m args below meth c H locs ls X hP hD hS hl
  exact lv_if_ge X.1 X.2.1 hd ht (fun hc => kt (by rwa [if_pos hc] at h) p e s m args below meth c H locs ls X hP hD hS hl) (fun hc => kf (by rwa [if_neg hc] at h) p e s m args below meth c H locs ls X hP hD hS hl)
theorem qx_icmp_ge {x y : Int32} {off : Int} (tgt : Nat) (h : (if y ≤ x then A1 else A2) = some r) (hd : decode M.2.1 pc = .ok (.if_icmp .ge off, 3)) (ht : (pc : Nat) + off = (tgt : Int)) (kt : A1 = some r → qx_E g d M o tgt lv st σ) (kf : A2 = some r → qx_E g d M o (pc + 3) lv st σ) : qx_E g d M o pc lv (.int y :: .int x :: st) σ := by
  intro p e s m args below meth c H locs ls X hP hD hS hl
  exact lv_icmp_ge X.1 X.2.1 hd ht (fun hc => kt (by rwa [if_pos hc] at h) p e s m args below meth c H locs ls X hP hD hS hl) (fun hc => kf (by rwa [if_neg hc] at h) p e s m args below meth c H locs ls X hP hD hS hl)
theorem qx_lcmp_ge {x y : Int64} {off : Int} (tgt : Nat) (h : (if y ≤ x then A1 else A2) = some r) (hd0 : decode M.2.1 pc = .ok (.lcmp, 1)) (hd : decode M.2.1 (pc + 1) = .ok (.ifCond .ge off, 3)) (ht : (pc + 1 : Nat) + off = (tgt : Int)) (kt : A1 = some r → qx_E g d M o tgt lv st σ) (kf : A2 = some r → qx_E g d M o ((pc + 1) + 3) lv st σ) : qx_E g d M o pc lv (.long y :: .long x :: st) σ := by
  intro p e s m args below meth c H locs ls X hP hD hS hl
  refine W.lcmp X.1 X.2.1 hd0 ?_
  exact lv_if_ge X.1 X.2.1 hd ht (fun hc => kt (by rwa [if_pos ((lg_cmp_ge x y).mp hc)] at h) p e s m args below meth c H locs ls X hP hD hS hl) (fun hc => kf (by rwa [if_neg (fun q => hc ((lg_cmp_ge x y).mpr q))] at h) p e s m args below meth c H locs ls X hP hD hS hl)
theorem qx_if_gt {x : Int32} {off : Int} (tgt : Nat) (h : (if 0 < x then A1 else A2) = some r) (hd : decode M.2.1 pc = .ok (.ifCond .gt off, 3)) (ht : (pc : Nat) + off = (tgt : Int)) (kt : A1 = some r → qx_E g d M o tgt lv st σ) (kf : A2 = some r → qx_E g d M o (pc + 3) lv st σ) : qx_E g d M o pc lv (.int x :: st) σ := by
  intro p e s m args below meth c H locs ls X hP hD hS hl
  exact lv_if_gt X.1 X.2.1 hd ht (fun hc => kt (by rwa [if_pos hc] at h) p e s m args below meth c H locs ls X hP hD hS hl) (fun hc => kf (by rwa [if_neg hc] at h) p e s m args below meth c H locs ls X hP hD hS hl)
theorem qx_icmp_gt {x y : Int32} {off : Int} (tgt : Nat) (h : (if y < x then A1 else A2) = some r) (hd : decode M.2.1 pc = .ok (.if_icmp .gt off, 3)) (ht : (pc : Nat) + off = (tgt : Int)) (kt : A1 = some r → qx_E g d M o tgt lv st σ) (kf : A2 = some r → qx_E g d M o (pc + 3) lv st σ) : qx_E g d M o pc lv (.int y :: .int x :: st) σ := by
  intro p e s m args below meth c H locs ls X hP hD hS hl
  exact lv_icmp_gt X.1 X.2.1 hd ht (fun hc => kt (by rwa [if_pos hc] at h) p e s m args below meth c H locs ls X hP hD hS hl) (fun hc => kf (by rwa [if_neg hc] at h) p e s m args below meth c H locs ls X hP hD hS hl)
theorem qx_lcmp_gt {x y : Int64} {off : Int} (tgt : Nat) (h : (if y < x then A1 else A2) = some r) (hd0 : decode M.2.1 pc = .ok (.lcmp, 1)) (hd : decode M.2.1 (pc + 1) = .ok (.ifCond .gt off, 3)) (ht : (pc + 1 : Nat) + off = (tgt : Int)) (kt : A1 = some r → qx_E g d M o tgt lv st σ) (kf : A2 = some r → qx_E g d M o ((pc + 1) + 3) lv st σ) : qx_E g d M o pc lv (.long y :: .long x :: st) σ := by
  intro p e s m args below meth c H locs ls X hP hD hS hl
  refine W.lcmp X.1 X.2.1 hd0 ?_
  exact lv_if_gt X.1 X.2.1 hd ht (fun hc => kt (by rwa [if_pos ((lg_cmp_gt x y).mp hc)] at h) p e s m args below meth c H locs ls X hP hD hS hl) (fun hc => kf (by rwa [if_neg (fun q => hc ((lg_cmp_gt x y).mpr q))] at h) p e s m args below meth c H locs ls X hP hD hS hl)
theorem qx_if_le {x : Int32} {off : Int} (tgt : Nat) (h : (if x ≤ 0 then A1 else A2) = some r) (hd : decode M.2.1 pc = .ok (.ifCond .le off, 3)) (ht : (pc : Nat) + off = (tgt : Int)) (kt : A1 = some r → qx_E g d M o tgt lv st σ) (kf : A2 = some r → qx_E g d M o (pc + 3) lv st σ) : qx_E g d M o pc lv (.int x :: st) σ := by
  intro p e s m args below meth c H locs ls X hP hD hS hl
  exact lv_if_le X.1 X.2.1 hd ht (fun hc => kt (by rwa [if_pos hc] at h) p e s m args below meth c H locs ls X hP hD hS hl) (fun hc => kf (by rwa [if_neg hc] at h) p e s m args below meth c H locs ls X hP hD hS hl)
theorem qx_icmp_le {x y : Int32} {off : Int} (tgt : Nat) (h : (if x ≤ y then A1 else A2) = some r) (hd : decode M.2.1 pc = .ok (.if_icmp .le off, 3)) (ht : (pc : Nat) + off = (tgt : Int)) (kt : A1 = some r → qx_E g d M o tgt lv st σ) (kf : A2 = some r → qx_E g d M o (pc + 3) lv st σ) : qx_E g d M o pc lv (.int y :: .int x :: st) σ := by
  intro p e s m args below meth c H locs ls X hP hD hS hl
  exact lv_icmp_le X.1 X.2.1 hd ht (fun hc => kt (by rwa [if_pos hc] at h) p e s m args below meth c H locs ls X hP hD hS hl) (fun hc => kf (by rwa [if_neg hc] at h) p e s m args below meth c H locs ls X hP hD hS hl)
theorem qx_lcmp_le {x y : Int64} {off : Int} (tgt : Nat) (h : (if x ≤ y then A1 else A2) = some r) (hd0 : decode M.2.1 pc = .ok (.lcmp, 1)) (hd : decode M.2.1 (pc + 1) = .ok (.ifCond .le off, 3)) (ht : (pc + 1 : Nat) + off = (tgt : Int)) (kt : A1 = some r → qx_E g d M o tgt lv st σ) (kf : A2 = some r → qx_E g d M o ((pc + 1) + 3) lv st σ) : qx_E g d M o pc lv (.long y :: .long x :: st) σ := by
  intro p e s m args below meth c H locs ls X hP hD hS hl
  refine W.lcmp X.1 X.2.1 hd0 ?_
  exact lv_if_le X.1 X.2.1 hd ht (fun hc => kt (by rwa [if_pos ((lg_cmp_le x y).mp hc)] at h) p e s m args below meth c H locs ls X hP hD hS hl) (fun hc => kf (by rwa [if_neg (fun q => hc ((lg_cmp_le x y).mpr q))] at h) p e s m args below meth c H locs ls X hP hD hS hl)
theorem qx_tsIn {dflt lo hi : Int} {offs : Array Int} {len : Nat} {x : Int32} {off : Int} (tgt : Nat) (v : Int32) (hx : x = v) (hd : decode M.2.1 pc = .ok (.tableswitch dflt lo hi offs, len)) (h1 : ¬ v.toInt < lo) (h2 : ¬ hi < v.toInt) (ho : offs[(v.toInt - lo).toNat]? = some off) (ht : (pc : Int) + off = (tgt : Int)) (k : qx_E g d M o tgt lv st σ) : qx_E g d M o pc lv (.int x :: st) σ := by
  subst hx
  intro p e s m args below meth c H locs ls X hP hD hS hl
  exact lv_tableIn X.1 X.2.1 hd h1 h2 ho ht (k p e s m args below meth c H locs ls X hP hD hS hl)
theorem qx_tsOut {dflt lo hi : Int} {offs : Array Int} {len : Nat} {x : Int32} (tgt : Nat) (hd : decode M.2.1 pc = .ok (.tableswitch dflt lo hi offs, len)) (hx : x.toInt < lo ∨ hi < x.toInt) (ht : (pc : Int) + dflt = (tgt : Int)) (k : qx_E g d M o tgt lv st σ) : qx_E g d M o pc lv (.int x :: st) σ := by
  intro p e s m args below meth c H locs ls X hP hD hS hl
  exact lv_tableOut X.1 X.2.1 hd hx ht (k p e s m args below meth c H locs ls X hP hD hS hl)
-- cells
theorem qx_get (q0 j : Nat) {b ci : Nat} {fs : List Value} {C : String} {T : u_T} {N index : Nat} {v : Value} (he : (g.2.2.2.1 σ)[q0]? = some (b, .inr (ci, fs))) (hc : vwCl[ci]? = some (C, T, N)) (hj : j < N) (hv : fs[j]? = some v) (hin : ∀ w ∈ u_ws C T N, w ∈ qx_tb) (hw : Cond.fieldLink M.1.cls index (T j).1 (T j).2.1 (T j).2.2.1 ∈ qx_tb) (hd : decode M.2.1 pc = .ok (.getfield index, 3)) (k : qx_E g d M o (pc + 3) lv (v :: st) σ) : qx_E g d M o pc lv (.ref b :: st) σ := by
  intro p e s m args below meth c H locs ls X hP hD hS hl
  exact va_get (D := g.2.1) (cl := vwCl) X.1 X.2.1 X.2.2.2.2.2.2.1 hin X.2.2.2.2.2.1 X.2.2.2.2.2.2.2.1 hP q0 he hc j hj (X.2.2.2.2.2.2.1 _ hw) (fun _ h => h) hv hd (k p e s m args below meth c H locs ls X hP hD hS hl)
theorem qx_put (q0 j : Nat) {b ci : Nat} {fs : List Value} {C : String} {T : u_T} {N index : Nat} {v : Value} {ty : FieldType} (σ1 : QS) (ty0 : Nat → FieldType) (he : (g.2.2.2.1 σ)[q0]? = some (b, .inr (ci, fs))) (hc : vwCl[ci]? = some (C, T, N)) (hj : j < N) (hin : ∀ w ∈ u_ws C T N, w ∈ qx_tb) (hty : ∀ k, k < N → parseFieldDescriptor (T k).2.2.1 = some (ty0 k)) (hnm : ∀ a, a < N → ∀ b, b < N → a ≠ b → (T a).2.1 ≠ (T b).2.1) (hfin : (T j).2.2.2 = false) (hpd : parseFieldDescriptor (T j).2.2.1 = some ty) (hn : narrow ty v = v) (hfit : fits ty v = true) (hlt : j < fs.length) (hσ : (g.2.2.2.1 σ).set q0 (b, .inr (ci, fs.set j v)) = g.2.2.2.1 σ1) (hw : Cond.fieldLink M.1.cls index (T j).1 (T j).2.1 (T j).2.2.1 ∈ qx_tb) (hd : decode M.2.1 pc = .ok (.putfield index, 3)) (k : qx_E g d M o (pc + 3) lv st σ1) : qx_E g d M o pc lv (v :: .ref b :: st) σ := by
  intro p e s m args below meth c H locs ls X hP hD hS hl
  refine va_put (D := g.2.1) (cl := vwCl) X.1 X.2.1 X.2.2.2.2.2.2.1 hin ty0 hty hnm X.2.2.2.2.2.1 X.2.2.2.2.2.2.2.1 hP hD hS q0 he hc j hj (X.2.2.2.2.2.2.1 _ hw) (fun _ h => h) hfin hpd hn hfit hlt hd (fun H1 locs1 hP1 hD1 hS1 => ?_)
  rw [hσ] at hP1 hD1
  exact k p e s m args below meth c H1 locs1 ls X hP1 hD1 hS1 hl
theorem qx_iald (q0 t0 : Nat) {b n : Nat} {cA : ClassId} {f : Nat → Int32} {i : Int32} (h : qx_ob i n A1 = some r) (ha : (g.2.2.2.1 σ)[q0]? = some (b, .inl (cA, n, .inl f))) (ht : g.2.2.1[t0]? = some (cA, .int)) (hd : decode M.2.1 pc = .ok (.iaload, 1)) (k : A1 = some r → qx_E g d M o (pc + 1) lv (.int (f i.toNatClampNeg) :: st) σ) : qx_E g d M o pc lv (.int i :: .ref b :: st) σ := by
  intro p e s m args below meth c H locs ls X hP hD hS hl
  obtain ⟨h1, h2⟩ := qx_obE h
  exact va_iald (D := g.2.1) (cl := vwCl) X.1 X.2.1 X.2.2.2.2.2.2.2.1 hP q0 t0 ha ht h1 hd (k h2 p e s m args below meth c H locs ls X hP hD hS hl)
theorem qx_zald (q0 t0 : Nat) {b n : Nat} {cA : ClassId} {f : Nat → Int32} {i : Int32} (h : qx_ob i n A1 = some r) (ha : (g.2.2.2.1 σ)[q0]? = some (b, .inl (cA, n, .inl f))) (ht : g.2.2.1[t0]? = some (cA, .boolean)) (hd : decode M.2.1 pc = .ok (.baload, 1)) (k : A1 = some r → qx_E g d M o (pc + 1) lv (.int (f i.toNatClampNeg) :: st) σ) : qx_E g d M o pc lv (.int i :: .ref b :: st) σ := by
  intro p e s m args below meth c H locs ls X hP hD hS hl
  obtain ⟨h1, h2⟩ := qx_obE h
  exact va_zald (D := g.2.1) (cl := vwCl) X.1 X.2.1 X.2.2.2.2.2.2.2.1 hP q0 t0 ha ht h1 hd (k h2 p e s m args below meth c H locs ls X hP hD hS hl)
theorem qx_bald (q0 t0 : Nat) {b n : Nat} {cA : ClassId} {f : Nat → Int32} {i : Int32} (h : qx_ob i n A1 = some r) (ha : (g.2.2.2.1 σ)[q0]? = some (b, .inl (cA, n, .inl f))) (ht : g.2.2.1[t0]? = some (cA, .byte)) (hd : decode M.2.1 pc = .ok (.baload, 1)) (k : A1 = some r → qx_E g d M o (pc + 1) lv (.int (f i.toNatClampNeg) :: st) σ) : qx_E g d M o pc lv (.int i :: .ref b :: st) σ := by
  intro p e s m args below meth c H locs ls X hP hD hS hl
  obtain ⟨h1, h2⟩ := qx_obE h
  exact va_bald (D := g.2.1) (cl := vwCl) X.1 X.2.1 X.2.2.2.2.2.2.2.1 hP q0 t0 ha ht h1 hd (k h2 p e s m args below meth c H locs ls X hP hD hS hl)
theorem qx_lald (q0 t0 : Nat) {b n : Nat} {cA : ClassId} {f : Nat → Int64} {i : Int32} (h : qx_ob i n A1 = some r) (ha : (g.2.2.2.1 σ)[q0]? = some (b, .inl (cA, n, .inr (.inl f)))) (ht : g.2.2.1[t0]? = some (cA, .long)) (hd : decode M.2.1 pc = .ok (.laload, 1)) (k : A1 = some r → qx_E g d M o (pc + 1) lv (.long (f i.toNatClampNeg) :: st) σ) : qx_E g d M o pc lv (.int i :: .ref b :: st) σ := by
  intro p e s m args below meth c H locs ls X hP hD hS hl
  obtain ⟨h1, h2⟩ := qx_obE h
  exact va_lald (D := g.2.1) (cl := vwCl) X.1 X.2.1 X.2.2.2.2.2.2.2.1 hP q0 t0 ha ht h1 hd (k h2 p e s m args below meth c H locs ls X hP hD hS hl)
theorem qx_iast (q0 t0 : Nat) {b n : Nat} {cA : ClassId} {f : Nat → Int32} {i : Int32} {x : Int32} (σ1 : QS) (h : qx_ob i n A1 = some r) (ha : (g.2.2.2.1 σ)[q0]? = some (b, .inl (cA, n, .inl f))) (ht : g.2.2.1[t0]? = some (cA, .int)) (hσ : (g.2.2.2.1 σ).set q0 (b, .inl (cA, n, .inl (upd f i.toNatClampNeg x))) = g.2.2.2.1 σ1) (hd : decode M.2.1 pc = .ok (.iastore, 1)) (k : A1 = some r → qx_E g d M o (pc + 1) lv st σ1) : qx_E g d M o pc lv (.int x :: .int i :: .ref b :: st) σ := by
  intro p e s m args below meth c H locs ls X hP hD hS hl
  obtain ⟨h1, h2⟩ := qx_obE h
  refine va_iast (D := g.2.1) (cl := vwCl) X.1 X.2.1 X.2.2.2.2.2.2.2.1 hP hD hS q0 t0 ha ht h1 hd (fun H1 locs1 hP1 hD1 hS1 => ?_)
  rw [hσ] at hP1 hD1
  exact k h2 p e s m args below meth c H1 locs1 ls X hP1 hD1 hS1 hl
theorem qx_zast (q0 t0 : Nat) {b n : Nat} {cA : ClassId} {f : Nat → Int32} {i : Int32} {x : Int32} (σ1 : QS) (h : qx_ob i n A1 = some r) (ha : (g.2.2.2.1 σ)[q0]? = some (b, .inl (cA, n, .inl f))) (ht : g.2.2.1[t0]? = some (cA, .boolean)) (hσ : (g.2.2.2.1 σ).set q0 (b, .inl (cA, n, .inl (upd f i.toNatClampNeg (vp_nar .boolean x)))) = g.2.2.2.1 σ1) (hd : decode M.2.1 pc = .ok (.bastore, 1)) (k : A1 = some r → qx_E g d M o (pc + 1) lv st σ1) : qx_E g d M o pc lv (.int x :: .int i :: .ref b :: st) σ := by
  intro p e s m args below meth c H locs ls X hP hD hS hl
  obtain ⟨h1, h2⟩ := qx_obE h
  refine va_zast (D := g.2.1) (cl := vwCl) X.1 X.2.1 X.2.2.2.2.2.2.2.1 hP hD hS q0 t0 ha ht h1 hd (fun H1 locs1 hP1 hD1 hS1 => ?_)
  rw [hσ] at hP1 hD1
  exact k h2 p e s m args below meth c H1 locs1 ls X hP1 hD1 hS1 hl
theorem qx_bast (q0 t0 : Nat) {b n : Nat} {cA : ClassId} {f : Nat → Int32} {i : Int32} {x : Int32} (σ1 : QS) (h : qx_ob i n A1 = some r) (ha : (g.2.2.2.1 σ)[q0]? = some (b, .inl (cA, n, .inl f))) (ht : g.2.2.1[t0]? = some (cA, .byte)) (hσ : (g.2.2.2.1 σ).set q0 (b, .inl (cA, n, .inl (upd f i.toNatClampNeg (vp_nar .byte x)))) = g.2.2.2.1 σ1) (hd : decode M.2.1 pc = .ok (.bastore, 1)) (k : A1 = some r → qx_E g d M o (pc + 1) lv st σ1) : qx_E g d M o pc lv (.int x :: .int i :: .ref b :: st) σ := by
  intro p e s m args below meth c H locs ls X hP hD hS hl
  obtain ⟨h1, h2⟩ := qx_obE h
  refine va_bast (D := g.2.1) (cl := vwCl) X.1 X.2.1 X.2.2.2.2.2.2.2.1 hP hD hS q0 t0 ha ht h1 hd (fun H1 locs1 hP1 hD1 hS1 => ?_)
  rw [hσ] at hP1 hD1
  exact k h2 p e s m args below meth c H1 locs1 ls X hP1 hD1 hS1 hl
theorem qx_last (q0 t0 : Nat) {b n : Nat} {cA : ClassId} {f : Nat → Int64} {i : Int32} {x : Int64} (σ1 : QS) (h : qx_ob i n A1 = some r) (ha : (g.2.2.2.1 σ)[q0]? = some (b, .inl (cA, n, .inr (.inl f)))) (ht : g.2.2.1[t0]? = some (cA, .long)) (hσ : (g.2.2.2.1 σ).set q0 (b, .inl (cA, n, .inr (.inl (vp_updL f i.toNatClampNeg x)))) = g.2.2.2.1 σ1) (hd : decode M.2.1 pc = .ok (.lastore, 1)) (k : A1 = some r → qx_E g d M o (pc + 1) lv st σ1) : qx_E g d M o pc lv (.long x :: .int i :: .ref b :: st) σ := by
  intro p e s m args below meth c H locs ls X hP hD hS hl
  obtain ⟨h1, h2⟩ := qx_obE h
  refine va_last (D := g.2.1) (cl := vwCl) X.1 X.2.1 X.2.2.2.2.2.2.2.1 hP hD hS q0 t0 ha ht h1 hd (fun H1 locs1 hP1 hD1 hS1 => ?_)
  rw [hσ] at hP1 hD1
  exact k h2 p e s m args below meth c H1 locs1 ls X hP1 hD1 hS1 hl
theorem qx_alen (q0 t0 : Nat) {b : Nat} {cA : ClassId} {x : vp_A} {ty : FieldType} (v : Int32) (ha : (g.2.2.2.1 σ)[q0]? = some (b, .inl (cA, x))) (ht : g.2.2.1[t0]? = some (cA, ty)) (hv : Int32.ofNat x.1 = v) (hd : decode M.2.1 pc = .ok (.arraylength, 1)) (k : qx_E g d M o (pc + 1) lv (.int v :: st) σ) : qx_E g d M o pc lv (.ref b :: st) σ := by
  intro p e s m args below meth c H locs ls X hP hD hS hl
  exact va_alen (D := g.2.1) (cl := vwCl) X.1 X.2.1 X.2.2.2.2.2.2.2.1 hP q0 t0 ha ht hv hd (k p e s m args below meth c H locs ls X hP hD hS hl)
-- ends
theorem qx_iret {v w : Int32} (h : some v = some w) (hr : M.2.2.2 = some .int) (hd : decode M.2.1 pc = .ok (.ireturn, 1)) : qx_E g d M (some (.int w), σ) pc lv [.int v] σ := by
  cases h
  intro p e s m args below meth c H locs ls X hP hD hS hl
  exact W.iret X.1 X.2.1 (X.2.2.2.1.trans hr) (fun t ht hW => ⟨⟨rfl, by rw [ht]; exact hP, hD⟩, hS.F ht⟩) hS.2.2 hd X.2.2.2.2.1
theorem qx_iretS {v : Int32} {q : Int32 × QS} (h : some (v, σ) = some q) (hr : M.2.2.2 = some .int) (hd : decode M.2.1 pc = .ok (.ireturn, 1)) : qx_E g d M (some (.int q.1), q.2) pc lv [.int v] σ := by
  cases h
  exact qx_iret rfl hr hd
theorem qx_lret {v w : Int64} (h : some v = some w) (hr : M.2.2.2 = some .long) (hd : decode M.2.1 pc = .ok (.lreturn, 1)) : qx_E g d M (some (.long w), σ) pc lv [.long v] σ := by
  cases h
  intro p e s m args below meth c H locs ls X hP hD hS hl
  exact W.lret X.1 X.2.1 (X.2.2.2.1.trans hr) (fun t ht hW => ⟨⟨rfl, by rw [ht]; exact hP, hD⟩, hS.F ht⟩) hS.2.2 hd X.2.2.2.2.1
theorem qx_lretS {v : Int64} {q : Int64 × QS} (h : some (v, σ) = some q) (hr : M.2.2.2 = some .long) (hd : decode M.2.1 pc = .ok (.lreturn, 1)) : qx_E g d M (some (.long q.1), q.2) pc lv [.long v] σ := by
  cases h
  exact qx_lret rfl hr hd
theorem qx_vret {q : QS} (h : some σ = some q) (hr : M.2.2.2 = none) (hd : decode M.2.1 pc = .ok (.return_, 1)) : qx_E g d M (none, q) pc lv [] σ := by
  cases h
  intro p e s m args below meth c H locs ls X hP hD hS hl
  exact W.vret X.1 X.2.1 (X.2.2.2.1.trans hr) (fun t ht hW => ⟨⟨rfl, by rw [ht]; exact hP, hD⟩, hS.F ht⟩) hS.2.2 hd X.2.2.2.2.1
end QW
section QZ
variable {p : Program} {l : Launch} {e : Env} {R : Room} {s : State} {m : MethodId} {args : Array Value} {below : List Frame} {meth : Method} {c : Code} {H : Heap} {locs : List Loc} {cells slots : Nat} {Q : State → Prop}
theorem qx_W_nret {cc : ByteArray} {Qc : Array Value → State → Outcome → State → Prop} {free : Addr → Prop} {v w : Int32} {ty : FieldType} (hexec : p.tables.exec = Jvm.exec) (hb : c.code = cc) (hr : meth.sig.returnType = some ty) (hn : narrow ty (.int v) = .int w)
    (hq : ∀ t : State, t.heap = H → s.WarmedH t.vm → Qc args s (.returned (some (.int w))) t) (hf : ∀ q ∈ locs, free q.base)
    {pc : Nat} {ls : Array Slot} (hdg : decode cc pc = .ok (.ireturn, 1)) (hlocks : meth.locks = false) : W p l e R s m args below meth c H locs cells slots (MQ below Qc args s cells slots free) (F0 m pc ls [.int v]) := by
  intro T hT X
  obtain ⟨fs, hret, hrun, hended, hW, hframe⟩ := X.leave (v := some (.int w)) (fun h => by rw [hr] at h; cases h)
  have hmeth' : T.vm.method? m = some meth := X.method'
  refine ⟨T.setFrames fs, ?_, .returned (some (.int w)), hrun, hended, hq _ hT hW, locs, ⟨⟨_, rfl⟩, hW, hframe⟩, hf⟩
  jvm_step X.here [X.here.top, hexec, hb, hdg, hmeth', hr, hn]
  (try refine ⟨rfl, ?_⟩); (try refine ⟨rfl, ?_⟩)
  first | (intro acts; rw [hret _ acts rfl rfl rfl]) | rw [hret _ _ rfl rfl rfl]
  exact Steps.refl _
end QZ
section QV
variable {g : QG} {d : Nat} {M : QM} {o : Option Value × QS} {pc : Nat} {lv : List (Nat × Value)} {st : List Value} {σ : QS}
theorem qx_nret {v v1 w : Int32} (h : some v1 = some w) {ty : FieldType} (hr : M.2.2.2 = some ty) (hn : narrow ty (.int v) = .int v1) (hd : decode M.2.1 pc = .ok (.ireturn, 1)) : qx_E g d M (some (.int w), σ) pc lv [.int v] σ := by
  cases h
  intro p e s m args below meth c H locs ls X hP hD hS hl
  exact qx_W_nret X.1 X.2.1 (X.2.2.2.1.trans hr) hn (fun t ht hW => ⟨⟨rfl, by rw [ht]; exact hP, hD⟩, hS.F ht⟩) hS.2.2 hd X.2.2.2.2.1
theorem qx_nretS {v v1 : Int32} {q : Int32 × QS} (h : some (v1, σ) = some q) {ty : FieldType} (hr : M.2.2.2 = some ty) (hn : narrow ty (.int v) = .int v1) (hd : decode M.2.1 pc = .ok (.ireturn, 1)) : qx_E g d M (some (.int q.1), q.2) pc lv [.int v] σ := by
  cases h
  exact qx_nret rfl hr hn hd
-- calls
theorem qx_met (hp : plainName M.1.cls = true) (av : List Value) (hlen : (lg_sl av).length ≤ M.2.2.1) (h : qx_E g d M o 0 (lv_args 0 av) [] σ) : Met g.1 M.1 (qx_ws M) (qx_rm d) (va_Pc av (qx_B g σ)) (qx_Q g o) 0 0 g.2.2.2.2.1 := by
  refine Met.ofW (cc := M.2.1) (maxL := M.2.2.1) (ret := M.2.2.2) hp rfl ?_
  intro p e s m args below meth c s₁ B hml hv
  obtain ⟨rfl, hP, hK, hD, hZ, hZo⟩ := hv
  rw [lg_entry_eq]
  exact h p e s m _ below meth c s.heap [] _ ⟨B.exec, B.bytes, hml, B.returns, B.notSynchronized, findClass_of_methodNamed B.named, fun w hw => atoms_spec (ws := qx_ws M) B.pre w (List.mem_cons_of_mem _ hw), hK, hZ, hZo⟩ hP hD va_S.rf (lv_entry av hlen)
/-- what the tables say of a method that is called -/
def qx_cm (M : QM) (n : Nat) : Prop := Cond.code M.1 M.2.1 M.2.2.1 M.2.2.2 ∈ qx_tb ∧ Cond.initialized M.1.cls ∈ qx_tb ∧ (M.1.cls ≠ "java/lang/invoke/MethodHandle" ∧ M.1.cls ≠ "java/lang/invoke/VarHandle" ∧ (parseMethodDescriptor M.1.desc).map (fun d => d.parameters.length) = some n) ∧ plainName M.1.cls = true ∧ M.2.2.1 ≤ 40
def qx_cv (M : QM) : Prop := Cond.instanceMethod M.1 ∈ qx_tb ∧ Cond.selects M.1.cls M.1 M.1 ∈ qx_tb
theorem qx_blind (av : List Value) : FrameBlind (va_Pc av (qx_B g σ)) := by
  intro a U f mk q
  obtain ⟨q0, qP, qK, qD, qZ, qo⟩ := q
  exact ⟨q0, qP, va_K.moved (u := U) (U := U.calling f mk a) (Vm.Alike.refl U.vm) qK, qD, qo.1 U (U.calling f mk a) U.heap rfl qZ, qo⟩
theorem qx_pre {p : Program} {s : State} {m : MethodId} {args : Array Value} {meth : Method} {c : Code} {H : Heap} {locs : List Loc} (X : qx_X g M p s m args meth c) (hP : va_P g.2.1 vwCl (g.2.2.2.1 σ) H) (hD : va_D g.2.2.2.2.1 (g.2.2.2.1 σ)) (hS : va_S g.2.2.2.2.1 s.heap H locs) (U : State) (hU : U.heap = H) (hW : s.WarmedH U.vm) : qx_B g σ U := by
  obtain ⟨-, -, -, -, -, -, -, hK, hZ, hZo⟩ := X
  refine ⟨by rw [hU]; exact hP, va_K.moved hW.alike hK, hD, ?_, hZo⟩
  rw [hU]
  exact hZo.2.1 s U H hW (hZo.2.2 s s.heap H (fun q h1 h2 => hS.2.1 q h1 h2) hZ)
theorem qx_room {M' : QM} {n d' : Nat} (hm : qx_cm M' n) (hdd : d' < d) : (qx_rm d').frames + 1 ≤ (qx_rm d).frames ∧ 8 + (M'.2.2.1 + 11) + (qx_rm d').locals ≤ (qx_rm d).locals := by
  have := hm.2.2.2.2
  simp only [qx_rm]
  omega
theorem qx_goOn {p : Program} {e : Env} {s : State} {m : MethodId} {args : Array Value} {below : List Frame} {meth : Method} {c : Code} {H : Heap} {locs : List Loc} {ls : Array Slot} {a : Array Value} {o1 : Option Value × QS} {rest st0 : List Value} (X : qx_X g M p s m args meth c) (hS : va_S g.2.2.2.2.1 s.heap H locs) (hl : lv_has ls M.2.2.1 lv)
    (hr : va_Run p g.1 e (qx_rm d) s m args below meth c H locs 0 0 0 0 (F0 m pc ls st0) rest (qx_Q g o1 a) g.2.2.2.2.1) (k : qx_E g d M o (pc + 3) lv (o1.1.toList ++ rest) o1.2) : W p g.1 e (qx_rm d) s m args below meth c H locs 0 0 (MQ below (qx_Q g o) args s 0 0 g.2.2.2.2.1) (F0 m pc ls st0) := by
  intro T hT Xs
  obtain ⟨v, st₀, t, T', L, h0, X', hL, e1, e2, ⟨⟨hv, hP1, hD1⟩, hz, hk⟩, stp⟩ := hr T hT Xs
  cases hv
  rw [h0] at hz hk
  obtain ⟨t2, a1, b1⟩ := k p e s m args below meth c T'.heap (locs ++ L) ls X (by rw [e1]; exact hP1) hD1
    ⟨Nat.le_trans hS.1 (by rw [e1]; exact hz), fun q h1 h2 => by rw [e1, hk q (Nat.lt_of_lt_of_le h1 hS.1) h2]; exact hS.2.1 q h1 h2, fun q hq => by
      rcases List.mem_append.mp hq with h | h
      · exact hS.2.2 q h
      · exact hL q h⟩ hl T' rfl X'
  exact ⟨t2, stp t2 a1, b1⟩
theorem qx_callV {M' : QM} {d' index n b ci : Nat} (q0 : Nat) {fs : List Value} {T : u_T} {N : Nat} (o1 : Option Value × QS) (As rest : List Value) (hst : st = As.reverse ++ .ref b :: rest) (he : (g.2.2.2.1 σ)[q0]? = some (b, .inr (ci, fs))) (hc : vwCl[ci]? = some (M'.1.cls, T, N)) (hm : qx_cm M' n) (hv : qx_cv M') (hw : Cond.methodLink M.1.cls index M'.1 ∈ qx_tb) (hn : As.length = n) (hlen : (lg_sl (.ref b :: As)).length ≤ M'.2.2.1) (hW : (rest.map fun v => v.category).sum ≤ 8) (hdd : d' < d) (hd : decode M.2.1 pc = .ok (.invokevirtual index, 3))
    (h1 : qx_E g d' M' o1 0 (lv_args 0 (.ref b :: As)) [] σ) (k : qx_E g d M o (pc + 3) lv (o1.1.toList ++ rest) o1.2) : qx_E g d M o pc lv st σ := by
  intro p e s m args below meth c H locs ls X hP hD hS hl
  have hts := X.2.2.2.2.2.2.1
  refine qx_goOn (o1 := o1) (rest := rest) X hS hl (va_runV (As := As) (rest := rest) (C := M'.1.cls) (n := n) (Ts := qx_tb) ⟨X.1, X.2.1, X.2.2.1, X.2.2.2.2.2.1, hts⟩ (qx_met hm.2.2.2.1 (.ref b :: As) hlen h1) (ret := M'.2.2.2) (bytes := M'.2.1) (maxL := M'.2.2.1) ⟨callB_of n hts (qx_goodIn hm.1) rfl rfl rfl (hts _ hm.2.1) (hts _ hw) hm.2.2.1 (qx_room hm hdd), hts _ hv.1, hts _ hv.2⟩ ⟨qx_blind _, va_recv X.2.2.2.2.2.2.2.1 hP hc he, fun U hU hW => ⟨rfl, qx_pre X hP hD hS U hU hW⟩⟩ rfl hn hl.1 hst (lv_room hW) hd ⟨Nat.le_refl _, Nat.le_refl _⟩) k
theorem qx_callS {M' : QM} {d' index n : Nat} (o1 : Option Value × QS) (As rest : List Value) (hst : st = As.reverse ++ rest) (hm : qx_cm M' n) (hv : Cond.static M'.1 ∈ qx_tb) (hw : Cond.methodLink M.1.cls index M'.1 ∈ qx_tb) (hn : As.length = n) (hlen : (lg_sl As).length ≤ M'.2.2.1) (hW : (rest.map fun v => v.category).sum ≤ 8) (hdd : d' < d) (hd : decode M.2.1 pc = .ok (.invokestatic index, 3))
    (h1 : qx_E g d' M' o1 0 (lv_args 0 As) [] σ) (k : qx_E g d M o (pc + 3) lv (o1.1.toList ++ rest) o1.2) : qx_E g d M o pc lv st σ := by
  intro p e s m args below meth c H locs ls X hP hD hS hl
  have hts := X.2.2.2.2.2.2.1
  refine qx_goOn (o1 := o1) (rest := rest) X hS hl (va_runS (As := As) (rest := rest) (n := n) (Ts := qx_tb) ⟨X.1, X.2.1, X.2.2.1, X.2.2.2.2.2.1, hts⟩ (qx_met hm.2.2.2.1 As hlen h1) (ret := M'.2.2.2) (bytes := M'.2.1) (maxL := M'.2.2.1) ⟨callB_of n hts (qx_goodIn hm.1) rfl rfl rfl (hts _ hm.2.1) (hts _ hw) hm.2.2.1 (qx_room hm hdd), hts _ hv⟩ ⟨qx_blind _, fun U hU hW => ⟨rfl, qx_pre X hP hD hS U hU hW⟩⟩ rfl hn hl.1 hst (lv_room hW) hd ⟨Nat.le_refl _, Nat.le_refl _⟩) k
end QV
