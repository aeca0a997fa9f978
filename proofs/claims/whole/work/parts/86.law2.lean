/-! the law, from its entry -/
theorem qw_atC {ci : Nat → ClassId} {a : Nat → Nat} {σ : QS} {k : Nat} {q : Nat × va_E} (h : (qx_wC ci a σ)[k]? = some q) : k < 23 ∧ q.1 = a k := by
  have hk : k < 23 := (List.getElem?_eq_some_iff.mp h).1
  refine ⟨hk, ?_⟩
  rcases (show k = 0 ∨ k = 1 ∨ k = 2 ∨ k = 3 ∨ k = 4 ∨ k = 5 ∨ k = 6 ∨ k = 7 ∨ k = 8 ∨ k = 9 ∨ k = 10 ∨ k = 11 ∨ k = 12 ∨ k = 13 ∨ k = 14 ∨ k = 15 ∨ k = 16 ∨ k = 17 ∨ k = 18 ∨ k = 19 ∨ k = 20 ∨ k = 21 ∨ k = 22 by omega) with rfl | rfl | rfl | rfl | rfl | rfl | rfl | rfl | rfl | rfl | rfl | rfl | rfl | rfl | rfl | rfl | rfl | rfl | rfl | rfl | rfl | rfl | rfl <;> (cases h; rfl)
theorem qw_atM {ci : Nat → ClassId} {a : Nat → Nat} {σ : QS} {k : Nat} {q : Nat × va_E} (h : (qx_wM ci a σ)[k]? = some q) : k < 11 ∧ q.1 = a k := by
  have hk : k < 11 := (List.getElem?_eq_some_iff.mp h).1
  refine ⟨hk, ?_⟩
  rcases (show k = 0 ∨ k = 1 ∨ k = 2 ∨ k = 3 ∨ k = 4 ∨ k = 5 ∨ k = 6 ∨ k = 7 ∨ k = 8 ∨ k = 9 ∨ k = 10 by omega) with rfl | rfl | rfl | rfl | rfl | rfl | rfl | rfl | rfl | rfl | rfl <;> (cases h; rfl)
theorem qw_inC {ci : Nat → ClassId} {a : Nat → Nat} {σ : QS} {k : Nat} (h : k < 23) : ∃ e, (qx_wC ci a σ)[k]? = some (a k, e) := by
  obtain ⟨q, hq⟩ : ∃ q, (qx_wC ci a σ)[k]? = some q := ⟨_, List.getElem?_eq_getElem (show k < (qx_wC ci a σ).length from h)⟩
  have := (qw_atC hq).2
  exact ⟨q.2, by rw [hq, ← this]⟩
theorem qw_inM {ci : Nat → ClassId} {a : Nat → Nat} {σ : QS} {k : Nat} (h : k < 11) : ∃ e, (qx_wM ci a σ)[k]? = some (a k, e) := by
  obtain ⟨q, hq⟩ : ∃ q, (qx_wM ci a σ)[k]? = some q := ⟨_, List.getElem?_eq_getElem (show k < (qx_wM ci a σ).length from h)⟩
  have := (qw_atM hq).2
  exact ⟨q.2, by rw [hq, ← this]⟩
theorem qw_split {ci : Nat → ClassId} {a a2 : Nat → Nat} {σ τ : QS} {sz : Nat} (hD : va_D (fun q => sz ≤ q) (qx_wC ci a σ ++ qx_wM ci a2 τ)) : va_D (qx_AC a) (qx_wC ci a σ) ∧ va_D (qx_AM a2) (qx_wM ci a2 τ) ∧ (∀ k, k < 23 → sz ≤ a k) ∧ (∀ k, k < 11 → sz ≤ a2 k) ∧ ∀ i j, i < 23 → j < 11 → ¬ a i = a2 j := by
  have hl : (qx_wC ci a σ).length = 23 := rfl
  have L1 : ∀ (k : Nat) (q : Nat × va_E), (qx_wC ci a σ)[k]? = some q → (qx_wC ci a σ ++ qx_wM ci a2 τ)[k]? = some q := fun k q h => by
    rw [List.getElem?_append_left (by have := (qw_atC h).1; omega)]; exact h
  have L2 : ∀ (k : Nat) (q : Nat × va_E), (qx_wM ci a2 τ)[k]? = some q → (qx_wC ci a σ ++ qx_wM ci a2 τ)[23 + k]? = some q := fun k q h => by
    rw [List.getElem?_append_right (by omega), hl, show 23 + k - 23 = k by omega]; exact h
  refine ⟨⟨fun i j p q h1 h2 e => hD.1 i j p q (L1 i p h1) (L1 j q h2) e, fun k q h => ⟨k, (qw_atC h).1, (qw_atC h).2⟩⟩, ⟨fun i j p q h1 h2 e => by have := hD.1 _ _ p q (L2 i p h1) (L2 j q h2) e; omega, fun k q h => ⟨k, (qw_atM h).1, (qw_atM h).2⟩⟩, fun k hk => ?_, fun k hk => ?_, fun i j hi hj e => ?_⟩
  · obtain ⟨x, hx⟩ := qw_inC (ci := ci) (a := a) (σ := σ) hk
    exact hD.2 _ _ (L1 _ _ hx)
  · obtain ⟨x, hx⟩ := qw_inM (ci := ci) (a := a2) (σ := τ) hk
    exact hD.2 _ _ (L2 _ _ hx)
  · obtain ⟨x, hx⟩ := qw_inC (ci := ci) (a := a) (σ := σ) hi
    obtain ⟨y, hy⟩ := qw_inM (ci := ci) (a := a2) (σ := τ) hj
    have := hD.1 _ _ _ _ (L1 _ _ hx) (L2 _ _ hy) e
    omega
section QWM
variable {p : Program} {l : Launch} {e : Env} {s : State} {m : MethodId} {below : List Frame} {meth : Method} {c : Code} {b L : Nat} {xs : Nat → Int32} {D : va_G} {ci : Nat → ClassId} {a z a2 : Nat → Nat} {i : Nat} {σ τ : QS}
theorem qw_next (X : qw_X p s m meth c b L xs D ci a z a2) (k : qw_E p l e s m below meth c b D ci a a2 18 (i + 7) [] σ τ) : qw_E p l e s m below meth c b D ci a a2 755 i [] σ τ := by
  intro H locs ls hP hD hP2 hD2 hS hl
  obtain ⟨⟨hx, hb, -⟩, -⟩ := X
  refine lv_iinc (v := nI (i + 7)) (lv' := [(3, .int (nI (i + 7))), (0, .ref b), (1, .ref (a 0)), (2, .ref (a2 0))]) hx hb dL_755 hl (k := 3) rfl (nI_add i 7) (by decide) rfl (fun ls hl => ?_)
  refine lv_goto (tgt := 18) hx hb dL_758 (by decide) ?_
  exact k H locs ls hP hD hP2 hD2 hS (lv_sub hl [1, 2, 3, 0] rfl)
theorem qw_end (X : qw_X p s m meth c b L xs D ci a z a2) : qw_E p l e s m below meth c b D ci a a2 761 i [] σ τ := by
  intro H locs ls hP hD hP2 hD2 hS hl
  obtain ⟨⟨hx, hb, hr, -, -, -, -, -, hlocks, -⟩, -⟩ := X
  refine lv_iconst (v := 1) hx hb dL_761 (by decide) ?_
  refine va_forget (fun q hq => hS.2.2 q hq) ?_
  refine W.widen (k := 600000) (n := 7302250) (Nat.le_of_ble_eq_true rfl) (Nat.le_of_ble_eq_true rfl) ?_
  exact lw_ret hx hb hr hlocks dL_762
set_option maxHeartbeats 4000000 in
set_option maxRecDepth 100000 in
theorem qw_loop (X : qw_X p s m meth c b L xs D ci a z a2) : ∀ (n i : Nat) (σ τ : QS), L + 7 ≤ i + n → i ≤ L + 6 → qR σ τ → qw_E p l e s m below meth c b D ci a a2 18 i [] σ τ := by
  intro n
  induction n with
  | zero => intro i σ τ h1 h2; omega
  | succ n ih =>
    intro i σ τ h1 h2 h H locs ls hP hD hP2 hD2 hS hl
    have X0 := X
    obtain ⟨⟨hx, hb, -, -, -, -, hX, hbl, -, -⟩, -, -, -, -, -, hL⟩ := X0
    have hbA : ¬ (fun q : Nat => s.heap.size ≤ q) b := Nat.not_le.mpr hbl
    refine lv_iload_n hx hb dL_18 rfl (lv_at hl 3 rfl) ?_
    refine lv_aload_n hx hb dL_19 rfl (lv_at hl 0 rfl) ?_
    refine va_slen hx hb hX hbl hbA hS dL_20 ?_
    refine lv_bipush (v := nI 7) hx hb dL_21 (by decide) ?_
    refine lv_isub hx hb dL_23 ?_
    have eL : (Int32.ofNat L - nI 7).toInt = (L : Int) - 7 := pk_sub_toInt (a := L) (b := 7) (by omega) (by omega)
    refine lv_icmp_gt (tgt := 761) hx hb dL_24 (by decide) (fun _ => qw_end X H locs ls hP hD hP2 hD2 hS hl) (fun cL => ?_)
    have hi : i + 7 ≤ L := by
      rw [qi_lt, eL, nI_toInt (by omega)] at cL
      omega
    refine lv_aload_n hx hb dL_27 rfl (lv_at hl 0 rfl) ?_
    refine lv_iload_n hx hb dL_28 rfl (lv_at hl 3 rfl) ?_
    refine va_sld hx hb hX hbl hbA hS (vp_in_nI (show i < L by omega) (by omega)) dL_29 ?_
    refine lv_bipush (v := 31) hx hb dL_30 (by decide) ?_
    refine lv_iand hx hb dL_32 ?_
    obtain ⟨j, hj, ej⟩ := pk_andE (xs (nI i).toNatClampNeg) (m := 31) 5 (by decide)
    have hj : j < 32 := hj
    rw [ej]
    have kk := fun σ' τ' (hR : qR σ' τ') => qw_next (l := l) (e := e) (below := below) X (ih (i + 7) σ' τ' (by omega) (by omega) hR)
    by_cases cj : j < 22
    · rcases (show j = 0 ∨ j = 1 ∨ j = 2 ∨ j = 3 ∨ j = 4 ∨ j = 5 ∨ j = 6 ∨ j = 7 ∨ j = 8 ∨ j = 9 ∨ j = 10 ∨ j = 11 ∨ j = 12 ∨ j = 13 ∨ j = 14 ∨ j = 15 ∨ j = 16 ∨ j = 17 ∨ j = 18 ∨ j = 19 ∨ j = 20 ∨ j = 21 by omega) with rfl | rfl | rfl | rfl | rfl | rfl | rfl | rfl | rfl | rfl | rfl | rfl | rfl | rfl | rfl | rfl | rfl | rfl | rfl | rfl | rfl | rfl
      · refine lv_tableIn (off := 103) (tgt := 136) hx hb dL_33 (by decide) (by decide) (by decide) (by decide) ?_
        exact qw_case0 X hi h kk H locs ls hP hD hP2 hD2 hS hl
      · refine lv_tableIn (off := 178) (tgt := 211) hx hb dL_33 (by decide) (by decide) (by decide) (by decide) ?_
        exact qw_case1 X hi h kk H locs ls hP hD hP2 hD2 hS hl
      · refine lv_tableIn (off := 201) (tgt := 234) hx hb dL_33 (by decide) (by decide) (by decide) (by decide) ?_
        exact qw_case2 X hi h kk H locs ls hP hD hP2 hD2 hS hl
      · refine lv_tableIn (off := 244) (tgt := 277) hx hb dL_33 (by decide) (by decide) (by decide) (by decide) ?_
        exact qw_case3 X hi h kk H locs ls hP hD hP2 hD2 hS hl
      · refine lv_tableIn (off := 277) (tgt := 310) hx hb dL_33 (by decide) (by decide) (by decide) (by decide) ?_
        exact qw_case4 X hi h kk H locs ls hP hD hP2 hD2 hS hl
      · refine lv_tableIn (off := 330) (tgt := 363) hx hb dL_33 (by decide) (by decide) (by decide) (by decide) ?_
        exact qw_case5 X hi h kk H locs ls hP hD hP2 hD2 hS hl
      · refine lv_tableIn (off := 363) (tgt := 396) hx hb dL_33 (by decide) (by decide) (by decide) (by decide) ?_
        exact qw_case6 X hi h kk H locs ls hP hD hP2 hD2 hS hl
      · refine lv_tableIn (off := 406) (tgt := 439) hx hb dL_33 (by decide) (by decide) (by decide) (by decide) ?_
        exact qw_case7 X hi h kk H locs ls hP hD hP2 hD2 hS hl
      · refine lv_tableIn (off := 459) (tgt := 492) hx hb dL_33 (by decide) (by decide) (by decide) (by decide) ?_
        exact qw_case8 X hi h kk H locs ls hP hD hP2 hD2 hS hl
      · refine lv_tableIn (off := 492) (tgt := 525) hx hb dL_33 (by decide) (by decide) (by decide) (by decide) ?_
        exact qw_case9 X hi h kk H locs ls hP hD hP2 hD2 hS hl
      · refine lv_tableIn (off := 505) (tgt := 538) hx hb dL_33 (by decide) (by decide) (by decide) (by decide) ?_
        exact qw_case10 X hi h kk H locs ls hP hD hP2 hD2 hS hl
      · refine lv_tableIn (off := 518) (tgt := 551) hx hb dL_33 (by decide) (by decide) (by decide) (by decide) ?_
        exact qw_case11 X hi h kk H locs ls hP hD hP2 hD2 hS hl
      · refine lv_tableIn (off := 531) (tgt := 564) hx hb dL_33 (by decide) (by decide) (by decide) (by decide) ?_
        exact qw_case12 X hi h kk H locs ls hP hD hP2 hD2 hS hl
      · refine lv_tableIn (off := 564) (tgt := 597) hx hb dL_33 (by decide) (by decide) (by decide) (by decide) ?_
        exact qw_case13 X hi h kk H locs ls hP hD hP2 hD2 hS hl
      · refine lv_tableIn (off := 577) (tgt := 610) hx hb dL_33 (by decide) (by decide) (by decide) (by decide) ?_
        exact qw_case14 X hi h kk H locs ls hP hD hP2 hD2 hS hl
      · refine lv_tableIn (off := 590) (tgt := 623) hx hb dL_33 (by decide) (by decide) (by decide) (by decide) ?_
        exact qw_case15 X hi h kk H locs ls hP hD hP2 hD2 hS hl
      · refine lv_tableIn (off := 603) (tgt := 636) hx hb dL_33 (by decide) (by decide) (by decide) (by decide) ?_
        exact qw_case16 X hi h kk H locs ls hP hD hP2 hD2 hS hl
      · refine lv_tableIn (off := 636) (tgt := 669) hx hb dL_33 (by decide) (by decide) (by decide) (by decide) ?_
        exact qw_case17 X hi h kk H locs ls hP hD hP2 hD2 hS hl
      · refine lv_tableIn (off := 659) (tgt := 692) hx hb dL_33 (by decide) (by decide) (by decide) (by decide) ?_
        exact qw_case18 X hi h kk H locs ls hP hD hP2 hD2 hS hl
      · refine lv_tableIn (off := 672) (tgt := 705) hx hb dL_33 (by decide) (by decide) (by decide) (by decide) ?_
        exact qw_case19 X hi h kk H locs ls hP hD hP2 hD2 hS hl
      · refine lv_tableIn (off := 685) (tgt := 718) hx hb dL_33 (by decide) (by decide) (by decide) (by decide) ?_
        exact qw_case20 X hi h kk H locs ls hP hD hP2 hD2 hS hl
      · refine lv_tableIn (off := 708) (tgt := 741) hx hb dL_33 (by decide) (by decide) (by decide) (by decide) ?_
        exact qw_case21 X hi h kk H locs ls hP hD hP2 hD2 hS hl
    · refine lv_tableOut (tgt := 755) hx hb dL_33 (Or.inr (by rw [nI_toInt (by omega)]; omega)) (by decide) ?_
      exact kk σ τ h H locs ls hP hD hP2 hD2 hS hl
end QWM
set_option maxHeartbeats 8000000 in
set_option maxRecDepth 100000 in
/-- THE LAW, from its entry -/
theorem whole_start {p : Program} {e : Env} {s : State} {m : MethodId} {below : List Frame} {meth : Method} {c : Code} (l : Launch) (hflags : l.flags = flags0) {b L : Nat} {xs : Nat → Int32} (hL : L ≤ 3584) (C0 : lw_At p s m meth c b L xs) : W p l e room_1 s m #[Value.ref b] below meth c s.heap [] 0 0 (lw_Z below #[Value.ref b] s) (entryFrame m ([Value.ref b] : List Value).toArray 4) := by
  obtain ⟨hx, hb, hr, hml, hown, htl, hX, hbl, hlocks, hgv⟩ := id C0
  have hA : ∀ q : Nat, s.heap.size ≤ q → (fun q : Nat => s.heap.size ≤ q) q := fun _ h => h
  have hts : ∀ w ∈ qx_tb, w.before #[Value.ref b] s = true := fun w hw => htl w (qx_tbIn hw)
  obtain ⟨D, ci, hK⟩ := qs_K htl
  obtain ⟨z, hZ⟩ := qs_ZC htl hgv
  have hS : va_S (fun q : Nat => s.heap.size ≤ q) s.heap s.heap [] := va_S.rf
  have hP : va_P D vwCl [] s.heap := fun k q h => by simp at h
  have hD : va_D (fun q : Nat => s.heap.size ≤ q) [] := ⟨fun i j p q h => by simp at h, fun k q h => by simp at h⟩
  have hl := lv_entry ([.ref b]) (n := 4) (Nat.le_of_ble_eq_true rfl)
  rw [lg_entry_eq]
  generalize (lg_sl ([.ref b]) ++ List.replicate (4 - (lg_sl ([.ref b])).length) Slot.unset).toArray = ls at hl ⊢
  have hl : lv_has ls 4 [(0, .ref b)] := hl
  refine va_new (D := D) (cl := vwCl) (ci := 8) (fs := [.null, .null, .null, .null, .null, .null, .null, .null]) (C := RX8) (T := TX8) (N := 8) hx hb hts inX8 tyX8 tyX8_ok hown (htl (.classLink R_law 7 RX8) (List.mem_of_getElem? (i := 85) (by decide +kernel))) (hts _ qyn_X8) (hts _ qyi_X8) hK hP hD hS hA rfl (fun j hj => by rcases (show j = 0 ∨ j = 1 ∨ j = 2 ∨ j = 3 ∨ j = 4 ∨ j = 5 ∨ j = 6 ∨ j = 7 by omega) with rfl | rfl | rfl | rfl | rfl | rfl | rfl | rfl <;> rfl) (Nat.le_of_ble_eq_true rfl) (Nat.le_of_ble_eq_true rfl) dL_0 (fun h0 H hP hD hS => ?_)
  have hP : va_P D vwCl [(h0, .inr (8, [.null, .null, .null, .null, .null, .null, .null, .null]))] H := hP
  have hD : va_D (fun q : Nat => s.heap.size ≤ q) [(h0, .inr (8, [.null, .null, .null, .null, .null, .null, .null, .null]))] := hD
  refine lv_dup hx hb dL_3 rfl ?_
  have hFc := va_free (wc := [(h0, .inr (8, [.null, .null, .null, .null, .null, .null, .null, .null]))]) hD hS hA [0] rfl
  refine va_callv (va_runI (As := []) (rest := [.ref h0]) (n := 0) (Ts := qx_tb) (bytes := mX8_init.2.1) (maxL := 1) ⟨hx, hb, hml, hown, hts⟩ (qk_X8 (l := l) (D := D) (ci := ci) h0 H.size) ⟨callB_of 0 hts (qx_goodIn qcm_X8_init.1) rfl rfl rfl (hts _ qcm_X8_init.2.1) (htl (.methodLink R_law 9 yX8_init) (List.mem_of_getElem? (i := 87) (by decide +kernel))) qcm_X8_init.2.2.1 ⟨Nat.le_of_ble_eq_true rfl, Nat.le_of_ble_eq_true rfl⟩, rfl, hts _ qci_X8_init⟩ ⟨fun a U g mk q => by obtain ⟨q0, q1, qP, qK, qD⟩ := q; exact ⟨q0, q1, qP, va_K.moved (u := U) (U := U.calling g mk a) (Vm.Alike.refl U.vm) qK, qD⟩, fun U hU hW => ⟨rfl, by rw [hU], by rw [hU]; exact hP, va_K.moved hW.alike hK, hD.weaken (fun _ _ _ _ => trivial)⟩⟩ rfl rfl hl.1 rfl (lv_room (Nat.le_of_ble_eq_true rfl)) dL_4 ⟨Nat.le_of_ble_eq_true rfl, Nat.le_of_ble_eq_true rfl⟩) hS (fun q _ h => hFc q h) hFc (fun u t H1 locs ht hvm hw hB hz1 hk1 hS => ?_)
  obtain ⟨hP1, hD1⟩ := hB
  rw [ht] at hP1
  obtain ⟨hP, hD⟩ := va_join (wr := []) hP hD [0] [] rfl rfl rfl (by decide) hk1 hFc hP1 hD1
  have hP : va_P D vwCl (qx_wC ci (qy_cons h0 u) qy_s0) H1 := hP
  have hD : va_D (fun q : Nat => s.heap.size ≤ q) (qx_wC ci (qy_cons h0 u) qy_s0) := hD
  obtain ⟨a, ha0⟩ : ∃ a, a = qy_cons h0 u := ⟨_, rfl⟩
  have h00 : h0 = a 0 := by rw [ha0]; rfl
  rw [← ha0] at hP hD
  rw [h00]
  clear hP1 hD1 hk1
  refine lv_astore_n (lv' := [(1, .ref (a 0)), (0, .ref b)]) hx hb dL_7 rfl hl (by decide) rfl (fun ls hl => ?_)
  refine va_new (D := D) (cl := vwCl) (ci := 9) (fs := [.null, .int 0, .int 0, .int 0, .int 0, .int 0, .null, .null, .null, .null, .null, .int 0, .null, .null, .int 0, .int 0, .int 0, .null, .int 0, .null, .long 0]) (C := RX9) (T := TX9) (N := 21) hx hb hts inX9 tyX9 tyX9_ok hown (htl (.classLink R_law 10 RX9) (List.mem_of_getElem? (i := 807) (by decide +kernel))) (hts _ qyn_X9) (hts _ qyi_X9) hK hP hD hS hA rfl (fun j hj => by rcases (show j = 0 ∨ j = 1 ∨ j = 2 ∨ j = 3 ∨ j = 4 ∨ j = 5 ∨ j = 6 ∨ j = 7 ∨ j = 8 ∨ j = 9 ∨ j = 10 ∨ j = 11 ∨ j = 12 ∨ j = 13 ∨ j = 14 ∨ j = 15 ∨ j = 16 ∨ j = 17 ∨ j = 18 ∨ j = 19 ∨ j = 20 by omega) with rfl | rfl | rfl | rfl | rfl | rfl | rfl | rfl | rfl | rfl | rfl | rfl | rfl | rfl | rfl | rfl | rfl | rfl | rfl | rfl | rfl <;> rfl) (Nat.le_of_ble_eq_true rfl) (Nat.le_of_ble_eq_true rfl) dL_8 (fun h2 H2 hP hD hS => ?_)
  refine lv_dup hx hb dL_11 rfl ?_
  have hPc := hP.sub (ws' := [(h2, .inr (9, [.null, .int 0, .int 0, .int 0, .int 0, .int 0, .null, .null, .null, .null, .null, .int 0, .null, .null, .int 0, .int 0, .int 0, .null, .int 0, .null, .long 0]))]) [23] rfl
  have hDc := hD.sub (ws' := [(h2, .inr (9, [.null, .int 0, .int 0, .int 0, .int 0, .int 0, .null, .null, .null, .null, .null, .int 0, .null, .null, .int 0, .int 0, .int 0, .null, .int 0, .null, .long 0]))]) [23] (by decide) rfl
  have hFc := va_free (wc := [(h2, .inr (9, [.null, .int 0, .int 0, .int 0, .int 0, .int 0, .null, .null, .null, .null, .null, .int 0, .null, .null, .int 0, .int 0, .int 0, .null, .int 0, .null, .long 0]))]) hD hS hA [23] rfl
  refine va_callv (va_runI (As := []) (rest := [.ref h2]) (n := 0) (Ts := qx_tb) (bytes := mX9_init.2.1) (maxL := 1) ⟨hx, hb, hml, hown, hts⟩ (qk_X9 (l := l) (D := D) (ci := ci) h2 H2.size) ⟨callB_of 0 hts (qx_goodIn qcm_X9_init.1) rfl rfl rfl (hts _ qcm_X9_init.2.1) (htl (.methodLink R_law 12 yX9_init) (List.mem_of_getElem? (i := 809) (by decide +kernel))) qcm_X9_init.2.2.1 ⟨Nat.le_of_ble_eq_true rfl, Nat.le_of_ble_eq_true rfl⟩, rfl, hts _ qci_X9_init⟩ ⟨fun a U g mk q => by obtain ⟨q0, q1, qP, qK, qD⟩ := q; exact ⟨q0, q1, qP, va_K.moved (u := U) (U := U.calling g mk a) (Vm.Alike.refl U.vm) qK, qD⟩, fun U hU hW => ⟨rfl, by rw [hU], by rw [hU]; exact hPc, va_K.moved hW.alike hK, hDc.weaken (fun _ _ _ _ => trivial)⟩⟩ rfl rfl hl.1 rfl (lv_room (Nat.le_of_ble_eq_true rfl)) dL_12 ⟨Nat.le_of_ble_eq_true rfl, Nat.le_of_ble_eq_true rfl⟩) hS (fun q _ h => hFc q h) hFc (fun u2 t2 H3 locs3 ht2 hvm2 hw2 hB hz2 hk2 hS => ?_)
  obtain ⟨hP1, hD1⟩ := hB
  rw [ht2] at hP1
  obtain ⟨hP, hD⟩ := va_join (wr := qx_wC ci a qy_s0) hP hD [23] [0, 1, 2, 3, 4, 5, 6, 7, 8, 9, 10, 11, 12, 13, 14, 15, 16, 17, 18, 19, 20, 21, 22] rfl rfl rfl (by decide) hk2 hFc hP1 hD1
  obtain ⟨a2, ha2⟩ : ∃ a2, a2 = qy_cons h2 u2 := ⟨_, rfl⟩
  have h20 : h2 = a2 0 := by rw [ha2]; rfl
  have hP : va_P D vwCl (qx_wC ci a qy_s0 ++ qx_wM ci a2 qy_t0) H3 := by rw [ha2]; exact hP
  have hD : va_D (fun q : Nat => s.heap.size ≤ q) (qx_wC ci a qy_s0 ++ qx_wM ci a2 qy_t0) := by rw [ha2]; exact hD
  rw [h20]
  clear hP1 hD1 hk2
  refine lv_astore_n (lv' := [(2, .ref (a2 0)), (1, .ref (a 0)), (0, .ref b)]) hx hb dL_15 rfl hl (by decide) rfl (fun ls hl => ?_)
  refine lv_iconst (v := nI 0) hx hb dL_16 (by decide) ?_
  refine lv_istore_n (lv' := [(3, .int (nI 0)), (2, .ref (a2 0)), (1, .ref (a 0)), (0, .ref b)]) hx hb dL_17 rfl hl (by decide) rfl (fun ls hl => ?_)
  obtain ⟨hDC, hDM, g1, g2, g3⟩ := qw_split hD
  have hPC := hP.sub (ws' := qx_wC ci a qy_s0) [0, 1, 2, 3, 4, 5, 6, 7, 8, 9, 10, 11, 12, 13, 14, 15, 16, 17, 18, 19, 20, 21, 22] rfl
  have hPM := hP.sub (ws' := qx_wM ci a2 qy_t0) [23, 24, 25, 26, 27, 28, 29, 30, 31, 32, 33] rfl
  exact qw_loop ⟨C0, hK, hZ, g1, g2, g3, hL⟩ (L + 7) 0 qy_s0 qy_t0 (by omega) (by omega) qR_0 H3 locs3 ls hPC hDC hPM hDM hS (lv_sub hl [3, 2, 1, 0] rfl)
