/-! improve, the reference's way -/
section
variable {n : Nat} {f : Nat → Nat → Int32} {w sh : Nat → Int32} {τ σ : QS}
theorem qM_escapes_J0 (K : Int32 → Option Int32) (x1 x2 x3 x4 : Int32) : qM_escapes_J56 τ K x1 x2 x3 x4 0 = K (x4 + 1) := by
  unfold qM_escapes_J56
  rw [if_pos rfl]
theorem qM_escapes_J1 (K : Int32 → Option Int32) (x1 x2 x3 x4 : Int32) : qM_escapes_J56 τ K x1 x2 x3 x4 1 = (qM_clashes τ x1 x4 (-1)).bind fun r1 => if r1 = 0 then some x4 else K (x4 + 1) := by
  unfold qM_escapes_J56
  rw [if_neg (by decide)]
theorem qM_escapes_s (hok : qv_ok n f w) (hat : qv_at n f w sh) (h : qr_M n f w sh τ) (hP : qr_P n f w τ) {p s q : Nat} (hp : p < n) (hs : s < 8) (hq : q < n) (hh : qp_hit f sh p s q = true) : qM_escapes τ (nI q) (nI p) (nI s) = some (match qp_esc n f w sh q p s with | some t => nI t | none => -1) := by
  have hn := hok.1
  have e6 := (h.2.2 q hq).2.2.2.2.2.2
  have hsq : ¬ sh q = -1 := by simp [qp_hit] at hh; exact hh.2.1
  have hmq : qp_mt f p s q (sh q).toNatClampNeg = true := by simp [qp_hit] at hh; exact hh.2.2
  obtain ⟨ht, e2⟩ := qv_shN hat.sh hq hsq
  unfold qp_esc
  refine ql_first0 (L := qM_escapes_L3 τ (nI q) (nI p) (nI s)) (r := nI) (by omega) (fun k => ?_) (fun k t ht8 => ?_)
  · rw [qM_escapes_L3, if_pos (by decide)]
  · have hcl := qp_cnt_le n (qp_hit f sh q t)
    rw [qM_escapes_L3, if_neg (qn_lt8 ht8), qn_8', qo_in (by omega) (by decide), nI_clamp (by omega), hP q hq t ht8, qn_a120, nI_clamp (by omega), qo_in (by omega) (by decide), e6, qM_escapes_J0, qM_escapes_J1, nI_1, qM_clashes_s hok hat.sh h hq ht8, qob_bind, qM_meet_s hn h hq ht8 hp hs, qob_bind, qp_mt_sym]
    cases hpl : qp_pl n f w q t with
    | false => rw [if_pos qb_f, if_neg (by simp [qp_free, hpl])]
    | true =>
      rw [if_neg (by decide)]
      by_cases c : nI t = sh q
      · have et : t = (sh q).toNatClampNeg := by rw [← c, nI_clamp (by omega)]
        rw [if_pos c, if_neg (by rw [et, hmq]; simp)]
      · rw [if_neg c]
        cases hm : qp_mt f p s q t with
        | true => rw [if_neg (by decide), if_neg (by simp)]
        | false =>
          rw [if_pos qb_f]
          by_cases c2 : qp_cnt n (qp_hit f sh q t) = 0
          · rw [if_pos ((nI_e0 (by omega)).mpr c2), if_pos (by simp [qp_free, hpl, c2])]
          · rw [if_neg (fun e => c2 ((nI_e0 (by omega)).mp e)), if_neg (by simp [qp_free, c2])]
/-- one side tried -/
theorem qM_makesRoom_s {τ0 : QS} (hok : qv_ok n f w) (hI : qr_W n f w τ0 τ sh) {p s : Nat} (hp : p < n) (hs : s < 8) (hpl : qp_pl n f w p s = true) : ∃ τ', qM_makesRoom τ (nI p) (nI s) = some (qb (qp_tryI n f w sh p s).isSome, τ') ∧ qr_W n f w τ0 τ' ((qp_tryI n f w sh p s).getD sh) ∧ ((qp_tryI n f w sh p s) = none → τ' = τ) := by
  have hn := hok.1
  have h := hI.2.1
  have hcl := qp_cnt_le n (qp_hit f sh p s)
  have up : ∀ τ sh, qr_W n f w τ0 τ sh → qM_makesRoom_J70 τ (nI p) (nI s) = some (1, qx_up τ 1 (120 + p) (nI s)) ∧ qr_W n f w τ0 (qx_up τ 1 (120 + p) (nI s)) (upd sh p (nI s)) := by
    intro τ sh hI
    refine ⟨?_, hI.up1 hn hp (nI s) (Or.inr ⟨s, hs, rfl, hpl⟩)⟩
    unfold qM_makesRoom_J70
    rw [qn_a120, nI_clamp (by omega), qo_in (by omega) (by decide)]
  unfold qM_makesRoom
  rw [qM_clashes_s hok hI.2.2.2.2.sh h hp hs, qob_bind, qM_clashing_s hok hI.2.2.2.2.sh h hp hs, qob_bind]
  unfold qp_tryI
  rw [if_pos hpl]
  by_cases c0 : qp_cnt n (qp_hit f sh p s) = 0
  · obtain ⟨u1, u2⟩ := up τ sh hI
    rw [if_pos c0, c0, if_neg (by decide)]
    refine ⟨_, ?_, u2, fun e => by cases e⟩
    unfold qM_makesRoom_J33 qM_makesRoom_J53
    rw [if_neg (by decide), if_neg (by decide), if_neg (by decide), u1]
    rfl
  · rw [if_neg c0]
    by_cases c1 : qp_cnt n (qp_hit f sh p s) = 1
    · obtain ⟨q, hq, hh, hf, hl⟩ := qp_cnt_one c1
      rw [if_pos c1, c1, hl, hf, if_pos (show nI 1 = 1 from rfl), qM_escapes_s hok hI.2.2.2.2 h hI.2.2.1 hp hs hq hh, qob_bind]
      unfold qM_makesRoom_J33 qM_makesRoom_J53
      rw [if_neg (by decide), if_pos (show nI 1 = 1 from rfl), if_pos (show nI 1 = 1 from rfl)]
      dsimp only
      cases he : qp_esc n f w sh q p s with
      | none =>
        refine ⟨τ, ?_, hI, fun _ => rfl⟩
        rw [if_pos rfl]
        rfl
      | some t =>
        obtain ⟨-, ht, hc, -⟩ := qp_find_some _ _ _ he
        have hI1 := hI.up1 hn hq (nI t) (Or.inr ⟨t, by omega, rfl, by simp [qp_free] at hc; exact hc.1.1⟩)
        obtain ⟨u1, u2⟩ := up _ _ hI1
        refine ⟨_, ?_, u2, fun e => by cases e⟩
        show (if nI t = -1 then _ else _) = _
        rw [if_neg (nI_nm1 (by omega)), qn_a120, nI_clamp (by omega), qo_in (by omega) (by decide), u1]
        rfl
    · rw [if_neg c1, if_neg (fun e => c1 ((nI_e1 (by omega)).mp e))]
      refine ⟨τ, ?_, hI, fun _ => rfl⟩
      unfold qM_makesRoom_J33
      rw [if_pos (show (1 : Int32) < nI (qp_cnt n (qp_hit f sh p s)) from nI_lt (a := 1) (by omega) (by omega))]
      rfl
end
section
variable {n : Nat} {f : Nat → Nat → Int32} {w sh : Nat → Int32} {τ σ : QS}
theorem qp_tryI_p {p s : Nat} {x : Nat → Int32} (hs : s < 8) (ht : qp_tryI n f w sh p s = some x) : ¬ x p = -1 := by
  unfold qp_tryI at ht
  split at ht
  · split at ht
    · cases ht; rw [pk_us]; exact nI_nm1 (by omega)
    · split at ht
      · split at ht
        · rename_i q _
          cases he : qp_esc n f w sh q p s with
          | none => rw [he] at ht; cases ht
          | some t =>
            rw [he] at ht
            cases ht
            show ¬ upd (upd sh q (nI t)) p (nI s) p = -1
            rw [pk_us]
            exact nI_nm1 (by omega)
        · cases ht
      · cases ht
  · cases ht
theorem qM_improve_i {τ0 : QS} (hok : qv_ok n f w) (hI : qr_W n f w τ0 τ sh) {p : Nat} (hp : p < n) (hw : qp_want f w sh p = true) (i x : Int32) (K : QS → Int32 → Int32 → Option (Int32 × QS)) : ∀ k s, s ≤ 8 → 8 < k + s →
    ∃ τ', qr_W n f w τ0 τ' ((qp_tryFrom n f w sh p (8 - s) s).getD sh) ∧ qM_improve_L30 i (nI p) K k τ x (nI s) = K τ' (x + qb (qp_tryFrom n f w sh p (8 - s) s).isSome) (i + 1) := by
  have hn := hok.1
  intro k
  induction k with
  | zero => intro s h1 h2; omega
  | succ k ih =>
    intro s h1 h2
    rw [qM_improve_L30]
    rcases Nat.lt_or_ge s 8 with hs | hs
    · have hwt := qM_wants_s hok hI.2.1 hp
      rw [if_neg (qn_lt8 hs), hwt, qob_bind, show (decide (sh p = -1) && qp_vis f w p) = true from hw, if_neg (by decide), qn_8', qo_in (by omega) (by decide), nI_clamp (by omega), hI.2.2.1 p hp s hs, nI_1, show 8 - s = (8 - (s + 1)) + 1 by omega]
      unfold qp_tryFrom
      cases hpl : qp_pl n f w p s with
      | false =>
        rw [if_pos qb_f, show qp_tryI n f w sh p s = none by unfold qp_tryI; rw [hpl]; rfl]
        exact ih (s + 1) hs (by omega)
      | true =>
        obtain ⟨τ', e1, e2, e3⟩ := qM_makesRoom_s hok hI hp hs hpl
        rw [if_neg (by decide), e1, qob_bind]
        cases ht : qp_tryI n f w sh p s with
        | none =>
          rw [e3 ht]
          exact ih (s + 1) hs (by omega)
        | some y =>
          rw [ht] at e2
          show ∃ τ'', qr_W n f w τ0 τ'' y ∧ qM_improve_L30 i (nI p) K k τ' (x + 1) (nI (s + 1)) = K τ'' (x + 1) (i + 1)
          refine ⟨τ', e2, ?_⟩
          obtain ⟨k', rfl⟩ : ∃ k', k = k' + 1 := ⟨k - 1, by omega⟩
          rw [qM_improve_L30]
          have hwt' := qM_wants_s hok e2.2.1 hp
          by_cases c2 : (8 : Int32) ≤ nI (s + 1)
          · rw [if_pos c2]
          · have hy := qp_tryI_p hs ht
            rw [if_neg c2, hwt', qob_bind, if_pos]
            rw [qb_0, show decide ((some y).getD sh p = -1) = false from decide_eq_false hy]
            rfl
    · rw [show s = 8 by omega, if_pos (by decide)]
      exact ⟨τ, hI, by show _ = K τ (x + 0) _; rw [Int32.add_zero]⟩
theorem qM_improve_s (hok : qv_ok n f w) (hat : qv_at n f w sh) (h : qr_M n f w sh τ) : ∃ τ', qM_improve τ = some ((qp_fold (qp_impS n f w) (qp_ords n f) sh 0).2, τ') ∧ qs_only [1, 2, 3] τ τ' ∧ qr_M n f w (qp_fold (qp_impS n f w) (qp_ords n f) sh 0).1 τ' ∧ qv_at n f w (qp_fold (qp_impS n f w) (qp_ords n f) sh 0).1 := by
  have hn := hok.1
  have hlen := qp_ords_len n (fun p hp => (hok.2.1 p hp).2.2.2.2.1)
  obtain ⟨τ1, e1, o1, P1⟩ := qM_findsAll_s hok h
  obtain ⟨τ2, e2, o2, L2⟩ := qM_orders_s hok (h.off o1 (by decide) (by decide))
  have h2 := (h.off o1 (by decide) (by decide)).off o2 (by decide) (by decide)
  obtain ⟨τ3, I3, e3⟩ := ql_fold (L := qM_improve_L12) (Inv := qr_W n f w τ2) (step := qp_impS n f w) hlen
    (fun k τ sh x hI => by
      rw [qM_improve_L12, hI.2.1.1, if_pos (nI_le (Nat.le_refl _) (by omega))])
    (fun k τ sh x i p hI hi hp => by
      have hpn := qp_ords_lt hp
      rw [qM_improve_L12, hI.2.1.1, if_neg (nI_ge hi (by omega)), qo_in (by omega) (by decide), nI_clamp (by omega), hI.2.2.2.1 i p hp]
      unfold qp_impS
      cases hw : qp_want f w sh p with
      | false =>
        rw [qF_big, qM_improve_L30, if_neg (by decide), qM_wants_s hok hI.2.1 hpn, qob_bind, show (decide (sh p = -1) && qp_vis f w p) = false from hw, if_pos qb_f, nI_1]
        exact ⟨τ, hI, by rw [if_neg (by decide)]; show _ = qM_improve_L12 k τ (x + 0) _; rw [Int32.add_zero]⟩
      | true =>
        obtain ⟨τ', g1, g2⟩ := qM_improve_i hok hI hpn hw (nI i) x (qM_improve_L12 k) qx_F 0 (by omega) (by rw [qF_big]; omega)
        rw [show (0 : Int32) = nI 0 from rfl, g2, if_pos rfl, nI_1]
        exact ⟨τ', g1, rfl⟩)
    qx_F 0 τ2 sh 0 (Nat.zero_le _) (by rw [qF_big]; omega) ⟨qs_only.rf, h2, P1.off o2 (by decide), L2, hat⟩
  refine ⟨τ3, ?_, ((o1.wide (by decide)).tr (o2.wide (by decide))).tr (I3.1.wide (by decide)), I3.2.1, I3.2.2.2.2⟩
  unfold qM_improve
  rw [e1, qob_bind, e2, qob_bind, show qM_improve_L12 qx_F τ2 0 0 = qM_improve_L12 qx_F τ2 0 (nI 0) from rfl, e3]
  rfl
end
