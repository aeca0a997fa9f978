/-! the class: labels given, moved, pushed, hidden -/
/-- what the class's walks keep -/
def qr_Y (n : Nat) (f : Nat → Nat → Int32) (w : Nat → Int32) (σ0 σ : QS) (sh : Nat → Int32) : Prop := qs_only [12] σ0 σ ∧ qr_C n f w sh σ ∧ qr_K n f w σ ∧ qv_at n f w sh
section
variable {n : Nat} {f : Nat → Nat → Int32} {w sh : Nat → Int32} {τ σ σ0 : QS}
theorem qr_Y.up (h : qr_Y n f w σ0 σ sh) (p : Nat) (v : Int32) (hv : v = -1 ∨ ∃ s, s < 8 ∧ v = nI s ∧ qp_pl n f w p s = true) : qr_Y n f w σ0 (qx_up σ 12 p v) (upd sh p v) := by
  obtain ⟨h1, h2, h3, h4⟩ := h
  have ho : qs_only [12] σ (qx_up σ 12 p v) := qs_only.up (S := [12]) (by decide) qs_only.rf
  exact ⟨h1.tr ho, h2.up p v, h3.off ho (by decide) (by decide) (by decide) (by decide) (by decide) (by decide), h4.up p v hv⟩
theorem qr_Y.alt {sh' : Nat → Int32} (h : qr_Y n f w σ0 σ sh) (e : ∀ p, p < n → sh p = sh' p) : qr_Y n f w σ0 σ sh' :=
  ⟨h.1, h.2.1.alt e, h.2.2.1, fun p hp => by rw [← e p hp]; exact h.2.2.2 p hp⟩
theorem qLb_put_s {p : Nat} (hp : p < 20) (v : Int32) : qLb_put σ (nI p) v = some (qx_up σ 12 p v) := by
  unfold qLb_put
  rw [qo_in (by omega) (by decide), nI_clamp (by omega)]
theorem qLb_hide_s {p : Nat} (hp : p < 20) : qLb_hide σ (nI p) = some (qx_up σ 12 p (-1)) := by
  unfold qLb_hide
  rw [qo_in (by omega) (by decide), nI_clamp (by omega)]
theorem qLb_sideOf_s (hn : n ≤ 20) (h : qr_C n f w sh σ) {p : Nat} (hp : p < n) : qLb_sideOf σ (nI p) = some (sh p) := by
  unfold qLb_sideOf
  rw [qo_in (by omega) (by decide), nI_clamp (by omega), (h.2.2 p hp).2.2.2.2.2.2]
theorem qPt_inOrder_s (hn : n ≤ 20) (h : qr_K n f w σ) {i p : Nat} (hi : i < n) (hp : (qp_ords n f)[i]? = some p) : qPt_inOrder σ (nI i) = some (nI p) := by
  unfold qPt_inOrder
  rw [qo_in (by omega) (by decide), nI_clamp (by omega), h.2 i p hp]
theorem qLb_showOnLeastFree_s (hn : n ≤ 20) (hI : qr_Y n f w σ0 σ sh) {p : Nat} (hp : p < n) : qLb_showOnLeastFree σ (nI p) = some (match qp_find (qp_free n f w sh p) 8 0 with | some s => (1, qx_up σ 12 p (nI s)) | none => (0, σ)) := by
  refine ql_first0 (L := qLb_showOnLeastFree_L2 σ (nI p)) (r := fun s => ((1 : Int32), qx_up σ 12 p (nI s))) (by omega) (fun k => ?_) (fun k s hs => ?_)
  · rw [qLb_showOnLeastFree_L2, if_pos (by decide)]
  · rw [qLb_showOnLeastFree_L2, if_neg (qn_lt8 hs), qLb_isFree_s hn hI.2.2.2 hI.2.1 hI.2.2.1 hp hs, qob_bind, qLb_put_s (by omega), qob_bind, nI_1]
    cases qp_free n f w sh p s <;> simp [qb]
theorem qLb_addFree_s (hok : qv_ok n f w) (hI : qr_Y n f w σ0 σ sh) : ∃ σ', qLb_addFree σ = some ((qp_fold (qp_fillS n f w) (qp_ords n f) sh 0).2, σ') ∧ qr_Y n f w σ0 σ' (qp_fold (qp_fillS n f w) (qp_ords n f) sh 0).1 := by
  have hn := hok.1
  have hlen := qp_ords_len n (fun p hp => (hok.2.1 p hp).2.2.2.2.1)
  obtain ⟨σ3, I3, e3⟩ := ql_fold (L := qLb_addFree_L4) (Inv := qr_Y n f w σ0) (step := qp_fillS n f w) hlen
    (fun k σ sh x hI => by
      rw [qLb_addFree_L4, hI.2.1.1, if_pos (nI_le (Nat.le_refl _) (by omega))])
    (fun k σ sh x i p hI hi hp => by
      have hpn := qp_ords_lt hp
      rw [qLb_addFree_L4, hI.2.1.1, if_neg (nI_ge hi (by omega)), qPt_inOrder_s hn hI.2.2.1 hi hp, qob_bind, qLb_lacksLabel_s hn hI.2.1 hpn, qob_bind, qLb_showOnLeastFree_s hn hI hpn, qob_bind, nI_1]
      unfold qp_fillS
      cases hw : qp_want f w sh p with
      | false =>
        rw [if_pos qb_f]
        exact ⟨σ, hI, by rw [if_neg (by decide)]; show _ = qLb_addFree_L4 k σ (x + 0) _; rw [Int32.add_zero]⟩
      | true =>
        rw [if_pos (rfl : true = true), if_neg (show ¬ qb true = 0 by decide)]
        cases hf : qp_find (qp_free n f w sh p) 8 0 with
        | none => exact ⟨σ, hI, by show _ = qLb_addFree_L4 k σ (x + 0) _; rw [Int32.add_zero]; rfl⟩
        | some t =>
          obtain ⟨-, ht, hc, -⟩ := qp_find_some _ _ _ hf
          exact ⟨_, hI.up p (nI t) (Or.inr ⟨t, by omega, rfl, by simp [qp_free] at hc; exact hc.1⟩), rfl⟩)
    qx_F 0 σ sh 0 (Nat.zero_le _) (by rw [qF_big]; omega) hI
  refine ⟨σ3, ?_, I3⟩
  unfold qLb_addFree
  rw [show qLb_addFree_L4 qx_F σ 0 0 = qLb_addFree_L4 qx_F σ 0 (nI 0) from rfl, e3]
  rfl
-- improve
theorem qLb_moveAside_s (hn : n ≤ 20) (hI : qr_Y n f w σ0 σ sh) {p s q : Nat} (hp : p < n) (hs : s < 8) (hq : q < n) (hpl : qp_pl n f w p s = true) (hpq : ¬ p = q) : qLb_moveAside σ (nI q) (nI p) (nI s) = some (match qp_esc n f w sh q p s with | some t => (1, qx_up σ 12 q (nI t)) | none => (0, σ)) := by
  unfold qp_esc
  refine ql_first0 (L := qLb_moveAside_L3 σ (nI q) (nI p) (nI s)) (r := fun t => ((1 : Int32), qx_up σ 12 q (nI t))) (by omega) (fun k => ?_) (fun k t ht => ?_)
  · rw [qLb_moveAside_L3, if_pos (by decide)]
  · rw [qLb_moveAside_L3, if_neg (qn_lt8 ht), if_neg (nI_nm1 (by omega)), qLb_isFree_s hn hI.2.2.2 hI.2.1 hI.2.2.1 hq ht, qob_bind, qPl_doClash_s hn hI.2.2.1 hp hs hq ht, qob_bind, qLb_put_s (by omega), qob_bind, nI_1, hpl]
    cases hfr : qp_free n f w sh q t with
    | false => rw [if_pos qb_f]; simp
    | true =>
      have hplq : qp_pl n f w q t = true := by simp [qp_free] at hfr; exact hfr.1
      rw [if_neg (by decide), hplq]
      cases qp_mt f p s q t <;> simp [qb, hpq]
theorem qLb_showByMoving_J0 (K : QS → Int32 → Option (Int32 × QS)) (p : Int32) (s : Nat) : qLb_showByMoving_J47 σ K p (nI s) 0 = K σ (nI (s + 1)) := by
  unfold qLb_showByMoving_J47
  rw [if_pos rfl, nI_1]
theorem qLb_showByMoving_J1 (K : QS → Int32 → Option (Int32 × QS)) {p : Nat} (hp : p < 20) (s : Int32) : qLb_showByMoving_J47 σ K (nI p) s 1 = some (1, qx_up σ 12 p s) := by
  unfold qLb_showByMoving_J47
  rw [if_neg (by decide), qLb_put_s hp, qob_bind]
theorem qLb_showByMoving_L (hok : qv_ok n f w) (hI : qr_Y n f w σ0 σ sh) {p : Nat} (hp : p < n) : ∀ k s, s ≤ 8 → 8 < k + s →
    ∃ σ', qLb_showByMoving_L2 (nI p) k σ (nI s) = some (qb (qp_tryFrom n f w sh p (8 - s) s).isSome, σ') ∧ qr_Y n f w σ0 σ' ((qp_tryFrom n f w sh p (8 - s) s).getD sh) := by
  have hn := hok.1
  intro k
  induction k with
  | zero => intro s h1 h2; omega
  | succ k ih =>
    intro s h1 h2
    rw [qLb_showByMoving_L2]
    rcases Nat.lt_or_ge s 8 with hs | hs
    · have hcl := qp_cnt_le n (qp_hit f sh p s)
      rw [if_neg (qn_lt8 hs), qLb_isFree_s hn hI.2.2.2 hI.2.1 hI.2.2.1 hp hs, qob_bind, qLb_clashing_s hn hI.2.2.2 hI.2.1 hI.2.2.1 hp hs, qob_bind, show 8 - s = (8 - (s + 1)) + 1 by omega]
      unfold qp_tryFrom
      cases hpl : qp_pl n f w p s with
      | false =>
        rw [show qp_free n f w sh p s = false by simp [qp_free, hpl], if_pos qb_f]
        simp only [Bool.false_and]
        rw [show qp_cnt n (fun q => false) = 0 from qp_cnt_zero' (fun _ _ => rfl), if_neg (by decide), qLb_showByMoving_J0, show qp_tryI n f w sh p s = none by unfold qp_tryI; rw [hpl]; rfl]
        exact ih (s + 1) hs (by omega)
      | true =>
        simp only [Bool.true_and]
        by_cases c0 : qp_cnt n (qp_hit f sh p s) = 0
        · rw [show qp_free n f w sh p s = true by simp [qp_free, hpl, c0], if_neg (by decide), qLb_showByMoving_J1 _ (by omega), show qp_tryI n f w sh p s = some (upd sh p (nI s)) by unfold qp_tryI; rw [if_pos hpl, if_pos c0]]
          exact ⟨_, rfl, hI.up p (nI s) (Or.inr ⟨s, hs, rfl, hpl⟩)⟩
        · rw [show qp_free n f w sh p s = false by simp [qp_free, c0], if_pos qb_f]
          by_cases c1 : qp_cnt n (qp_hit f sh p s) = 1
          · obtain ⟨q, hq, hh, hf, -⟩ := qp_cnt_one c1
            have hpq : ¬ p = q := by
              intro e
              subst e
              simp [qp_hit] at hh
            have e1 : nI (qp_cnt n (fun q => qp_hit f sh p s q)) = 1 := (nI_e1 (a := qp_cnt n (qp_hit f sh p s)) (by omega)).mpr c1
            rw [if_pos e1, qLb_firstClashing_s hn hI.2.2.2 hI.2.1 hI.2.2.1 hp hs hpl, hf, qob_bind]
            dsimp only
            rw [qLb_moveAside_s hn hI hp hs hq hpl hpq, qob_bind]
            have ht : qp_tryI n f w sh p s = (qp_esc n f w sh q p s).map (fun t => upd (upd sh q (nI t)) p (nI s)) := by
              unfold qp_tryI
              rw [if_pos hpl, if_neg c0, if_pos c1, hf]
            rw [ht]
            cases he : qp_esc n f w sh q p s with
            | none =>
              dsimp only
              rw [if_pos rfl, qLb_showByMoving_J0]
              exact ih (s + 1) hs (by omega)
            | some t =>
              obtain ⟨-, ht8, hc, -⟩ := qp_find_some _ _ _ he
              dsimp only
              rw [if_neg (by decide), qLb_showByMoving_J1 _ (by omega)]
              have hI1 := hI.up q (nI t) (Or.inr ⟨t, by omega, rfl, by simp [qp_free] at hc; exact hc.1.1⟩)
              exact ⟨_, rfl, hI1.up p (nI s) (Or.inr ⟨s, hs, rfl, hpl⟩)⟩
          · have e1 : ¬ nI (qp_cnt n (fun q => qp_hit f sh p s q)) = 1 := fun e => c1 ((nI_e1 (a := qp_cnt n (qp_hit f sh p s)) (by omega)).mp e)
            rw [if_neg e1, qLb_showByMoving_J0, show qp_tryI n f w sh p s = none by unfold qp_tryI; rw [if_pos hpl, if_neg c0, if_neg c1]]
            exact ih (s + 1) hs (by omega)
    · rw [show s = 8 by omega, if_pos (by decide)]
      exact ⟨σ, rfl, hI⟩
theorem qLb_makeRoom_s (hok : qv_ok n f w) (hI : qr_Y n f w σ0 σ sh) : ∃ σ', qLb_makeRoom σ = some ((qp_fold (qp_impS n f w) (qp_ords n f) sh 0).2, σ') ∧ qr_Y n f w σ0 σ' (qp_fold (qp_impS n f w) (qp_ords n f) sh 0).1 := by
  have hn := hok.1
  have hlen := qp_ords_len n (fun p hp => (hok.2.1 p hp).2.2.2.2.1)
  obtain ⟨σ3, I3, e3⟩ := ql_fold (L := qLb_makeRoom_L4) (Inv := qr_Y n f w σ0) (step := qp_impS n f w) hlen
    (fun k σ sh x hI => by
      rw [qLb_makeRoom_L4, hI.2.1.1, if_pos (nI_le (Nat.le_refl _) (by omega))])
    (fun k σ sh x i p hI hi hp => by
      have hpn := qp_ords_lt hp
      obtain ⟨σ', g1, g2⟩ := qLb_showByMoving_L hok hI hpn qx_F 0 (by omega) (by rw [qF_big]; omega)
      have g1' : qLb_showByMoving σ (nI p) = some (qb (qp_tryFrom n f w sh p 8 0).isSome, σ') := g1
      rw [qLb_makeRoom_L4, hI.2.1.1, if_neg (nI_ge hi (by omega)), qPt_inOrder_s hn hI.2.2.1 hi hp, qob_bind, qLb_lacksLabel_s hn hI.2.1 hpn, qob_bind, g1', qob_bind, nI_1]
      unfold qp_impS
      cases hw : qp_want f w sh p with
      | false =>
        rw [if_pos qb_f]
        exact ⟨σ, hI, by rw [if_neg (by decide)]; show _ = qLb_makeRoom_L4 k σ (x + 0) _; rw [Int32.add_zero]⟩
      | true =>
        rw [if_pos (rfl : true = true), if_neg (show ¬ qb true = 0 by decide)]
        refine ⟨σ', g2, ?_⟩
        cases qp_tryFrom n f w sh p 8 0 with
        | none => show qLb_makeRoom_L4 k σ' x _ = qLb_makeRoom_L4 k σ' (x + 0) _; rw [Int32.add_zero]
        | some y => rfl)
    qx_F 0 σ sh 0 (Nat.zero_le _) (by rw [qF_big]; omega) hI
  refine ⟨σ3, ?_, I3⟩
  unfold qLb_makeRoom
  rw [show qLb_makeRoom_L4 qx_F σ 0 0 = qLb_makeRoom_L4 qx_F σ 0 (nI 0) from rfl, e3]
  rfl
-- push
theorem qp_find_isNone {c : Nat → Bool} {m : Nat} : (match qp_find c m 0 with | some _ => (0 : Int32) | none => 1) = qb (decide (qp_cnt m c = 0)) := by
  cases hf : qp_find c m 0 with
  | none => rw [decide_eq_true (qp_cnt_zero' (fun i hi => qp_find_none m 0 hf i (by omega) (by omega)))]; rfl
  | some r =>
    obtain ⟨-, h1, h2, -⟩ := qp_find_some m 0 r hf
    rw [decide_eq_false (fun h => by rw [qp_cnt_zero h r (by omega)] at h2; cases h2)]
    rfl
theorem qLb_outranksClashing_s (hn : n ≤ 20) (hat : qv_at n f w sh) (hC : qr_C n f w sh σ) (h : qr_K n f w σ) {p s : Nat} (hp : p < n) (hs : s < 8) (hpl : qp_pl n f w p s = true) : qLb_outranksClashing σ (nI p) (nI s) = some (qb (qp_strong n f sh p s)) := by
  unfold qLb_outranksClashing qp_strong
  rw [qPt_get4 hn hC hp, qob_bind, ← qp_find_isNone]
  refine ql_first0 (L := qLb_outranksClashing_L13 σ (nI p) (nI s) (f 4 p)) (r := fun _ => (0 : Int32)) (by omega) (fun k => ?_) (fun k q hq => ?_)
  · rw [qLb_outranksClashing_L13, hC.1, if_pos (nI_le (Nat.le_refl _) (by omega))]
  · have e := (hC.2.2 q hq).2.2.2.2.2.2
    rw [qLb_outranksClashing_L13, hC.1, if_neg (nI_ge hq (by omega)), qPt_get4 hn hC hq, qob_bind, qo_in (by omega) (by decide), nI_clamp (by omega), e, qPl_doClash_sh hn hat h hp hs hq, qob_bind, nI_1, hpl, Bool.true_and]
    by_cases c : f 4 q < f 4 p
    · have c' : ¬ f 4 p ≤ f 4 q := by rw [qi_le]; rw [qi_lt] at c; omega
      simp [c, c']
    · have c' : f 4 p ≤ f 4 q := by rw [qi_le]; rw [qi_lt] at c; omega
      rw [if_neg c]
      cases qp_hit f sh p s q <;> simp [qb, c']
theorem qLb_sideToPush_s (hn : n ≤ 20) (hat : qv_at n f w sh) (hC : qr_C n f w sh σ) (h : qr_K n f w σ) {p : Nat} (hp : p < n) : qLb_sideToPush σ (nI p) = some (match qp_str n f w sh p with | some s => nI s | none => -1) := by
  have key : qLb_sideToPush_L12 σ (nI p) qx_F 0 = some (match qp_find (fun s => qp_pl n f w p s && qp_strong n f sh p s) 8 0 with | some s => nI s | none => -1) := by
    refine ql_first0 (L := qLb_sideToPush_L12 σ (nI p)) (r := nI) (by omega) (fun k => ?_) (fun k s hs => ?_)
    · rw [qLb_sideToPush_L12, if_pos (by decide)]
    · rw [qLb_sideToPush_L12, if_neg (qn_lt8 hs), qPl_isPlace_s hn h hp hs, qob_bind, nI_1]
      cases hpl : qp_pl n f w p s with
      | false => rw [if_pos qb_f]; rfl
      | true =>
        rw [if_neg (by decide), qLb_outranksClashing_s hn hat hC h hp hs hpl, qob_bind]
        cases qp_strong n f sh p s <;> rfl
  unfold qLb_sideToPush qp_str
  rw [qLb_lacksLabel_s hn hC hp, qob_bind, key]
  cases qp_want f w sh p <;> rfl
theorem qLb_manyThatCanPush_s (hn : n ≤ 20) (hat : qv_at n f w sh) (hC : qr_C n f w sh σ) (h : qr_K n f w σ) : qLb_manyThatCanPush σ = some (nI (qp_cnt n (fun p => (qp_str n f w sh p).isSome))) := by
  rw [← qp_sum_cnt]
  refine ql_acc0 (L := qLb_manyThatCanPush_L4 σ) (fin := id) (by omega) (fun k x => ?_) (fun k x q hq => ?_)
  · rw [qLb_manyThatCanPush_L4, hC.1, if_pos (nI_le (Nat.le_refl _) (by omega))]; rfl
  · rw [qLb_manyThatCanPush_L4, hC.1, if_neg (nI_ge hq (by omega)), qLb_sideToPush_s hn hat hC h hq, qob_bind, nI_1]
    cases hs : qp_str n f w sh q with
    | none => dsimp only; rw [if_pos rfl]; show _ = qLb_manyThatCanPush_L4 σ k (x + 0) _; rw [Int32.add_zero]
    | some s =>
      have := (qp_str_some hs).1
      dsimp only
      rw [if_neg (nI_nm1 (by omega))]
      rfl
theorem qLb_hideClashing_L (hn : n ≤ 20) (hat : qv_at n f w sh) {p s : Nat} (hp : p < n) (hs : s < 8) (hpl : qp_pl n f w p s = true) : ∀ (k q : Nat) (σ : QS), q ≤ n → n < k + q → qr_Y n f w σ0 σ (fun r => if r < q then (if qp_hit f sh p s r = true then -1 else sh r) else sh r) →
    ∃ σ', qLb_hideClashing_L2 (nI p) (nI s) k σ (nI q) = some σ' ∧ qr_Y n f w σ0 σ' (fun r => if qp_hit f sh p s r = true then -1 else sh r) := by
  intro k
  induction k with
  | zero => intro q σ h1 h2; omega
  | succ k ih =>
    intro q σ h1 h2 hI
    rw [qLb_hideClashing_L2, hI.2.1.1]
    rcases Nat.lt_or_ge q n with hq | hq
    · have e := (hI.2.1.2.2 q hq).2.2.2.2.2.2
      simp only [Nat.lt_irrefl, if_false] at e
      rw [if_neg (nI_ge hq (by omega)), qo_in (by omega) (by decide), nI_clamp (by omega), e, qPl_doClash_sh hn hat hI.2.2.1 hp hs hq, qob_bind, hpl, Bool.true_and, nI_1, qLb_hide_s (by omega), qob_bind]
      cases hh : qp_hit f sh p s q with
      | false =>
        rw [if_pos qb_f]
        refine ih (q + 1) σ hq (by omega) (hI.alt (fun r hr => ?_))
        by_cases c : r = q
        · subst c; simp [hh]
        · by_cases c2 : r < q
          · simp [c2, show r < q + 1 by omega]
          · simp [c2, show ¬ r < q + 1 by omega]
      | true =>
        rw [if_neg (by decide)]
        refine ih (q + 1) _ hq (by omega) ((hI.up q (-1) (Or.inl rfl)).alt (fun r hr => ?_))
        unfold upd
        by_cases c : r = q
        · subst c; simp [hh]
        · by_cases c2 : r < q
          · simp [c, c2, show r < q + 1 by omega]
          · simp [c, c2, show ¬ r < q + 1 by omega]
    · rw [if_pos (nI_le (by omega) (by omega))]
      exact ⟨σ, rfl, hI.alt (fun r hr => by simp [show r < q by omega])⟩
theorem qLb_pushFirst_L (hok : qv_ok n f w) (hI : qr_Y n f w σ0 σ sh) : ∀ k i, i ≤ n → n < k + i →
    ∃ σ', qLb_pushFirst_L2 σ k (nI i) = some (qb (qp_push1 n f w sh ((qp_ords n f).drop i)).isSome, σ') ∧ qr_Y n f w σ0 σ' ((qp_push1 n f w sh ((qp_ords n f).drop i)).getD sh) := by
  have hn := hok.1
  have hlen := qp_ords_len n (fun p hp => (hok.2.1 p hp).2.2.2.2.1)
  intro k
  induction k with
  | zero => intro i h1 h2; omega
  | succ k ih =>
    intro i h1 h2
    rw [qLb_pushFirst_L2, hI.2.1.1]
    rcases Nat.lt_or_ge i n with hi | hi
    · have hil : i < (qp_ords n f).length := by omega
      have hg : (qp_ords n f)[i]? = some (qp_ords n f)[i] := List.getElem?_eq_getElem hil
      have hpn := qp_ords_lt hg
      rw [List.drop_eq_getElem_cons hil, if_neg (nI_ge hi (by omega)), qPt_inOrder_s hn hI.2.2.1 hi hg, qob_bind, qLb_sideToPush_s hn hI.2.2.2 hI.2.1 hI.2.2.1 hpn, qob_bind]
      unfold qp_push1
      cases hs : qp_str n f w sh (qp_ords n f)[i] with
      | none =>
        dsimp only
        rw [if_pos rfl, nI_1]
        exact ih (i + 1) hi (by omega)
      | some s =>
        obtain ⟨hs8, -, -, hpl, -⟩ := qp_str_some hs
        dsimp only
        obtain ⟨σ1, e1, e2⟩ := qLb_hideClashing_L (σ0 := σ0) hn hI.2.2.2 hpn hs8 hpl qx_F 0 σ (Nat.zero_le _) (by rw [qF_big]; omega) (hI.alt (fun r hr => by simp))
        have e1' : qLb_hideClashing σ (nI (qp_ords n f)[i]) (nI s) = some σ1 := e1
        rw [if_neg (nI_nm1 (by omega)), e1', qob_bind, qLb_put_s (by omega), qob_bind]
        exact ⟨_, rfl, e2.up _ (nI s) (Or.inr ⟨s, hs8, rfl, hpl⟩)⟩
    · rw [if_pos (nI_le (by omega) (by omega)), List.drop_eq_nil_of_le (by omega)]
      exact ⟨σ, rfl, hI⟩
theorem qLb_pushAway_L (hok : qv_ok n f w) : ∀ (m k t : Nat) (σ : QS) (sh : Nat → Int32), m < k → m + t ≤ 900 → qr_Y n f w σ0 σ sh → qp_push1 n f w (qp_pu n f w m sh (nI t)).1 (qp_ords n f) = none →
    ∃ σ', qLb_pushAway_L2 k σ (nI t) = some ((qp_pu n f w m sh (nI t)).2, σ') ∧ qr_Y n f w σ0 σ' (qp_pu n f w m sh (nI t)).1 := by
  intro m
  induction m with
  | zero =>
    intro k t σ sh hk ht hI hend
    have hend' : qp_push1 n f w sh (qp_ords n f) = none := hend
    obtain ⟨σ1, e1, e2⟩ := qLb_pushFirst_L hok hI qx_F 0 (Nat.zero_le _) (by have := hok.1; rw [qF_big]; omega)
    have e1' : qLb_pushFirst σ = some (qb (qp_push1 n f w sh (qp_ords n f)).isSome, σ1) := e1
    have e2' : qr_Y n f w σ0 σ1 ((qp_push1 n f w sh (qp_ords n f)).getD sh) := e2
    obtain ⟨k', rfl⟩ : ∃ k', k = k' + 1 := ⟨k - 1, by omega⟩
    rw [qLb_pushAway_L2, if_neg (show ¬ (1000 : Int32) ≤ nI t from nI_ge (a := t) (b := 1000) (by omega) (by omega)), e1', qob_bind, hend']
    rw [hend'] at e2'
    exact ⟨σ1, rfl, e2'⟩
  | succ m ih =>
    intro k t σ sh hk ht hI hend
    obtain ⟨σ1, e1, e2⟩ := qLb_pushFirst_L hok hI qx_F 0 (Nat.zero_le _) (by have := hok.1; rw [qF_big]; omega)
    have e1' : qLb_pushFirst σ = some (qb (qp_push1 n f w sh (qp_ords n f)).isSome, σ1) := e1
    have e2' : qr_Y n f w σ0 σ1 ((qp_push1 n f w sh (qp_ords n f)).getD sh) := e2
    obtain ⟨k', rfl⟩ : ∃ k', k = k' + 1 := ⟨k - 1, by omega⟩
    rw [qLb_pushAway_L2, if_neg (show ¬ (1000 : Int32) ≤ nI t from nI_ge (a := t) (b := 1000) (by omega) (by omega)), e1', qob_bind]
    unfold qp_pu at hend ⊢
    cases hp : qp_push1 n f w sh (qp_ords n f) with
    | none => rw [hp] at e2'; exact ⟨σ1, rfl, e2'⟩
    | some x' =>
      rw [hp] at hend e2'
      dsimp only at hend ⊢
      rw [if_neg (show ¬ qb (some x').isSome = 0 from (by decide : ¬ qb true = 0)), nI_1]
      rw [nI_1] at hend
      exact ih k' (t + 1) σ1 x' (by omega) (by omega) e2' hend
theorem qLb_pushAway_s (hok : qv_ok n f w) (hI : qr_Y n f w σ0 σ sh) : ∃ σ', qLb_pushAway σ = some ((qp_pu n f w n sh 0).2, σ') ∧ qr_Y n f w σ0 σ' (qp_pu n f w n sh 0).1 := by
  have hn := hok.1
  have hlen := qp_ords_len n (fun p hp => (hok.2.1 p hp).2.2.2.2.1)
  exact qLb_pushAway_L hok n qx_F 0 σ sh (by rw [qF_big]; omega) (by omega) hI (qp_pu_ends hlen n 0 sh 0 (by omega) (fun j q hj => by omega))
-- hidden
theorem qJ_fill_L (v : Int32) : ∀ (k q : Nat) (σ : QS), q ≤ 20 → 20 < k + q → ∃ σ', qJ_fill_L5 v 20 k σ (nI q) = some σ' ∧ qs_only [12] σ σ' ∧ ∀ i, σ'.1 12 i = if q ≤ i ∧ i < 20 then v else σ.1 12 i := by
  intro k
  induction k with
  | zero => intro q σ h1 h2; omega
  | succ k ih =>
    intro q σ h1 h2
    rw [qJ_fill_L5]
    rcases Nat.lt_or_ge q 20 with hq | hq
    · rw [if_neg (show ¬ (20 : Int32) ≤ nI q from nI_ge (b := 20) hq (by omega)), qo_in (by omega) (by decide), nI_clamp (by omega), nI_1]
      obtain ⟨σ', e1, e2, e3⟩ := ih (q + 1) (qx_up σ 12 q v) hq (by omega)
      refine ⟨σ', e1, (qs_only.up (S := [12]) (by decide) qs_only.rf).tr e2, fun i => ?_⟩
      rw [e3, qu_1]
      by_cases c : i = q
      · subst c; simp [hq]
      · by_cases c2 : q + 1 ≤ i ∧ i < 20
        · rw [if_pos c2, if_pos ⟨by omega, c2.2⟩]
        · rw [if_neg c2, if_neg (fun e => c e.2), if_neg (by omega)]
    · rw [if_pos (show (20 : Int32) ≤ nI q from nI_le (a := 20) (b := q) (by omega) (by omega))]
      exact ⟨σ, rfl, qs_only.rf, fun i => by rw [if_neg (by omega)]⟩
theorem qLb_hideEach_s (hn : n ≤ 20) (h : qr_C n f w sh σ) : ∃ σ', qLb_hideEach σ = some (nI (qp_cnt n (fun q => !decide (sh q = -1))), σ') ∧ qs_only [12] σ σ' ∧ qr_C n f w (fun _ => -1) σ' := by
  obtain ⟨σ', e1, e2, e3⟩ := qJ_fill_L (-1) qx_F 0 σ (by omega) (by rw [qF_big]; omega)
  have e1' : qJ_fill σ (-1) = some σ' := e1
  refine ⟨σ', ?_, e2, ?_, ?_, fun p hp => ?_⟩
  · unfold qLb_hideEach
    rw [qLb_manyShown_s hn h, qob_bind, e1', qob_bind]
  · rw [e2.1 1 (by decide)]; exact h.1
  · rw [e2.1 4 (by decide)]; exact h.2.1
  · obtain ⟨a0, a1, a2, a3, a4, a5, -⟩ := h.2.2 p hp
    rw [e2.1 2 (by decide), e3, if_pos ⟨by omega, by omega⟩]
    exact ⟨a0, a1, a2, a3, a4, a5, rfl⟩
theorem qLb_hideIfClashing_s (hn : n ≤ 20) (hI : qr_Y n f w σ0 σ sh) {p : Nat} (hp : p < n) : ∃ σ', qLb_hideIfClashing σ (nI p) = some σ' ∧ qr_Y n f w σ0 σ' (if sh p = -1 then sh else if qp_cnt n (qp_hit f sh p (sh p).toNatClampNeg) = 0 then sh else upd sh p (-1)) := by
  have e := (hI.2.1.2.2 p hp).2.2.2.2.2.2
  unfold qLb_hideIfClashing
  rw [qLb_isShown_s hn hI.2.1 hp, qob_bind, qo_in (by omega) (by decide), nI_clamp (by omega), e, qLb_hide_s (by omega), qob_bind]
  by_cases c : sh p = -1
  · rw [if_pos c, if_pos (by simp [c, qb])]
    exact ⟨σ, rfl, hI⟩
  · rcases hI.2.2.2 p hp with h1 | ⟨s, hs, h1, hpl⟩
    · exact absurd h1 c
    · have hcl := qp_cnt_le n (qp_hit f sh p s)
      rw [if_neg c, if_neg (by simp [c, qb]), h1, nI_clamp (by omega), qLb_clashing_s hn hI.2.2.2 hI.2.1 hI.2.2.1 hp hs, qob_bind, qp_cnt_pl hpl]
      by_cases c2 : qp_cnt n (qp_hit f sh p s) = 0
      · rw [if_pos c2, c2, if_pos (by decide)]
        exact ⟨σ, rfl, hI⟩
      · rw [if_neg c2, if_neg (nI_nle (by omega) (by omega))]
        exact ⟨_, rfl, hI.up p (-1) (Or.inl rfl)⟩
end
