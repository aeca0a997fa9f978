/-! class and reference side by side -/
def qR_ln (σ τ : QS) : Prop := ∃ k, k ≤ 20 ∧ σ.1 16 0 = nI k ∧ τ.1 0 11 = nI k ∧ ∀ i, i < 4 * k → σ.1 17 i = τ.1 6 i
def qR_tx (σ τ : QS) : Prop := ∃ t, t ≤ 80 ∧ σ.1 19 0 = nI t ∧ τ.1 0 14 = nI t ∧ ∀ i, i < t → σ.1 20 i = τ.1 8 i ∧ 0 ≤ (τ.1 8 i).toInt ∧ (τ.1 8 i).toInt ≤ 127
def qR_x (σ τ : QS) : Prop := qR_ln σ τ ∧ qR_tx σ τ
/-- both hold one map -/
def qR (σ τ : QS) : Prop := ∃ (n : Nat) (f : Nat → Nat → Int32) (w sh : Nat → Int32), qv_ok n f w ∧ qv_at n f w sh ∧ (qr_C n f w sh σ ∧ qr_K n f w σ) ∧ qr_M n f w sh τ ∧ qR_x σ τ
theorem qR_x.mv {σ σ' τ τ' : QS} (h : qR_x σ τ) (c16 : σ'.1 16 = σ.1 16) (c17 : σ'.1 17 = σ.1 17) (c19 : σ'.1 19 = σ.1 19) (c20 : σ'.1 20 = σ.1 20) (m11 : τ'.1 0 11 = τ.1 0 11) (m14 : τ'.1 0 14 = τ.1 0 14) (m6 : τ'.1 6 = τ.1 6) (m8 : τ'.1 8 = τ.1 8) : qR_x σ' τ' := by
  unfold qR_x qR_ln qR_tx at *
  rw [c16, c17, c19, c20, m11, m14, m6, m8]
  exact h
theorem qR_x.off {S T : List Nat} {σ σ' τ τ' : QS} (h : qR_x σ τ) (hs : qs_only S σ σ') (ht : qs_only T τ τ') (h1 : 16 ∉ S) (h2 : 17 ∉ S) (h3 : 19 ∉ S) (h4 : 20 ∉ S) (t1 : 0 ∉ T) (t2 : 6 ∉ T) (t3 : 8 ∉ T) : qR_x σ' τ' :=
  h.mv (hs.1 16 h1) (hs.1 17 h2) (hs.1 19 h3) (hs.1 20 h4) (by rw [ht.1 0 t1]) (by rw [ht.1 0 t1]) (ht.1 6 t2) (ht.1 8 t3)
def qp_rng (lo hi : Int) (x : Int32) : Bool := decide (lo ≤ x.toInt) && decide (x.toInt ≤ hi)
def qp_has (n : Nat) (x : Int32) : Bool := decide (0 ≤ x.toInt) && decide (x.toInt < n)
theorem qb_ne : ¬ qb true = 0 := by decide
theorem qp_hasE {n : Nat} {x : Int32} (h : qp_has n x = true) : ∃ p, p < n ∧ x = nI p := by
  simp [qp_has] at h
  obtain ⟨j, hj, rfl⟩ := nI_of (x := x) (by rw [qi_lt]; have : (0 : Int32).toInt = 0 := by decide
                                            omega)
  rw [nI_toInt hj] at h
  exact ⟨j, by omega, rfl⟩
section
variable {n : Nat} {f : Nat → Nat → Int32} {w sh : Nat → Int32} {τ σ σ0 : QS}
theorem qM_in_r (x : Int32) (a b : Int64) (lo hi : Int) (h1 : a.toInt = lo) (h2 : b.toInt = hi) : qM_in τ x.toInt64 a b = some (qb (qp_rng lo hi x)) := by
  rw [qM_in_s, qi_l, h1, h2]
  rfl
theorem qPt_has_s (hn : n ≤ 20) (h : σ.1 1 0 = nI n) (x : Int32) : qPt_has σ x = some (qb (qp_has n x)) := by
  unfold qPt_has qp_has
  rw [h]
  have z : (0 : Int32).toInt = 0 := by decide
  simp only [qi_lt, qi_le, z, nI_toInt (show n < 2 ^ 31 by omega)]
  by_cases c1 : x.toInt < 0
  · simp [c1, qb, show ¬ 0 ≤ x.toInt by omega]
  · by_cases c2 : (n : Int) ≤ x.toInt
    · simp [c1, c2, qb, show ¬ x.toInt < n by omega]
    · simp [c1, c2, qb, show 0 ≤ x.toInt by omega, show x.toInt < n by omega]
theorem qM_isPoint_s (hn : n ≤ 20) (h : τ.1 0 1 = nI n) (x : Int32) : qM_isPoint τ x = some (qb (qp_has n x)) := by
  unfold qM_isPoint qp_has
  have k1 : (1 : Int32).toInt = 1 := by decide
  have z : (0 : Int64).toInt = 0 := by decide
  have e : (nI n - 1).toInt = n - 1 := by rw [qi_sub (by rw [nI_toInt (by omega), k1]; omega) (by rw [nI_toInt (by omega), k1]; omega), nI_toInt (by omega), k1]
  rw [h, qM_in_s, qob_bind, qb_and1, qi_l, qi_l, e, z]
  congr 2
  rw [Bool.eq_iff_iff]
  simp only [Bool.and_eq_true, decide_eq_true_eq]
  omega
theorem qLP_isSide_s (x : Int32) : qLP_isSide σ x = some (qb (qp_has 8 x)) := by
  unfold qLP_isSide qp_has
  have z : (0 : Int32).toInt = 0 := by decide
  have e : (8 : Int32).toInt = 8 := by decide
  simp only [qi_lt, qi_le, z, e]
  by_cases c1 : x.toInt < 0
  · simp [c1, qb, show ¬ 0 ≤ x.toInt by omega]
  · by_cases c2 : 8 ≤ x.toInt
    · simp [c1, c2, qb, show ¬ x.toInt < 8 by omega]
    · simp [c1, c2, qb, show 0 ≤ x.toInt by omega, show x.toInt < 8 by omega]
theorem qM_isSide_s (x : Int32) : qM_isSide τ x = some (qb (qp_has 8 x)) := by
  unfold qM_isSide qp_has
  rw [qM_in_s, qob_bind, qb_and1, qi_l, show (0 : Int64).toInt = 0 by decide, show (7 : Int64).toInt = 7 by decide]
  congr 2
  rw [Bool.eq_iff_iff]
  simp only [Bool.and_eq_true, decide_eq_true_eq]
  omega
theorem qr_Y.of (hC : qr_C n f w sh σ) (hK : qr_K n f w σ) (hat : qv_at n f w sh) : qr_Y n f w σ σ sh := ⟨qs_only.rf, hC, hK, hat⟩
theorem qO_fill (h : qR σ τ) : ∃ r σ' τ', qLP_fill σ = some (r, σ') ∧ qM_fill τ = some (r, τ') ∧ qR σ' τ' := by
  obtain ⟨n, f, w, sh, hok, hat, ⟨hC, hK⟩, hM, hx⟩ := h
  obtain ⟨σ', e1, Y⟩ := qLb_addFree_s hok (qr_Y.of hC hK hat)
  obtain ⟨τ', e2, o2, M2, A2⟩ := qM_fill_s hok hat hM
  exact ⟨_, σ', τ', by unfold qLP_fill; rw [e1]; rfl, e2, n, f, w, _, hok, A2, ⟨Y.2.1, Y.2.2.1⟩, M2, hx.off Y.1 o2 (by decide) (by decide) (by decide) (by decide) (by decide) (by decide) (by decide)⟩
theorem qO_improve (h : qR σ τ) : ∃ r σ' τ', qLP_improve σ = some (r, σ') ∧ qM_improve τ = some (r, τ') ∧ qR σ' τ' := by
  obtain ⟨n, f, w, sh, hok, hat, ⟨hC, hK⟩, hM, hx⟩ := h
  obtain ⟨σ', e1, Y⟩ := qLb_makeRoom_s hok (qr_Y.of hC hK hat)
  obtain ⟨τ', e2, o2, M2, A2⟩ := qM_improve_s hok hat hM
  exact ⟨_, σ', τ', by unfold qLP_improve; rw [e1]; rfl, e2, n, f, w, _, hok, A2, ⟨Y.2.1, Y.2.2.1⟩, M2, hx.off Y.1 o2 (by decide) (by decide) (by decide) (by decide) (by decide) (by decide) (by decide)⟩
theorem qO_push (h : qR σ τ) : ∃ r σ' τ', qLP_push σ = some (r, σ') ∧ qM_push τ = some (r, τ') ∧ qR σ' τ' := by
  obtain ⟨n, f, w, sh, hok, hat, ⟨hC, hK⟩, hM, hx⟩ := h
  obtain ⟨σ', e1, Y⟩ := qLb_pushAway_s hok (qr_Y.of hC hK hat)
  obtain ⟨τ', e2, o2, M2, A2⟩ := qM_push_s hok hat hM
  exact ⟨_, σ', τ', by unfold qLP_push; rw [e1]; rfl, e2, n, f, w, _, hok, A2, ⟨Y.2.1, Y.2.2.1⟩, M2, hx.off Y.1 o2 (by decide) (by decide) (by decide) (by decide) (by decide) (by decide) (by decide)⟩
theorem qO_hideAll (h : qR σ τ) : ∃ r σ' τ', qLP_hideAll σ = some (r, σ') ∧ qM_hideAll τ = some (r, τ') ∧ qR σ' τ' := by
  obtain ⟨n, f, w, sh, hok, hat, ⟨hC, hK⟩, hM, hx⟩ := h
  obtain ⟨σ', e1, o1, C1⟩ := qLb_hideEach_s hok.1 hC
  obtain ⟨τ', e2, o2, M2⟩ := qM_hideAll_s hok.1 hM
  exact ⟨_, σ', τ', by unfold qLP_hideAll; rw [e1]; rfl, e2, n, f, w, _, hok, fun p hp => Or.inl rfl, ⟨C1, hK.off o1 (by decide) (by decide) (by decide) (by decide) (by decide) (by decide)⟩, M2, hx.off o1 o2 (by decide) (by decide) (by decide) (by decide) (by decide) (by decide) (by decide)⟩
/-- where places are found again, both still hold the map -/
theorem qR_finds (hok : qv_ok n f w) (hat : qv_at n f w sh) (hC : qr_C n f w sh σ) (hK : qr_K n f w σ) (hM : qr_M n f w sh τ) (hx : qR_x σ τ) : ∃ τ', qM_findsAll τ = some τ' ∧ qr_M n f w sh τ' ∧ qr_P n f w τ' ∧ qs_only [2] τ τ' ∧ qR σ τ' := by
  obtain ⟨τ', e1, o1, P1⟩ := qM_findsAll_s hok hM
  have M1 := hM.off o1 (by decide) (by decide)
  exact ⟨τ', e1, M1, P1, o1, n, f, w, sh, hok, hat, ⟨hC, hK⟩, M1, hx.off (S := []) qs_only.rf o1 (by decide) (by decide) (by decide) (by decide) (by decide) (by decide) (by decide)⟩
theorem qO_show (h : qR σ τ) (x y : Int32) : ∃ r σ' τ', qLP_show σ x y = some (r, σ') ∧ qM_show τ x y = some (r, τ') ∧ qR σ' τ' := by
  have h0 := h
  obtain ⟨n, f, w, sh, hok, hat, ⟨hC, hK⟩, hM, hx⟩ := h
  have hn := hok.1
  unfold qLP_show qM_show
  rw [qPt_has_s hn hC.1, qob_bind, qM_isPoint_s hn hM.1, qob_bind, qLP_isSide_s, qob_bind, qM_isSide_s, qob_bind]
  cases hp : qp_has n x with
  | false => rw [if_pos qb_f, if_pos qb_f]; exact ⟨_, σ, τ, rfl, rfl, h0⟩
  | true =>
    obtain ⟨p, hpn, rfl⟩ := qp_hasE hp
    obtain ⟨τ1, e1, M1, P1, o1, R1⟩ := qR_finds hok hat hC hK hM hx
    have e6 := (M1.2.2 p hpn).2.2.2.2.2.2
    simp only [if_neg qb_ne]
    unfold qLP_show_J26 qM_show_J23 qM_show_J59
    rw [qLb_sideOf_s hn hC hpn, qob_bind, e1, qob_bind, qn_a120, qo_in (by omega) (by decide), nI_clamp (by omega), e6, qo_in (by omega) (by decide)]
    have set : ∀ v : Int32, (v = -1 ∨ ∃ s, s < 8 ∧ v = nI s ∧ qp_pl n f w p s = true) → qR (qx_up σ 12 p v) (qx_up τ1 1 (120 + p) v) := by
      intro v hv
      have o : qs_only [12] σ (qx_up σ 12 p v) := qs_only.up (S := [12]) (by decide) qs_only.rf
      have o' : qs_only [1, 2] τ (qx_up τ1 1 (120 + p) v) := qs_only.up (S := [1, 2]) (by decide) (o1.wide (by decide))
      exact ⟨n, f, w, _, hok, hat.up p v hv, ⟨hC.up p v, hK.off o (by decide) (by decide) (by decide) (by decide) (by decide) (by decide)⟩, M1.up hn (by omega) v, hx.off o o' (by decide) (by decide) (by decide) (by decide) (by decide) (by decide) (by decide)⟩
    by_cases cy : y = -1
    · simp only [if_pos cy]
      rw [qLb_hide_s (by omega), qob_bind, cy]
      exact ⟨_, _, _, rfl, rfl, set (-1) (Or.inl rfl)⟩
    · simp only [if_neg cy]
      cases hs : qp_has 8 y with
      | false => rw [if_pos qb_f, if_pos qb_f]; exact ⟨_, σ, τ, rfl, rfl, h0⟩
      | true =>
        obtain ⟨s, hs8, rfl⟩ := qp_hasE hs
        have hcl := qp_cnt_le n (qp_hit f sh p s)
        simp only [if_neg qb_ne]
        rw [qLb_isFree_s hn hat hC hK hpn hs8, qob_bind, qn_8', qo_in (by omega) (by decide), nI_clamp (by omega), P1 p hpn s hs8, qM_clashes_s hok hat.sh M1 hpn hs8, qob_bind, qLb_put_s (by omega), qob_bind]
        unfold qp_free
        cases hpl : qp_pl n f w p s with
        | false =>
          rw [if_pos qb_f, if_pos (by rfl)]
          exact ⟨_, σ, τ1, rfl, rfl, R1⟩
        | true =>
          rw [if_neg qb_ne, Bool.true_and]
          by_cases c : qp_cnt n (qp_hit f sh p s) = 0
          · rw [decide_eq_true c, if_neg (by decide), c, if_pos (by decide)]
            exact ⟨_, _, _, rfl, rfl, set (nI s) (Or.inr ⟨s, hs8, rfl, hpl⟩)⟩
          · rw [decide_eq_false c, if_pos qb_f, if_neg (nI_nle (by omega) (by omega))]
            exact ⟨_, σ, τ1, rfl, rfl, R1⟩
theorem q9 {x : Nat} (h : x < 9) : x = 0 ∨ x = 1 ∨ x = 2 ∨ x = 3 ∨ x = 4 ∨ x = 5 ∨ x = 6 ∨ x = 7 ∨ x = 8 := by omega
theorem qLP_point_s (hok : qv_ok n f w) (hC : qr_C n f w sh σ) (hK : qr_K n f w σ) {p x : Nat} (hp : p < n) (hx : x < 9) : qLP_point σ (nI p) (nI x) = some (qp_part n f w sh p x) := by
  have hn := hok.1
  have hh : qp_has n (nI p) = true := by simp [qp_has, nI_toInt (show p < 2 ^ 31 by omega), hp]
  unfold qLP_point
  rw [qPt_has_s hn hC.1, qob_bind, hh, if_neg (by decide)]
  rcases q9 hx with rfl | rfl | rfl | rfl | rfl | rfl | rfl | rfl | rfl
  · rw [if_pos (by decide), qPt_get_s hn hC hp (by omega)]; rfl
  · rw [if_neg (by decide), if_pos (by decide), qPt_get_s hn hC hp (by omega)]; rfl
  · rw [if_neg (by decide), if_neg (by decide), if_pos (by decide), qPt_get_s hn hC hp (by omega)]; rfl
  · rw [if_neg (by decide), if_neg (by decide), if_neg (by decide), if_pos (by decide), qPt_get_s hn hC hp (by omega)]; rfl
  · rw [if_neg (by decide), if_neg (by decide), if_neg (by decide), if_neg (by decide), if_pos (by decide), qPt_get_s hn hC hp (by omega)]; rfl
  · rw [if_neg (by decide), if_neg (by decide), if_neg (by decide), if_neg (by decide), if_neg (by decide), if_pos (by decide), qPt_get_s hn hC hp (by omega)]; rfl
  · rw [if_neg (by decide), if_neg (by decide), if_neg (by decide), if_neg (by decide), if_neg (by decide), if_neg (by decide), if_pos (by decide), qPl_isVisible_s hn hC hp, qob_bind]
    unfold qp_part
    cases qp_vis f w p <;> rfl
  · rw [if_neg (by decide), if_neg (by decide), if_neg (by decide), if_neg (by decide), if_neg (by decide), if_neg (by decide), if_neg (by decide), if_pos (by decide), qLb_sideOf_s hn hC hp]; rfl
  · rw [if_neg (by decide), if_neg (by decide), if_neg (by decide), if_neg (by decide), if_neg (by decide), if_neg (by decide), if_neg (by decide), if_neg (by decide), if_pos (by decide), qPl_manyOf_s hn hK hp]; rfl
theorem qp_rng_has (k : Nat) (x : Int32) : qp_rng 0 (k : Int) x = qp_has (k + 1) x := by
  unfold qp_rng qp_has
  rw [Bool.eq_iff_iff]
  simp only [Bool.and_eq_true, decide_eq_true_eq]
  omega
theorem qp_hasN {k : Nat} {x : Int32} (h : qp_has k x = false) (j : Nat) (hj : j < k) (hj2 : j < 2 ^ 31) : ¬ x = nI j := by
  intro e
  rw [e] at h
  simp [qp_has, nI_toInt hj2] at h
  omega
theorem qO_point (h : qR σ τ) (x y : Int32) : ∃ r τ', qLP_point σ x y = some r ∧ qM_point τ x y = some (r, τ') ∧ qR σ τ' := by
  have h0 := h
  obtain ⟨n, f, w, sh, hok, hat, ⟨hC, hK⟩, hM, hx⟩ := h
  have hn := hok.1
  unfold qM_point
  rw [qM_isPoint_s hn hM.1, qob_bind, qM_in_r y 0 8 0 8 (by decide) (by decide), qob_bind, show (8 : Int) = ((8 : Nat) : Int) from rfl, qp_rng_has]
  cases hp : qp_has n x with
  | false =>
    rw [if_pos qb_f]
    refine ⟨-2, τ, ?_, rfl, h0⟩
    unfold qLP_point
    rw [qPt_has_s hn hC.1, qob_bind, hp, if_pos qb_f]
  | true =>
    obtain ⟨p, hpn, rfl⟩ := qp_hasE hp
    rw [if_neg (by decide)]
    cases hy : qp_has (8 + 1) y with
    | false =>
      rw [if_pos qb_f]
      refine ⟨-2, τ, ?_, rfl, h0⟩
      have ne := fun j hj => qp_hasN hy j hj (by omega)
      unfold qLP_point
      rw [qPt_has_s hn hC.1, qob_bind, hp, if_neg (by decide), if_neg (show ¬ y = 0 from ne 0 (by omega)), if_neg (show ¬ y = 1 from ne 1 (by omega)), if_neg (show ¬ y = 2 from ne 2 (by omega)), if_neg (show ¬ y = 3 from ne 3 (by omega)), if_neg (show ¬ y = 4 from ne 4 (by omega)), if_neg (show ¬ y = 5 from ne 5 (by omega)), if_neg (show ¬ y = 6 from ne 6 (by omega)), if_neg (show ¬ y = 7 from ne 7 (by omega)), if_neg (show ¬ y = 8 from ne 8 (by omega))]
    | true =>
      obtain ⟨v, hv, rfl⟩ := qp_hasE hy
      obtain ⟨τ1, e1, M1, P1, o1, R1⟩ := qR_finds hok hat hC hK hM hx
      rw [if_neg (by decide), e1, qob_bind, qM_part_s hok M1 P1 hpn (by omega), qob_bind]
      exact ⟨_, τ1, qLP_point_s hok hC hK hpn (by omega), rfl, R1⟩
theorem qO_labelAt (h : qR σ τ) (x y : Int32) (ha : ∀ v, qPt_allows σ 0 v = some (qb (qp_rng 0 199 v)) ∧ qPt_allows σ 1 v = some (qb (qp_rng 0 199 v))) : ∃ r, qLP_labelAt σ x y = some r ∧ qM_labelAt τ x y = some r := by
  obtain ⟨n, f, w, sh, hok, hat, ⟨hC, hK⟩, hM, hx⟩ := h
  unfold qLP_labelAt qM_labelAt
  rw [(ha x).1, qob_bind, (ha y).2, qob_bind, qM_in_r x 0 199 0 199 (by decide) (by decide), qob_bind, qM_in_r y 0 199 0 199 (by decide) (by decide), qob_bind, qLb_ownerOf_s hok hat.sh hC hK, qob_bind, qM_labelAt_L hok hat.sh hM]
  cases qp_rng 0 199 x with
  | false => exact ⟨-2, rfl, rfl⟩
  | true =>
    cases qp_rng 0 199 y with
    | false => exact ⟨-2, rfl, rfl⟩
    | true => exact ⟨_, rfl, rfl⟩
end
