/-! points changed and removed, side by side -/
def qf_set (f : Nat → Nat → Int32) (p k : Nat) (v : Int32) (j q : Nat) : Int32 := if j = k ∧ q = p then v else f j q
def qf_del (f : Nat → Nat → Int32) (p j q : Nat) : Int32 := if q < p then f j q else f j (q + 1)
def qs_del (sh : Nat → Int32) (p q : Nat) : Int32 := if q < p then sh q else sh (q + 1)
def qp_alw (k : Nat) (v : Int32) : Bool := if k = 2 then qp_rng 1 20 v else if k = 3 then qp_rng 1 6 v else if k = 4 then qp_rng 1 9 v else qp_rng 1 255 v
section
variable {n : Nat} {f : Nat → Nat → Int32} {w sh : Nat → Int32} {τ σ σ0 : QS}
theorem qr_C.setp (h : qr_C n f w sh σ) {p k : Nat} (hk : k < 6) (v : Int32) : qr_C n (qf_set f p k v) w sh (qx_up σ 2 (6 * p + k) v) := by
  have comp : ∀ j, j < 6 → ∀ q, σ.1 2 (6 * q + j) = f j q → (qx_up σ 2 (6 * p + k) v).1 2 (6 * q + j) = qf_set f p k v j q := by
    intro j hj q old
    rw [qu_1]
    unfold qf_set
    by_cases e : j = k ∧ q = p
    · rw [if_pos e, if_pos ⟨rfl, by omega⟩]
    · rw [if_neg e, if_neg (by omega)]; exact old
  refine ⟨?_, ?_, fun q hq => ?_⟩
  · rw [qu_1]; simpa using h.1
  · simp only [qu_1]; simpa using h.2.1
  · obtain ⟨a0, a1, a2, a3, a4, a5, a6⟩ := h.2.2 q hq
    exact ⟨comp 0 (by omega) q a0, comp 1 (by omega) q a1, comp 2 (by omega) q a2, comp 3 (by omega) q a3, comp 4 (by omega) q a4, comp 5 (by omega) q a5, by rw [qu_1]; simpa using a6⟩
theorem qr_M.setp (hn : n ≤ 20) (h : qr_M n f w sh τ) {p k : Nat} (hp : p < n) (hk : k < 6) (v : Int32) : qr_M n (qf_set f p k v) w sh (qx_up τ 1 (20 * k + p) v) := by
  have comp : ∀ j, j < 6 → ∀ q, q < n → τ.1 1 (20 * j + q) = f j q → (qx_up τ 1 (20 * k + p) v).1 1 (20 * j + q) = qf_set f p k v j q := by
    intro j hj q hq old
    rw [qu_1]
    unfold qf_set
    by_cases e : j = k ∧ q = p
    · rw [if_pos e, if_pos ⟨rfl, by omega⟩]
    · rw [if_neg e, if_neg (by omega)]; exact old
  refine ⟨?_, ?_, fun q hq => ?_⟩
  · rw [qu_1]; simpa using h.1
  · simp only [qu_1]; simpa using h.2.1
  · obtain ⟨a0, a1, a2, a3, a4, a5, a6⟩ := h.2.2 q hq
    exact ⟨comp 0 (by omega) q hq a0, comp 1 (by omega) q hq a1, comp 2 (by omega) q hq a2, comp 3 (by omega) q hq a3, comp 4 (by omega) q hq a4, comp 5 (by omega) q hq a5, by rw [qu_1, if_neg (by omega)]; exact a6⟩
theorem qv_ok.setp (h : qv_ok n f w) {p k : Nat} {v : Int32} (hk2 : 2 ≤ k) (hk5 : k ≤ 5) (hv : qp_alw k v = true) : qv_ok n (qf_set f p k v) w := by
  refine ⟨h.1, fun q hq => ?_, h.2.2⟩
  obtain ⟨a0, a1, a2, a3, a4, a5⟩ := h.2.1 q hq
  unfold qv_pt qf_set
  have hk : k = 2 ∨ k = 3 ∨ k = 4 ∨ k = 5 := by omega
  by_cases e : q = p
  · subst e
    rcases hk with rfl | rfl | rfl | rfl
    · exact ⟨a0, a1, by simpa using qp_rngE hv, a3, a4, a5⟩
    · exact ⟨a0, a1, a2, by simpa using qp_rngE hv, a4, a5⟩
    · exact ⟨a0, a1, a2, a3, by simpa using qp_rngE hv, a5⟩
    · exact ⟨a0, a1, a2, a3, a4, by simpa using qp_rngE hv⟩
  · simp only [e, and_false, if_false]
    exact ⟨a0, a1, a2, a3, a4, a5⟩
theorem qO_setPoint (h : qR σ τ) (x y v : Int32) : ∃ r σ' τ', qLP_setPoint σ x y v = some (r, σ') ∧ qM_setPoint τ x y v = some (r, τ') ∧ qR σ' τ' := by
  have h0 := h
  obtain ⟨n, f, w, sh, hok, hat, ⟨hC, hK⟩, hM, hx⟩ := h
  have hn := hok.1
  have z2 : (2 : Int32).toInt = 2 := by decide
  have z5 : (5 : Int32).toInt = 5 := by decide
  unfold qM_setPoint
  rw [qM_isPoint_s hn hM.1]
  simp only [qob_bind]
  have J0 : qLP_setPoint_J15 σ x y v 0 = some (-2, σ) := by
    unfold qLP_setPoint_J15
    rw [qPt_has_s hn hC.1, qob_bind]
    cases qp_has n x <;> rfl
  cases hp : qp_has n x with
  | false =>
    rw [if_pos qb_f]
    refine ⟨-2, σ, τ, ?_, rfl, h0⟩
    have J1 : qLP_setPoint_J15 σ x y v 1 = some (-2, σ) := by
      unfold qLP_setPoint_J15
      rw [qPt_has_s hn hC.1, qob_bind, hp]
      rfl
    unfold qLP_setPoint
    rw [J0, J1]
    split
    · rfl
    · split <;> rfl
  | true =>
    obtain ⟨p, hpn, rfl⟩ := qp_hasE hp
    rw [if_neg qb_ne]
    by_cases hy : 2 ≤ y.toInt ∧ y.toInt ≤ 5
    · obtain ⟨k, hk, rfl⟩ := nI_of (x := y) (by rw [qi_lt]; have : (0 : Int32).toInt = 0 := by decide
                                                omega)
      rw [nI_toInt hk] at hy
      have hk2 : 2 ≤ k := by omega
      have hk5 : k ≤ 5 := by omega
      have ea : qPt_allows σ (nI k) v = some (qb (qp_alw k v)) := by
        rcases (show k = 2 ∨ k = 3 ∨ k = 4 ∨ k = 5 by omega) with rfl | rfl | rfl | rfl
        · exact qPt_al2 v
        · exact qPt_al3 v
        · exact qPt_al4 v
        · exact qPt_al5 v
      have eb : qM_isProperty τ (nI k) v = some (qb (qp_alw k v)) := by
        rcases (show k = 2 ∨ k = 3 ∨ k = 4 ∨ k = 5 by omega) with rfl | rfl | rfl | rfl
        · exact qM_prop2 v
        · exact qM_prop3 v
        · exact qM_prop4 v
        · exact qM_prop5 v
      have ek : (20 : Int32) * nI k + nI p = nI (20 * k + p) := by rw [show (20 : Int32) = nI 20 from rfl, pk_mul, nI_add]
      have eold : τ.1 1 (20 * k + p) = f k p := by
        obtain ⟨a0, a1, a2, a3, a4, a5, a6⟩ := hM.2.2 p hpn
        rcases (show k = 2 ∨ k = 3 ∨ k = 4 ∨ k = 5 by omega) with rfl | rfl | rfl | rfl
        · exact a2
        · exact a3
        · exact a4
        · exact a5
      unfold qLP_setPoint
      rw [if_neg (show ¬ nI k < 2 from nI_nlt (b := 2) hk2 (by omega)), if_neg (show ¬ (5 : Int32) < nI k from nI_nlt (a := 5) (b := k) hk5 (by omega))]
      unfold qLP_setPoint_J15
      rw [qPt_has_s hn hC.1, ea, eb]
      simp only [qob_bind]
      rw [hp, if_neg qb_ne, if_neg (show ¬ (1 : Int32) = 0 by decide)]
      cases hv : qp_alw k v with
      | false => exact ⟨-2, σ, τ, rfl, rfl, h0⟩
      | true =>
        simp only [if_neg qb_ne]
        rw [qPt_get_s hn hC hpn (by omega), qPt_put_s (by omega) (by omega)]
        simp only [qob_bind, ek, qo_in (show 20 * k + p < 140 by omega) (by decide), nI_clamp (show 20 * k + p < 2 ^ 31 by omega), eold]
        have hok' := hok.setp (p := p) hk2 hk5 hv
        obtain ⟨σ1, τ1, r, e1, e2, A1, CK, M2, P2, X2⟩ := qR_renew hok' hat.sh (hC.setp (p := p) (k := k) (by omega) v) (hM.setp hn hpn (by omega) v) (hx.mv (by rfl) (by rfl) (by rfl) (by rfl) (by simp [qu_1]) (by simp [qu_1]) (by rfl) (by rfl))
        rw [e1, e2]
        simp only [qob_bind]
        obtain ⟨σ2, g1, Y⟩ := qLb_hideIfClashing_s hn (qr_Y.of CK.1 CK.2 A1) hpn
        have e6 := (M2.2.2 p hpn).2.2.2.2.2.2
        rw [g1]
        simp only [qob_bind, qn_a120, qo_in (show 120 + p < 140 by omega) (by decide), nI_clamp (show 120 + p < 2 ^ 31 by omega), e6]
        by_cases c : qp_set n (qf_set f p k v) w sh p = -1
        · rw [if_pos c] at Y ⊢
          exact ⟨_, σ2, τ1, rfl, rfl, n, _, w, _, hok', A1, ⟨Y.2.1, Y.2.2.1⟩, M2, X2.off Y.1 (T := []) qs_only.rf (by decide) (by decide) (by decide) (by decide) (by decide) (by decide) (by decide)⟩
        · rcases A1 p hpn with h1 | ⟨s, hs, h1, hpl⟩
          · exact absurd h1 c
          · have hcl := qp_cnt_le n (qp_hit (qf_set f p k v) (qp_set n (qf_set f p k v) w sh) p s)
            rw [if_neg c] at Y ⊢
            rw [h1, nI_clamp (by omega)] at Y
            rw [h1, qM_clashes_s hok' A1.sh M2 hpn hs]
            simp only [qob_bind]
            by_cases c2 : qp_cnt n (qp_hit (qf_set f p k v) (qp_set n (qf_set f p k v) w sh) p s) = 0
            · rw [if_pos c2] at Y
              rw [c2, if_pos (show nI 0 ≤ 0 by decide)]
              exact ⟨_, σ2, τ1, rfl, rfl, n, _, w, _, hok', A1, ⟨Y.2.1, Y.2.2.1⟩, M2, X2.off Y.1 (T := []) qs_only.rf (by decide) (by decide) (by decide) (by decide) (by decide) (by decide) (by decide)⟩
            · rw [if_neg c2] at Y
              rw [if_neg (nI_nle (by omega) (by omega))]
              exact ⟨_, σ2, _, rfl, rfl, n, _, w, _, hok', Y.2.2.2, ⟨Y.2.1, Y.2.2.1⟩, M2.up hn (by omega) (-1), X2.off Y.1 (qs_only.up (S := [1]) (by decide) qs_only.rf) (by decide) (by decide) (by decide) (by decide) (by decide) (by decide) (by decide)⟩
    · have eb : qM_isProperty τ y v = some 0 := by
        unfold qM_isProperty
        have ne : ∀ k : Int32, 2 ≤ k.toInt → k.toInt ≤ 5 → ¬ y = k := fun k h1 h2 e => hy (by rw [e]; exact ⟨h1, h2⟩)
        rw [if_neg (ne 2 (by decide) (by decide)), if_neg (ne 3 (by decide) (by decide)), if_neg (ne 4 (by decide) (by decide)), if_neg (ne 5 (by decide) (by decide))]
      rw [eb]
      simp only [qob_bind]
      refine ⟨-2, σ, τ, ?_, rfl, h0⟩
      unfold qLP_setPoint
      rw [J0]
      by_cases c : y < 2
      · rw [if_pos c]
      · rw [if_neg c, if_pos]
        rw [qi_lt] at *
        omega
-- removed
theorem qLb_closeGap_L (hn : n ≤ 20) {p : Nat} (sh : Nat → Int32) : ∀ (k q : Nat) (σ : QS), p + 1 ≤ q → q ≤ n → n < k + q → σ.1 1 0 = nI n → (∀ i, i < n → σ.1 12 i = if p ≤ i ∧ i + 1 < q then sh (i + 1) else sh i) →
    ∃ σ', qLb_closeGap_L4 k σ (nI q) = some σ' ∧ qs_only [12] σ σ' ∧ ∀ i, i + 1 < n → σ'.1 12 i = qs_del sh p i := by
  intro k
  induction k with
  | zero => intro q σ h1 h2 h3; omega
  | succ k ih =>
    intro q σ h1 h2 h3 hm hv
    rw [qLb_closeGap_L4, hm]
    rcases Nat.lt_or_ge q n with hq | hq
    · have e : nI q - 1 = nI (q - 1) := by
        have := nI_pred (q - 1)
        rwa [show q - 1 + 1 = q by omega] at this
      rw [if_neg (nI_ge hq (by omega)), e, qo_in (by omega) (by decide), qo_in (by omega) (by decide), nI_clamp (by omega), nI_clamp (by omega), nI_1]
      have ho : qs_only [12] σ (qx_up σ 12 (q - 1) (σ.1 12 q)) := qs_only.up (S := [12]) (by decide) qs_only.rf
      obtain ⟨σ', e1, e2, e3⟩ := ih (q + 1) (qx_up σ 12 (q - 1) (σ.1 12 q)) (by omega) hq (by omega) (by rw [ho.1 1 (by decide)]; exact hm) (fun i hi => by
        rw [qu_1]
        by_cases c : i = q - 1
        · rw [if_pos ⟨rfl, c⟩, hv q hq, if_neg (by omega), if_pos (by omega), show i + 1 = q by omega]
        · rw [if_neg (fun e => c e.2), hv i hi]
          by_cases c2 : p ≤ i ∧ i + 1 < q
          · rw [if_pos c2, if_pos (by omega)]
          · rw [if_neg c2, if_neg (by omega)])
      exact ⟨σ', e1, ho.tr e2, e3⟩
    · rw [if_pos (nI_le (by omega) (by omega))]
      refine ⟨σ, rfl, qs_only.rf, fun i hi => ?_⟩
      rw [hv i (by omega)]
      unfold qs_del
      by_cases c : i < p
      · rw [if_pos c, if_neg (by omega)]
      · rw [if_neg c, if_pos (by omega)]
theorem qPt_closeGap_L (hn : n ≤ 20) {p : Nat} (g : Nat → Int32) : ∀ (k q : Nat) (σ : QS), 6 * (p + 1) ≤ q → q ≤ 6 * n → 6 * n < k + q → σ.1 1 0 = nI n → (∀ i, i < 6 * n → σ.1 2 i = if 6 * p ≤ i ∧ i + 6 < q then g (i + 6) else g i) →
    ∃ σ', qPt_closeGap_L7 k σ (nI q) = some σ' ∧ qs_only [1, 2] σ σ' ∧ σ'.1 1 0 = nI n - 1 ∧ ∀ i, i + 6 < 6 * n → σ'.1 2 i = if i < 6 * p then g i else g (i + 6) := by
  intro k
  induction k with
  | zero => intro q σ h1 h2 h3; omega
  | succ k ih =>
    intro q σ h1 h2 h3 hm hv
    have e6 : nI n * 6 = nI (6 * n) := by rw [show (6 : Int32) = nI 6 from rfl, pk_mul, Nat.mul_comm]
    rw [qPt_closeGap_L7, hm, e6]
    rcases Nat.lt_or_ge q (6 * n) with hq | hq
    · have e : nI q - 6 = nI (q - 6) := pk_sub (b := 6) (by omega)
      rw [if_neg (nI_ge hq (by omega)), e, qo_in (by omega) (by decide), qo_in (by omega) (by decide), nI_clamp (by omega), nI_clamp (by omega), nI_1]
      have ho : qs_only [1, 2] σ (qx_up σ 2 (q - 6) (σ.1 2 q)) := qs_only.up (S := [1, 2]) (by decide) qs_only.rf
      obtain ⟨σ', e1, e2, e3, e4⟩ := ih (q + 1) (qx_up σ 2 (q - 6) (σ.1 2 q)) (by omega) hq (by omega) (by rw [qu_1]; simpa using hm) (fun i hi => by
        rw [qu_1]
        by_cases c : i = q - 6
        · rw [if_pos ⟨rfl, c⟩, hv q hq, if_neg (by omega), if_pos (by omega), show i + 6 = q by omega]
        · rw [if_neg (fun e => c e.2), hv i hi]
          by_cases c2 : 6 * p ≤ i ∧ i + 6 < q
          · rw [if_pos c2, if_pos (by omega)]
          · rw [if_neg c2, if_neg (by omega)])
      exact ⟨σ', e1, ho.tr e2, e3, e4⟩
    · rw [if_pos (nI_le (by omega) (by omega))]
      refine ⟨_, rfl, qs_only.up (by decide) qs_only.rf, by rw [qu_1]; simp, fun i hi => ?_⟩
      rw [qu_1, if_neg (by omega), hv i (by omega)]
      by_cases c : i < 6 * p
      · rw [if_pos c, if_neg (by omega)]
      · rw [if_neg c, if_pos (by omega)]
/-- the class's cells with one point less -/
theorem qC_remove (hok : qv_ok n f w) (h : qr_C n f w sh σ) {p : Nat} (hp : p < n) : ∃ σ1 σ2, qLb_closeGap σ (nI p) = some σ1 ∧ qPt_closeGap σ1 (nI p) = some σ2 ∧ qs_only [1, 2, 12] σ σ2 ∧ qr_C (n - 1) (qf_del f p) w (qs_del sh p) σ2 := by
  have hn := hok.1
  obtain ⟨σ1, e1, o1, v1⟩ := qLb_closeGap_L hn (p := p) sh qx_F (p + 1) σ (Nat.le_refl _) hp (by rw [qF_big]; omega) h.1 (fun i hi => by
    rw [if_neg (by omega)]; exact (h.2.2 i hi).2.2.2.2.2.2)
  obtain ⟨σ2, e2, o2, m2, v2⟩ := qPt_closeGap_L hn (p := p) (σ.1 2) qx_F (6 * (p + 1)) σ1 (Nat.le_refl _) (by omega) (by rw [qF_big]; omega) (by rw [o1.1 1 (by decide)]; exact h.1) (fun i hi => by
    rw [o1.1 2 (by decide), if_neg (by omega)])
  refine ⟨σ1, σ2, ?_, ?_, (o1.wide (by decide)).tr (o2.wide (by decide)), ?_, ?_, fun q hq => ?_⟩
  · unfold qLb_closeGap
    rw [nI_1]; exact e1
  · unfold qPt_closeGap
    rw [nI_1, show nI (p + 1) * 6 = nI (6 * (p + 1)) by rw [show (6 : Int32) = nI 6 from rfl, pk_mul, Nat.mul_comm]]
    exact e2
  · rw [m2]
    have := nI_pred (n - 1)
    rwa [show n - 1 + 1 = n by omega] at this
  · rw [o2.1 4 (by decide), o1.1 4 (by decide)]; exact h.2.1
  · have comp : ∀ j, j < 6 → (∀ q, q < n → σ.1 2 (6 * q + j) = f j q) → σ2.1 2 (6 * q + j) = qf_del f p j q := by
      intro j hj old
      rw [v2 (6 * q + j) (by omega)]
      unfold qf_del
      by_cases c : q < p
      · rw [if_pos c, if_pos (by omega), old q (by omega)]
      · rw [if_neg c, if_neg (by omega), show 6 * q + j + 6 = 6 * (q + 1) + j by omega, old (q + 1) (by omega)]
    refine ⟨comp 0 (by omega) (fun q hq => (h.2.2 q hq).1), comp 1 (by omega) (fun q hq => (h.2.2 q hq).2.1), comp 2 (by omega) (fun q hq => (h.2.2 q hq).2.2.1), comp 3 (by omega) (fun q hq => (h.2.2 q hq).2.2.2.1), comp 4 (by omega) (fun q hq => (h.2.2 q hq).2.2.2.2.1), comp 5 (by omega) (fun q hq => (h.2.2 q hq).2.2.2.2.2.1), ?_⟩
    rw [o2.1 12 (by decide), v1 q (by omega)]
theorem qM_remove_i {p m : Nat} (hm : m < 20) (hp : p ≤ m) (x : Int32) (K : QS → Int32 → Option (Int32 × QS)) (r : Nat) (hr : r ≤ 120) : ∀ (k q : Nat) (τ : QS) (g : Nat → Int32), p ≤ q → q ≤ m → m < k + q → τ.1 0 1 = nI m → (∀ i, i < 140 → τ.1 1 i = if r + p ≤ i ∧ i < r + q then g (i + 1) else g i) →
    ∃ τ', qM_removePoint_L32 x (nI r) K k τ (nI q) = K τ' (nI (r + 20)) ∧ qs_only [1] τ τ' ∧ ∀ i, i < 140 → τ'.1 1 i = if r + p ≤ i ∧ i < r + m then g (i + 1) else g i := by
  intro k
  induction k with
  | zero => intro q τ g h1 h2 h3; omega
  | succ k ih =>
    intro q τ g h1 h2 h3 hmany hv
    rw [qM_removePoint_L32, hmany]
    rcases Nat.lt_or_ge q m with hq | hq
    · rw [if_neg (nI_ge hq (by omega)), nI_add, nI_1, nI_1, qo_in (by omega) (by decide), qo_in (by omega) (by decide), nI_clamp (by omega), nI_clamp (by omega)]
      have ho : qs_only [1] τ (qx_up τ 1 (r + q) (τ.1 1 (r + q + 1))) := qs_only.up (S := [1]) (by decide) qs_only.rf
      obtain ⟨τ', e1, e2, e3⟩ := ih (q + 1) (qx_up τ 1 (r + q) (τ.1 1 (r + q + 1))) g (by omega) hq (by omega) (by rw [ho.1 0 (by decide)]; exact hmany) (fun i hi => by
        rw [qu_1]
        by_cases c : i = r + q
        · rw [if_pos ⟨rfl, c⟩, hv _ (by omega), if_neg (by omega), if_pos (by omega), c]
        · rw [if_neg (fun e => c e.2), hv i hi]
          by_cases c2 : r + p ≤ i ∧ i < r + q
          · rw [if_pos c2, if_pos (by omega)]
          · rw [if_neg c2, if_neg (by omega)])
      exact ⟨τ', e1, ho.tr e2, e3⟩
    · rw [if_pos (nI_le (by omega) (by omega)), show (20 : Int32) = nI 20 from rfl, nI_add]
      refine ⟨τ, rfl, qs_only.rf, fun i hi => ?_⟩
      rw [show m = q by omega]
      exact hv i hi
theorem qM_remove_o {p m : Nat} (hm : m < 20) (hp : p ≤ m) (g : Nat → Int32) : ∀ (k r : Nat) (τ : QS), r ≤ 7 → 7 < k + r → τ.1 0 1 = nI m → (∀ i, i < 140 → τ.1 1 i = if i / 20 < r ∧ p ≤ i % 20 ∧ i % 20 < m then g (i + 1) else g i) →
    ∃ τ', qM_removePoint_L23 (nI p) k τ (nI (20 * r)) = ((qM_settles τ').bind fun r1 => some (r1.1 0 1, r1)) ∧ qs_only [1] τ τ' ∧ ∀ i, i < 140 → τ'.1 1 i = if p ≤ i % 20 ∧ i % 20 < m then g (i + 1) else g i := by
  intro k
  induction k with
  | zero => intro r τ h1 h2; omega
  | succ k ih =>
    intro r τ h1 h2 hmany hv
    rw [qM_removePoint_L23]
    rcases Nat.lt_or_ge r 7 with hr | hr
    · obtain ⟨τ1, e1, o1, v1⟩ := qM_remove_i hm hp (nI p) (qM_removePoint_L23 (nI p) k) (20 * r) (by omega) qx_F p τ (τ.1 1) (Nat.le_refl _) hp (by rw [qF_big]; omega) hmany (fun i hi => by rw [if_neg (by omega)])
      rw [if_neg (show ¬ (140 : Int32) ≤ nI (20 * r) from nI_ge (b := 140) (by omega) (by omega)), e1, show 20 * r + 20 = 20 * (r + 1) by omega]
      obtain ⟨τ', g1, g2, g3⟩ := ih (r + 1) τ1 hr (by omega) (by rw [o1.1 0 (by decide)]; exact hmany) (fun i hi => by
        rw [v1 i hi]
        by_cases c : 20 * r + p ≤ i ∧ i < 20 * r + m
        · rw [if_pos c, hv (i + 1) (by omega), if_neg (by omega), if_pos (by omega)]
        · rw [if_neg c, hv i hi]
          by_cases c2 : i / 20 < r ∧ p ≤ i % 20 ∧ i % 20 < m
          · rw [if_pos c2, if_pos (by omega)]
          · rw [if_neg c2, if_neg (by omega)])
      exact ⟨τ', g1, o1.tr g2, g3⟩
    · rw [if_pos (show (140 : Int32) ≤ nI (20 * r) from nI_le (a := 140) (by omega) (by omega))]
      refine ⟨τ, rfl, qs_only.rf, fun i hi => ?_⟩
      rw [hv i hi]
      by_cases c : p ≤ i % 20 ∧ i % 20 < m
      · rw [if_pos c, if_pos (by omega)]
      · rw [if_neg c, if_neg (by omega)]
theorem qv_ok.del (h : qv_ok n f w) {p : Nat} (hp : p < n) : qv_ok (n - 1) (qf_del f p) w := by
  refine ⟨by have := h.1; omega, fun q hq => ?_, h.2.2⟩
  unfold qv_pt qf_del
  by_cases c : q < p
  · simp only [if_pos c]; exact h.2.1 q (by omega)
  · simp only [if_neg c]; exact h.2.1 (q + 1) (by omega)
theorem qO_removePoint (h : qR σ τ) (x : Int32) : ∃ r σ' τ', qLP_removePoint σ x = some (r, σ') ∧ qM_removePoint τ x = some (r, τ') ∧ qR σ' τ' := by
  have h0 := h
  obtain ⟨n, f, w, sh, hok, hat, ⟨hC, hK⟩, hM, hx⟩ := h
  have hn := hok.1
  unfold qLP_removePoint qM_removePoint
  rw [qPt_has_s hn hC.1, qM_isPoint_s hn hM.1]
  simp only [qob_bind]
  cases hp : qp_has n x with
  | false => exact ⟨-2, σ, τ, rfl, rfl, h0⟩
  | true =>
    obtain ⟨p, hpn, rfl⟩ := qp_hasE hp
    simp only [if_neg qb_ne]
    obtain ⟨σ1, σ2, e1, e2, o2, C2⟩ := qC_remove hok hC hpn
    have en : nI n - 1 = nI (n - 1) := by
      have := nI_pred (n - 1)
      rwa [show n - 1 + 1 = n by omega] at this
    have ou : qs_only [0, 1] τ (qx_up τ 0 1 (nI n - 1)) := qs_only.up (S := [0, 1]) (by decide) qs_only.rf
    obtain ⟨τ2, g1, g2, g3⟩ := qM_remove_o (p := p) (m := n - 1) (by omega) (by omega) (τ.1 1) qx_F 0 (qx_up τ 0 1 (nI n - 1)) (by omega) (by rw [qF_big]; omega) (by rw [qu_1, en]; simp) (fun i hi => by rw [if_neg (by omega), qu_1]; simp)
    have ho2 : τ2.1 0 = (qx_up τ 0 1 (nI n - 1)).1 0 := g2.1 0 (by decide)
    have M2 : qr_M (n - 1) (qf_del f p) w (qs_del sh p) τ2 := by
      refine ⟨?_, ?_, fun q hq => ?_⟩
      · rw [ho2, qu_1, en]; simp
      · simp only [ho2, qu_1]; simpa using hM.2.1
      · have comp : ∀ j, j < 7 → ∀ (F : Nat → Int32), (∀ q, q < n → τ.1 1 (20 * j + q) = F q) → τ2.1 1 (20 * j + q) = if q < p then F q else F (q + 1) := by
          intro j hj F old
          rw [g3 (20 * j + q) (by omega)]
          by_cases c : q < p
          · rw [if_pos c, if_neg (by omega), old q (by omega)]
          · rw [if_neg c, if_pos (by omega), show 20 * j + q + 1 = 20 * j + (q + 1) by omega, old (q + 1) (by omega)]
        exact ⟨comp 0 (by omega) _ (fun q hq => (hM.2.2 q hq).1), comp 1 (by omega) _ (fun q hq => (hM.2.2 q hq).2.1), comp 2 (by omega) _ (fun q hq => (hM.2.2 q hq).2.2.1), comp 3 (by omega) _ (fun q hq => (hM.2.2 q hq).2.2.2.1), comp 4 (by omega) _ (fun q hq => (hM.2.2 q hq).2.2.2.2.1), comp 5 (by omega) _ (fun q hq => (hM.2.2 q hq).2.2.2.2.2.1), comp 6 (by omega) _ (fun q hq => (hM.2.2 q hq).2.2.2.2.2.2)⟩
    have hsh2 : qv_sh (n - 1) (qs_del sh p) := by
      intro q hq
      unfold qs_del
      by_cases c : q < p
      · rw [if_pos c]; exact hat.sh q (by omega)
      · rw [if_neg c]; exact hat.sh (q + 1) (by omega)
    have hok' := hok.del hpn
    obtain ⟨σ', τ', r, k1, k2, A1, CK, M3, P3, X3⟩ := qR_renew hok' hsh2 C2 M2 (hx.mv (o2.1 16 (by decide)) (o2.1 17 (by decide)) (o2.1 19 (by decide)) (o2.1 20 (by decide)) (by rw [ho2, qu_1]; simp) (by rw [ho2, qu_1]; simp) (by rw [g2.1 6 (by decide)]; rfl) (by rw [g2.1 8 (by decide)]; rfl))
    rw [e1]
    simp only [qob_bind]
    rw [e2]
    simp only [qob_bind]
    rw [k1, hM.1, show (0 : Int32) = nI (20 * 0) from rfl, g1, k2]
    simp only [qob_bind]
    rw [CK.1.1, M3.1]
    exact ⟨_, σ', τ', rfl, rfl, n - 1, _, w, _, hok', A1, CK, M3, X3⟩
end
