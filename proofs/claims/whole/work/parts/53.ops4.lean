/-! points added and changed; numbers; text typed; side by side -/
section
variable {n : Nat} {f : Nat → Nat → Int32} {w sh : Nat → Int32} {τ σ σ0 : QS}
theorem qPt_put_s {p k : Nat} (hp : p < 20) (hk : k < 6) (v : Int32) : qPt_put σ (nI p) (nI k) v = some (qx_up σ 2 (6 * p + k) v) := by
  unfold qPt_put
  rw [qn_6, qo_in (by omega) (by decide), nI_clamp (by omega)]
theorem qPt_put0 {p : Nat} (hp : p < 20) (v : Int32) : qPt_put σ (nI p) 0 v = some (qx_up σ 2 (6 * p + 0) v) := qPt_put_s (k := 0) hp (by decide) v
theorem qPt_put1 {p : Nat} (hp : p < 20) (v : Int32) : qPt_put σ (nI p) 1 v = some (qx_up σ 2 (6 * p + 1) v) := qPt_put_s (k := 1) hp (by decide) v
theorem qPt_put2 {p : Nat} (hp : p < 20) (v : Int32) : qPt_put σ (nI p) 2 v = some (qx_up σ 2 (6 * p + 2) v) := qPt_put_s (k := 2) hp (by decide) v
theorem qPt_put3 {p : Nat} (hp : p < 20) (v : Int32) : qPt_put σ (nI p) 3 v = some (qx_up σ 2 (6 * p + 3) v) := qPt_put_s (k := 3) hp (by decide) v
theorem qPt_put4 {p : Nat} (hp : p < 20) (v : Int32) : qPt_put σ (nI p) 4 v = some (qx_up σ 2 (6 * p + 4) v) := qPt_put_s (k := 4) hp (by decide) v
theorem qPt_put5 {p : Nat} (hp : p < 20) (v : Int32) : qPt_put σ (nI p) 5 v = some (qx_up σ 2 (6 * p + 5) v) := qPt_put_s (k := 5) hp (by decide) v
def qf_add (n : Nat) (f : Nat → Nat → Int32) (x y a b c d : Int32) (k p : Nat) : Int32 := if p = n then (match k with | 0 => x | 1 => y | 2 => a | 3 => b | 4 => c | _ => d) else f k p
/-- the class's cells with one point more -/
theorem qr_C.add (h : qr_C n f w sh σ) (x y a b c d : Int32) : qr_C (n + 1) (qf_add n f x y a b c d) w (upd sh n (-1)) (qx_up (qx_up (qx_up (qx_up (qx_up (qx_up (qx_up (qx_up σ 1 0 (nI n + 1)) 2 (6 * n + 0) x) 2 (6 * n + 1) y) 2 (6 * n + 2) a) 2 (6 * n + 3) b) 2 (6 * n + 4) c) 2 (6 * n + 5) d) 12 n (-1)) := by
  refine ⟨?_, ?_, fun p hp => ?_⟩
  · simp only [qu_1]
    rw [nI_1]
    simp
  · simp only [qu_1]
    simpa using h.2.1
  · unfold qf_add upd
    by_cases c : p = n
    · subst c
      simp [qu_1]
    · obtain ⟨a0, a1, a2, a3, a4, a5, a6⟩ := h.2.2 p (by omega)
      simp only [qu_1, if_neg c]
      refine ⟨?_, ?_, ?_, ?_, ?_, ?_, ?_⟩
      · repeat rw [if_neg (by omega)]
        exact a0
      · repeat rw [if_neg (by omega)]
        exact a1
      · repeat rw [if_neg (by omega)]
        exact a2
      · repeat rw [if_neg (by omega)]
        exact a3
      · repeat rw [if_neg (by omega)]
        exact a4
      · repeat rw [if_neg (by omega)]
        exact a5
      · repeat rw [if_neg (by omega)]
        exact a6
theorem qr_M.add (hn : n < 20) (h : qr_M n f w sh τ) (x y a b c d : Int32) : qr_M (n + 1) (qf_add n f x y a b c d) w (upd sh n (-1)) (qx_up (qx_up (qx_up (qx_up (qx_up (qx_up (qx_up (qx_up τ 1 (0 + n) x) 1 (20 + n) y) 1 (40 + n) a) 1 (60 + n) b) 1 (80 + n) c) 1 (100 + n) d) 1 (120 + n) (-1)) 0 1 (nI n + 1)) := by
  refine ⟨?_, ?_, fun p hp => ?_⟩
  · simp only [qu_1]
    rw [nI_1]
    simp
  · simp only [qu_1]
    simpa using h.2.1
  · unfold qf_add upd
    by_cases c : p = n
    · subst c
      have k1 : ∀ a b : Nat, ¬ a = b → ¬ (True ∧ a + p = b + p) := fun a b h1 h2 => h1 (by omega)
      simp only [qu_1]
      refine ⟨?_, ?_, ?_, ?_, ?_, ?_, ?_⟩
      · rw [if_neg (show ¬ ((1 : Nat) = 0 ∧ _ = 1) from fun e => absurd e.1 (by decide)), if_neg (k1 0 120 (by decide)), if_neg (k1 0 100 (by decide)), if_neg (k1 0 80 (by decide)), if_neg (k1 0 60 (by decide)), if_neg (k1 0 40 (by decide)), if_neg (k1 0 20 (by decide)), if_pos ⟨trivial, trivial⟩, if_pos trivial]
      · rw [if_neg (show ¬ ((1 : Nat) = 0 ∧ _ = 1) from fun e => absurd e.1 (by decide)), if_neg (k1 20 120 (by decide)), if_neg (k1 20 100 (by decide)), if_neg (k1 20 80 (by decide)), if_neg (k1 20 60 (by decide)), if_neg (k1 20 40 (by decide)), if_pos ⟨trivial, trivial⟩, if_pos trivial]
      · rw [if_neg (show ¬ ((1 : Nat) = 0 ∧ _ = 1) from fun e => absurd e.1 (by decide)), if_neg (k1 40 120 (by decide)), if_neg (k1 40 100 (by decide)), if_neg (k1 40 80 (by decide)), if_neg (k1 40 60 (by decide)), if_pos ⟨trivial, trivial⟩, if_pos trivial]
      · rw [if_neg (show ¬ ((1 : Nat) = 0 ∧ _ = 1) from fun e => absurd e.1 (by decide)), if_neg (k1 60 120 (by decide)), if_neg (k1 60 100 (by decide)), if_neg (k1 60 80 (by decide)), if_pos ⟨trivial, trivial⟩, if_pos trivial]
      · rw [if_neg (show ¬ ((1 : Nat) = 0 ∧ _ = 1) from fun e => absurd e.1 (by decide)), if_neg (k1 80 120 (by decide)), if_neg (k1 80 100 (by decide)), if_pos ⟨trivial, trivial⟩, if_pos trivial]
      · rw [if_neg (show ¬ ((1 : Nat) = 0 ∧ _ = 1) from fun e => absurd e.1 (by decide)), if_neg (k1 100 120 (by decide)), if_pos ⟨trivial, trivial⟩, if_pos trivial]
      · rw [if_neg (show ¬ ((1 : Nat) = 0 ∧ _ = 1) from fun e => absurd e.1 (by decide)), if_pos ⟨trivial, trivial⟩, if_pos trivial]
    · obtain ⟨a0, a1, a2, a3, a4, a5, a6⟩ := h.2.2 p (by omega)
      simp only [qu_1, if_neg c]
      refine ⟨?_, ?_, ?_, ?_, ?_, ?_, ?_⟩
      · repeat rw [if_neg (by omega)]
        exact a0
      · repeat rw [if_neg (by omega)]
        exact a1
      · repeat rw [if_neg (by omega)]
        exact a2
      · repeat rw [if_neg (by omega)]
        exact a3
      · repeat rw [if_neg (by omega)]
        exact a4
      · repeat rw [if_neg (by omega)]
        exact a5
      · repeat rw [if_neg (by omega)]
        exact a6
theorem qp_rngE {lo hi : Int} {x : Int32} (h : qp_rng lo hi x = true) : lo ≤ x.toInt ∧ x.toInt ≤ hi := by
  simp [qp_rng] at h
  exact h
theorem qPt_isAt_s (hok : qv_ok n f w) (h : qr_C n f w sh σ) {x y : Int32} (hx : 0 ≤ x.toInt ∧ x.toInt ≤ 199) (hy : 0 ≤ y.toInt ∧ y.toInt ≤ 199) : qPt_isAt σ x y = some (qb (qp_find (fun q => decide (f 0 q = x) && decide (f 1 q = y)) n 0).isSome) := by
  have k1 : (1 : Int32).toInt = 1 := by decide
  unfold qPt_isAt
  rw [qPt_isIn_s hok h _ _ _ _ (by omega) (by omega) (by omega) (by omega), qob_bind, qb_and1]
  unfold qp_isIn
  have e : qp_cnt n (fun q => qp_cov x y 1 1 (f 0 q) (f 1 q)) = qp_cnt n (fun q => decide (f 0 q = x) && decide (f 1 q = y)) := by
    refine qp_cnt_congr (fun q _ => ?_)
    unfold qp_cov
    rw [Bool.eq_iff_iff]
    simp only [Bool.and_eq_true, decide_eq_true_eq, qi_eq, k1]
    omega
  rw [e, ← qp_find_isSome]
  cases qp_find (fun q => decide (f 0 q = x) && decide (f 1 q = y)) n 0 <;> rfl
theorem qM_prop2 (v : Int32) : qM_isProperty τ 2 v = some (qb (qp_rng 1 20 v)) := by
  unfold qM_isProperty
  rw [if_pos rfl, qM_in_r v 1 20 1 20 (by decide) (by decide), qob_bind, qb_and1]
theorem qM_prop3 (v : Int32) : qM_isProperty τ 3 v = some (qb (qp_rng 1 6 v)) := by
  unfold qM_isProperty
  rw [if_neg (by decide), if_pos rfl, qM_in_r v 1 6 1 6 (by decide) (by decide), qob_bind, qb_and1]
theorem qM_prop4 (v : Int32) : qM_isProperty τ 4 v = some (qb (qp_rng 1 9 v)) := by
  unfold qM_isProperty
  rw [if_neg (by decide), if_neg (by decide), if_pos rfl, qM_in_r v 1 9 1 9 (by decide) (by decide), qob_bind, qb_and1]
theorem qM_prop5 (v : Int32) : qM_isProperty τ 5 v = some (qb (qp_rng 1 255 v)) := by
  unfold qM_isProperty
  rw [if_neg (by decide), if_neg (by decide), if_neg (by decide), if_pos rfl, qM_in_r v 1 255 1 255 (by decide) (by decide), qob_bind, qb_and1]
theorem qu_01 (τ : QS) (i : Nat) (v : Int32) : (qx_up τ 1 i v).1 0 1 = τ.1 0 1 := by rw [qu_1]; simp
/-- both after a change of points: renewed, and one map again -/
theorem qR_renew {n' : Nat} {f' : Nat → Nat → Int32} {sh' : Nat → Int32} {σ1 τ1 : QS} (hok : qv_ok n' f' w) (hsh : qv_sh n' sh') (hC : qr_C n' f' w sh' σ1) (hM : qr_M n' f' w sh' τ1) (hx : qR_x σ1 τ1) :
    ∃ σ' τ' r, qLP_renew σ1 = some (r, σ') ∧ qM_settles τ1 = some τ' ∧ qv_at n' f' w (qp_set n' f' w sh') ∧ (qr_C n' f' w (qp_set n' f' w sh') σ' ∧ qr_K n' f' w σ') ∧ qr_M n' f' w (qp_set n' f' w sh') τ' ∧ qr_P n' f' w τ' ∧ qR_x σ' τ' := by
  obtain ⟨σ', e1, o1, C1, K1⟩ := qLP_renew_s hok hsh hC
  obtain ⟨τ', e2, o2, M2, P2⟩ := qM_settles_s hok hsh hM
  exact ⟨σ', τ', _, e1, e2, qp_set_at hsh, ⟨C1, K1⟩, M2, P2, hx.off o1 o2 (by decide) (by decide) (by decide) (by decide) (by decide) (by decide) (by decide)⟩
theorem qO_addPoint (h : qR σ τ) (x y a b c d : Int32) : ∃ r σ' τ', qLP_addPoint σ x y a b c d = some (r, σ') ∧ qM_addPoint τ x y a b c d = some (r, τ') ∧ qR σ' τ' := by
  have h0 := h
  obtain ⟨n, f, w, sh, hok, hat, ⟨hC, hK⟩, hM, hx⟩ := h
  have hn := hok.1
  unfold qLP_addPoint qM_addPoint
  rw [qPt_al0, qPt_al1, qPt_al2, qPt_al3, qPt_al4, qPt_al5, qM_in_r x 0 199 0 199 (by decide) (by decide), qM_in_r y 0 199 0 199 (by decide) (by decide), qM_prop2, qM_prop3]
  simp only [qob_bind]
  have bad1 : qLP_addPoint_J56 σ x y a b c d 0 = some (-2, σ) := by unfold qLP_addPoint_J56; rw [if_pos rfl]
  have bad2 : qM_addPoint_J46 τ x y a b c d 0 = some (-2, τ) := by unfold qM_addPoint_J46; rw [if_pos rfl]
  rw [bad1, bad2]
  cases rx : qp_rng 0 199 x with
  | false => exact ⟨-2, σ, τ, rfl, rfl, h0⟩
  | true =>
    cases ry : qp_rng 0 199 y with
    | false => exact ⟨-2, σ, τ, rfl, rfl, h0⟩
    | true =>
      cases ra : qp_rng 1 20 a with
      | false => exact ⟨-2, σ, τ, rfl, rfl, h0⟩
      | true =>
        cases rb : qp_rng 1 6 b with
        | false => exact ⟨-2, σ, τ, rfl, rfl, h0⟩
        | true =>
          simp only [if_neg qb_ne]
          unfold qM_addPoint_J46
          rw [if_neg (show ¬ (1 : Int32) = 0 by decide), qM_prop4, qM_prop5]
          simp only [qob_bind]
          cases rc : qp_rng 1 9 c with
          | false => exact ⟨-2, σ, τ, rfl, rfl, h0⟩
          | true =>
            cases rd : qp_rng 1 255 d with
            | false => exact ⟨-2, σ, τ, rfl, rfl, h0⟩
            | true =>
              simp only [if_neg qb_ne]
              unfold qLP_addPoint_J56
              have hx' := qp_rngE rx
              have hy' := qp_rngE ry
              rw [if_neg (show ¬ (1 : Int32) = 0 by decide), qPt_isAt_s hok hC hx' hy', qM_pointAt_s hn hM]
              simp only [qob_bind]
              cases hf : qp_find (fun q => decide (f 0 q = x) && decide (f 1 q = y)) n 0 with
              | some q =>
                have := (qp_find_some _ _ _ hf).2.1
                dsimp only
                rw [if_neg (show ¬ qb (some q).isSome = 0 from qb_ne), if_neg (nI_nm1 (by omega))]
                exact ⟨-3, σ, τ, rfl, rfl, h0⟩
              | none =>
                dsimp only
                rw [if_pos (show qb (none : Option Nat).isSome = 0 from rfl), if_pos (show (-1 : Int32) = -1 from rfl), hC.1]
                simp only [qu_01, hM.1]
                by_cases hfull : n = 20
                · subst hfull
                  rw [if_neg (show ¬ nI 20 < 20 by decide), if_pos (show nI 20 = 20 from rfl)]
                  exact ⟨-4, σ, τ, rfl, rfl, h0⟩
                · have hn20 : n < 20 := by omega
                  rw [if_pos (show nI n < 20 from nI_lt (b := 20) hn20 (by omega)), if_neg (show ¬ nI n = 20 from nI_neq (b := 20) (by omega) (by omega) hfull)]
                  have eap : qPt_append σ x y = some (nI n, qx_up (qx_up (qx_up σ 1 0 (nI n + 1)) 2 (6 * n + 0) x) 2 (6 * n + 1) y) := by
                    unfold qPt_append
                    rw [hC.1, qPt_put0 hn20, qob_bind, qPt_put1 hn20, qob_bind]
                  rw [eap]
                  simp only [qob_bind]
                  rw [qPt_put2 hn20]
                  simp only [qob_bind]
                  rw [qPt_put3 hn20]
                  simp only [qob_bind]
                  rw [qPt_put4 hn20]
                  simp only [qob_bind]
                  rw [qPt_put5 hn20]
                  simp only [qob_bind]
                  rw [qLb_hide_s hn20]
                  simp only [qob_bind, qn_a0, qn_a20, qn_a40, qn_a60, qn_a80, qn_a100, qn_a120, qo_in (show 0 + n < 140 by omega) (by decide), qo_in (show 20 + n < 140 by omega) (by decide), qo_in (show 40 + n < 140 by omega) (by decide), qo_in (show 60 + n < 140 by omega) (by decide), qo_in (show 80 + n < 140 by omega) (by decide), qo_in (show 100 + n < 140 by omega) (by decide), qo_in (show 120 + n < 140 by omega) (by decide), nI_clamp (show 0 + n < 2 ^ 31 by omega), nI_clamp (show 20 + n < 2 ^ 31 by omega), nI_clamp (show 40 + n < 2 ^ 31 by omega), nI_clamp (show 60 + n < 2 ^ 31 by omega), nI_clamp (show 80 + n < 2 ^ 31 by omega), nI_clamp (show 100 + n < 2 ^ 31 by omega), nI_clamp (show 120 + n < 2 ^ 31 by omega)]
                  have hok' : qv_ok (n + 1) (qf_add n f x y a b c d) w := by
                    refine ⟨by omega, fun p hp => ?_, hok.2.2⟩
                    by_cases e : p = n
                    · subst e
                      unfold qv_pt qf_add
                      simp only [if_true]
                      exact ⟨qp_rngE rx, qp_rngE ry, qp_rngE ra, qp_rngE rb, qp_rngE rc, qp_rngE rd⟩
                    · have := hok.2.1 p (by omega)
                      unfold qv_pt qf_add at *
                      simpa only [if_neg e] using this
                  have hsh' : qv_sh (n + 1) (upd sh n (-1)) := by
                    intro p hp
                    unfold upd
                    by_cases e : p = n
                    · exact Or.inl (if_pos e)
                    · rw [if_neg e]
                      exact hat.sh p (by omega)
                  have C1 := hC.add (n := n) x y a b c d
                  have M1 := hM.add hn20 x y a b c d
                  obtain ⟨σ', τ', r, e1, e2, A1, CK, M2, P2, X2⟩ := qR_renew hok' hsh' C1 M1 (hx.mv (by rfl) (by rfl) (by rfl) (by rfl) (by simp [qu_1]) (by simp [qu_1]) (by rfl) (by rfl))
                  rw [e1, e2]
                  simp only [qob_bind]
                  refine ⟨nI n, σ', τ', rfl, ?_, n + 1, _, w, _, hok', A1, CK, M2, X2⟩
                  rw [M2.1, nI_pred]
end
