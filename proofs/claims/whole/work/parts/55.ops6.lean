/-! leader, type, clear, count side by side -/
section
variable {n : Nat} {f : Nat → Nat → Int32} {w sh : Nat → Int32} {τ σ σ0 : QS}
theorem qO_leader (h : qR_ln σ τ) (x y : Int32) : ∃ r, qLP_leader σ x y = some r ∧ qM_leader τ x y = some r := by
  obtain ⟨k, hk, e1, e2, e3⟩ := h
  have z0 : (0 : Int32).toInt = 0 := by decide
  have z4 : (4 : Int32).toInt = 4 := by decide
  unfold qLP_leader qM_leader
  rw [e1, e2]
  by_cases c1 : x < 0
  · rw [if_pos c1, if_pos c1]; exact ⟨-2, rfl, rfl⟩
  · rw [if_neg c1, if_neg c1, qM_in_r y 0 3 0 3 (by decide) (by decide), qob_bind, show (3 : Int) = ((3 : Nat) : Int) from rfl, qp_rng_has]
    cases hy : qp_has (3 + 1) y with
    | false =>
      rw [if_pos qb_f]
      refine ⟨-2, ?_, rfl⟩
      simp [qp_has] at hy
      by_cases c2 : y < 0
      · rw [if_pos c2]
      · rw [if_neg c2, if_neg]
        rw [qi_lt] at *
        omega
    | true =>
      obtain ⟨v, hv, rfl⟩ := qp_hasE hy
      rw [if_neg qb_ne, if_neg (nI_pos (by omega)), if_pos (show nI v < 4 from nI_lt (b := 4) hv (by omega))]
      by_cases c3 : nI k ≤ x
      · rw [if_pos c3, if_pos c3]; exact ⟨-1, rfl, rfl⟩
      · obtain ⟨j, hj, rfl⟩ := nI_of c1
        have hjk : j < k := by
          rcases Nat.lt_or_ge j k with q | q
          · exact q
          · exact absurd (nI_le q hj) c3
        rw [if_neg c3, if_neg c3]
        unfold qLn_get
        rw [show (4 : Int32) = nI 4 from rfl, pk_mul, pk_mul, nI_add, nI_add, qo_in (by omega) (by decide), qo_in (by omega) (by decide), nI_clamp (by omega), nI_clamp (by omega), qob_bind, e3 (j * 4 + v) (by omega), show j * 4 + v = 4 * j + v by omega]
        exact ⟨_, rfl, rfl⟩
theorem qO_clear (h : qR σ τ) : ∃ r σ' τ', qLP_clear σ = some (r, σ') ∧ qM_clear τ = some (r, τ') ∧ qR σ' τ' := by
  obtain ⟨n, f, w, sh, hok, hat, ⟨hC, hK⟩, hM, ⟨hl, t, ht, e1, e2, e3⟩⟩ := h
  have o : qs_only [19] σ (qx_up σ 19 0 0) := qs_only.up (by decide) qs_only.rf
  unfold qLP_clear qM_clear
  rw [e1, e2]
  refine ⟨_, _, _, rfl, rfl, n, f, w, sh, hok, hat, ⟨hC.off o (by decide) (by decide) (by decide) (by decide), hK.off o (by decide) (by decide) (by decide) (by decide) (by decide) (by decide)⟩, ?_, ?_, 0, by omega, by rw [qu_1]; rfl, by rw [qu_1]; rfl, fun i hi => by omega⟩
  · refine ⟨?_, ?_, fun p hp => ?_⟩
    · rw [qu_1]; simpa using hM.1
    · simp only [qu_1]; simpa using hM.2.1
    · have := hM.2.2 p hp
      simp only [qu_1]; simpa using this
  · obtain ⟨k, k1, k2, k3, k4⟩ := hl
    exact ⟨k, k1, by rw [qu_1]; simpa using k2, by rw [qu_1]; simpa using k3, fun i hi => k4 i hi⟩
theorem q_byte {x : Int32} (h1 : 0 ≤ x.toInt) (h2 : x.toInt ≤ 127) : x.toInt8.toInt32 = x := by
  rw [qi_eq]
  have e : x.toInt8.toInt32.toInt = x.toInt.bmod (2 ^ 8) := by simp
  rw [e]
  exact Int.bmod_eq_of_le (by omega) (by omega)
theorem qO_type (h : qR σ τ) (x : Int32) : ∃ r σ' τ', qLP_type σ x = some (r, σ') ∧ qM_type τ x = some (r, τ') ∧ qR σ' τ' := by
  have h0 := h
  obtain ⟨n, f, w, sh, hok, hat, ⟨hC, hK⟩, hM, ⟨hl, t, ht, e1, e2, e3⟩⟩ := h
  have z0 : (0 : Int32).toInt = 0 := by decide
  have z127 : (127 : Int32).toInt = 127 := by decide
  unfold qLP_type qM_type
  rw [qM_in_r x 0 127 0 127 (by decide) (by decide), qob_bind, e1, e2]
  by_cases hx : 0 ≤ x.toInt ∧ x.toInt ≤ 127
  · rw [show qp_rng 0 127 x = true by simp [qp_rng, hx], if_neg qb_ne, if_neg (show ¬ x < 0 by rw [qi_lt]; omega), if_pos (show x ≤ 127 by rw [qi_le]; omega)]
    by_cases hf : t = 80
    · subst hf
      rw [if_neg (show ¬ nI 80 < 80 by decide), if_pos (show nI 80 = 80 from rfl)]
      exact ⟨-4, σ, τ, rfl, rfl, h0⟩
    · have ht' : t < 80 := by omega
      have v14 : (qx_up τ 8 t x).1 0 14 = nI t := by rw [qu_1]; simpa using e2
      have v19 : (qx_up σ 20 t x).1 19 0 = nI t := by rw [qu_1]; simpa using e1
      rw [if_pos (show nI t < 80 from nI_lt (b := 80) ht' (by omega)), if_neg (show ¬ nI t = 80 from nI_neq (b := 80) (by omega) (by omega) hf), qo_in ht' (by decide), nI_clamp (by omega), v14]
      unfold qTx_append
      rw [e1, qo_in ht' (by decide), nI_clamp (by omega), q_byte hx.1 hx.2, q_byte hx.1 hx.2, v19, qob_bind, nI_1]
      have o : qs_only [19, 20] σ (qx_up (qx_up σ 20 t x) 19 0 (nI (t + 1))) := qs_only.up (by decide) (qs_only.up (by decide) qs_only.rf)
      refine ⟨nI (t + 1), _, _, by rw [qu_1]; rfl, by rw [qu_1]; rfl, n, f, w, sh, hok, hat, ⟨hC.off o (by decide) (by decide) (by decide) (by decide), hK.off o (by decide) (by decide) (by decide) (by decide) (by decide) (by decide)⟩, ?_, ?_, t + 1, by omega, by rw [qu_1]; rfl, by rw [qu_1]; rfl, fun i hi => ?_⟩
      · refine ⟨?_, ?_, fun p hp => ?_⟩
        · simp only [qu_1]; simpa using hM.1
        · simp only [qu_1]; simpa using hM.2.1
        · have := hM.2.2 p hp
          simp only [qu_1]; simpa using this
      · obtain ⟨k, k1, k2, k3, k4⟩ := hl
        exact ⟨k, k1, by simp only [qu_1]; simpa using k2, by simp only [qu_1]; simpa using k3, fun i hi => k4 i hi⟩
      · simp only [qu_1]
        by_cases c : i = t
        · subst c; simp; exact hx
        · simpa [c] using e3 i (by omega)
  · rw [show qp_rng 0 127 x = false by simp [qp_rng]; omega, if_pos qb_f]
    refine ⟨-2, σ, τ, ?_, rfl, h0⟩
    by_cases c : x < 0
    · rw [if_pos c]
    · rw [if_neg c, if_neg]
      rw [qi_le]
      rw [qi_lt] at c
      omega
/-- the numbers -/
def qp_num (n : Nat) (f : Nat → Nat → Int32) (w sh : Nat → Int32) (kl tl : Nat) (x : Nat) : Int32 := match x with
  | 0 => nI n
  | 1 => nI (qp_cnt n (qp_vis f w))
  | 2 => qp_sum n (fun p => nI (qp_cnt 8 (qp_pl n f w p)))
  | 3 => nI (qp_ns (8 * n) (fun k => qp_ns k (qp_M n f w k)))
  | 4 => nI (qp_cnt n (fun q => !decide (sh q = -1)))
  | 5 => qp_sum n (fun q => if sh q = -1 then 0 else f 4 q)
  | 6 => w 0
  | 7 => w 1
  | 8 => w 2
  | 9 => w 3
  | 10 => nI kl
  | 11 => nI tl
  | _ => nI (qp_cnt n (fun p => (qp_str n f w sh p).isSome))
theorem q13 {x : Nat} (h : x < 13) : x = 0 ∨ x = 1 ∨ x = 2 ∨ x = 3 ∨ x = 4 ∨ x = 5 ∨ x = 6 ∨ x = 7 ∨ x = 8 ∨ x = 9 ∨ x = 10 ∨ x = 11 ∨ x = 12 := by omega
theorem qLP_count_s (hok : qv_ok n f w) (hat : qv_at n f w sh) (hC : qr_C n f w sh σ) (hK : qr_K n f w σ) {kl tl x : Nat} (h16 : σ.1 16 0 = nI kl) (h19 : σ.1 19 0 = nI tl) (hx : x < 13) : qLP_count σ (nI x) = some (qp_num n f w sh kl tl x) := by
  have hn := hok.1
  obtain ⟨a0, a1, a2, a3⟩ := hC.2.1
  unfold qLP_count
  rw [qPl_visiblePoints_s hn hC, qPl_manyOfAll_s hn hC hK, qPl_clashingPairs_s hn hC hK, qLb_manyShown_s hn hC, qLb_sumShown_s hn hC, qLb_manyThatCanPush_s hn hat hC hK, h16, h19, a0, a1, a2, a3, hC.1]
  simp only [qob_bind]
  rcases q13 hx with rfl | rfl | rfl | rfl | rfl | rfl | rfl | rfl | rfl | rfl | rfl | rfl | rfl <;> rfl
theorem qM_number_s (hok : qv_ok n f w) (hat : qv_at n f w sh) (hM : qr_M n f w sh τ) (hP : qr_P n f w τ) {kl tl x : Nat} (h11 : τ.1 0 11 = nI kl) (h14 : τ.1 0 14 = nI tl) (hx : x < 13) : qM_number τ (nI x) = some (qp_num n f w sh kl tl x) := by
  have hn := hok.1
  obtain ⟨a0, a1, a2, a3⟩ := hM.2.1
  unfold qM_number
  rw [qM_visible_s hok hM, qM_places_s hn hM.1 hP, qM_pairs_n hok hM hP, qM_shown_s hn hM, qM_priorities_s hn hM, qM_pushing_s hok hat.sh hM hP, h11, h14, a0, a1, a2, a3, hM.1]
  simp only [qob_bind]
  rcases q13 hx with rfl | rfl | rfl | rfl | rfl | rfl | rfl | rfl | rfl | rfl | rfl | rfl | rfl <;> rfl
theorem qO_count (h : qR σ τ) (x : Int32) : ∃ r τ', qLP_count σ x = some r ∧ qM_count τ x = some (r, τ') ∧ qR σ τ' := by
  obtain ⟨n, f, w, sh, hok, hat, ⟨hC, hK⟩, hM, hx⟩ := h
  obtain ⟨τ1, e1, M1, P1, o1, R1⟩ := qR_finds hok hat hC hK hM hx
  obtain ⟨⟨k, k1, k2, k3, k4⟩, t, t1, t2, t3, t4⟩ := hx
  unfold qM_count
  rw [e1, qob_bind, qM_in_r x 0 12 0 12 (by decide) (by decide), qob_bind, show (12 : Int) = ((12 : Nat) : Int) from rfl, qp_rng_has]
  cases hy : qp_has (12 + 1) x with
  | false =>
    rw [if_pos qb_f]
    refine ⟨-2, τ1, ?_, rfl, R1⟩
    have ne := fun j hj => qp_hasN hy j hj (by omega)
    unfold qLP_count
    rw [if_neg (show ¬ x = 0 from ne 0 (by omega)), if_neg (show ¬ x = 1 from ne 1 (by omega)), if_neg (show ¬ x = 2 from ne 2 (by omega)), if_neg (show ¬ x = 3 from ne 3 (by omega)), if_neg (show ¬ x = 4 from ne 4 (by omega)), if_neg (show ¬ x = 5 from ne 5 (by omega)), if_neg (show ¬ x = 6 from ne 6 (by omega)), if_neg (show ¬ x = 7 from ne 7 (by omega)), if_neg (show ¬ x = 8 from ne 8 (by omega)), if_neg (show ¬ x = 9 from ne 9 (by omega)), if_neg (show ¬ x = 10 from ne 10 (by omega)), if_neg (show ¬ x = 11 from ne 11 (by omega)), if_neg (show ¬ x = 12 from ne 12 (by omega))]
  | true =>
    obtain ⟨v, hv, rfl⟩ := qp_hasE hy
    rw [if_neg qb_ne, qM_number_s hok hat M1 P1 (by rw [o1.1 0 (by decide)]; exact k3) (by rw [o1.1 0 (by decide)]; exact t3) hv, qob_bind]
    exact ⟨_, τ1, qLP_count_s hok hat hC hK k2 t2 hv, rfl, R1⟩
end
