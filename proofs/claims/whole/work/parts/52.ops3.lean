/-! window, numbers, text side by side -/
section
variable {n : Nat} {f : Nat → Nat → Int32} {w sh : Nat → Int32} {τ σ σ0 : QS}
theorem qPt_allows_g {x : Nat} (hx : x < 6) (lo hi v : Int32) (e1 : qx_tab 0 x = lo) (e2 : qx_tab 1 x = hi) : qPt_allows σ (nI x) v = some (qb (qp_rng lo.toInt hi.toInt v)) := by
  unfold qPt_allows qp_rng
  rw [if_neg (nI_pos (by omega)), if_neg (show ¬ (6 : Int32) ≤ nI x from nI_ge (b := 6) hx (by omega)), qo_in hx (by decide), qo_in hx (by decide), nI_clamp (by omega), e1, e2]
  simp only [qi_lt]
  by_cases c1 : v.toInt < lo.toInt
  · rw [if_pos c1, decide_eq_false (by omega)]; rfl
  · by_cases c2 : hi.toInt < v.toInt
    · rw [if_neg c1, if_pos c2, decide_eq_true (show lo.toInt ≤ v.toInt by omega), decide_eq_false (by omega)]; rfl
    · rw [if_neg c1, if_neg c2, decide_eq_true (show lo.toInt ≤ v.toInt by omega), decide_eq_true (show v.toInt ≤ hi.toInt by omega)]; rfl
theorem qPt_al0 (v : Int32) : qPt_allows σ 0 v = some (qb (qp_rng 0 199 v)) := qPt_allows_g (x := 0) (by decide) 0 199 v rfl rfl
theorem qPt_al1 (v : Int32) : qPt_allows σ 1 v = some (qb (qp_rng 0 199 v)) := qPt_allows_g (x := 1) (by decide) 0 199 v rfl rfl
theorem qPt_al2 (v : Int32) : qPt_allows σ 2 v = some (qb (qp_rng 1 20 v)) := qPt_allows_g (x := 2) (by decide) 1 20 v rfl rfl
theorem qPt_al3 (v : Int32) : qPt_allows σ 3 v = some (qb (qp_rng 1 6 v)) := qPt_allows_g (x := 3) (by decide) 1 6 v rfl rfl
theorem qPt_al4 (v : Int32) : qPt_allows σ 4 v = some (qb (qp_rng 1 9 v)) := qPt_allows_g (x := 4) (by decide) 1 9 v rfl rfl
theorem qPt_al5 (v : Int32) : qPt_allows σ 5 v = some (qb (qp_rng 1 255 v)) := qPt_allows_g (x := 5) (by decide) 1 255 v rfl rfl
theorem qO_labelAt' (h : qR σ τ) (x y : Int32) : ∃ r, qLP_labelAt σ x y = some r ∧ qM_labelAt τ x y = some r := qO_labelAt h x y (fun v => ⟨qPt_al0 v, qPt_al1 v⟩)
def qw4 (a b c d : Int32) (j : Nat) : Int32 := match j with | 0 => a | 1 => b | 2 => c | _ => d
theorem qv_ok.win (h : qv_ok n f w) {w' : Nat → Int32} (hw : qv_win w') : qv_ok n f w' := ⟨h.1, h.2.1, hw⟩
theorem qr_C.win (h : qr_C n f w sh σ) (a b c d : Int32) : qr_C n f (qw4 a b c d) sh (qx_up (qx_up (qx_up (qx_up σ 4 0 a) 4 1 b) 4 2 c) 4 3 d) := by
  refine ⟨?_, ?_, fun p hp => ?_⟩
  · simp only [qu_1]; simpa using h.1
  · simp [qu_1, qw4]
  · have := h.2.2 p hp
    simp only [qu_1]
    simpa using this
theorem qr_M.win (h : qr_M n f w sh τ) (a b c d : Int32) : qr_M n f (qw4 a b c d) sh (qx_up (qx_up (qx_up (qx_up τ 0 2 a) 0 3 b) 0 4 c) 0 5 d) := by
  refine ⟨?_, ?_, fun p hp => ?_⟩
  · simp only [qu_1]; simpa using h.1
  · simp [qu_1, qw4]
  · have := h.2.2 p hp
    simp only [qu_1]
    simpa using this
theorem qs_up4 (σ : QS) (c : Nat) (a b d e : Int32) (i j k l : Nat) : qs_only [c] σ (qx_up (qx_up (qx_up (qx_up σ c i a) c j b) c k d) c l e) :=
  qs_only.up (by simp) (qs_only.up (by simp) (qs_only.up (by simp) (qs_only.up (by simp) qs_only.rf)))
/-- a new window on both sides, and what follows -/
theorem qR_newWin (hok : qv_ok n f w) (hat : qv_at n f w sh) (hC : qr_C n f w sh σ) (hM : qr_M n f w sh τ) (hx : qR_x σ τ) (a b c d : Int32) (hw : qv_win (qw4 a b c d)) :
    ∃ σ' τ', qLP_renew (qx_up (qx_up (qx_up (qx_up σ 4 0 a) 4 1 b) 4 2 c) 4 3 d) = some (nI (qp_cnt n (fun p => !decide (qp_set n f (qw4 a b c d) sh p = -1))), σ') ∧ qM_settles (qx_up (qx_up (qx_up (qx_up τ 0 2 a) 0 3 b) 0 4 c) 0 5 d) = some τ' ∧ qv_ok n f (qw4 a b c d) ∧ qv_at n f (qw4 a b c d) (qp_set n f (qw4 a b c d) sh) ∧ (qr_C n f (qw4 a b c d) (qp_set n f (qw4 a b c d) sh) σ' ∧ qr_K n f (qw4 a b c d) σ') ∧ qr_M n f (qw4 a b c d) (qp_set n f (qw4 a b c d) sh) τ' ∧ qR_x σ' τ' := by
  have hok' := hok.win hw
  obtain ⟨σ', e1, o1, C1, K1⟩ := qLP_renew_s hok' hat.sh (hC.win a b c d)
  obtain ⟨τ', e2, o2, M2, P2⟩ := qM_settles_s hok' hat.sh (hM.win a b c d)
  refine ⟨σ', τ', e1, e2, hok', qp_set_at hat.sh, ⟨C1, K1⟩, M2, ?_⟩
  have os := ((qs_up4 σ 4 a b c d 0 1 2 3).wide (S' := [3, 4, 6, 7, 8, 9, 10, 12]) (by decide)).tr (o1.wide (by decide))
  have x1 : qR_x (qx_up (qx_up (qx_up (qx_up σ 4 0 a) 4 1 b) 4 2 c) 4 3 d) (qx_up (qx_up (qx_up (qx_up τ 0 2 a) 0 3 b) 0 4 c) 0 5 d) := by
    have h4 := qs_up4 σ 4 a b c d 0 1 2 3
    have h0 := qs_up4 τ 0 a b c d 2 3 4 5
    exact hx.mv (h4.1 16 (by decide)) (h4.1 17 (by decide)) (h4.1 19 (by decide)) (h4.1 20 (by decide)) (by simp [qu_1]) (by simp [qu_1]) (h0.1 6 (by decide)) (h0.1 8 (by decide))
  exact x1.off o1 o2 (by decide) (by decide) (by decide) (by decide) (by decide) (by decide) (by decide)
theorem qi64 (k : Int64) (v : Int) (h : k.toInt = v) : k.toInt = v := h
theorem qO_setWindow (h : qR σ τ) (x y c d : Int32) : ∃ r σ' τ', qLP_setWindow σ x y c d = some (r, σ') ∧ qM_setWindow τ x y c d = some (r, τ') ∧ qR σ' τ' := by
  have h0 := h
  obtain ⟨n, f, w, sh, hok, hat, ⟨hC, hK⟩, hM, hx⟩ := h
  have hn := hok.1
  have z : (0 : Int64).toInt = 0 := by decide
  have z10 : (10 : Int32).toInt = 10 := by decide
  have z100 : (100 : Int32).toInt = 100 := by decide
  have z200 : (200 : Int32).toInt = 200 := by decide
  unfold qLP_setWindow qM_setWindow qM_setWindow_J34 qWi_allows qWi_put
  rw [qM_in_r c 10 100 10 100 (by decide) (by decide), qM_in_r d 10 100 10 100 (by decide) (by decide)]
  simp only [qob_bind]
  by_cases c1 : 10 ≤ c.toInt ∧ c.toInt ≤ 100
  · have r1 : qp_rng 10 100 c = true := by simp [qp_rng, c1]
    have s1 : (200 - c).toInt = 200 - c.toInt := by rw [qi_sub (by omega) (by omega), z200]
    rw [r1, if_neg qb_ne, if_neg (show ¬ c < 10 by rw [qi_lt]; omega), if_neg (show ¬ 100 < c by rw [qi_lt]; omega)]
    by_cases c2 : 10 ≤ d.toInt ∧ d.toInt ≤ 100
    · have r2 : qp_rng 10 100 d = true := by simp [qp_rng, c2]
      have s2 : (200 - d).toInt = 200 - d.toInt := by rw [qi_sub (by omega) (by omega), z200]
      rw [r2, if_neg qb_ne, if_neg (show ¬ d < 10 by rw [qi_lt]; omega), if_neg (show ¬ 100 < d by rw [qi_lt]; omega), if_neg (show ¬ (1 : Int32) = 0 by decide)]
      simp only [qM_in_s, qob_bind, ql_lt, qi_l, s1, s2, z]
      by_cases c3 : 0 ≤ x.toInt ∧ x.toInt ≤ 200 - c.toInt
      · rw [if_neg (show ¬ x.toInt < 0 by omega), if_neg (show ¬ 200 - c.toInt < x.toInt by omega), show (decide (0 ≤ x.toInt) && decide (x.toInt ≤ 200 - c.toInt)) = true by simp [c3], if_neg qb_ne]
        by_cases c4 : 0 ≤ y.toInt ∧ y.toInt ≤ 200 - d.toInt
        · rw [if_neg (show ¬ y.toInt < 0 by omega), if_neg (show ¬ 200 - d.toInt < y.toInt by omega), show (decide (0 ≤ y.toInt) && decide (y.toInt ≤ 200 - d.toInt)) = true by simp [c4], if_neg qb_ne]
          have hw : qv_win (qw4 x y c d) := by
            show 10 ≤ c.toInt ∧ c.toInt ≤ 100 ∧ 10 ≤ d.toInt ∧ d.toInt ≤ 100 ∧ 0 ≤ x.toInt ∧ x.toInt + c.toInt ≤ 200 ∧ 0 ≤ y.toInt ∧ y.toInt + d.toInt ≤ 200
            omega
          obtain ⟨σ', τ', e1, e2, hok', hat', hCK, hM', hx'⟩ := qR_newWin hok hat hC hM hx x y c d hw
          simp only [qob_bind]
          rw [if_neg (show ¬ (1 : Int32) = 0 by decide), e1, e2]
          simp only [qob_bind]
          rw [qPl_visiblePoints_s hn hCK.1, qM_visible_s hok' hM']
          exact ⟨_, σ', τ', rfl, rfl, n, f, _, _, hok', hat', hCK, hM', hx'⟩
        · refine ⟨-2, σ, τ, ?_, ?_, h0⟩
          · rcases (show y.toInt < 0 ∨ (¬ y.toInt < 0 ∧ 200 - d.toInt < y.toInt) by omega) with k | ⟨k, k2⟩
            · rw [if_pos k]; rfl
            · rw [if_neg k, if_pos k2]; rfl
          · rw [show (decide (0 ≤ y.toInt) && decide (y.toInt ≤ 200 - d.toInt)) = false by simp; omega, if_pos qb_f]
      · refine ⟨-2, σ, τ, ?_, ?_, h0⟩
        · rcases (show x.toInt < 0 ∨ (¬ x.toInt < 0 ∧ 200 - c.toInt < x.toInt) by omega) with k | ⟨k, k2⟩
          · rw [if_pos k]; rfl
          · rw [if_neg k, if_pos k2]; rfl
        · rw [show (decide (0 ≤ x.toInt) && decide (x.toInt ≤ 200 - c.toInt)) = false by simp; omega, if_pos qb_f]
    · have r2 : qp_rng 10 100 d = false := by simp [qp_rng]; omega
      refine ⟨-2, σ, τ, ?_, ?_, h0⟩
      · rcases (show d < 10 ∨ (¬ d < 10 ∧ 100 < d) by simp only [qi_lt, z10, z100]; omega) with k | ⟨k, k2⟩
        · rw [if_pos k]; rfl
        · rw [if_neg k, if_pos k2]; rfl
      · rw [r2, if_pos qb_f]; rfl
  · have r1 : qp_rng 10 100 c = false := by simp [qp_rng]; omega
    refine ⟨-2, σ, τ, ?_, ?_, h0⟩
    · rcases (show c < 10 ∨ (¬ c < 10 ∧ 100 < c) by simp only [qi_lt, z10, z100]; omega) with k | ⟨k, k2⟩
      · rw [if_pos k]; rfl
      · rw [if_neg k, if_pos k2]; rfl
    · rw [r1, if_pos qb_f]; rfl
theorem qp_fold_cnt (step : Nat → (Nat → Int32) → Option (Nat → Int32)) : ∀ (l : List Nat) (sh : Nat → Int32) (c : Nat), ∃ k, k ≤ l.length ∧ (qp_fold step l sh (nI c)).2 = nI (c + k) := by
  intro l
  induction l with
  | nil => intro sh c; exact ⟨0, Nat.le_refl _, rfl⟩
  | cons p l ih =>
    intro sh c
    unfold qp_fold
    cases step p sh with
    | none =>
      obtain ⟨k, h1, h2⟩ := ih sh c
      refine ⟨k, by rw [List.length_cons]; omega, ?_⟩
      rw [← h2]
      show (qp_fold step l sh (nI c + 0)).2 = _
      rw [Int32.add_zero]
    | some y =>
      obtain ⟨k, h1, h2⟩ := ih y (c + 1)
      refine ⟨k + 1, by rw [List.length_cons]; omega, ?_⟩
      show (qp_fold step l y (nI c + 1)).2 = _
      rw [nI_1, h2, show c + 1 + k = c + (k + 1) by omega]
theorem qO_pan (h : qR σ τ) (x y : Int32) : ∃ r σ' τ', qLP_pan σ x y = some (r, σ') ∧ qM_pan τ x y = some (r, τ') ∧ qR σ' τ' := by
  have h0 := h
  obtain ⟨n, f, w, sh, hok, hat, ⟨hC, hK⟩, hM, hx⟩ := h
  have hn := hok.1
  obtain ⟨w1, w2, w3, w4, w5, w6, w7, w8⟩ := hok.2.2
  obtain ⟨a0, a1, a2, a3⟩ := hC.2.1
  obtain ⟨b0, b1, b2, b3⟩ := hM.2.1
  have z : (0 : Int64).toInt = 0 := by decide
  have z10 : (10 : Int32).toInt = 10 := by decide
  have z100 : (100 : Int32).toInt = 100 := by decide
  have z200 : (200 : Int32).toInt = 200 := by decide
  have s1 : (200 - w 2).toInt = 200 - (w 2).toInt := by rw [qi_sub (by omega) (by omega), z200]
  have s2 : (200 - w 3).toInt = 200 - (w 3).toInt := by rw [qi_sub (by omega) (by omega), z200]
  have L : ∀ a b : Int32, (a.toInt64 + b.toInt64).toInt = a.toInt + b.toInt := by
    intro a b
    have ha := qi_rng a
    have hb := qi_rng b
    rw [Int64.toInt_add, qi_l, qi_l]
    exact Int.bmod_eq_of_le (by omega) (by omega)
  have T : ∀ a b : Int32, (a.toInt64 + b.toInt64).toInt32 = a + b := by
    intro a b
    rw [Int64.toInt32_add]
    simp
  unfold qLP_pan qM_pan qWi_allows qWi_put
  rw [a0, a1, a2, a3, b0, b1, b2, b3, if_neg (show ¬ w 2 < 10 by rw [qi_lt]; omega), if_neg (show ¬ 100 < w 2 by rw [qi_lt]; omega), if_neg (show ¬ w 3 < 10 by rw [qi_lt]; omega), if_neg (show ¬ 100 < w 3 by rw [qi_lt]; omega)]
  simp only [qM_in_s, qob_bind, ql_lt, qi_l, s1, s2, z, L, T]
  by_cases c3 : 0 ≤ (w 0).toInt + x.toInt ∧ (w 0).toInt + x.toInt ≤ 200 - (w 2).toInt
  · rw [if_neg (show ¬ (w 0).toInt + x.toInt < 0 by omega), if_neg (show ¬ 200 - (w 2).toInt < (w 0).toInt + x.toInt by omega), show (decide (0 ≤ (w 0).toInt + x.toInt) && decide ((w 0).toInt + x.toInt ≤ 200 - (w 2).toInt)) = true by simp [c3], if_neg qb_ne]
    by_cases c4 : 0 ≤ (w 1).toInt + y.toInt ∧ (w 1).toInt + y.toInt ≤ 200 - (w 3).toInt
    · rw [if_neg (show ¬ (w 1).toInt + y.toInt < 0 by omega), if_neg (show ¬ 200 - (w 3).toInt < (w 1).toInt + y.toInt by omega), show (decide (0 ≤ (w 1).toInt + y.toInt) && decide ((w 1).toInt + y.toInt ≤ 200 - (w 3).toInt)) = true by simp [c4], if_neg qb_ne]
      have e0 : (w 0 + x).toInt = (w 0).toInt + x.toInt := qi_add (by omega) (by omega)
      have e1' : (w 1 + y).toInt = (w 1).toInt + y.toInt := qi_add (by omega) (by omega)
      have hw : qv_win (qw4 (w 0 + x) (w 1 + y) (w 2) (w 3)) := by
        show 10 ≤ (w 2).toInt ∧ (w 2).toInt ≤ 100 ∧ 10 ≤ (w 3).toInt ∧ (w 3).toInt ≤ 100 ∧ 0 ≤ (w 0 + x).toInt ∧ (w 0 + x).toInt + (w 2).toInt ≤ 200 ∧ 0 ≤ (w 1 + y).toInt ∧ (w 1 + y).toInt + (w 3).toInt ≤ 200
        rw [e0, e1']
        omega
      obtain ⟨σ', τ', e1, e2, hok', hat', hCK, hM', hx'⟩ := qR_newWin hok hat hC hM hx (w 0 + x) (w 1 + y) (w 2) (w 3) hw
      -- the reference leaves width and height as they are
      have same : qx_up (qx_up τ 0 2 (w 0 + x)) 0 3 ((qx_up τ 0 2 (w 0 + x)).1 0 3 + y) = qx_up (qx_up (qx_up (qx_up τ 0 2 (w 0 + x)) 0 3 (w 1 + y)) 0 4 (w 2)) 0 5 (w 3) := by
        have hv : (qx_up τ 0 2 (w 0 + x)).1 0 3 = w 1 := by rw [qu_1]; simpa using b1
        rw [hv]
        refine Prod.ext (funext fun k => funext fun j => ?_) rfl
        simp only [qu_1]
        by_cases k5 : k = 0 ∧ j = 5
        · obtain ⟨rfl, rfl⟩ := k5; simp [b3]
        · by_cases k4 : k = 0 ∧ j = 4
          · obtain ⟨rfl, rfl⟩ := k4; simp [b2]
          · rw [if_neg k5, if_neg k4]
      simp only [qob_bind]
      rw [same, if_neg (show ¬ (1 : Int32) = 0 by decide), e1, e2]
      simp only [qob_bind]
      rw [qM_shown_s hn hM']
      obtain ⟨σ2, g1, Y⟩ := qLb_addFree_s hok' (qr_Y.of hCK.1 hCK.2 hat')
      obtain ⟨τ2, g2, o2, M2, A2⟩ := qM_fill_s hok' hat' hM'
      have hpos : 0 ≤ (qp_fold (qp_fillS n f (qw4 (w 0 + x) (w 1 + y) (w 2) (w 3))) (qp_ords n f) (qp_set n f (qw4 (w 0 + x) (w 1 + y) (w 2) (w 3)) sh) 0).2 := by
        have hlen := qp_ords_len n (fun p hp => (hok.2.1 p hp).2.2.2.2.1)
        obtain ⟨k, h1, h2⟩ := qp_fold_cnt (qp_fillS n f (qw4 (w 0 + x) (w 1 + y) (w 2) (w 3))) (qp_ords n f) (qp_set n f (qw4 (w 0 + x) (w 1 + y) (w 2) (w 3)) sh) 0
        rw [show (0 : Int32) = nI 0 from rfl, h2]
        exact nI_pos' (by omega)
      rw [g1, g2]
      simp only [qob_bind]
      rw [if_pos hpos]
      exact ⟨_, σ2, τ2, rfl, rfl, n, f, _, _, hok', A2, ⟨Y.2.1, Y.2.2.1⟩, M2, hx'.off Y.1 o2 (by decide) (by decide) (by decide) (by decide) (by decide) (by decide) (by decide)⟩
    · refine ⟨-2, σ, τ, ?_, ?_, h0⟩
      · rcases (show (w 1).toInt + y.toInt < 0 ∨ (¬ (w 1).toInt + y.toInt < 0 ∧ 200 - (w 3).toInt < (w 1).toInt + y.toInt) by omega) with k | ⟨k, k2⟩
        · rw [if_pos k]; rfl
        · rw [if_neg k, if_pos k2]; rfl
      · rw [show (decide (0 ≤ (w 1).toInt + y.toInt) && decide ((w 1).toInt + y.toInt ≤ 200 - (w 3).toInt)) = false by simp; omega, if_pos qb_f]
  · refine ⟨-2, σ, τ, ?_, ?_, h0⟩
    · rcases (show (w 0).toInt + x.toInt < 0 ∨ (¬ (w 0).toInt + x.toInt < 0 ∧ 200 - (w 2).toInt < (w 0).toInt + x.toInt) by omega) with k | ⟨k, k2⟩
      · rw [if_pos k]; rfl
      · rw [if_neg k, if_pos k2]; rfl
    · rw [show (decide (0 ≤ (w 0).toInt + x.toInt) && decide ((w 0).toInt + x.toInt ≤ 200 - (w 2).toInt)) = false by simp; omega, if_pos qb_f]
end
