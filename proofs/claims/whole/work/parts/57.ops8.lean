/-! leaders side by side, done -/
section
variable {n : Nat} {f : Nat → Nat → Int32} {w sh : Nat → Int32} {τ σ σ0 : QS}
theorem q_21 (a : Int32) : a - 1 + 1 = a := Int32.sub_add_cancel a 1
/-- the row of a slot is a small number -/
theorem q_row (hw : qv_win w) {i : Nat} (hi : i < 20) : (w 1 + w 3 - 1 - 2 * nI i).toInt = (w 1).toInt + (w 3).toInt - 1 - 2 * i := by
  obtain ⟨w1, w2, w3, w4, w5, w6, w7, w8⟩ := hw
  have k1 : (1 : Int32).toInt = 1 := by decide
  have a1 : (w 1 + w 3).toInt = (w 1).toInt + (w 3).toInt := qi_add (by omega) (by omega)
  have a2 : (w 1 + w 3 - 1).toInt = (w 1).toInt + (w 3).toInt - 1 := by rw [qi_sub (by omega) (by omega), a1, k1]
  have a3 : (2 * nI i).toInt = 2 * i := by rw [show (2 : Int32) = nI 2 from rfl, pk_mul, nI_toInt (by omega)]; omega
  rw [qi_sub (by omega) (by omega), a2, a3]
theorem qLn_keep_s (hok : qv_ok n f w) (hC : qr_C n f w sh σ) {k i : Nat} {A : Nat → Nat} (hk : k ≤ 20) (hi : i < k) (h16 : σ.1 16 0 = nI k) (hA : σ.1 18 i = nI (A i) ∧ A i < n) : qLn_keep σ (nI i) = some (qx_up (qx_up (qx_up (qx_up σ 17 (4 * i) (qp_lv f w k i (A i) 0)) 17 (4 * i + 1) (qp_lv f w k i (A i) 1)) 17 (4 * i + 2) (qp_lv f w k i (A i) 2)) 17 (4 * i + 3) (qp_lv f w k i (A i) 3)) := by
  have hn := hok.1
  obtain ⟨a0, a1, a2, a3⟩ := hC.2.1
  have hr := q_row hok.2.2 (show i < 20 by omega)
  obtain ⟨w1, w2, w3, w4, w5, w6, w7, w8⟩ := hok.2.2
  obtain ⟨-, ⟨y1, y2⟩, -⟩ := hok.2.1 (A i) hA.2
  unfold qLn_keep qLn_slotRow qWi_greatestY qWi_greatestX qLn_keep_J65
  rw [qo_in (by omega) (by decide), nI_clamp (by omega), hA.1, qPt_get0 hn hC hA.2, qPt_get1 hn hC hA.2, a0, a1, a2, a3, h16]
  simp only [qob_bind, q_21]
  have m0 : nI i * 4 + 0 = nI (4 * i) := by rw [show (4 : Int32) = nI 4 from rfl, pk_mul, qn_p0, Nat.mul_comm]
  have m1 : nI i * 4 + 1 = nI (4 * i + 1) := by rw [show (4 : Int32) = nI 4 from rfl, pk_mul, nI_1, Nat.mul_comm]
  have m2 : nI i * 4 + 2 = nI (4 * i + 2) := by rw [show (4 : Int32) = nI 4 from rfl, pk_mul, show (2 : Int32) = nI 2 from rfl, nI_add, Nat.mul_comm]
  have m3 : nI i * 4 + 3 = nI (4 * i + 3) := by rw [show (4 : Int32) = nI 4 from rfl, pk_mul, show (3 : Int32) = nI 3 from rfl, nI_add, Nat.mul_comm]
  simp only [m0, m1, m2, m3, qo_in (show 4 * i < 80 by omega) (by decide), qo_in (show 4 * i + 1 < 80 by omega) (by decide), qo_in (show 4 * i + 2 < 80 by omega) (by decide), qo_in (show 4 * i + 3 < 80 by omega) (by decide), nI_clamp (show 4 * i < 2 ^ 31 by omega), nI_clamp (show 4 * i + 1 < 2 ^ 31 by omega), nI_clamp (show 4 * i + 2 < 2 ^ 31 by omega), nI_clamp (show 4 * i + 3 < 2 ^ 31 by omega)]
  have ab := q_abs (a := w 1 + w 3 - 1 - 2 * nI i) (b := f 1 (A i)) (by omega) (by omega)
  rw [ab]
  unfold qp_lv
  by_cases c : w 1 + w 3 - 1 - 2 * nI i ≤ f 1 (A i)
  · simp only [if_pos c]
  · simp only [if_neg c]
theorem qLn_lay_L (hok : qv_ok n f w) {k : Nat} {A : Nat → Nat} (hk : k ≤ 20) (hC : ∀ σ', qs_only [17] σ0 σ' → qr_C n f w sh σ') (h16 : σ0.1 16 0 = nI k) (hA : ∀ j, j < k → σ0.1 18 j = nI (A j) ∧ A j < n) : ∀ (m i : Nat) (σ : QS), i ≤ k → k < m + i → qs_only [17] σ0 σ → qr_V f w k A 17 i σ →
    ∃ σ', qLn_lay_L36 m σ (nI i) = some (nI k, σ') ∧ qs_only [17] σ0 σ' ∧ qr_V f w k A 17 k σ' := by
  intro m
  induction m with
  | zero => intro i σ h1 h2; omega
  | succ m ih =>
    intro i σ h1 h2 ho hV
    have e16 : σ.1 16 0 = nI k := by rw [ho.1 16 (by decide)]; exact h16
    rw [qLn_lay_L36, e16]
    rcases Nat.lt_or_ge i k with hi | hi
    · rw [if_neg (nI_ge hi (by omega)), qLn_keep_s hok (hC σ ho) hk hi e16 (A := A) (by rw [ho.1 18 (by decide)]; exact hA i hi), qob_bind, nI_1]
      exact ih (i + 1) _ hi (by omega) (qs_only.up (by decide) (qs_only.up (by decide) (qs_only.up (by decide) (qs_only.up (by decide) ho)))) hV.next
    · have e : i = k := by omega
      subst e
      rw [if_pos (nI_le (Nat.le_refl _) (by omega))]
      exact ⟨σ, rfl, ho, hV⟩
theorem qM_lay_i (hok : qv_ok n f w) (hM : qr_M n f w sh τ) {k i : Nat} {A : Nat → Nat} (hk : k ≤ 20) (hi : i < k) (hA : τ.1 7 i = nI (A i) ∧ A i < n) (m : Nat) : qM_leaders_L107 (nI k) (m + 1) τ (nI i) = qM_leaders_L107 (nI k) m (qx_up (qx_up (qx_up (qx_up τ 6 (4 * i) (qp_lv f w k i (A i) 0)) 6 (4 * i + 1) (qp_lv f w k i (A i) 1)) 6 (4 * i + 2) (qp_lv f w k i (A i) 2)) 6 (4 * i + 3) (qp_lv f w k i (A i) 3)) (nI (i + 1)) := by
  have hn := hok.1
  obtain ⟨a0, a1, a2, a3⟩ := hM.2.1
  obtain ⟨x0, x1, -⟩ := hM.2.2 (A i) hA.2
  have hAi := hA.2
  have m0 : (4 : Int32) * nI i = nI (4 * i) := by rw [show (4 : Int32) = nI 4 from rfl, pk_mul]
  have m1 : nI (4 * i) + 1 = nI (4 * i + 1) := nI_1 _
  have m2 : nI (4 * i) + 2 = nI (4 * i + 2) := nI_add (4 * i) 2
  have m3 : nI (4 * i) + 3 = nI (4 * i + 3) := nI_add (4 * i) 3
  rw [qM_leaders_L107, if_neg (nI_ge hi (by omega)), qo_in (by omega) (by decide), nI_clamp (by omega), hA.1, a0, a1, a2, a3]
  simp only [qn_a20, qo_in (show 20 + A i < 140 by omega) (by decide), nI_clamp (show 20 + A i < 2 ^ 31 by omega), x1]
  have J : ∀ s0 : Int32, qM_leaders_J190 τ (qM_leaders_L107 (nI k) m) (nI k) (nI i) (nI (A i)) (w 1 + w 3 - 1 - 2 * nI i) (w 0 + w 2 + nI k) s0 = qM_leaders_L107 (nI k) m (qx_up (qx_up (qx_up (qx_up τ 6 (4 * i) (nI (A i))) 6 (4 * i + 1) (w 1 + w 3 - 1 - 2 * nI i)) 6 (4 * i + 2) (qp_lv f w k i (A i) 2)) 6 (4 * i + 3) (w 0 + w 2 + nI k - f 0 (A i) + s0)) (nI (i + 1)) := by
    intro s0
    unfold qM_leaders_J190 qM_leaders_J254
    have v1 : ∀ v v' : Int32, (qx_up (qx_up τ 6 (4 * i) v) 6 (4 * i + 1) v').1 1 (20 + A i) = f 1 (A i) := by intro v v'; simp only [qu_1]; simpa using x1
    have v2 : ∀ v v' : Int32, (qx_up (qx_up τ 6 (4 * i) v) 6 (4 * i + 1) v').1 0 2 = w 0 := by intro v v'; simp only [qu_1]; simpa using a0
    have v3 : ∀ v v' : Int32, (qx_up (qx_up τ 6 (4 * i) v) 6 (4 * i + 1) v').1 0 4 = w 2 := by intro v v'; simp only [qu_1]; simpa using a2
    have v4 : ∀ v v' v'' : Int32, (qx_up (qx_up (qx_up τ 6 (4 * i) v) 6 (4 * i + 1) v') 6 (4 * i + 2) v'').1 1 (0 + A i) = f 0 (A i) := by intro v v' v''; simp only [qu_1]; simpa using x0
    simp only [m0, m1, m2, m3, qn_a0, qn_a20, qo_in (show 4 * i < 80 by omega) (by decide), qo_in (show 4 * i + 1 < 80 by omega) (by decide), qo_in (show 4 * i + 2 < 80 by omega) (by decide), qo_in (show 4 * i + 3 < 80 by omega) (by decide), qo_in (show 20 + A i < 140 by omega) (by decide), qo_in (show 0 + A i < 140 by omega) (by decide), nI_clamp (show 4 * i < 2 ^ 31 by omega), nI_clamp (show 4 * i + 1 < 2 ^ 31 by omega), nI_clamp (show 4 * i + 2 < 2 ^ 31 by omega), nI_clamp (show 4 * i + 3 < 2 ^ 31 by omega), nI_clamp (show 20 + A i < 2 ^ 31 by omega), nI_clamp (show 0 + A i < 2 ^ 31 by omega), v1, v2, v3, v4, nI_1]
    unfold qp_lv
    by_cases c : w 1 + w 3 - 1 - 2 * nI i ≤ f 1 (A i)
    · simp only [if_pos c]
    · simp only [if_neg c]
  rw [J, J]
  unfold qp_lv
  by_cases c : w 1 + w 3 - 1 - 2 * nI i ≤ f 1 (A i)
  · simp only [if_pos c]
  · simp only [if_neg c]
theorem qM_lay_L (hok : qv_ok n f w) {k : Nat} {A : Nat → Nat} (hk : k ≤ 20) (hM : ∀ σ', qs_only [6] σ0 σ' → qr_M n f w sh σ') (hA : ∀ j, j < k → σ0.1 7 j = nI (A j) ∧ A j < n) : ∀ (m i : Nat) (τ : QS), i ≤ k → k < m + i → qs_only [6] σ0 τ → qr_V f w k A 6 i τ →
    ∃ τ', qM_leaders_L107 (nI k) m τ (nI i) = some (nI k, τ') ∧ qs_only [6] σ0 τ' ∧ qr_V f w k A 6 k τ' := by
  intro m
  induction m with
  | zero => intro i τ h1 h2; omega
  | succ m ih =>
    intro i τ h1 h2 ho hV
    rcases Nat.lt_or_ge i k with hi | hi
    · rw [qM_lay_i hok (hM τ ho) hk hi (A := A) (by rw [ho.1 7 (by decide)]; exact hA i hi)]
      exact ih (i + 1) _ hi (by omega) (qs_only.up (by decide) (qs_only.up (by decide) (qs_only.up (by decide) (qs_only.up (by decide) ho)))) hV.next
    · have e : i = k := by omega
      subst e
      rw [qM_leaders_L107, if_pos (nI_le (Nat.le_refl _) (by omega))]
      exact ⟨τ, rfl, ho, hV⟩
theorem qO_leaders (h : qR σ τ) : ∃ r σ' τ', qLP_leaders σ = some (r, σ') ∧ qM_leaders τ = some (r, τ') ∧ qR σ' τ' := by
  obtain ⟨n, f, w, sh, hok, hat, ⟨hC, hK⟩, hM, hx⟩ := h
  have hn := hok.1
  have hk := qp_ga_le f w sh n
  obtain ⟨σ1, e1, o1, v1⟩ := qLn_gather_L (σ0 := σ) hn (fun σ' ho => hC.off ho (by decide) (by decide) (by decide) (by decide)) qx_F 0 σ (Nat.zero_le _) (by rw [qF_big]; omega) qs_only.rf (fun j hj => by cases hj)
  obtain ⟨τ1, m', g1, p1, u1⟩ := qM_gather_L (σ0 := τ) hok (fun σ' ho => hM.off ho (by decide) (by decide)) qx_F 0 τ (Nat.zero_le _) (by rw [qF_big]; omega) qs_only.rf (fun j hj => by cases hj)
  have e1' : qLn_gatherWaiting σ = some (nI (qp_ga f w sh n).2, σ1) := e1
  have g1' : qM_leaders τ = qM_leaders_L4 (m' + 1) τ1 (nI (qp_ga f w sh n).2) (nI n) := g1
  have C1 := hC.off o1 (by decide) (by decide) (by decide) (by decide)
  have M1 := hM.off p1 (by decide) (by decide)
  generalize hkk : (qp_ga f w sh n).2 = k at *
  generalize hAA : (qp_ga f w sh n).1 = A at *
  obtain ⟨a0, a1, a2, a3⟩ := C1.2.1
  obtain ⟨b0, b1, b2, b3⟩ := M1.2.1
  unfold qLP_leaders qLn_lay
  rw [e1', g1', qM_leaders_L4, M1.1, if_pos (nI_le (Nat.le_refl _) (by omega)), b3]
  simp only [qob_bind]
  -- both lay
  have good : ∃ r σ' τ', (qLn_lay_L36 qx_F (qx_up σ1 16 0 (nI k)) 0).bind (fun r1 => some (r1.1, r1.2)) = some (r, σ') ∧ qM_leaders_L107 (nI k) qx_F (qx_up τ1 0 11 (nI k)) 0 = some (r, τ') ∧ qR σ' τ' := by
    have o2 : qs_only [16] σ1 (qx_up σ1 16 0 (nI k)) := qs_only.up (by decide) qs_only.rf
    have C2 := C1.off o2 (by decide) (by decide) (by decide) (by decide)
    have M2 : qr_M n f w sh (qx_up τ1 0 11 (nI k)) := by
      refine ⟨?_, ?_, fun p hp => ?_⟩
      · rw [qu_1]; simpa using M1.1
      · simp only [qu_1]; simpa using M1.2.1
      · have := M1.2.2 p hp
        simp only [qu_1]; simpa using this
    obtain ⟨σ3, e3, o3, V3⟩ := qLn_lay_L (σ0 := qx_up σ1 16 0 (nI k)) hok (k := k) (A := A) (by omega) (fun σ' ho => C2.off ho (by decide) (by decide) (by decide) (by decide)) (by rw [qu_1]; rfl) (fun j hj => by rw [o2.1 18 (by decide)]; exact v1 j hj) qx_F 0 _ (Nat.zero_le _) (by rw [qF_big]; omega) qs_only.rf (fun i hi => by omega)
    obtain ⟨τ3, g3, p3, U3⟩ := qM_lay_L (σ0 := qx_up τ1 0 11 (nI k)) hok (k := k) (A := A) (by omega) (fun σ' ho => M2.off ho (by decide) (by decide)) (fun j hj => u1 j hj) qx_F 0 _ (Nat.zero_le _) (by rw [qF_big]; omega) qs_only.rf (fun i hi => by omega)
    rw [show (0 : Int32) = nI 0 from rfl, e3, g3]
    have os := ((o1.wide (S' := [16, 17, 18]) (by decide)).tr (o2.wide (by decide))).tr (o3.wide (by decide))
    refine ⟨nI k, σ3, τ3, rfl, rfl, n, f, w, sh, hok, hat, ⟨hC.off os (by decide) (by decide) (by decide) (by decide), hK.off os (by decide) (by decide) (by decide) (by decide) (by decide) (by decide)⟩, M2.off p3 (by decide) (by decide), ⟨k, by omega, ?_, ?_, fun i hi => ?_⟩, ?_⟩
    · rw [o3.1 16 (by decide), qu_1]; rfl
    · rw [p3.1 0 (by decide), qu_1]; rfl
    · rw [V3 i hi, U3 i hi]
    · obtain ⟨-, t, t1, t2, t3, t4⟩ := hx
      refine ⟨t, t1, ?_, ?_, fun i hi => ?_⟩
      · rw [os.1 19 (by decide)]; exact t2
      · rw [p3.1 0 (by decide), qu_1, p1.1 0 (by decide)]; simpa using t3
      · rw [os.1 20 (by decide), p3.1 8 (by decide)]
        show σ.1 20 i = τ1.1 8 i ∧ 0 ≤ (τ1.1 8 i).toInt ∧ (τ1.1 8 i).toInt ≤ 127
        rw [p1.1 8 (by decide)]
        exact t4 i hi
  by_cases c0 : k = 0
  · subst c0
    rw [if_pos (show nI 0 ≤ 0 by decide), if_pos (show nI 0 ≤ 0 by decide)]
    exact good
  · obtain ⟨d1, -⟩ := nI_m1 (show 0 < k by omega)
    have hr := q_row hok.2.2 (show k - 1 < 20 by omega)
    obtain ⟨w1, w2, w3, w4, w5, w6, w7, w8⟩ := hok.2.2
    have k1 : (1 : Int32).toInt = 1 := by decide
    have z : (0 : Int32).toInt = 0 := by decide
    have s2 : (w 3 - 1).toInt = (w 3).toInt - 1 := by rw [qi_sub (by omega) (by omega), k1]
    have s3 : (2 * nI (k - 1)).toInt = 2 * (k - 1 : Nat) := by rw [show (2 : Int32) = nI 2 from rfl, pk_mul, nI_toInt (by omega)]; omega
    have s4 : (w 3 - 1 - 2 * nI (k - 1)).toInt = (w 3).toInt - 1 - 2 * (k - 1 : Nat) := by rw [qi_sub (by omega) (by omega), s2, s3]
    have nz : ¬ nI k ≤ 0 := nI_nle (by omega) (by omega)
    unfold qLn_slotRow qWi_greatestY
    rw [if_neg nz, if_neg nz, d1, a1, a3]
    simp only [qob_bind]
    by_cases c : (w 1) ≤ (w 1 + w 3 - 1 - 2 * nI (k - 1))
    · rw [if_pos c, if_pos (by rw [qi_le, s4, z]; rw [qi_le, hr] at c; omega)]
      exact good
    · rw [if_neg c, if_neg (by rw [qi_le, s4, z]; rw [qi_le, hr] at c; omega)]
      refine ⟨-3, σ1, τ1, rfl, rfl, n, f, w, sh, hok, hat, ⟨C1, hK.off o1 (by decide) (by decide) (by decide) (by decide) (by decide) (by decide)⟩, M1, hx.off o1 p1 (by decide) (by decide) (by decide) (by decide) (by decide) (by decide) (by decide)⟩
end
