/-! run side by side, the whole -/
section
variable {σ τ σ0 τ0 : QS} {u : Nat → Int32} {t : Nat}
theorem qF_succ : ∃ F, qx_F = F + 1 := ⟨99999999, qF_big⟩
theorem qM_98 {kd : Int32} (h : ¬ kd = 2) (τ : QS) : qM_reads_L98 kd qx_F τ 0 = qM_reads_J134 τ kd := by
  obtain ⟨F, hF⟩ := qF_succ
  rw [hF, qM_reads_L98, if_neg (by decide), if_neg h]
/-- all kinds but pan -/
theorem qt_loop1 (h0 : qt_C u t σ0) (g0 : qt_M u t τ0) {kd : Int32} {cnt q i : Nat} (hq : q < 6) (ek : kd = nI q) (k2 : ¬ kd = 2) (hc : qx_tab 2 q = nI cnt) (hcn : cnt ≤ 5) (hA : qt_A u t σ0 τ0 kd 0 i σ τ) : qt_F σ0 τ0 kd cnt (qCm_read_L75 qx_F σ 0) (qM_reads_L64 kd (nI cnt) qx_F τ 0) := by
  refine qt_loop h0 g0 hq ek hc hcn (qM_reads_L64 kd (nI cnt)) (fun m τ => ?_) (fun m τ x hx hf => ?_) (fun m τ x hx hf => ?_) cnt qx_F qx_F 0 i σ τ (by omega) (by rw [qF_big]; omega) (by rw [qF_big]; omega) hA
  · rw [qM_reads_L64, if_pos (nI_le (Nat.le_refl _) (by omega)), qM_98 k2]
  · unfold qt_ms
    rw [qM_reads_L64, if_neg (nI_ge hx (by omega)), if_pos hf, if_neg k2]
  · rw [qM_reads_L64, qM_98 k2, if_neg hf]
    by_cases c : nI cnt ≤ nI x
    · rw [if_pos c]
    · rw [if_neg c]
theorem qt_loop2 (h0 : qt_C u t σ0) (g0 : qt_M u t τ0) {i : Nat} (hA : qt_A u t σ0 τ0 2 0 i σ τ) : qt_F σ0 τ0 2 2 (qCm_read_L75 qx_F σ 0) (qM_reads_L64 2 0 qx_F τ 0) := by
  obtain ⟨F, hF⟩ := qF_succ
  have e : qM_reads_L64 2 0 qx_F τ 0 = qM_reads_L98 2 qx_F τ 0 := by
    rw [show qM_reads_L64 2 0 qx_F τ 0 = qM_reads_L64 2 0 (F + 1) τ 0 by rw [hF], qM_reads_L64, if_pos (by decide)]
  rw [e]
  refine qt_loop h0 g0 (kd := 2) (q := 2) (by decide) rfl (cnt := 2) rfl (by decide) (qM_reads_L98 2) (fun m τ => ?_) (fun m τ x hx hf => ?_) (fun m τ x hx hf => ?_) 2 qx_F qx_F 0 i σ τ (by omega) (by rw [qF_big]; omega) (by rw [qF_big]; omega) hA
  · rw [qM_reads_L98, if_pos (by decide)]
  · unfold qt_ms
    rw [qM_reads_L98, if_neg (show ¬ (2 : Int32) ≤ nI x from nI_ge (b := 2) hx (by omega)), if_pos rfl, if_pos hf, if_pos rfl]
  · rw [qM_reads_L98, if_pos rfl, if_neg hf]
    by_cases c : (2 : Int32) ≤ nI x
    · rw [if_pos c]
    · rw [if_neg c]
theorem qt_reads (hC : qt_C u t σ) (hM : qt_M u t τ) : ∃ φ kd σ' τ', qCm_read σ = some (φ, σ') ∧ qM_reads τ = some (kd, τ') ∧ τ'.1 0 16 = φ ∧ qs_only [21, 22] σ σ' ∧ qt_m τ τ' ∧ (φ = -1 → σ'.1 21 0 = kd ∧ ∃ q cnt, q < 6 ∧ kd = nI q ∧ (qx_tab 2 q = nI cnt ∧ cnt ≤ 5) ∧ ∀ y, y < cnt → σ'.1 22 y = τ'.1 10 y) := by
  have h80 := hC.1
  obtain ⟨F, hF⟩ := qF_succ
  have a2 := qt_r_le (u := u) (t := t) qt_bl1 0 (Nat.zero_le _)
  generalize ha : qt_r qt_bl u t 0 = a at a2
  have w1 := qt_r_ge (u := u) (t := t) qt_le1 a
  have w2 := qt_r_le (u := u) (t := t) qt_le1 a a2
  have w3 := qt_r_in (u := u) (t := t) qt_le1 a
  -- the class up to its word
  have c1 := qCm_skip_s hC (Nat.zero_le t)
  rw [ha] at c1
  have c2 := qCm_word_L hC (nI a) a qx_F (by rw [qF_big]; omega) a2
  -- the reference up to its word
  have hM1 : qt_M u t (qx_up (qx_up τ 0 15 0) 0 16 (-1)) := (hM.up0 (by decide)).up0 (by decide)
  have m1 := qM_skip_s hM1 (i := 0) (Nat.zero_le t) (by rw [qu_nj _ (by decide), qu_s]; rfl)
  rw [ha] at m1
  have f1 : qt_m τ (qx_up (qx_up (qx_up τ 0 15 0) 0 16 (-1)) 0 15 (nI a)) := ((qt_m.rf.up0 (by decide)).up0 (by decide)).up0 (by decide)
  have g1 : (qx_up (qx_up (qx_up τ 0 15 0) 0 16 (-1)) 0 15 (nI a)).1 0 16 = -1 := by rw [qu_nj _ (by decide), qu_s]
  have g2 : (qx_up (qx_up (qx_up τ 0 15 0) 0 16 (-1)) 0 15 (nI a)).1 0 15 = nI a := qu_s _ _ _ _
  generalize qx_up (qx_up (qx_up τ 0 15 0) 0 16 (-1)) 0 15 (nI a) = τ2 at m1 f1 g1 g2
  have f1' : qt_m τ (qx_up τ2 0 18 0) := f1.up0 (by decide)
  obtain ⟨τ3, m2, W⟩ := qM_word_L (τ0 := qx_up τ2 0 18 0) (hM.m f1') (a := a) a qx_F (qx_up τ2 0 18 0) (by rw [qF_big]; omega) (Nat.le_refl _) a2 ⟨fun _ _ _ => rfl, fun _ _ _ => rfl, by rw [qu_nj _ (by decide)]; exact g2, by rw [qu_s, Nat.sub_self]; rfl, fun j hj => by omega⟩
  generalize hw : qt_r (qp_rng 97 122) u t a = w at *
  have f3 : qt_m τ τ3 := f1'.tr ⟨fun k k0 k9 _ => W.1 k k0 k9, fun j j1 _ j3 => W.2.1 j j1 j3⟩
  have g3 : τ3.1 0 16 = -1 := by rw [W.2.1 16 (by decide) (by decide), qu_nj _ (by decide)]; exact g1
  have hS : qt_C u t (qx_up σ 21 2 (nI w)) := hC.up (by decide) (by decide)
  obtain ⟨kd, k1, k2, k3⟩ := qt_kind hS (τ := τ3) (a := a) (i := w) ⟨W.2.2.2.1, W.2.2.2.2⟩ w1 (by omega)
  have e1 : qCm_read σ = (if kd = -1 then some (nI a, qx_up (qx_up σ 21 2 (nI w)) 21 0 kd) else qCm_read_L75 qx_F (qx_up (qx_up σ 21 2 (nI w)) 21 0 kd) 0) := by
    unfold qCm_read
    rw [show qx_up σ 21 2 0 = qx_up σ 21 2 (nI 0) from rfl, c1, qob_bind, qu_s, c2]
    unfold qCm_read_J50
    rw [qu_s, k1, qob_bind, qu_s]
  have e2 : qM_reads τ = (if kd = -1 then ((qM_fails τ3 (nI a)).bind fun r8 => qM_reads_J38 r8 kd) else qM_reads_J38 τ3 kd) := by
    unfold qM_reads qM_readsWord
    rw [m1, qob_bind, m2, qob_bind, k2, qob_bind, g2]
  rw [e1, e2]
  have o1 : qs_only [21, 22] σ (qx_up (qx_up σ 21 2 (nI w)) 21 0 kd) := qs_only.up (by decide) (qs_only.up (by decide) qs_only.rf)
  rcases k3 with rfl | ⟨⟨q, hq, ek⟩, haw⟩
  · rw [if_pos rfl, if_pos rfl]
    unfold qM_fails qM_reads_J38
    rw [g3, if_pos rfl, qob_bind, qM_skip_s ((hM.m f3).up0 (i := 16) (by decide)) (i := w) w2 (by rw [qu_nj _ (by decide)]; exact W.2.2.1), qob_bind, if_neg (by decide), if_neg (by decide), hF, qM_reads_L64, if_pos (by decide), qM_98 (by decide)]
    obtain ⟨τ', q1, q2, q3⟩ := qM_134_bad (τ := qx_up (qx_up τ3 0 16 (nI a)) 0 15 (nI (qt_r qt_bl u t w))) ((f3.up0 (by decide)).up0 (by decide)) (-1) (q := a) (by omega) (by rw [qu_nj _ (by decide), qu_s])
    exact ⟨_, _, _, τ', rfl, q1, q2, o1, q3, fun q => absurd q (nI_nm1 (by omega))⟩
  · have kn : ¬ kd = -1 := by rw [ek]; exact nI_nm1 (by omega)
    rw [if_neg kn, if_neg kn]
    unfold qM_reads_J38
    rw [qM_skip_s (hM.m f3) (i := w) w2 W.2.2.1, qob_bind]
    have f4 : qt_m τ (qx_up τ3 0 15 (nI (qt_r qt_bl u t w))) := f3.up0 (by decide)
    have nd : ¬ (qt_dg u t (w - 1) ∧ qt_dg u t w) := by
      intro d
      have l := w3 (w - 1) (by omega) (by omega)
      have d := d.1
      unfold qt_dg at d
      unfold qp_rng at l d
      simp only [Bool.and_eq_true, decide_eq_true_eq] at l d
      omega
    have A : qt_A u t σ τ kd 0 w (qx_up (qx_up σ 21 2 (nI w)) 21 0 kd) (qx_up τ3 0 15 (nI (qt_r qt_bl u t w))) := ⟨o1, f4, by rw [qu_nj _ (by decide), qu_s], qu_s _ _ _ _, qu_s _ _ _ _, by rw [qu_nj _ (by decide)]; exact g3, by omega, w2, nd, fun y hy => by omega⟩
    have fin : ∀ {cnt : Nat} {rM : Option (Int32 × QS)}, (qx_tab 2 q = nI cnt ∧ cnt ≤ 5) → qt_F σ τ kd cnt (qCm_read_L75 qx_F (qx_up (qx_up σ 21 2 (nI w)) 21 0 kd) 0) rM → ∃ φ kd' σ' τ', qCm_read_L75 qx_F (qx_up (qx_up σ 21 2 (nI w)) 21 0 kd) 0 = some (φ, σ') ∧ rM = some (kd', τ') ∧ τ'.1 0 16 = φ ∧ qs_only [21, 22] σ σ' ∧ qt_m τ τ' ∧ (φ = -1 → σ'.1 21 0 = kd' ∧ ∃ q cnt, q < 6 ∧ kd' = nI q ∧ (qx_tab 2 q = nI cnt ∧ cnt ≤ 5) ∧ ∀ y, y < cnt → σ'.1 22 y = τ'.1 10 y) := by
      intro cnt rM hc ⟨φ, σ', τ', r1, r2, r3, r4, r5, r6⟩
      exact ⟨φ, kd, σ', τ', r1, r2, r3, r4, r5, fun q' => ⟨(r6 q').1, q, cnt, hq, ek, hc, (r6 q').2⟩⟩
    have hq' : q = 0 ∨ q = 1 ∨ q = 2 ∨ q = 3 ∨ q = 4 ∨ q = 5 := by omega
    rcases hq' with rfl | rfl | rfl | rfl | rfl | rfl
    · rw [if_pos (show kd = 0 from ek)]
      exact fin ⟨rfl, by decide⟩ (qt_loop1 hC hM hq ek (by rw [ek]; decide) (cnt := 5) rfl (by decide) A)
    · rw [if_neg (by rw [ek]; decide), if_pos (show kd = 1 from ek)]
      exact fin ⟨rfl, by decide⟩ (qt_loop1 hC hM hq ek (by rw [ek]; decide) (cnt := 4) rfl (by decide) A)
    · rw [if_neg (by rw [ek]; decide), if_neg (by rw [ek]; decide)]
      have ek' : kd = 2 := ek
      subst ek'
      exact fin ⟨rfl, by decide⟩ (qt_loop2 hC hM A)
    · rw [if_neg (by rw [ek]; decide), if_neg (by rw [ek]; decide)]
      exact fin ⟨rfl, by decide⟩ (qt_loop1 hC hM hq ek (by rw [ek]; decide) (cnt := 0) rfl (by decide) A)
    · rw [if_neg (by rw [ek]; decide), if_neg (by rw [ek]; decide)]
      exact fin ⟨rfl, by decide⟩ (qt_loop1 hC hM hq ek (by rw [ek]; decide) (cnt := 0) rfl (by decide) A)
    · rw [if_neg (by rw [ek]; decide), if_neg (by rw [ek]; decide)]
      exact fin ⟨rfl, by decide⟩ (qt_loop1 hC hM hq ek (by rw [ek]; decide) (cnt := 0) rfl (by decide) A)
end
