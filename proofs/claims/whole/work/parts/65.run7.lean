/-! run side by side -/
section
variable {σ τ σ0 τ0 : QS}
theorem qR.mm {σ1 τ1 : QS} (h : qR σ τ) (ho : qs_only [21, 22] σ σ1) (hm : qt_m τ τ1) : qR σ1 τ1 := by
  obtain ⟨n, f, w, sh, hok, hat, ⟨hC, hK⟩, hM, ⟨k, k1, k2, k3, k4⟩, t, t1, t2, t3, t4⟩ := h
  have z : ∀ j, ¬ j = 15 → ¬ j = 16 → ¬ j = 18 → τ1.1 0 j = τ.1 0 j := hm.2
  refine ⟨n, f, w, sh, hok, hat, ⟨hC.off ho (by decide) (by decide) (by decide) (by decide), hK.off ho (by decide) (by decide) (by decide) (by decide) (by decide) (by decide)⟩, ?_, ⟨k, k1, ?_, ?_, fun i hi => ?_⟩, t, t1, ?_, ?_, fun i hi => ?_⟩
  · unfold qr_M
    rw [z 1 (by decide) (by decide) (by decide), z 2 (by decide) (by decide) (by decide), z 3 (by decide) (by decide) (by decide), z 4 (by decide) (by decide) (by decide), z 5 (by decide) (by decide) (by decide), hm.1 1 (by decide) (by decide) (by decide)]
    exact hM
  · rw [ho.1 16 (by decide)]; exact k2
  · rw [z 11 (by decide) (by decide) (by decide)]; exact k3
  · rw [ho.1 17 (by decide), hm.1 6 (by decide) (by decide) (by decide)]; exact k4 i hi
  · rw [ho.1 19 (by decide)]; exact t2
  · rw [z 14 (by decide) (by decide) (by decide)]; exact t3
  · rw [ho.1 20 (by decide), hm.1 8 (by decide) (by decide) (by decide)]; exact t4 i hi
theorem qR.clear (h : qR σ τ) : qR (qx_up σ 19 0 0) (qx_up τ 0 14 0) := by
  obtain ⟨r, σ', τ', e1, e2, e3⟩ := qO_clear h
  unfold qLP_clear at e1
  unfold qM_clear at e2
  have e1 := congrArg Prod.snd (Option.some.inj e1)
  have e2 := congrArg Prod.snd (Option.some.inj e2)
  have e1' : qx_up σ 19 0 0 = σ' := e1
  have e2' : qx_up τ 0 14 0 = τ' := e2
  rw [e1', e2']
  exact e3
theorem qo_d {β : Type} {K : Option β} : qx_ob 0 5 K = K ∧ qx_ob 1 5 K = K ∧ qx_ob 2 5 K = K ∧ qx_ob 3 5 K = K ∧ qx_ob 4 5 K = K :=
  ⟨qo_in (j := 0) (by decide) (by decide), qo_in (j := 1) (by decide) (by decide), qo_in (j := 2) (by decide) (by decide), qo_in (j := 3) (by decide) (by decide), qo_in (j := 4) (by decide) (by decide)⟩
theorem qob_eta {r : Int32} {σ : QS} : ((some (r, σ) : Option (Int32 × QS)).bind fun r3 => some (r3.1, r3.2)) = some (r, σ) := rfl
theorem qO_run (h : qR σ τ) : ∃ r σ' τ', qLP_run σ = some (r, σ') ∧ qM_run τ = some (r, τ') ∧ qR σ' τ' := by
  have h0 := h
  obtain ⟨n, f, w, sh, hok, hat, ⟨hC, hK⟩, hM, hl, t, t1, t2, t3, t4⟩ := h0
  obtain ⟨φ, kd, σ1, τ1, e1, e2, e3, e4, e5, e6⟩ := qt_reads (u := fun i => τ.1 8 i) (t := t) (σ := σ) (τ := τ) ⟨t1, t2, fun i hi => (t4 i hi).1⟩ ⟨t1, t3, fun i hi => rfl⟩
  have R1 := h.mm e4 e5
  unfold qLP_run qM_run
  rw [e1, qob_bind, e2, qob_bind, e3]
  by_cases c : φ = -1
  · rw [if_pos c, if_pos c]
    obtain ⟨k1, q, cnt, hq, ek, hc, ey⟩ := e6 c
    have R2 := R1.clear
    have kk : (qx_up σ1 19 0 0).1 21 0 = kd := by rw [qu_ne _ (by decide)]; exact k1
    have nn : ∀ y, y < cnt → (qx_up σ1 19 0 0).1 22 y = (qx_up τ1 0 14 0).1 10 y := by
      intro y hy
      rw [qu_ne _ (by decide), qu_ne _ (by decide)]
      exact ey y hy
    rw [kk]
    generalize qx_up σ1 19 0 0 = σ2 at *
    generalize qx_up τ1 0 14 0 = τ2 at *
    have z0 : (0 : Int32).toNatClampNeg = 0 := rfl
    have z1 : (1 : Int32).toNatClampNeg = 1 := rfl
    have z2 : (2 : Int32).toNatClampNeg = 2 := rfl
    have z3 : (3 : Int32).toNatClampNeg = 3 := rfl
    have z4 : (4 : Int32).toNatClampNeg = 4 := rfl
    have hq' : q = 0 ∨ q = 1 ∨ q = 2 ∨ q = 3 ∨ q = 4 ∨ q = 5 := by omega
    rcases hq' with rfl | rfl | rfl | rfl | rfl | rfl
    · have e5 : cnt = 5 := by
        exact ((nI_eq (a := 5) (b := cnt) (by decide) (by omega)).mp hc.1).symm
      simp only [if_pos (show kd = 0 from ek)]
      simp only [qo_d.1, qo_d.2.1, qo_d.2.2.1, qo_d.2.2.2.1, qo_d.2.2.2.2, z0, z1, z2, z3, z4]
      rw [nn 0 (by omega), nn 1 (by omega), nn 2 (by omega), nn 3 (by omega), nn 4 (by omega)]
      obtain ⟨r, σ', τ', g1, g2, g3⟩ := qO_addPoint R2 (τ2.1 10 0) (τ2.1 10 1) (τ2.1 10 2) (τ2.1 10 3) (τ2.1 10 4) 255
      rw [g1, g2]
      exact ⟨r, σ', τ', rfl, rfl, g3⟩
    · have e5 : cnt = 4 := by
        exact ((nI_eq (a := 4) (b := cnt) (by decide) (by omega)).mp hc.1).symm
      simp only [if_neg (show ¬ kd = 0 by rw [ek]; decide), if_pos (show kd = 1 from ek)]
      simp only [qo_d.1, qo_d.2.1, qo_d.2.2.1, qo_d.2.2.2.1, qo_d.2.2.2.2, z0, z1, z2, z3, z4]
      rw [nn 0 (by omega), nn 1 (by omega), nn 2 (by omega), nn 3 (by omega)]
      obtain ⟨r, σ', τ', g1, g2, g3⟩ := qO_setWindow R2 (τ2.1 10 0) (τ2.1 10 1) (τ2.1 10 2) (τ2.1 10 3)
      rw [g1, g2]
      exact ⟨r, σ', τ', rfl, rfl, g3⟩
    · have e5 : cnt = 2 := by
        exact ((nI_eq (a := 2) (b := cnt) (by decide) (by omega)).mp hc.1).symm
      simp only [if_neg (show ¬ kd = 0 by rw [ek]; decide), if_neg (show ¬ kd = 1 by rw [ek]; decide), if_pos (show kd = 2 from ek)]
      simp only [qo_d.1, qo_d.2.1, z0, z1]
      rw [nn 0 (by omega), nn 1 (by omega)]
      obtain ⟨r, σ', τ', g1, g2, g3⟩ := qO_pan R2 (τ2.1 10 0) (τ2.1 10 1)
      rw [g1, g2]
      exact ⟨r, σ', τ', rfl, rfl, g3⟩
    · simp only [if_neg (show ¬ kd = 0 by rw [ek]; decide), if_neg (show ¬ kd = 1 by rw [ek]; decide), if_neg (show ¬ kd = 2 by rw [ek]; decide), if_pos (show kd = 3 from ek)]
      obtain ⟨r, σ', τ', g1, g2, g3⟩ := qO_fill R2
      rw [g2]
      exact ⟨r, σ', τ', g1, rfl, g3⟩
    · simp only [if_neg (show ¬ kd = 0 by rw [ek]; decide), if_neg (show ¬ kd = 1 by rw [ek]; decide), if_neg (show ¬ kd = 2 by rw [ek]; decide), if_neg (show ¬ kd = 3 by rw [ek]; decide), if_pos (show kd = 4 from ek)]
      obtain ⟨r, σ', τ', g1, g2, g3⟩ := qO_improve R2
      rw [g2]
      exact ⟨r, σ', τ', g1, rfl, g3⟩
    · simp only [if_neg (show ¬ kd = 0 by rw [ek]; decide), if_neg (show ¬ kd = 1 by rw [ek]; decide), if_neg (show ¬ kd = 2 by rw [ek]; decide), if_neg (show ¬ kd = 3 by rw [ek]; decide), if_neg (show ¬ kd = 4 by rw [ek]; decide)]
      obtain ⟨r, σ', τ', g1, g2, g3⟩ := qO_hideAll R2
      rw [g2]
      exact ⟨r, σ', τ', g1, rfl, g3⟩
  · rw [if_neg c, if_neg c]
    exact ⟨_, σ1, τ1, rfl, rfl, R1⟩
end
