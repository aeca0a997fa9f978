/-! greatest: side by side -/
section
variable {n : Nat} {f : Nat → Nat → Int32} {w sh : Nat → Int32} {σ τ : QS}
theorem qg_distinct {L : List Nat} (h : L.Nodup) : ∀ i j, i < j → j < L.length → ¬ L.getD i 0 = L.getD j 0 := by
  intro i j hij hj
  have hi : i < L.length := by omega
  have := List.pairwise_iff_getElem.mp h i j hi hj hij
  simpa [hi, hj] using this
theorem qSe_greatestSum_s (hok : qv_ok n f w) (hC : qr_C n f w sh σ) (hK : qr_K n f w σ) : ∃ σ', (∀ k, k ∉ [13, 14] → σ'.1 k = σ.1 k) ∧ qSe_greatestSum σ = some (if 6 < ((qp_ords n f).filter (qg_c n f w)).length then -3 else nI (qg_G (qp_pl n f w) (qp_mt f) (qg_pr f) ((qp_ords n f).filter (qg_c n f w)) []), σ') := by
  have hn := hok.1
  have hpr : ∀ p, p < n → 1 ≤ (f 4 p).toInt ∧ (f 4 p).toInt ≤ 9 := fun p hp => (hok.2.1 p hp).2.2.2.2.1
  have hlen := qp_ords_len n hpr
  have hperm := qp_ords_perm n hpr
  have hnd : (qp_ords n f).Nodup := hperm.nodup_iff.mpr List.nodup_range
  have ho0 : qs_only [13, 14] σ (qx_up σ 13 4 0) := qs_only.up (S := [13, 14]) (by decide) qs_only.rf
  have hS0 : qg_S n f w sh (qg_fk (qg_c n f w) (qp_ords n f) 0) (qx_up σ 13 4 0) := ⟨hC.off ho0 (by decide) (by decide) (by decide) (by decide), hK.off ho0 (by decide) (by decide) (by decide) (by decide) (by decide) (by decide), by rw [qu_s]; rfl, fun i hi => absurd hi (Nat.not_lt_zero _)⟩
  have h7 := qSe_gather_L (sh := sh) hok qx_F 0 (qx_up σ 13 4 0) (Nat.zero_le _) (by rw [qF_big]; omega) (Nat.zero_le _) hS0
  have ef : qg_fk (qg_c n f w) (qp_ords n f) n = (qp_ords n f).filter (qg_c n f w) := by
    have := qg_fk_all (c := qg_c n f w) (l := qp_ords n f)
    rw [hlen] at this
    exact this
  rw [ef] at h7
  unfold qSe_greatestSum qSe_gatherCandidates
  rw [show (0 : Int32) = nI 0 from rfl] at *
  by_cases c : 6 < ((qp_ords n f).filter (qg_c n f w)).length
  · obtain ⟨σ1, g1, g2⟩ := h7.1 c
    refine ⟨σ1, (ho0.tr g1).1, ?_⟩
    rw [g2, qob_bind, if_pos rfl, if_pos c]
  · obtain ⟨σ1, g1, g2, g3⟩ := h7.2 (by omega)
    have hL : qg_L n ((qp_ords n f).filter (qg_c n f w)) := qg_L_of (by omega) (fun p hp => List.mem_range.mp (hperm.mem_iff.mp hp))
    obtain ⟨σ2, x, k1, k2, k3, k4⟩ := qSe_gs_2 (sh := sh) hn hL qx_F 0 σ1 0 (Nat.zero_le _) (by rw [qF_big]; have := hL.1; omega) g2 (fun e he => absurd he (Nat.not_lt_zero _)) (qz_0 _)
    have hS2 : qg_S n f w sh ((qp_ords n f).filter (qg_c n f w)) σ2 := by
      unfold qg_S qr_C qr_K qr_L at g2 ⊢
      rw [k1]
      exact g2
    have hb := qSe_best_s hok hL hS2 k2 (qg_distinct (hnd.filter _)) 8 0 [] x 0 0 (Nat.zero_le _) (by have := hL.1; omega) (fun j _ hj s hs => by
      rw [k3 (8 * j + s) (by have := hL.1; omega), show decide (8 * j + s < 8 * ((qp_ords n f).filter (qg_c n f w)).length) = true from decide_eq_true (by omega), Bool.true_and]
      unfold qg_P qg_fr
      rw [show (8 * j + s) / 8 = j by omega, show (8 * j + s) % 8 = s by omega]
      simp) (by omega) (by omega)
    refine ⟨σ2, fun k hk => by rw [k1]; exact (ho0.tr g1).1 k hk, ?_⟩
    rw [g3, qob_bind, if_neg (show ¬ (1 : Int32) = nI 0 by decide), if_neg c, k4, show (0 : Int32) = nI 0 from rfl, hb, qob_bind, List.drop_zero, Nat.zero_add, Nat.zero_max]
theorem qO_greatest (h : qR σ τ) : ∃ r σ' τ', qLP_greatest σ = some (r, σ') ∧ qM_greatest τ = some (r, τ') ∧ qR σ' τ' := by
  obtain ⟨n, f, w, sh, hok, hat, ⟨hC, hK⟩, hM, hx⟩ := h
  have hpr : ∀ p, p < n → 1 ≤ (f 4 p).toInt ∧ (f 4 p).toInt ≤ 9 := fun p hp => (hok.2.1 p hp).2.2.2.2.1
  have hperm := qp_ords_perm n hpr
  have hnd : (qp_ords n f).Nodup := hperm.nodup_iff.mpr List.nodup_range
  obtain ⟨τ', o1, e1⟩ := qM_greatest_s hok hM
  obtain ⟨σ', o2, e2⟩ := qSe_greatestSum_s hok hC hK
  have hpf := hperm.filter (qg_c n f w)
  have eg : qg_G (qp_pl n f w) (qp_mt f) (qg_pr f) ((qp_ords n f).filter (qg_c n f w)) [] = qg_G (qp_pl n f w) (qp_mt f) (qg_pr f) ((List.range n).filter (qg_c n f w)) [] := qg_perm (fun p s q t => qp_mt_sym f q t p s) hpf (hnd.filter _)
  rw [hpf.length_eq, eg] at e2
  have hC' : qr_C n f w sh σ' := by
    unfold qr_C at hC ⊢
    rw [o2 1 (by decide), o2 4 (by decide), o2 2 (by decide), o2 12 (by decide)]
    exact hC
  have hK' : qr_K n f w σ' := by
    unfold qr_K qr_L at hK ⊢
    rw [o2 6 (by decide), o2 7 (by decide), o2 8 (by decide), o2 9 (by decide), o2 10 (by decide), o2 3 (by decide)]
    exact hK
  have hM' := hM.off o1 (by decide) (by decide)
  refine ⟨_, σ', τ', ?_, e1, n, f, w, sh, hok, hat, ⟨hC', hK'⟩, hM', hx.mv (o2 16 (by decide)) (o2 17 (by decide)) (o2 19 (by decide)) (o2 20 (by decide)) (by rw [o1.1 0 (by decide)]) (by rw [o1.1 0 (by decide)]) (o1.1 6 (by decide)) (o1.1 8 (by decide))⟩
  unfold qLP_greatest
  rw [e2, qob_bind]
end
