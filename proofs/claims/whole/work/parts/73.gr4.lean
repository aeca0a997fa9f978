/-! greatest: the points that have places; the reference's whole answer -/
def qg_c (n : Nat) (f : Nat → Nat → Int32) (w : Nat → Int32) (p : Nat) : Bool := !decide (qp_cnt 8 (qp_pl n f w p) = 0)
def qg_fk (c : Nat → Bool) (l : List Nat) (i : Nat) : List Nat := (l.take i).filter c
theorem qg_fk_s {c : Nat → Bool} {l : List Nat} {i p : Nat} (h : l[i]? = some p) : qg_fk c l (i + 1) = if c p = true then qg_fk c l i ++ [p] else qg_fk c l i := by
  unfold qg_fk
  rw [List.take_add_one, h, List.filter_append]
  show _ ++ List.filter c [p] = _
  cases hc : c p <;> simp [hc]
theorem qg_fk_mono (c : Nat → Bool) (l : List Nat) (i : Nat) : ∀ j, (qg_fk c l i).length ≤ (qg_fk c l (i + j)).length := by
  intro j
  induction j with
  | zero => exact Nat.le_refl _
  | succ j ih =>
    unfold qg_fk at *
    rw [← Nat.add_assoc, List.take_add_one, List.filter_append, List.length_append]
    omega
theorem qg_pushL {τ : QS} {c0 : Nat} {l : List Nat} (h : ∀ i, i < l.length → τ.1 c0 i = nI (l.getD i 0)) (p : Nat) : ∀ i, i < (l ++ [p]).length → (qx_up τ c0 l.length (nI p)).1 c0 i = nI ((l ++ [p]).getD i 0) := by
  intro i hi
  rw [List.length_append] at hi
  have hi : i < l.length + 1 := hi
  rw [qu_1]
  by_cases e : i = l.length
  · subst e
    rw [if_pos ⟨rfl, rfl⟩]
    simp
  · rw [if_neg (by omega), h i (by omega), List.getD_eq_getElem?_getD, List.getD_eq_getElem?_getD, List.getElem?_append_left (by omega)]
section
variable {n : Nat} {f : Nat → Nat → Int32} {w sh : Nat → Int32} {τ σ : QS}
theorem qM_gr_8 (hok : qv_ok n f w) : ∀ (F q : Nat) (τ : QS), q ≤ n → n < F + q → (qg_fk (qg_c n f w) (List.range n) q).length ≤ 6 → qr_M n f w sh τ → qr_P n f w τ → (∀ i, i < (qg_fk (qg_c n f w) (List.range n) q).length → τ.1 5 i = nI ((qg_fk (qg_c n f w) (List.range n) q).getD i 0)) →
    (6 < (qg_fk (qg_c n f w) (List.range n) n).length → ∃ τ', qs_only [5] τ τ' ∧ qM_greatest_L8 F τ (nI (qg_fk (qg_c n f w) (List.range n) q).length) (nI q) = some (-3, τ')) ∧
    ((qg_fk (qg_c n f w) (List.range n) n).length ≤ 6 → ∃ τ', qs_only [5] τ τ' ∧ (∀ i, i < (qg_fk (qg_c n f w) (List.range n) n).length → τ'.1 5 i = nI ((qg_fk (qg_c n f w) (List.range n) n).getD i 0)) ∧ qM_greatest_L8 F τ (nI (qg_fk (qg_c n f w) (List.range n) q).length) (nI q) = qM_greatest_L60 (nI (qg_fk (qg_c n f w) (List.range n) n).length) qx_F (qx_up τ' 4 0 (-1)) 0 0) := by
  have hn := hok.1
  intro F
  induction F with
  | zero => intro q τ h1 h2; omega
  | succ F ih =>
    intro q τ h1 h2 h6 hM hP h5
    rw [qM_greatest_L8, hM.1]
    by_cases cq : q = n
    · subst cq
      rw [if_pos (nI_le (Nat.le_refl _) (by omega)), show (0 : Int32).toNatClampNeg = 0 from by decide, show qx_ob (0 : Int32) 6 _ = _ from qo_in (j := 0) (by omega) (by decide)]
      exact ⟨fun h => by omega, fun _ => ⟨τ, qs_only.rf, h5, rfl⟩⟩
    · have hq : q < n := by omega
      have hr : (List.range n)[q]? = some q := by simp [hq]
      have es := qg_fk_s (c := qg_c n f w) hr
      have hmo := qg_fk_mono (qg_c n f w) (List.range n) (q + 1) (n - (q + 1))
      rw [show q + 1 + (n - (q + 1)) = n by omega] at hmo
      have c8 := qp_cnt_le 8 (qp_pl n f w q)
      rw [if_neg (nI_ge hq (by omega)), qM_placesOf_s hn hP hq, qob_bind, nI_1, nI_1]
      by_cases c : qp_cnt 8 (qp_pl n f w q) = 0
      · rw [if_pos (by rw [c]; decide)]
        have hc : qg_c n f w q = false := by simp [qg_c, c]
        rw [hc, if_neg (by decide)] at es
        have := ih (q + 1) τ hq (by omega) (by rw [es]; exact h6) hM hP (by rw [es]; exact h5)
        rw [es] at this
        exact this
      · rw [if_neg (nI_nle (by omega) (by omega))]
        have hc : qg_c n f w q = true := by simp [qg_c, c]
        rw [hc, if_pos rfl] at es
        by_cases e6 : (qg_fk (qg_c n f w) (List.range n) q).length = 6
        · rw [if_pos (by rw [e6]; rfl)]
          rw [es, List.length_append, e6] at hmo
          have hmo : 6 + 1 ≤ _ := hmo
          exact ⟨fun _ => ⟨τ, qs_only.rf, rfl⟩, fun h => by omega⟩
        · rw [if_neg (show ¬ nI (qg_fk (qg_c n f w) (List.range n) q).length = (6 : Int32) from fun e => e6 ((nI_eq (b := 6) (by omega) (by omega)).mp e)), qo_in (by omega) (by decide), nI_clamp (by omega)]
          have ho : qs_only [5] τ (qx_up τ 5 (qg_fk (qg_c n f w) (List.range n) q).length (nI q)) := qs_only.up (S := [5]) (by decide) qs_only.rf
          have := ih (q + 1) _ hq (by omega) (by rw [es, List.length_append]; show _ + 1 ≤ 6; omega) (hM.off ho (by decide) (by decide)) (hP.off ho (by decide)) (by rw [es]; exact qg_pushL h5 q)
          rw [es, List.length_append] at this
          exact ⟨fun h => by
            obtain ⟨τ', g1, g2⟩ := this.1 h
            exact ⟨τ', ho.tr g1, g2⟩, fun h => by
            obtain ⟨τ', g1, g2, g3⟩ := this.2 h
            exact ⟨τ', ho.tr g1, g2, g3⟩⟩
theorem qg_fk_all {c : Nat → Bool} {l : List Nat} : qg_fk c l l.length = l.filter c := by
  unfold qg_fk
  rw [List.take_length]
theorem qg_L_of {c : Nat → Bool} {l : List Nat} (h6 : (l.filter c).length ≤ 6) (hl : ∀ p, p ∈ l → p < n) : qg_L n (l.filter c) := by
  refine ⟨h6, fun i hi => ?_⟩
  apply hl
  have : (l.filter c).getD i 0 ∈ l.filter c := by simp [hi]
  exact (List.mem_filter.mp this).1
theorem qM_greatest_s (hok : qv_ok n f w) (hM : qr_M n f w sh τ) : ∃ τ', qs_only [2, 4, 5] τ τ' ∧ qM_greatest τ = some (if 6 < ((List.range n).filter (qg_c n f w)).length then -3 else nI (qg_G (qp_pl n f w) (qp_mt f) (qg_pr f) ((List.range n).filter (qg_c n f w)) []), τ') := by
  obtain ⟨τ1, e1, o1, P1⟩ := qM_findsAll_s hok hM
  have M1 := hM.off o1 (by decide) (by decide)
  have ef : qg_fk (qg_c n f w) (List.range n) n = (List.range n).filter (qg_c n f w) := by
    have := qg_fk_all (c := qg_c n f w) (l := List.range n)
    rw [List.length_range] at this
    exact this
  have h8 := qM_gr_8 (sh := sh) hok qx_F 0 τ1 (Nat.zero_le _) (by rw [qF_big]; have := hok.1; omega) (Nat.zero_le _) M1 P1 (fun i hi => absurd hi (Nat.not_lt_zero _))
  rw [ef] at h8
  unfold qM_greatest
  rw [e1, qob_bind]
  have h8 : (6 < ((List.range n).filter (qg_c n f w)).length → ∃ τ', qs_only [5] τ1 τ' ∧ qM_greatest_L8 qx_F τ1 0 0 = some (-3, τ')) ∧ (((List.range n).filter (qg_c n f w)).length ≤ 6 → ∃ τ', qs_only [5] τ1 τ' ∧ (∀ i, i < ((List.range n).filter (qg_c n f w)).length → τ'.1 5 i = nI (((List.range n).filter (qg_c n f w)).getD i 0)) ∧ qM_greatest_L8 qx_F τ1 0 0 = qM_greatest_L60 (nI ((List.range n).filter (qg_c n f w)).length) qx_F (qx_up τ' 4 0 (-1)) 0 0) := h8
  by_cases c : 6 < ((List.range n).filter (qg_c n f w)).length
  · obtain ⟨τ2, g1, g2⟩ := h8.1 c
    exact ⟨τ2, (o1.wide (by decide)).tr (g1.wide (by decide)), by rw [if_pos c]; exact g2⟩
  · obtain ⟨τ2, g1, g2, g3⟩ := h8.2 (by omega)
    obtain ⟨τ3, k1, k2⟩ := qM_gr_all (sh := sh) hok (qg_L_of (by omega) (fun p hp => List.mem_range.mp hp)) (M1.off g1 (by decide) (by decide)) (P1.off g1 (by decide)) g2
    exact ⟨τ3, (o1.wide (by decide)).tr ((g1.wide (by decide)).tr (k1.wide (by decide))), by rw [if_neg c, g3]; exact k2⟩
end
