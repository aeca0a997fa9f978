/-! greatest: the reference ends with the greatest sum -/
def qg_N : Nat → Nat
  | 0 => 1
  | j + 1 => 2 + 9 * qg_N j
def qg_g (n : Nat) (f : Nat → Nat → Int32) (w : Nat → Int32) (L : List Nat) (t : Nat → Nat) (k : Nat) : Nat → Option Nat := qg_go (qp_pl n f w) (qp_mt f) (qg_pr f) (qg_sm (qg_pr f) L t k) (L.drop (k + 1)) (qg_ch L t k) (L.getD k 0)
/-- the list's members from k on, at what the choice of the first k leaves -/
def qg_end (n : Nat) (f : Nat → Nat → Int32) (w : Nat → Int32) (L : List Nat) (t : Nat → Nat) (k : Nat) : Nat := qg_sm (qg_pr f) L t k + qg_G (qp_pl n f w) (qp_mt f) (qg_pr f) (L.drop k) (qg_ch L t k)
section
variable {n : Nat} {f : Nat → Nat → Int32} {w sh : Nat → Int32} {τ : QS} {L : List Nat}
theorem qg_L.mem (hL : qg_L n L) {p : Nat} (h : p ∈ L) : p < n := by
  obtain ⟨i, hi, e⟩ := List.getElem_of_mem h
  have := hL.2 i hi
  simp [hi] at this
  omega
theorem qg_end_le (hok : qv_ok n f w) (hL : qg_L n L) (t : Nat → Nat) {k : Nat} (hk : k ≤ L.length) : qg_end n f w L t k ≤ 54 := by
  have h1 := qg_sm_le (pr := qg_pr f) (L := L) (t := t) (fun i hi => (qg_pr_e (hok.2.1 _ (hL.2 i hi))).2) k hk
  have h2 := qg_G_le (pl := qp_pl n f w) (mt := qp_mt f) (pr := qg_pr f) (L.drop k) (qg_ch L t k) (fun p hp => (qg_pr_e (hok.2.1 _ (hL.mem (List.mem_of_mem_drop hp)))).2)
  rw [List.length_drop] at h2
  have := hL.1
  unfold qg_end
  omega
theorem qg_g_at {t t' : Nat → Nat} {k u : Nat} (e : ∀ i, i < k → t' i = t i) (eu : t' k = u) (hu : u ≤ 8) (hf : (decide (u = 8) || (decide (u < 8) && qg_fr (qp_pl n f w) (qp_mt f) (qg_ch L t k) (L.getD k 0) u)) = true) : qg_g n f w L t k u = some (qg_end n f w L t' (k + 1)) := by
  unfold qg_g qg_go qg_end
  have e1 : qg_sm (qg_pr f) L t' (k + 1) = qg_sm (qg_pr f) L t k + (if u < 8 then qg_pr f (L.getD k 0) else 0) := by
    show qg_sm (qg_pr f) L t' k + (if t' k < 8 then qg_pr f (L.getD k 0) else 0) = _
    rw [qg_sm_cg k e, eu]
  have e2 : qg_ch L t' (k + 1) = if u < 8 then (L.getD k 0, u) :: qg_ch L t k else qg_ch L t k := by
    show (if t' k < 8 then (L.getD k 0, t' k) :: qg_ch L t' k else qg_ch L t' k) = _
    rw [qg_ch_cg k e, eu]
  rw [e1, e2]
  by_cases c : u = 8
  · rw [if_pos c, if_neg (by omega), if_neg (by omega)]
    rfl
  · have c7 : u < 8 := by omega
    rw [if_neg c, if_pos c7, if_pos c7]
    simp only [c, c7, decide_false, decide_true, Bool.false_or, Bool.true_and] at hf
    rw [if_pos hf]
theorem qg_g_no {t : Nat → Nat} {k u : Nat} (hu : u ≤ 8) (hf : (decide (u = 8) || (decide (u < 8) && qg_fr (qp_pl n f w) (qp_mt f) (qg_ch L t k) (L.getD k 0) u)) = false) : qg_g n f w L t k u = none := by
  unfold qg_g qg_go
  simp only [Bool.or_eq_false_iff, decide_eq_false_iff_not] at hf
  have c7 : u < 8 := by omega
  have h2 := hf.2
  simp only [c7, decide_true, Bool.true_and] at h2
  rw [if_neg hf.1, if_neg (by rw [h2]; decide)]
theorem qg_g_le (hok : qv_ok n f w) (hL : qg_L n L) {t : Nat → Nat} {k : Nat} (hk : k < L.length) : ∀ u x, u ≤ 8 → qg_g n f w L t k u = some x → x ≤ 54 := by
  intro u x hu h
  cases hf : (decide (u = 8) || (decide (u < 8) && qg_fr (qp_pl n f w) (qp_mt f) (qg_ch L t k) (L.getD k 0) u)) with
  | false => rw [qg_g_no hu hf] at h; cases h
  | true =>
    rw [qg_g_at (t' := fun i => if i = k then u else t i) (fun i hi => if_neg (by omega)) (if_pos rfl) hu hf] at h
    cases h
    exact qg_end_le hok hL _ (by omega)
theorem qg_it_le9 {g : Nat → Option Nat} {M b : Nat} (hb : b ≤ M) (hg : ∀ u x, u ≤ 8 → g u = some x → x ≤ M) : ∀ k, k ≤ 9 → qg_it g k b ≤ M := by
  intro k
  induction k with
  | zero => intro _; exact hb
  | succ k ih =>
    intro hk
    have ih := ih (by omega)
    cases h : g k with
    | none => rw [qg_it_n h]; exact ih
    | some x => rw [qg_it_s h]; have := hg k x (by omega) h; omega
theorem qM_gr_in (hok : qv_ok n f w) (hL : qg_L n L) {k N : Nat} (hk : k < L.length) (hN : 1 ≤ N) {t : Nat → Nat} (ht : ∀ i, t i ≤ 8)
    (hrec : k + 1 < L.length → ∀ (t : Nat → Nat) (b : Nat) (τ : QS), (∀ i, t i ≤ 8) → b ≤ 54 → qg_I n f w sh L t (k + 1) τ → τ.1 4 (k + 1) + 1 = nI 0 → ∃ c τ', c + 1 ≤ N ∧ qs_only [4] τ τ' ∧ (∀ i, i < k + 1 → τ'.1 4 i = τ.1 4 i) ∧ ∀ F, qM_greatest_L60 (nI L.length) (F + c) τ (nI b) (nI (k + 1)) = qM_greatest_L60 (nI L.length) F τ' (nI (max b (qg_end n f w L t (k + 1)))) (nI k)) :
    ∀ d u, u + d = 9 → ∀ (b : Nat) (τ : QS), b ≤ 54 → qg_I n f w sh L t k τ → τ.1 4 k + 1 = nI u →
      ∃ c τ', c ≤ 1 + d * N ∧ qs_only [4] τ τ' ∧ (∀ i, i < k → τ'.1 4 i = τ.1 4 i) ∧ ∀ F, qM_greatest_L60 (nI L.length) (F + c) τ (nI (qg_it (qg_g n f w L t k) u b)) (nI k) = qM_greatest_L60 (nI L.length) F τ' (nI (qg_it (qg_g n f w L t k) 9 b)) (nI k + (-1)) := by
  intro d
  induction d with
  | zero =>
    intro u hu b τ hb hI h4
    have ho : qs_only [4] τ (qx_up τ 4 k (nI u)) := qs_only.up (S := [4]) (by decide) qs_only.rf
    refine ⟨1, qx_up τ 4 k (nI u), by omega, ho, fun i hi => by rw [qu_1, if_neg (by omega)], fun F => ?_⟩
    rw [qM_gr_1 hok hL ht hk (by omega) hI h4, qM_gr_J (s := 0) hL.1 _ _ _ hk (by omega) (qu_s _ _ _ _) (fun q _ => absurd (by omega) q), if_pos (by omega), show u = 9 by omega]
  | succ d ih =>
    intro u hu b τ hb hI h4
    have hu8 : u ≤ 8 := by omega
    have ho : qs_only [4] τ (qx_up τ 4 k (nI u)) := qs_only.up (S := [4]) (by decide) qs_only.rf
    obtain ⟨t', ht'⟩ : ∃ t' : Nat → Nat, t' = fun i => if i = k then u else t i := ⟨_, rfl⟩
    have et : ∀ i, i < k → t' i = t i := fun i hi => by rw [ht']; exact if_neg (by omega)
    have eu : t' k = u := by rw [ht']; exact if_pos rfl
    have t8 : ∀ i, t' i ≤ 8 := fun i => by rw [ht']; show (if i = k then u else t i) ≤ 8; split; exact hu8; exact ht i
    have I1 : qg_I n f w sh L t' (k + 1) (qx_up τ 4 k (nI u)) := by
      refine hI.mv ho (fun i hi => ?_)
      by_cases c : i = k
      · subst c; rw [qu_s, eu]
      · rw [qu_1, if_neg (by omega), et i (by omega)]; exact hI.2.2.2 i (by omega)
    have I1t : qg_I n f w sh L t k (qx_up τ 4 k (nI u)) := hI.mv ho (fun i hi => by rw [qu_1, if_neg (by omega)]; exact hI.2.2.2 i hi)
    have hB : ∀ v, v ≤ 9 → qg_it (qg_g n f w L t k) v b ≤ 54 := fun v hv => qg_it_le9 hb (qg_g_le hok hL hk) v hv
    have hE := qg_end_le hok hL t' (show k + 1 ≤ L.length by omega)
    have st := fun F x => (qM_gr_1 hok hL ht hk (show u ≤ 9 by omega) hI h4 F x).trans (qM_gr_J (s := qg_sm (qg_pr f) L t' (k + 1)) hL.1 _ x _ hk (by omega) (qu_s _ _ _ _) (fun _ e => by
      have I1' := I1
      rw [e] at I1' ⊢
      exact qM_sum_s hok hL t8 I1'))
    cases hf : (decide (u = 8) || (decide (u < 8) && qg_fr (qp_pl n f w) (qp_mt f) (qg_ch L t k) (L.getD k 0) u)) with
    | false =>
      rw [hf] at st
      obtain ⟨c, τ', h1, h2, h3, h5⟩ := ih (u + 1) (by omega) b _ hb I1t (by rw [qu_s, nI_1])
      refine ⟨c + 1, τ', by rw [Nat.succ_mul]; omega, ho.tr h2, fun i hi => by rw [h3 i hi, qu_1, if_neg (by omega)], fun F => ?_⟩
      rw [← Nat.add_assoc, st, if_neg (by omega), if_neg (by decide), ← h5 F, qg_it_n (qg_g_no hu8 hf)]
    | true =>
      rw [hf] at st
      have hg := qg_g_at et eu hu8 hf
      have B0 := hB u (by omega)
      by_cases c : k + 1 = L.length
      · obtain ⟨c1, τ', h1, h2, h3, h5⟩ := ih (u + 1) (by omega) b _ hb I1t (by rw [qu_s, nI_1])
        refine ⟨c1 + 1, τ', by rw [Nat.succ_mul]; omega, ho.tr h2, fun i hi => by rw [h3 i hi, qu_1, if_neg (by omega)], fun F => ?_⟩
        have e0 : qg_end n f w L t' (k + 1) = qg_sm (qg_pr f) L t' (k + 1) := by
          unfold qg_end
          rw [c, List.drop_length]
          rfl
        rw [e0] at hE hg
        rw [← Nat.add_assoc, st, if_neg (by omega), if_pos rfl, if_pos c, ← h5 F, qg_it_s hg]
        congr 1
        by_cases q : qg_sm (qg_pr f) L t' (k + 1) ≤ qg_it (qg_g n f w L t k) u b
        · rw [if_pos (nI_le q (by omega)), Nat.max_eq_left q]
        · rw [if_neg (nI_ge (by omega) (by omega)), Nat.max_eq_right (by omega)]
      · have ho2 : qs_only [4] (qx_up τ 4 k (nI u)) (qx_up (qx_up τ 4 k (nI u)) 4 (k + 1) (-1)) := qs_only.up (S := [4]) (by decide) qs_only.rf
        have I2 : qg_I n f w sh L t' (k + 1) (qx_up (qx_up τ 4 k (nI u)) 4 (k + 1) (-1)) := I1.mv ho2 (fun i hi => by rw [qu_1, if_neg (by omega)]; exact I1.2.2.2 i hi)
        obtain ⟨c1, τ3, g1, g2, g3, g5⟩ := hrec (by omega) t' (qg_it (qg_g n f w L t k) u b) _ t8 B0 I2 (by rw [qu_s]; decide)
        have e3 : ∀ i, i < k + 1 → τ3.1 4 i = nI (t' i) := fun i hi => by rw [g3 i hi]; exact I2.2.2.2 i hi
        have I3 : qg_I n f w sh L t k τ3 := hI.mv (ho.tr (ho2.tr g2)) (fun i hi => by rw [e3 i (by omega), et i hi])
        obtain ⟨c2, τ', h1, h2, h3, h5⟩ := ih (u + 1) (by omega) b τ3 hb I3 (by rw [e3 k (by omega), eu, nI_1])
        refine ⟨c2 + c1 + 1, τ', by rw [Nat.succ_mul]; omega, ho.tr (ho2.tr (g2.tr h2)), fun i hi => by rw [h3 i hi, e3 i (by omega), et i hi, hI.2.2.2 i hi], fun F => ?_⟩
        rw [show F + (c2 + c1 + 1) = (F + c2 + c1) + 1 by omega, st, if_neg (by omega), if_pos rfl, if_neg c, g5, ← h5 F, qg_it_s hg]
theorem qM_gr_L (hok : qv_ok n f w) (hL : qg_L n L) : ∀ j k, k + j + 1 = L.length → ∀ (t : Nat → Nat) (b : Nat) (τ : QS), (∀ i, t i ≤ 8) → b ≤ 54 → qg_I n f w sh L t k τ → τ.1 4 k + 1 = nI 0 →
    ∃ c τ', c ≤ 1 + 9 * qg_N j ∧ qs_only [4] τ τ' ∧ (∀ i, i < k → τ'.1 4 i = τ.1 4 i) ∧ ∀ F, qM_greatest_L60 (nI L.length) (F + c) τ (nI b) (nI k) = qM_greatest_L60 (nI L.length) F τ' (nI (max b (qg_end n f w L t k))) (nI k + (-1)) := by
  have e9 : ∀ (k b : Nat) (t : Nat → Nat), k < L.length → qg_it (qg_g n f w L t k) 9 b = max b (qg_end n f w L t k) := by
    intro k b t hk
    unfold qg_g qg_end
    rw [qg_it_9, ← qg_dr hk]
  intro j
  induction j with
  | zero =>
    intro k hk t b τ ht hb hI h4
    obtain ⟨c, τ', h1, h2, h3, h5⟩ := qM_gr_in (sh := sh) hok hL (k := k) (N := 1) (by omega) (Nat.le_refl _) ht (fun q => by omega) 9 0 (by omega) b τ hb hI h4
    refine ⟨c, τ', h1, h2, h3, fun F => ?_⟩
    rw [← e9 k b t (by omega), ← h5 F]
    rfl
  | succ j ih =>
    intro k hk t b τ ht hb hI h4
    obtain ⟨c, τ', h1, h2, h3, h5⟩ := qM_gr_in (sh := sh) hok hL (k := k) (N := qg_N (j + 1)) (by omega) (by show 1 ≤ 2 + 9 * qg_N j; omega) ht (fun q t b τ ht hb hI h4 => by
      obtain ⟨c, τ', g1, g2, g3, g5⟩ := ih (k + 1) (by omega) t b τ ht hb hI h4
      refine ⟨c, τ', by show c + 1 ≤ 2 + 9 * qg_N j; omega, g2, g3, fun F => ?_⟩
      rw [g5 F, pk_m1]) 9 0 (by omega) b τ hb hI h4
    refine ⟨c, τ', h1, h2, h3, fun F => ?_⟩
    rw [← e9 k b t (by omega), ← h5 F]
    rfl
theorem qg_N_le : ∀ j, j ≤ 5 → qg_N j ≤ 73811 := by
  intro j h
  rcases (show j = 0 ∨ j = 1 ∨ j = 2 ∨ j = 3 ∨ j = 4 ∨ j = 5 by omega) with rfl | rfl | rfl | rfl | rfl | rfl <;> decide
theorem qM_gr_all (hok : qv_ok n f w) (hL : qg_L n L) (hM : qr_M n f w sh τ) (hP : qr_P n f w τ) (h5 : ∀ i, i < L.length → τ.1 5 i = nI (L.getD i 0)) : ∃ τ', qs_only [4] τ τ' ∧ qM_greatest_L60 (nI L.length) qx_F (qx_up τ 4 0 (-1)) 0 0 = some (nI (qg_G (qp_pl n f w) (qp_mt f) (qg_pr f) L []), τ') := by
  have ho : qs_only [4] τ (qx_up τ 4 0 (-1)) := qs_only.up (S := [4]) (by decide) qs_only.rf
  have hF : ∀ c, c ≤ 700000 → ∃ F, qx_F = F + 1 + c := fun c hc => ⟨qx_F - 1 - c, by rw [qF_big]; omega⟩
  by_cases c : L.length = 0
  · obtain ⟨F, e⟩ := hF 0 (by omega)
    refine ⟨_, ho, ?_⟩
    rw [e, c, List.length_eq_zero_iff.mp c]
    show qM_greatest_L60 (nI 0) (F + 1) _ 0 (nI 0) = _
    rw [qM_greatest_L60, if_neg (nI_pos (by omega)), if_pos (by decide)]
    rfl
  · have I0 : qg_I n f w sh L (fun _ => 0) 0 τ := ⟨hM, hP, h5, fun i hi => by omega⟩
    have I1 : qg_I n f w sh L (fun _ => 0) 0 (qx_up τ 4 0 (-1)) := I0.mv ho (fun i hi => by omega)
    obtain ⟨c1, τ', h1, h2, -, h5⟩ := qM_gr_L (sh := sh) hok hL (L.length - 1) 0 (by omega) (fun _ => 0) 0 _ (fun _ => Nat.zero_le _) (by omega) I1 (by rw [qu_s]; decide)
    have hN := qg_N_le (L.length - 1) (by have := hL.1; omega)
    obtain ⟨F, e⟩ := hF c1 (by omega)
    refine ⟨τ', ho.tr h2, ?_⟩
    rw [e]
    have e2 := h5 (F + 1)
    rw [show (nI 0 : Int32) = 0 from rfl] at e2
    rw [e2, qM_greatest_L60, if_pos (by decide)]
    have e3 : max 0 (qg_end n f w L (fun _ => 0) 0) = qg_G (qp_pl n f w) (qp_mt f) (qg_pr f) L [] := by
      unfold qg_end
      show max 0 (0 + qg_G _ _ _ L []) = _
      omega
    rw [e3]
end
