/-! the reference's questions, answered by the map -/
/-- only these cells of ints have changed -/
def qs_only (S : List Nat) (τ τ' : QS) : Prop := (∀ k, k ∉ S → τ'.1 k = τ.1 k) ∧ τ'.2 = τ.2
theorem qs_only.rf {S : List Nat} {τ : QS} : qs_only S τ τ := ⟨fun _ _ => rfl, rfl⟩
theorem qs_only.up {S : List Nat} {τ τ' : QS} {c i : Nat} {v : Int32} (hc : c ∈ S) (h : qs_only S τ τ') : qs_only S τ (qx_up τ' c i v) := by
  refine ⟨fun k hk => ?_, h.2⟩
  rw [← h.1 k hk]
  unfold qx_up
  exact if_neg (fun (e : k = c) => hk (by rw [e]; exact hc))
theorem qs_only.tr {S : List Nat} {τ τ' τ'' : QS} (h : qs_only S τ τ') (h2 : qs_only S τ' τ'') : qs_only S τ τ'' := ⟨fun k hk => (h2.1 k hk).trans (h.1 k hk), h2.2.trans h.2⟩
theorem qs_only.wide {S S' : List Nat} {τ τ' : QS} (h : qs_only S τ τ') (hs : ∀ k, k ∈ S → k ∈ S') : qs_only S' τ τ' := ⟨fun k hk => h.1 k (fun q => hk (hs k q)), h.2⟩
theorem qb_T {b : Bool} (h : b = true) : (1 : Int32) = qb b := by rw [h]; rfl
theorem qb_Z {b : Bool} (h : b = false) : (0 : Int32) = qb b := by rw [h]; rfl
section
variable {n : Nat} {f : Nat → Nat → Int32} {w sh : Nat → Int32} {τ σ : QS}
theorem qr_M.off {S : List Nat} {τ τ' : QS} (h : qr_M n f w sh τ) (ho : qs_only S τ τ') (h0 : 0 ∉ S) (h1 : 1 ∉ S) : qr_M n f w sh τ' := by
  unfold qr_M at *
  rw [ho.1 0 h0, ho.1 1 h1]
  exact h
theorem qM_covers_s (hok : qv_ok n f w) (h : qr_M n f w sh τ) {p s : Nat} (hp : p < n) (hs : s < 8) (x y : Int32) : qM_covers τ (nI p) (nI s) x y = some (qb (qp_cov (qp_lf f p s) (qp_bt f p s) (f 2 p) (f 3 p) x y)) := by
  have hpt := hok.2.1 p hp
  have hn := hok.1
  have hl := qp_lf_b hpt s
  have hb := qp_bt_b hpt s
  obtain ⟨-, -, ⟨c1, c2⟩, ⟨d1, d2⟩, -⟩ := hpt
  have ha := h.2.2
  obtain ⟨-, -, x2, x3, -⟩ := ha p hp
  have k1 : (1 : Int32).toInt = 1 := by decide
  unfold qM_covers
  rw [qM_left_s hn h hp hs, qob_bind, qM_bottom_s hn h hp hs, qob_bind, qn_a40, qn_a60, qo_in (by omega) (by decide), nI_clamp (by omega), nI_clamp (by omega), x2, x3, qM_in_s, qob_bind]
  have s1 : (qp_lf f p s + f 2 p).toInt = (qp_lf f p s).toInt + (f 2 p).toInt := qi_add (by omega) (by omega)
  have s2 : (qp_lf f p s + f 2 p - 1).toInt = (qp_lf f p s).toInt + (f 2 p).toInt - 1 := by rw [qi_sub (by omega) (by omega), s1, k1]
  have s3 : (qp_bt f p s + f 3 p).toInt = (qp_bt f p s).toInt + (f 3 p).toInt := qi_add (by omega) (by omega)
  have s4 : (qp_bt f p s + f 3 p - 1).toInt = (qp_bt f p s).toInt + (f 3 p).toInt - 1 := by rw [qi_sub (by omega) (by omega), s3, k1]
  simp only [qi_l, s2, qb_0]
  have hv : qp_cov (qp_lf f p s) (qp_bt f p s) (f 2 p) (f 3 p) x y = ((decide ((qp_lf f p s).toInt ≤ x.toInt) && decide (x.toInt ≤ (qp_lf f p s).toInt + (f 2 p).toInt - 1)) && (decide ((qp_bt f p s).toInt ≤ y.toInt) && decide (y.toInt ≤ (qp_bt f p s).toInt + (f 3 p).toInt - 1))) := by
    unfold qp_cov
    rw [Bool.eq_iff_iff]
    simp only [Bool.and_eq_true, decide_eq_true_eq]
    omega
  rw [hv]
  cases hc : (decide ((qp_lf f p s).toInt ≤ x.toInt) && decide (x.toInt ≤ (qp_lf f p s).toInt + (f 2 p).toInt - 1)) with
  | false => simp [qb]
  | true =>
    rw [if_neg (by simp), qo_in (by omega) (by decide), qM_in_s, qob_bind]
    simp only [qi_l, s4, qb_0]
    cases (decide ((qp_bt f p s).toInt ≤ y.toInt) && decide (y.toInt ≤ (qp_bt f p s).toInt + (f 3 p).toInt - 1)) <;> simp [qb]
theorem qM_finds_L (hok : qv_ok n f w) (h : qr_M n f w sh τ) {p s : Nat} (hp : p < n) (hs : s < 8) : ∀ (k q : Nat), q ≤ n → n < k + q →
    qM_finds_L126 τ (nI p) (nI s) k (qb (decide (qp_cnt q (fun q => qp_cov (qp_lf f p s) (qp_bt f p s) (f 2 p) (f 3 p) (f 0 q) (f 1 q)) = 0))) (nI q) = some (qb (decide (qp_cnt n (fun q => qp_cov (qp_lf f p s) (qp_bt f p s) (f 2 p) (f 3 p) (f 0 q) (f 1 q)) = 0))) := by
  have hn := hok.1
  intro k
  induction k with
  | zero => intro q h1 h2; omega
  | succ k ih =>
    intro q h1 h2
    unfold qM_finds_L126
    rw [h.1]
    rcases Nat.lt_or_ge q n with hq | hq
    · rw [if_neg (nI_ge hq (by omega))]
      by_cases hc : qp_cnt q (fun q => qp_cov (qp_lf f p s) (qp_bt f p s) (f 2 p) (f 3 p) (f 0 q) (f 1 q)) = 0
      · obtain ⟨x0, x1, -⟩ := h.2.2 q hq
        rw [if_neg (by simp [qb, hc]), qn_a0, qn_a20, qo_in (by omega) (by decide), qo_in (by omega) (by decide), nI_clamp (by omega), nI_clamp (by omega), x0, x1, qM_covers_s hok h hp hs, qob_bind, nI_1]
        have ih' := ih (q + 1) hq (by omega)
        cases hv : qp_cov (qp_lf f p s) (qp_bt f p s) (f 2 p) (f 3 p) (f 0 q) (f 1 q) with
        | false =>
          rw [if_pos (by rfl), qb_T (b := decide (qp_cnt (q + 1) (fun q => qp_cov (qp_lf f p s) (qp_bt f p s) (f 2 p) (f 3 p) (f 0 q) (f 1 q)) = 0)) (by simp [qp_cnt, hc, hv])]
          exact ih'
        | true =>
          rw [if_neg (by decide), qb_Z (b := decide (qp_cnt (q + 1) (fun q => qp_cov (qp_lf f p s) (qp_bt f p s) (f 2 p) (f 3 p) (f 0 q) (f 1 q)) = 0)) (by simp [qp_cnt, hv])]
          exact ih'
      · have hm := qp_cnt_mono (fun q => qp_cov (qp_lf f p s) (qp_bt f p s) (f 2 p) (f 3 p) (f 0 q) (f 1 q)) h1
        have hc2 : ¬ qp_cnt n (fun q => qp_cov (qp_lf f p s) (qp_bt f p s) (f 2 p) (f 3 p) (f 0 q) (f 1 q)) = 0 := by omega
        rw [if_pos (by simp [qb, hc]), qb_and1]
        simp [qb, hc, hc2]
    · have e : q = n := by omega
      subst e
      rw [if_pos (nI_le (Nat.le_refl _) (by omega)), qb_and1]
theorem qM_finds_s (hok : qv_ok n f w) (h : qr_M n f w sh τ) {p s : Nat} (hp : p < n) (hs : s < 8) : qM_finds τ (nI p) (nI s) = some (qb (qp_pl n f w p s)) := by
  have hn := hok.1
  have hL := fun b (hb : decide (qp_cnt 0 (fun q => qp_cov (qp_lf f p s) (qp_bt f p s) (f 2 p) (f 3 p) (f 0 q) (f 1 q)) = 0) = b) => hb ▸ qM_finds_L hok h hp hs qx_F 0 (Nat.zero_le _) (by rw [qF_big]; omega)
  have h1 : qM_finds_L126 τ (nI p) (nI s) qx_F 1 0 = some (qb (!qp_isIn n f (qp_lf f p s) (qp_bt f p s) (f 2 p) (f 3 p))) := by
    have := hL true (by simp [qp_cnt])
    unfold qp_isIn
    rw [Bool.not_not]
    exact this
  have h0 : qM_finds_L126 τ (nI p) (nI s) qx_F 0 0 = some 0 := by
    rw [qF_big, qM_finds_L126]
    by_cases hc : τ.1 0 1 ≤ 0
    · rw [if_pos hc]; rfl
    · rw [if_neg hc, if_pos rfl]; rfl
  obtain ⟨-, -, x2, x3, -, x5, -⟩ := h.2.2 p hp
  obtain ⟨e0, e1, e2, e3⟩ := h.2.1
  unfold qM_finds qM_finds_J45
  rw [qM_left_s hn h hp hs, qob_bind, qM_bottom_s hn h hp hs, qob_bind, qM_isVisible_s hok h hp, qob_bind, qn_a40, qn_a60, qn_a100, nI_clamp (by omega), nI_clamp (by omega), nI_clamp (by omega), x2, x3, x5, e0, e1, e2, e3, h0, h1]
  simp only [qo_in (show 100 + p < 140 by omega) (by decide), qo_in (show 40 + p < 140 by omega) (by decide), qo_in (show 60 + p < 140 by omega) (by decide)]
  unfold qp_pl
  cases hv : qp_vis f w p with
  | false => simp [qb]
  | true =>
    by_cases hb : f 5 p >>> (nI s &&& 31) &&& 1 = 1
    · by_cases c1 : qp_lf f p s < w 0
      · simp [qb, qp_bit, qp_hold, hb, c1]
      · by_cases c2 : qp_bt f p s < w 1
        · simp [qb, qp_bit, qp_hold, hb, c1, c2]
        · by_cases c3 : w 0 + w 2 < qp_lf f p s + f 2 p
          · simp [qb, qp_bit, qp_hold, hb, c1, c2, c3]
          · by_cases c4 : w 1 + w 3 < qp_bt f p s + f 3 p
            · simp [qb, qp_bit, qp_hold, hb, c1, c2, c3, c4]
            · simp [qb, qp_bit, qp_hold, hb, c1, c2, c3, c4]
    · simp [qb, qp_bit, hb]
/-- the reference's places as found -/
def qr_P (n : Nat) (f : Nat → Nat → Int32) (w : Nat → Int32) (τ : QS) : Prop := ∀ p, p < n → ∀ s, s < 8 → τ.1 2 (8 * p + s) = qb (qp_pl n f w p s)
theorem qM_findsAll_L (hok : qv_ok n f w) : ∀ (k q : Nat) (τ : QS), qr_M n f w sh τ → q ≤ 8 * n → 8 * n < k + q → (∀ j, j < q → τ.1 2 j = qb (qp_pl n f w (j / 8) (j % 8))) →
    ∃ τ', qM_findsAll_L2 k τ (nI q) = some τ' ∧ qs_only [2] τ τ' ∧ ∀ j, j < 8 * n → τ'.1 2 j = qb (qp_pl n f w (j / 8) (j % 8)) := by
  have hn := hok.1
  intro k
  induction k with
  | zero => intro q τ _ h1 h2; omega
  | succ k ih =>
    intro q τ h h1 h2 h3
    unfold qM_findsAll_L2
    rw [h.1, qn_m8]
    rcases Nat.lt_or_ge q (8 * n) with hq | hq
    · rw [if_neg (nI_ge hq (by omega)), qn_d8 (by omega), qn_r8' q (by omega), qM_finds_s hok h (show q / 8 < n by omega) (show q % 8 < 8 by omega), qob_bind, qb_and1, qo_in (by omega) (by decide), nI_clamp (by omega), nI_1]
      have h' : qr_M n f w sh (qx_up τ 2 q (qb (qp_pl n f w (q / 8) (q % 8)))) := h.off (qs_only.up (S := [2]) (by decide) qs_only.rf) (by decide) (by decide)
      obtain ⟨τ', e1, e2, e3⟩ := ih (q + 1) _ h' hq (by omega) (fun j hj => by
        rw [qu_1]
        by_cases hjq : j = q
        · rw [if_pos ⟨rfl, hjq⟩, hjq]
        · rw [if_neg (fun c => hjq c.2)]; exact h3 j (by omega))
      exact ⟨τ', e1, (qs_only.up (S := [2]) (by decide) qs_only.rf).tr e2, e3⟩
    · have e : q = 8 * n := by omega
      subst e
      rw [if_pos (nI_le (Nat.le_refl _) (by omega))]
      exact ⟨τ, rfl, qs_only.rf, h3⟩
theorem qM_findsAll_s (hok : qv_ok n f w) (h : qr_M n f w sh τ) : ∃ τ', qM_findsAll τ = some τ' ∧ qs_only [2] τ τ' ∧ qr_P n f w τ' := by
  have hn := hok.1
  obtain ⟨τ', e1, e2, e3⟩ := qM_findsAll_L (sh := sh) hok qx_F 0 τ h (Nat.zero_le _) (by rw [qF_big]; omega) (fun j hj => by omega)
  refine ⟨τ', e1, e2, fun p hp s hs => ?_⟩
  rw [e3 _ (by omega), show (8 * p + s) / 8 = p by omega, show (8 * p + s) % 8 = s by omega]
end
