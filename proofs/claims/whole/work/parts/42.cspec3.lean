/-! the class after a change: order, places, labels that are lost -/
section
variable {n : Nat} {f : Nat → Nat → Int32} {w sh : Nat → Int32} {τ σ σ0 : QS}
theorem qPt_putInOrder_L1 (hok : qv_ok n f w) (j : Nat) (hj : j < 9) (K : QS → Int32 → Int32 → Option QS) : ∀ (k q : Nat) (σ : QS), q ≤ n → n < k + q → qr_C n f w sh σ → qr_L σ 3 (qp_oo n f j ++ qp_oi f (9 - j) q) →
    ∃ σ', qPt_putInOrder_L19 (nI (9 - j)) K k σ (nI (qp_oo n f j ++ qp_oi f (9 - j) q).length) (nI q) = K σ' (nI (qp_oo n f (j + 1)).length) (nI (9 - (j + 1))) ∧ qs_only [3] σ σ' ∧ qr_L σ' 3 (qp_oo n f (j + 1)) := by
  have hn := hok.1
  have hlen := qp_ords_len n (fun p hp => (hok.2.1 p hp).2.2.2.2.1)
  intro k
  induction k with
  | zero => intro q σ h1 h2; omega
  | succ k ih =>
    intro q σ h1 h2 h hL
    rw [qPt_putInOrder_L19, h.1]
    rcases Nat.lt_or_ge q n with hq | hq
    · rw [if_neg (nI_ge hq (by omega)), qPt_get4 hn h hq, qob_bind, nI_1]
      by_cases c : f 4 q = nI (9 - j)
      · have hoi : qp_oi f (9 - j) (q + 1) = qp_oi f (9 - j) q ++ [q] := by show _ ++ _ = _; rw [if_pos c]
        have hlt : (qp_oo n f j ++ qp_oi f (9 - j) q).length < 20 := by
          have a1 := qp_oi_pre (f := f) (pr := 9 - j) (q + 1) (n - (q + 1))
          have a2 := qp_oo_pre (n := n) (f := f) (j + 1) (9 - (j + 1))
          rw [show q + 1 + (n - (q + 1)) = n by omega] at a1
          rw [show j + 1 + (9 - (j + 1)) = 9 by omega] at a2
          have a3 : (qp_oo n f (j + 1)).length = (qp_oo n f j).length + (qp_oi f (9 - j) n).length := List.length_append
          rw [hoi, List.length_append, List.length_singleton] at a1
          rw [List.length_append]
          unfold qp_ords at hlen
          omega
        rw [if_pos c, if_neg (show ¬ (20 : Int32) ≤ nI (qp_oo n f j ++ qp_oi f (9 - j) q).length from nI_ge (b := 20) hlt (by omega)), qo_in hlt (by decide), nI_clamp (by omega), nI_1]
        have hL' := hL.push q
        rw [List.append_assoc, ← hoi] at hL'
        obtain ⟨σ', e1, e2, e3⟩ := ih (q + 1) _ hq (by omega) (h.off (qs_only.up (S := [3]) (by decide) qs_only.rf) (by decide) (by decide) (by decide) (by decide)) hL'
        refine ⟨σ', ?_, (qs_only.up (S := [3]) (by decide) qs_only.rf).tr e2, e3⟩
        rw [← e1, hoi, ← List.append_assoc, List.length_append (as := _ ++ _), List.length_singleton]
      · have hoi : qp_oi f (9 - j) (q + 1) = qp_oi f (9 - j) q := by show _ ++ _ = _; rw [if_neg c, List.append_nil]
        rw [if_neg c, ← hoi]
        exact ih (q + 1) σ hq (by omega) h (by rw [hoi]; exact hL)
    · have e : q = n := by omega
      subst e
      rw [if_pos (nI_le (Nat.le_refl _) (by omega))]
      refine ⟨σ, ?_, qs_only.rf, hL⟩
      have e9 : nI (9 - j) + (-1) = nI (9 - (j + 1)) := by
        have := pk_m1 (9 - (j + 1))
        rwa [show 9 - (j + 1) + 1 = 9 - j by omega] at this
      rw [e9]
      rfl
theorem qPt_putInOrder_L (hok : qv_ok n f w) : ∀ (k j : Nat) (σ : QS), j ≤ 9 → 9 < k + j → qr_C n f w sh σ → qr_L σ 3 (qp_oo n f j) →
    ∃ σ', qPt_putInOrder_L8 k σ (nI (qp_oo n f j).length) (nI (9 - j)) = some σ' ∧ qs_only [3] σ σ' ∧ qr_L σ' 3 (qp_ords n f) := by
  have hn := hok.1
  intro k
  induction k with
  | zero => intro j σ h1 h2; omega
  | succ k ih =>
    intro j σ h1 h2 h hL
    rw [qPt_putInOrder_L8, qo_k (i := 4) (n := 6) 4 rfl (by decide) (by decide), show qx_tab 0 (4 : Int32).toNatClampNeg = 1 by decide]
    rcases Nat.lt_or_ge j 9 with hj | hj
    · rw [if_neg (show ¬ nI (9 - j) < 1 from nI_nlt (b := 1) (by omega) (by omega))]
      have hL0 : qr_L σ 3 (qp_oo n f j ++ qp_oi f (9 - j) 0) := by show qr_L σ 3 (qp_oo n f j ++ []); rw [List.append_nil]; exact hL
      obtain ⟨σ1, e1, e2, e3⟩ := qPt_putInOrder_L1 hok j hj (qPt_putInOrder_L8 k) qx_F 0 σ (Nat.zero_le _) (by rw [qF_big]; omega) h hL0
      obtain ⟨σ', g1, g2, g3⟩ := ih (j + 1) σ1 hj (by omega) (h.off e2 (by decide) (by decide) (by decide) (by decide)) e3
      refine ⟨σ', ?_, e2.tr g2, g3⟩
      rw [← g1, ← e1]
      show _ = qPt_putInOrder_L19 _ _ _ _ (nI (qp_oo n f j ++ []).length) _
      rw [List.append_nil]
      rfl
    · have e : j = 9 := by omega
      subst e
      rw [if_pos (by decide)]
      exact ⟨σ, rfl, qs_only.rf, hL⟩
theorem qPt_putInOrder_s (hok : qv_ok n f w) (h : qr_C n f w sh σ) : ∃ σ', qPt_putInOrder σ = some σ' ∧ qs_only [3] σ σ' ∧ qr_L σ' 3 (qp_ords n f) := by
  unfold qPt_putInOrder
  rw [qo_k (i := 4) (n := 6) 4 rfl (by decide) (by decide), show qx_tab 1 (4 : Int32).toNatClampNeg = nI (9 - 0) by decide]
  exact qPt_putInOrder_L hok qx_F 0 σ (by omega) (by rw [qF_big]; omega) h (fun i p hp => by cases hp)
theorem qp_find_isSome {c : Nat → Bool} {m : Nat} : (match qp_find c m 0 with | some _ => (1 : Int32) | none => 0) = qb (!decide (qp_cnt m c = 0)) := by
  cases hf : qp_find c m 0 with
  | none => rw [decide_eq_true (qp_cnt_zero' (fun i hi => qp_find_none m 0 hf i (by omega) (by omega)))]; rfl
  | some r =>
    obtain ⟨-, h1, h2, -⟩ := qp_find_some m 0 r hf
    rw [decide_eq_false (fun h => by rw [qp_cnt_zero h r (by omega)] at h2; cases h2)]
    rfl
theorem qPt_isIn_s (hok : qv_ok n f w) (h : qr_C n f w sh σ) (l b wd hg : Int32) (h1 : -1000 ≤ l.toInt) (h2 : l.toInt ≤ 1000) (h3 : -1000 ≤ b.toInt) (h4 : b.toInt ≤ 1000) : qPt_isIn σ l b wd hg = some (qb (qp_isIn n f l b wd hg)) := by
  have hn := hok.1
  unfold qp_isIn
  rw [← qp_find_isSome]
  refine ql_first0 (L := qPt_isIn_L3 σ l b wd hg) (r := fun _ => (1 : Int32)) (by omega) (fun k => ?_) (fun k q hq => ?_)
  · rw [qPt_isIn_L3, h.1, if_pos (nI_le (Nat.le_refl _) (by omega))]
  · obtain ⟨⟨a1, a2⟩, ⟨b1, b2⟩, -⟩ := hok.2.1 q hq
    have e1 : (f 0 q - l).toInt = (f 0 q).toInt - l.toInt := qi_sub (by omega) (by omega)
    have e2 : (f 1 q - b).toInt = (f 1 q).toInt - b.toInt := qi_sub (by omega) (by omega)
    have z : (0 : Int32).toInt = 0 := by decide
    rw [qPt_isIn_L3, h.1, if_neg (nI_ge hq (by omega)), qPt_get0 hn h hq, qob_bind, qPt_get1 hn h hq, qob_bind, nI_1]
    unfold qp_cov
    simp only [qi_lt, qi_le, e1, e2, z]
    by_cases k1 : (f 0 q).toInt - l.toInt < 0
    · rw [if_pos k1]; simp [show ¬ l.toInt ≤ (f 0 q).toInt by omega]
    · by_cases k2 : wd.toInt ≤ (f 0 q).toInt - l.toInt
      · rw [if_neg k1, if_pos k2]; simp [show ¬ (f 0 q).toInt < l.toInt + wd.toInt by omega]
      · by_cases k3 : (f 1 q).toInt - b.toInt < 0
        · rw [if_neg k1, if_neg k2, if_pos k3]; simp [show ¬ b.toInt ≤ (f 1 q).toInt by omega]
        · by_cases k4 : hg.toInt ≤ (f 1 q).toInt - b.toInt
          · rw [if_neg k1, if_neg k2, if_neg k3, if_pos k4]; simp [show ¬ (f 1 q).toInt < b.toInt + hg.toInt by omega]
          · rw [if_neg k1, if_neg k2, if_neg k3, if_neg k4]; simp [show l.toInt ≤ (f 0 q).toInt by omega, show (f 0 q).toInt < l.toInt + wd.toInt by omega, show b.toInt ≤ (f 1 q).toInt by omega, show (f 1 q).toInt < b.toInt + hg.toInt by omega]
theorem qPl_findLeft_s (hn : n ≤ 20) (h : qr_C n f w sh σ) {p s : Nat} (hp : p < n) (hs : s < 8) : qPl_findLeft σ (nI p) (nI s) = some (qp_lf f p s) := by
  unfold qPl_findLeft
  rw [qPt_get0 hn h hp, qob_bind, qPt_get2 hn h hp, qob_bind]
  rcases q8 hs with rfl | rfl | rfl | rfl | rfl | rfl | rfl | rfl
  · rw [if_pos (by decide)]; rfl
  · rw [if_neg (by decide), if_pos (by decide)]; rfl
  · rw [if_neg (by decide), if_neg (by decide), if_pos (by decide)]; rfl
  · rw [if_neg (by decide), if_neg (by decide), if_neg (by decide), if_pos (by decide)]; rfl
  · rw [if_neg (by decide), if_neg (by decide), if_neg (by decide), if_neg (by decide), if_pos (by decide)]; rfl
  · rw [if_neg (by decide), if_neg (by decide), if_neg (by decide), if_neg (by decide), if_neg (by decide), if_pos (by decide)]; rfl
  · rw [if_neg (by decide), if_neg (by decide), if_neg (by decide), if_neg (by decide), if_neg (by decide), if_neg (by decide)]; rfl
  · rw [if_neg (by decide), if_neg (by decide), if_neg (by decide), if_neg (by decide), if_neg (by decide), if_neg (by decide)]; rfl
theorem qPl_findBottom_s (hn : n ≤ 20) (h : qr_C n f w sh σ) {p s : Nat} (hp : p < n) (hs : s < 8) : qPl_findBottom σ (nI p) (nI s) = some (qp_bt f p s) := by
  unfold qPl_findBottom
  rw [qPt_get1 hn h hp, qob_bind, qPt_get3 hn h hp, qob_bind]
  rcases q8 hs with rfl | rfl | rfl | rfl | rfl | rfl | rfl | rfl
  · rw [if_pos (by decide)]; rfl
  · rw [if_neg (by decide), if_pos (by decide)]; rfl
  · rw [if_neg (by decide), if_neg (by decide), if_pos (by decide)]; rfl
  · rw [if_neg (by decide), if_neg (by decide), if_neg (by decide), if_pos (by decide)]; rfl
  · rw [if_neg (by decide), if_neg (by decide), if_neg (by decide), if_neg (by decide), if_neg (by decide), if_neg (by decide)]; rfl
  · rw [if_neg (by decide), if_neg (by decide), if_neg (by decide), if_neg (by decide), if_neg (by decide), if_neg (by decide)]; rfl
  · rw [if_neg (by decide), if_neg (by decide), if_neg (by decide), if_neg (by decide), if_pos (by decide)]; rfl
  · rw [if_neg (by decide), if_neg (by decide), if_neg (by decide), if_neg (by decide), if_neg (by decide), if_pos (by decide)]; rfl
theorem qPl_isGood_s (hok : qv_ok n f w) (h : qr_C n f w sh σ) {p s : Nat} (hp : p < n) (hs : s < 8) (e1 : σ.1 6 (8 * p + s) = qp_lf f p s) (e2 : σ.1 7 (8 * p + s) = qp_bt f p s) : qPl_isGood σ (nI p) (nI s) = some (qb (qp_pl n f w p s)) := by
  have hn := hok.1
  have hl := qp_lf_b (hok.2.1 p hp) s
  have hb := qp_bt_b (hok.2.1 p hp) s
  have l1 : qPl_leftOf σ (nI p) (nI s) = some (qp_lf f p s) := by
    unfold qPl_leftOf
    rw [qn_8, qo_in (by omega) (by decide), nI_clamp (by omega), e1]
  have l2 : qPl_bottomOf σ (nI p) (nI s) = some (qp_bt f p s) := by
    unfold qPl_bottomOf
    rw [qn_8, qo_in (by omega) (by decide), nI_clamp (by omega), e2]
  unfold qPl_isGood qp_pl
  rw [qPt_get2 hn h hp, qob_bind, qPt_get3 hn h hp, qob_bind, l1, qob_bind, l2, qob_bind, qPt_get5 hn h hp, qob_bind, qPl_isVisible_s hn h hp, qob_bind, qWi_holds_s h, qob_bind, qPt_isIn_s hok h _ _ _ _ (by omega) (by omega) (by omega) (by omega), qob_bind]
  unfold qp_bit
  by_cases c : f 5 p >>> (nI s &&& 31) &&& 1 = 1
  · rw [if_pos c, decide_eq_true c]
    cases qp_vis f w p with
    | false => rfl
    | true =>
      cases qp_hold w (qp_lf f p s) (qp_bt f p s) (f 2 p) (f 3 p) with
      | false => rfl
      | true => cases qp_isIn n f (qp_lf f p s) (qp_bt f p s) (f 2 p) (f 3 p) <;> rfl
  · rw [if_neg c, decide_eq_false c]; rfl
/-- the places found so far -/
def qr_F (n : Nat) (f : Nat → Nat → Int32) (w : Nat → Int32) (σ0 : QS) (j : Nat) (σ : QS) : Prop := qs_only [6, 7, 8, 9, 10] σ0 σ ∧ ∀ i, i < j → σ.1 6 i = qp_lf f (i / 8) (i % 8) ∧ σ.1 7 i = qp_bt f (i / 8) (i % 8) ∧ σ.1 8 i = qp_lf f (i / 8) (i % 8) + f 2 (i / 8) ∧ σ.1 9 i = qp_bt f (i / 8) (i % 8) + f 3 (i / 8) ∧ σ.1 10 i = qb (qp_pl n f w (i / 8) (i % 8))
theorem qr_F.next {j : Nat} (h : qr_F n f w σ0 j σ) : qr_F n f w σ0 (j + 1) (qx_up (qx_up (qx_up (qx_up (qx_up σ 6 j (qp_lf f (j / 8) (j % 8))) 7 j (qp_bt f (j / 8) (j % 8))) 8 j (qp_lf f (j / 8) (j % 8) + f 2 (j / 8))) 9 j (qp_bt f (j / 8) (j % 8) + f 3 (j / 8))) 10 j (qb (qp_pl n f w (j / 8) (j % 8)))) := by
  refine ⟨?_, fun i hi => ?_⟩
  · exact qs_only.up (by decide) (qs_only.up (by decide) (qs_only.up (by decide) (qs_only.up (by decide) (qs_only.up (by decide) h.1))))
  · simp only [qu_1]
    by_cases c : i = j
    · subst c
      simp
    · simpa [c] using h.2 i (by omega)
theorem qPl_findAll_L1 (hok : qv_ok n f w) {p : Nat} (hp : p < n) (K : QS → Int32 → Option QS) (hC0 : qr_C n f w sh σ0) : ∀ (k s : Nat) (σ : QS), s ≤ 8 → 8 < k + s → qr_F n f w σ0 (8 * p + s) σ →
    ∃ σ', qPl_findAll_L15 (nI p) K k σ (nI s) = K σ' (nI (p + 1)) ∧ qr_F n f w σ0 (8 * (p + 1)) σ' := by
  have hn := hok.1
  intro k
  induction k with
  | zero => intro s σ h1 h2; omega
  | succ k ih =>
    intro s σ h1 h2 hF
    rw [qPl_findAll_L15]
    rcases Nat.lt_or_ge s 8 with hs | hs
    · have hC : ∀ σ', qs_only [6, 7, 8, 9, 10] σ0 σ' → qr_C n f w sh σ' := fun σ' ho => hC0.off ho (by decide) (by decide) (by decide) (by decide)
      have o1 : qs_only [6, 7, 8, 9, 10] σ0 (qx_up σ 6 (8 * p + s) (qp_lf f p s)) := qs_only.up (by decide) hF.1
      have o2 : qs_only [6, 7, 8, 9, 10] σ0 (qx_up (qx_up σ 6 (8 * p + s) (qp_lf f p s)) 7 (8 * p + s) (qp_bt f p s)) := qs_only.up (by decide) o1
      have o3 : qs_only [6, 7, 8, 9, 10] σ0 (qx_up (qx_up (qx_up σ 6 (8 * p + s) (qp_lf f p s)) 7 (8 * p + s) (qp_bt f p s)) 8 (8 * p + s) (qp_lf f p s + f 2 p)) := qs_only.up (by decide) o2
      have o4 : qs_only [6, 7, 8, 9, 10] σ0 (qx_up (qx_up (qx_up (qx_up σ 6 (8 * p + s) (qp_lf f p s)) 7 (8 * p + s) (qp_bt f p s)) 8 (8 * p + s) (qp_lf f p s + f 2 p)) 9 (8 * p + s) (qp_bt f p s + f 3 p)) := qs_only.up (by decide) o3
      have v1 : (qx_up (qx_up σ 6 (8 * p + s) (qp_lf f p s)) 7 (8 * p + s) (qp_bt f p s)).1 6 (8 * p + s) = qp_lf f p s := by simp [qu_1]
      have v2 : (qx_up (qx_up (qx_up σ 6 (8 * p + s) (qp_lf f p s)) 7 (8 * p + s) (qp_bt f p s)) 8 (8 * p + s) (qp_lf f p s + f 2 p)).1 7 (8 * p + s) = qp_bt f p s := by simp [qu_1]
      rw [if_neg (qn_lt8 hs), qPl_findLeft_s hn (hC _ hF.1) hp hs, qob_bind, qn_8]
      simp only [qo_in (show 8 * p + s < 160 by omega) (by decide), nI_clamp (show 8 * p + s < 2 ^ 31 by omega)]
      rw [qPl_findBottom_s hn (hC _ o1) hp hs, qob_bind, qPt_get2 hn (hC _ o2) hp, qob_bind, v1, qPt_get3 hn (hC _ o3) hp, qob_bind, v2, qPl_isGood_s hok (hC _ o4) hp hs (by simp [qu_1]) (by simp [qu_1]), qob_bind, qb_and1, nI_1]
      have hF' := hF.next
      rw [show (8 * p + s) / 8 = p by omega, show (8 * p + s) % 8 = s by omega] at hF'
      exact ih (s + 1) _ hs (by omega) hF'
    · rw [show s = 8 by omega, if_pos (by decide), nI_1]
      exact ⟨σ, rfl, by rw [show s = 8 by omega] at hF; exact hF⟩
theorem qPl_findAll_L (hok : qv_ok n f w) (hC0 : qr_C n f w sh σ0) : ∀ (k p : Nat) (σ : QS), p ≤ n → n < k + p → qr_F n f w σ0 (8 * p) σ → ∃ σ', qPl_findAll_L2 k σ (nI p) = some σ' ∧ qr_F n f w σ0 (8 * n) σ' := by
  have hn := hok.1
  intro k
  induction k with
  | zero => intro p σ h1 h2; omega
  | succ k ih =>
    intro p σ h1 h2 hF
    have hC : qr_C n f w sh σ := hC0.off hF.1 (by decide) (by decide) (by decide) (by decide)
    rw [qPl_findAll_L2, hC.1]
    rcases Nat.lt_or_ge p n with hp | hp
    · obtain ⟨σ1, e1, F1⟩ := qPl_findAll_L1 hok hp (qPl_findAll_L2 k) hC0 qx_F 0 σ (by omega) (by rw [qF_big]; omega) hF
      rw [if_neg (nI_ge hp (by omega)), show (0 : Int32) = nI 0 from rfl, e1]
      exact ih (p + 1) σ1 hp (by omega) F1
    · rw [if_pos (nI_le (by omega) (by omega))]
      exact ⟨σ, rfl, by rw [show p = n by omega] at hF; exact hF⟩
theorem qPl_findAll_s (hok : qv_ok n f w) (hC : qr_C n f w sh σ) (hL : qr_L σ 3 (qp_ords n f)) : ∃ σ', qPl_findAll σ = some σ' ∧ qs_only [6, 7, 8, 9, 10] σ σ' ∧ qr_K n f w σ' := by
  obtain ⟨σ', e1, F1⟩ := qPl_findAll_L hok hC qx_F 0 σ (Nat.zero_le _) (by have := hok.1; rw [qF_big]; omega) ⟨qs_only.rf, fun i hi => by omega⟩
  refine ⟨σ', e1, F1.1, fun p hp s hs => ?_, fun i p hp => by rw [F1.1.1 3 (by decide)]; exact hL i p hp⟩
  have := F1.2 (8 * p + s) (by omega)
  rw [show (8 * p + s) / 8 = p by omega, show (8 * p + s) % 8 = s by omega] at this
  exact this
theorem qLb_dropLost_L (hok : qv_ok n f w) (hsh : qv_sh n sh) : ∀ (k q : Nat) (σ : QS), q ≤ n → n < k + q → qr_C n f w (fun p => if p < q then qp_set n f w sh p else sh p) σ → qr_K n f w σ →
    ∃ σ', qLb_dropLost_L2 k σ (nI q) = some (nI (qp_cnt n (fun p => !decide (qp_set n f w sh p = -1))), σ') ∧ qs_only [12] σ σ' ∧ qr_C n f w (qp_set n f w sh) σ' ∧ qr_K n f w σ' := by
  have hn := hok.1
  intro k
  induction k with
  | zero => intro q σ h1 h2; omega
  | succ k ih =>
    intro q σ h1 h2 h hK
    rw [qLb_dropLost_L2, h.1]
    rcases Nat.lt_or_ge q n with hq | hq
    · have e := (h.2.2 q hq).2.2.2.2.2.2
      simp only [Nat.lt_irrefl, if_false] at e
      have es := qLb_isShown_s hn h hq
      simp only [Nat.lt_irrefl, if_false] at es
      have same : qp_set n f w sh q = sh q → ∃ σ', qLb_dropLost_L2 k σ (nI (q + 1)) = some (nI (qp_cnt n (fun p => !decide (qp_set n f w sh p = -1))), σ') ∧ qs_only [12] σ σ' ∧ qr_C n f w (qp_set n f w sh) σ' ∧ qr_K n f w σ' := by
        intro hv
        refine ih (q + 1) σ hq (by omega) (h.alt (fun p hp => ?_)) hK
        by_cases c : p = q
        · subst c; simp [hv]
        · by_cases c2 : p < q
          · simp [c2, show p < q + 1 by omega]
          · simp [c2, show ¬ p < q + 1 by omega]
      rw [if_neg (nI_ge hq (by omega)), es, qob_bind, qo_in (by omega) (by decide), nI_clamp (by omega), e, qLb_hide_s (by omega), qob_bind, nI_1]
      by_cases c : sh q = -1
      · rw [if_pos (by simp [c, qb])]
        exact same (by unfold qp_set; rw [if_pos c, c])
      · obtain ⟨ht, e2⟩ := qv_shN hsh hq c
        have hpl := qPl_isPlace_s hn hK hq ht
        rw [← e2] at hpl
        rw [if_neg (by simp [c, qb]), hpl, qob_bind]
        cases c2 : qp_pl n f w q (sh q).toNatClampNeg with
        | true =>
          rw [if_neg (by decide)]
          exact same (by unfold qp_set; rw [if_neg c, c2]; rfl)
        | false =>
          rw [if_pos qb_f]
          have ho : qs_only [12] σ (qx_up σ 12 q (-1)) := qs_only.up (S := [12]) (by decide) qs_only.rf
          obtain ⟨σ', e1, g2, g3⟩ := ih (q + 1) _ hq (by omega) ((h.up q (-1)).alt (fun p hp => by
            unfold upd
            by_cases c3 : p = q
            · subst c3
              simp [qp_set, c, c2]
            · by_cases c4 : p < q
              · simp [c3, c4, show p < q + 1 by omega]
              · simp [c3, c4, show ¬ p < q + 1 by omega])) (hK.off ho (by decide) (by decide) (by decide) (by decide) (by decide) (by decide))
          exact ⟨σ', e1, ho.tr g2, g3⟩
    · have h' := h.alt (sh' := qp_set n f w sh) (fun p hp => by simp [show p < q by omega])
      rw [if_pos (nI_le (by omega) (by omega)), qLb_manyShown_s hn h', qob_bind]
      exact ⟨σ, rfl, qs_only.rf, h', hK⟩
theorem qLP_renew_s (hok : qv_ok n f w) (hsh : qv_sh n sh) (h : qr_C n f w sh σ) : ∃ σ', qLP_renew σ = some (nI (qp_cnt n (fun p => !decide (qp_set n f w sh p = -1))), σ') ∧ qs_only [3, 6, 7, 8, 9, 10, 12] σ σ' ∧ qr_C n f w (qp_set n f w sh) σ' ∧ qr_K n f w σ' := by
  obtain ⟨σ1, e1, o1, L1⟩ := qPt_putInOrder_s hok h
  have h1 := h.off o1 (by decide) (by decide) (by decide) (by decide)
  obtain ⟨σ2, e2, o2, K2⟩ := qPl_findAll_s hok h1 L1
  have h2 := h1.off o2 (by decide) (by decide) (by decide) (by decide)
  obtain ⟨σ3, e3, o3, C3, K3⟩ := qLb_dropLost_L hok hsh qx_F 0 σ2 (Nat.zero_le _) (by have := hok.1; rw [qF_big]; omega) (h2.alt (fun p hp => by simp)) K2
  have e3' : qLb_dropLost σ2 = some (nI (qp_cnt n (fun p => !decide (qp_set n f w sh p = -1))), σ3) := e3
  refine ⟨σ3, ?_, ((o1.wide (by decide)).tr (o2.wide (by decide))).tr (o3.wide (by decide)), C3, K3⟩
  unfold qLP_renew
  rw [e1, qob_bind, e2, qob_bind, e3']
  rfl
end
