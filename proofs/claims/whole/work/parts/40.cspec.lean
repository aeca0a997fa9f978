/-! the class's questions, answered by the map -/
/-- what the class keeps of its places and of the order -/
def qr_K (n : Nat) (f : Nat → Nat → Int32) (w : Nat → Int32) (σ : QS) : Prop := (∀ p, p < n → ∀ s, s < 8 → σ.1 6 (8 * p + s) = qp_lf f p s ∧ σ.1 7 (8 * p + s) = qp_bt f p s ∧ σ.1 8 (8 * p + s) = qp_lf f p s + f 2 p ∧ σ.1 9 (8 * p + s) = qp_bt f p s + f 3 p ∧ σ.1 10 (8 * p + s) = qb (qp_pl n f w p s)) ∧ qr_L σ 3 (qp_ords n f)
section
variable {n : Nat} {f : Nat → Nat → Int32} {w sh : Nat → Int32} {τ σ : QS}
theorem qr_C.off {S : List Nat} {σ' : QS} (h : qr_C n f w sh σ) (ho : qs_only S σ σ') (h1 : 1 ∉ S) (h2 : 2 ∉ S) (h3 : 4 ∉ S) (h4 : 12 ∉ S) : qr_C n f w sh σ' := by
  unfold qr_C at *
  rw [ho.1 1 h1, ho.1 2 h2, ho.1 4 h3, ho.1 12 h4]
  exact h
theorem qr_C.alt {sh' : Nat → Int32} (h : qr_C n f w sh σ) (e : ∀ p, p < n → sh p = sh' p) : qr_C n f w sh' σ := by
  refine ⟨h.1, h.2.1, fun p hp => ?_⟩
  obtain ⟨a0, a1, a2, a3, a4, a5, a6⟩ := h.2.2 p hp
  exact ⟨a0, a1, a2, a3, a4, a5, by rw [a6]; exact e p hp⟩
theorem qr_C.up (h : qr_C n f w sh σ) (p : Nat) (v : Int32) : qr_C n f w (upd sh p v) (qx_up σ 12 p v) := by
  refine ⟨?_, ?_, fun q hq => ?_⟩
  · rw [qu_1]; simpa using h.1
  · simp only [qu_1]; simpa using h.2.1
  · obtain ⟨a0, a1, a2, a3, a4, a5, a6⟩ := h.2.2 q hq
    simp only [qu_1]
    refine ⟨by simpa using a0, by simpa using a1, by simpa using a2, by simpa using a3, by simpa using a4, by simpa using a5, ?_⟩
    unfold upd
    by_cases c : q = p
    · subst c; simp
    · simpa [c] using a6
theorem qr_K.off {S : List Nat} {σ' : QS} (h : qr_K n f w σ) (ho : qs_only S σ σ') (h1 : 3 ∉ S) (h2 : 6 ∉ S) (h3 : 7 ∉ S) (h4 : 8 ∉ S) (h5 : 9 ∉ S) (h6 : 10 ∉ S) : qr_K n f w σ' := by
  unfold qr_K qr_L at *
  rw [ho.1 3 h1, ho.1 6 h2, ho.1 7 h3, ho.1 8 h4, ho.1 9 h5, ho.1 10 h6]
  exact h
theorem qPt_get_s (hn : n ≤ 20) (h : qr_C n f w sh σ) {p x : Nat} (hp : p < n) (hx : x < 6) : qPt_get σ (nI p) (nI x) = some (f x p) := by
  obtain ⟨a0, a1, a2, a3, a4, a5, a6⟩ := h.2.2 p hp
  unfold qPt_get
  rw [qn_6, qo_in (by omega) (by decide), nI_clamp (by omega)]
  have hx' : x = 0 ∨ x = 1 ∨ x = 2 ∨ x = 3 ∨ x = 4 ∨ x = 5 := by omega
  rcases hx' with rfl | rfl | rfl | rfl | rfl | rfl
  · rw [a0]
  · rw [a1]
  · rw [a2]
  · rw [a3]
  · rw [a4]
  · rw [a5]
theorem qPt_get0 (hn : n ≤ 20) (h : qr_C n f w sh σ) {p : Nat} (hp : p < n) : qPt_get σ (nI p) 0 = some (f 0 p) := qPt_get_s (x := 0) hn h hp (by omega)
theorem qPt_get1 (hn : n ≤ 20) (h : qr_C n f w sh σ) {p : Nat} (hp : p < n) : qPt_get σ (nI p) 1 = some (f 1 p) := qPt_get_s (x := 1) hn h hp (by omega)
theorem qPt_get2 (hn : n ≤ 20) (h : qr_C n f w sh σ) {p : Nat} (hp : p < n) : qPt_get σ (nI p) 2 = some (f 2 p) := qPt_get_s (x := 2) hn h hp (by omega)
theorem qPt_get3 (hn : n ≤ 20) (h : qr_C n f w sh σ) {p : Nat} (hp : p < n) : qPt_get σ (nI p) 3 = some (f 3 p) := qPt_get_s (x := 3) hn h hp (by omega)
theorem qPt_get4 (hn : n ≤ 20) (h : qr_C n f w sh σ) {p : Nat} (hp : p < n) : qPt_get σ (nI p) 4 = some (f 4 p) := qPt_get_s (x := 4) hn h hp (by omega)
theorem qPt_get5 (hn : n ≤ 20) (h : qr_C n f w sh σ) {p : Nat} (hp : p < n) : qPt_get σ (nI p) 5 = some (f 5 p) := qPt_get_s (x := 5) hn h hp (by omega)
theorem qWi_holds_s (h : qr_C n f w sh σ) (l b wd hg : Int32) : qWi_holds σ l b wd hg = some (qb (qp_hold w l b wd hg)) := by
  obtain ⟨-, ⟨e0, e1, e2, e3⟩, -⟩ := h
  unfold qWi_holds qp_hold
  rw [e0, e1, e2, e3]
  by_cases c1 : l < w 0
  · simp [c1, qb]
  · by_cases c2 : w 0 + w 2 < l + wd
    · simp [c1, c2, qb]
    · by_cases c3 : b < w 1
      · simp [c1, c2, c3, qb]
      · by_cases c4 : w 1 + w 3 < b + hg
        · simp [c1, c2, c3, c4, qb]
        · simp [c1, c2, c3, c4, qb]
theorem qPl_isVisible_s (hn : n ≤ 20) (h : qr_C n f w sh σ) {p : Nat} (hp : p < n) : qPl_isVisible σ (nI p) = some (qb (qp_vis f w p)) := by
  unfold qPl_isVisible
  rw [qPt_get0 hn h hp, qob_bind, qPt_get1 hn h hp, qob_bind, qWi_holds_s h, qob_bind, qb_and1]
  rfl
theorem qLb_isShown_s (hn : n ≤ 20) (h : qr_C n f w sh σ) {p : Nat} (hp : p < n) : qLb_isShown σ (nI p) = some (qb (!decide (sh p = -1))) := by
  have e := (h.2.2 p hp).2.2.2.2.2.2
  unfold qLb_isShown
  rw [qo_in (by omega) (by decide), nI_clamp (by omega), e, qb_some']
theorem qLb_lacksLabel_s (hn : n ≤ 20) (h : qr_C n f w sh σ) {p : Nat} (hp : p < n) : qLb_lacksLabel σ (nI p) = some (qb (qp_want f w sh p)) := by
  unfold qLb_lacksLabel qp_want
  rw [qLb_isShown_s hn h hp, qob_bind, qPl_isVisible_s hn h hp, qob_bind]
  by_cases c : sh p = -1
  · cases qp_vis f w p <;> simp [c, qb]
  · simp [c, qb]
theorem qPl_isPlace_s (hn : n ≤ 20) (h : qr_K n f w σ) {p s : Nat} (hp : p < n) (hs : s < 8) : qPl_isPlace σ (nI p) (nI s) = some (qb (qp_pl n f w p s)) := by
  have e := (h.1 p hp s hs).2.2.2.2
  unfold qPl_isPlace
  rw [qn_8, qo_in (by omega) (by decide), nI_clamp (by omega), e, qb_and1]
theorem qPl_leftOf_s (hn : n ≤ 20) (h : qr_K n f w σ) {p s : Nat} (hp : p < n) (hs : s < 8) : qPl_leftOf σ (nI p) (nI s) = some (qp_lf f p s) := by
  have e := (h.1 p hp s hs).1
  unfold qPl_leftOf
  rw [qn_8, qo_in (by omega) (by decide), nI_clamp (by omega), e]
theorem qPl_bottomOf_s (hn : n ≤ 20) (h : qr_K n f w σ) {p s : Nat} (hp : p < n) (hs : s < 8) : qPl_bottomOf σ (nI p) (nI s) = some (qp_bt f p s) := by
  have e := (h.1 p hp s hs).2.1
  unfold qPl_bottomOf
  rw [qn_8, qo_in (by omega) (by decide), nI_clamp (by omega), e]
theorem qPl_doClash_s (hn : n ≤ 20) (h : qr_K n f w σ) {p s q t : Nat} (hp : p < n) (hs : s < 8) (hq : q < n) (ht : t < 8) : qPl_doClash σ (nI p) (nI s) (nI q) (nI t) = some (qb (!decide (p = q) && (qp_pl n f w p s && (qp_pl n f w q t && qp_mt f p s q t)))) := by
  obtain ⟨a1, a2, a3, a4, a5⟩ := h.1 p hp s hs
  obtain ⟨b1, b2, b3, b4, b5⟩ := h.1 q hq t ht
  unfold qPl_doClash
  simp only [qn_8, qo_in (show 8 * p + s < 160 by omega) (by decide), qo_in (show 8 * q + t < 160 by omega) (by decide), nI_clamp (show 8 * p + s < 2 ^ 31 by omega), nI_clamp (show 8 * q + t < 2 ^ 31 by omega), a1, a2, a3, a4, a5, b1, b2, b3, b4, b5]
  by_cases c0 : p = q
  · subst c0; simp [qb]
  · rw [if_neg (nI_neq (by omega) (by omega) c0), if_neg (nI_nm1 (by omega)), if_neg (nI_nm1 (by omega))]
    cases qp_pl n f w p s with
    | false => simp [qb]
    | true =>
      cases qp_pl n f w q t with
      | false => simp [qb]
      | true =>
        unfold qp_mt
        by_cases c1 : qp_lf f q t + f 2 q ≤ qp_lf f p s
        · simp [c0, c1, qb]
        · by_cases c2 : qp_lf f p s + f 2 p ≤ qp_lf f q t
          · simp [c0, c1, c2, qb]
          · by_cases c3 : qp_bt f q t + f 3 q ≤ qp_bt f p s
            · simp [c0, c1, c2, c3, qb]
            · by_cases c4 : qp_bt f p s + f 3 p ≤ qp_bt f q t
              · simp [c0, c1, c2, c3, c4, qb]
              · simp [c0, c1, c2, c3, c4, qb]
/-- with a label that is shown, or none -/
theorem qPl_doClash_sh (hn : n ≤ 20) (hat : qv_at n f w sh) (h : qr_K n f w σ) {p s q : Nat} (hp : p < n) (hs : s < 8) (hq : q < n) : qPl_doClash σ (nI p) (nI s) (nI q) (sh q) = some (qb (qp_pl n f w p s && qp_hit f sh p s q)) := by
  rcases hat q hq with e | ⟨t, ht, e, hpl⟩
  · unfold qPl_doClash qp_hit
    rw [e]
    by_cases c0 : p = q
    · subst c0; simp [qb]
    · rw [if_neg (nI_neq (by omega) (by omega) c0), if_neg (nI_nm1 (by omega)), if_pos rfl]
      simp [qb]
  · have hne : ¬ sh q = -1 := by rw [e]; exact nI_nm1 (by omega)
    rw [e, qPl_doClash_s hn h hp hs hq ht]
    unfold qp_hit
    rw [e, nI_clamp (by omega), hpl]
    rw [e] at hne
    by_cases c0 : p = q
    · subst c0; simp
    · have c0' : ¬ q = p := fun e => c0 e.symm
      simp [c0, c0', hne]
theorem qLb_clashing_s (hn : n ≤ 20) (hat : qv_at n f w sh) (hC : qr_C n f w sh σ) (h : qr_K n f w σ) {p s : Nat} (hp : p < n) (hs : s < 8) : qLb_clashing σ (nI p) (nI s) = some (nI (qp_cnt n (fun q => qp_pl n f w p s && qp_hit f sh p s q))) := by
  rw [← qp_sum_cnt]
  refine ql_acc0 (L := qLb_clashing_L5 σ (nI p) (nI s)) (fin := id) (by omega) (fun k x => ?_) (fun k x q hq => ?_)
  · rw [qLb_clashing_L5, hC.1, if_pos (nI_le (Nat.le_refl _) (by omega))]; rfl
  · have e := (hC.2.2 q hq).2.2.2.2.2.2
    rw [qLb_clashing_L5, hC.1, if_neg (nI_ge hq (by omega)), qo_in (by omega) (by decide), nI_clamp (by omega), e, qPl_doClash_sh hn hat h hp hs hq, qob_bind, nI_1]
    cases (qp_pl n f w p s && qp_hit f sh p s q) <;> simp [qb]
theorem qp_cnt_pl {p s : Nat} (h : qp_pl n f w p s = true) : qp_cnt n (fun q => qp_pl n f w p s && qp_hit f sh p s q) = qp_cnt n (qp_hit f sh p s) := by
  rw [h]
  simp only [Bool.true_and]
theorem qp_cnt_npl {p s : Nat} (h : qp_pl n f w p s = false) : qp_cnt n (fun q => qp_pl n f w p s && qp_hit f sh p s q) = 0 := by
  rw [h]
  exact qp_cnt_zero' (fun _ _ => by simp)
theorem qLb_isFree_s (hn : n ≤ 20) (hat : qv_at n f w sh) (hC : qr_C n f w sh σ) (h : qr_K n f w σ) {p s : Nat} (hp : p < n) (hs : s < 8) : qLb_isFree σ (nI p) (nI s) = some (qb (qp_free n f w sh p s)) := by
  unfold qLb_isFree qp_free
  rw [qPl_isPlace_s hn h hp hs, qob_bind, qLb_clashing_s hn hat hC h hp hs, qob_bind]
  cases hpl : qp_pl n f w p s with
  | false => simp [qb]
  | true =>
    have hcl := qp_cnt_le n (qp_hit f sh p s)
    rw [if_neg (by decide)]
    simp only [Bool.true_and]
    by_cases c : qp_cnt n (qp_hit f sh p s) = 0
    · have : qp_cnt n (fun q => qp_hit f sh p s q) = 0 := c
      rw [this]
      rfl
    · rw [if_neg (fun e => c ((nI_e0 (by omega)).mp e))]
      simp [c, qb]
theorem qLb_manyShown_s (hn : n ≤ 20) (h : qr_C n f w sh σ) : qLb_manyShown σ = some (nI (qp_cnt n (fun q => !decide (sh q = -1)))) := by
  rw [← qp_sum_cnt]
  refine ql_acc0 (L := qLb_manyShown_L4 σ) (fin := id) (by omega) (fun k x => ?_) (fun k x q hq => ?_)
  · rw [qLb_manyShown_L4, h.1, if_pos (nI_le (Nat.le_refl _) (by omega))]; rfl
  · rw [qLb_manyShown_L4, h.1, if_neg (nI_ge hq (by omega)), qLb_isShown_s hn h hq, qob_bind, nI_1]
    cases (!decide (sh q = -1)) <;> simp [qb]
theorem qLb_sumShown_s (hn : n ≤ 20) (h : qr_C n f w sh σ) : qLb_sumShown σ = some (qp_sum n (fun q => if sh q = -1 then 0 else f 4 q)) := by
  refine ql_acc0 (L := qLb_sumShown_L4 σ) (fin := id) (by omega) (fun k x => ?_) (fun k x q hq => ?_)
  · rw [qLb_sumShown_L4, h.1, if_pos (nI_le (Nat.le_refl _) (by omega))]; rfl
  · rw [qLb_sumShown_L4, h.1, if_neg (nI_ge hq (by omega)), qLb_isShown_s hn h hq, qob_bind, nI_1, qPt_get4 hn h hq, qob_bind]
    by_cases c : sh q = -1 <;> simp [c, qb]
theorem qPl_visiblePoints_s (hn : n ≤ 20) (h : qr_C n f w sh σ) : qPl_visiblePoints σ = some (nI (qp_cnt n (qp_vis f w))) := by
  rw [← qp_sum_cnt]
  refine ql_acc0 (L := qPl_visiblePoints_L4 σ) (fin := id) (by omega) (fun k x => ?_) (fun k x q hq => ?_)
  · rw [qPl_visiblePoints_L4, h.1, if_pos (nI_le (Nat.le_refl _) (by omega))]; rfl
  · rw [qPl_visiblePoints_L4, h.1, if_neg (nI_ge hq (by omega)), qPl_isVisible_s hn h hq, qob_bind, nI_1]
    cases qp_vis f w q <;> simp [qb]
theorem qPl_manyOf_s (hn : n ≤ 20) (h : qr_K n f w σ) {p : Nat} (hp : p < n) : qPl_manyOf σ (nI p) = some (nI (qp_cnt 8 (qp_pl n f w p))) := by
  rw [← qp_sum_cnt]
  refine ql_acc0 (L := qPl_manyOf_L4 σ (nI p)) (fin := id) (by omega) (fun k x => ?_) (fun k x q hq => ?_)
  · rw [qPl_manyOf_L4, if_pos (by decide)]; rfl
  · rw [qPl_manyOf_L4, if_neg (qn_lt8 hq), qPl_isPlace_s hn h hp hq, qob_bind, nI_1]
    cases qp_pl n f w p q <;> simp [qb]
theorem qPl_manyOfAll_s (hn : n ≤ 20) (hC : qr_C n f w sh σ) (h : qr_K n f w σ) : qPl_manyOfAll σ = some (qp_sum n (fun p => nI (qp_cnt 8 (qp_pl n f w p)))) := by
  refine ql_acc0 (L := qPl_manyOfAll_L4 σ) (fin := id) (by omega) (fun k x => ?_) (fun k x q hq => ?_)
  · rw [qPl_manyOfAll_L4, hC.1, if_pos (nI_le (Nat.le_refl _) (by omega))]; rfl
  · rw [qPl_manyOfAll_L4, hC.1, if_neg (nI_ge hq (by omega)), qPl_manyOf_s hn h hq, qob_bind, nI_1]
theorem qPl_covers_s (hok : qv_ok n f w) (h : qr_K n f w σ) {p s : Nat} (hp : p < n) (hs : s < 8) (x y : Int32) : qPl_covers σ (nI p) (nI s) x y = some (qb (qp_cov (qp_lf f p s) (qp_bt f p s) (f 2 p) (f 3 p) x y)) := by
  have hn := hok.1
  have hpt := hok.2.1 p hp
  have hl := qp_lf_b hpt s
  have hb := qp_bt_b hpt s
  obtain ⟨-, -, ⟨c1, c2⟩, ⟨d1, d2⟩, -⟩ := hpt
  obtain ⟨a1, a2, a3, a4, a5⟩ := h.1 p hp s hs
  have s1 : (qp_lf f p s + f 2 p).toInt = (qp_lf f p s).toInt + (f 2 p).toInt := qi_add (by omega) (by omega)
  have s3 : (qp_bt f p s + f 3 p).toInt = (qp_bt f p s).toInt + (f 3 p).toInt := qi_add (by omega) (by omega)
  unfold qPl_covers qp_cov
  simp only [qn_8, qo_in (show 8 * p + s < 160 by omega) (by decide), nI_clamp (show 8 * p + s < 2 ^ 31 by omega), a1, a2, a3, a4, qi_lt, qi_le, s1, s3]
  by_cases k1 : x.toInt < (qp_lf f p s).toInt
  · simp [k1, qb, show ¬ (qp_lf f p s).toInt ≤ x.toInt by omega]
  · by_cases k2 : (qp_lf f p s).toInt + (f 2 p).toInt ≤ x.toInt
    · simp [k1, k2, qb, show ¬ x.toInt < (qp_lf f p s).toInt + (f 2 p).toInt by omega]
    · by_cases k3 : y.toInt < (qp_bt f p s).toInt
      · simp [k1, k2, k3, qb, show ¬ (qp_bt f p s).toInt ≤ y.toInt by omega]
      · by_cases k4 : (qp_bt f p s).toInt + (f 3 p).toInt ≤ y.toInt
        · simp [k1, k2, k3, k4, qb, show ¬ y.toInt < (qp_bt f p s).toInt + (f 3 p).toInt by omega]
        · simp [k1, k2, k3, k4, qb, show (qp_lf f p s).toInt ≤ x.toInt by omega, show x.toInt < (qp_lf f p s).toInt + (f 2 p).toInt by omega, show (qp_bt f p s).toInt ≤ y.toInt by omega, show y.toInt < (qp_bt f p s).toInt + (f 3 p).toInt by omega]
theorem qLb_ownerOf_s (hok : qv_ok n f w) (hsh : qv_sh n sh) (hC : qr_C n f w sh σ) (h : qr_K n f w σ) (x y : Int32) : qLb_ownerOf σ x y = some (match qp_find (fun p => !decide (sh p = -1) && qp_cov (qp_lf f p (sh p).toNatClampNeg) (qp_bt f p (sh p).toNatClampNeg) (f 2 p) (f 3 p) x y) n 0 with | some p => nI p | none => -1) := by
  have hn := hok.1
  refine ql_first0 (L := qLb_ownerOf_L2 σ x y) (r := nI) (by omega) (fun k => ?_) (fun k q hq => ?_)
  · rw [qLb_ownerOf_L2, hC.1, if_pos (nI_le (Nat.le_refl _) (by omega))]
  · have e := (hC.2.2 q hq).2.2.2.2.2.2
    rw [qLb_ownerOf_L2, hC.1, if_neg (nI_ge hq (by omega)), qLb_isShown_s hn hC hq, qob_bind, nI_clamp (by omega), e, qo_in (by omega) (by decide), nI_1]
    by_cases c2 : sh q = -1
    · simp [c2, qb]
    · obtain ⟨ht, e2⟩ := qv_shN hsh hq c2
      have hm := qPl_covers_s hok h hq ht x y
      rw [← e2] at hm
      rw [hm, qob_bind]
      cases qp_cov (qp_lf f q (sh q).toNatClampNeg) (qp_bt f q (sh q).toNatClampNeg) (f 2 q) (f 3 q) x y <;> simp [c2, qb]
theorem qLb_firstClashing_s (hn : n ≤ 20) (hat : qv_at n f w sh) (hC : qr_C n f w sh σ) (h : qr_K n f w σ) {p s : Nat} (hp : p < n) (hs : s < 8) (hpl : qp_pl n f w p s = true) : qLb_firstClashing σ (nI p) (nI s) = some (match qp_find (qp_hit f sh p s) n 0 with | some q => nI q | none => -1) := by
  refine ql_first0 (L := qLb_firstClashing_L2 σ (nI p) (nI s)) (r := nI) (by omega) (fun k => ?_) (fun k q hq => ?_)
  · rw [qLb_firstClashing_L2, hC.1, if_pos (nI_le (Nat.le_refl _) (by omega))]
  · have e := (hC.2.2 q hq).2.2.2.2.2.2
    rw [qLb_firstClashing_L2, hC.1, if_neg (nI_ge hq (by omega)), qo_in (by omega) (by decide), nI_clamp (by omega), e, qPl_doClash_sh hn hat h hp hs hq, qob_bind, nI_1, hpl, Bool.true_and]
    cases qp_hit f sh p s q <;> simp [qb]
end
