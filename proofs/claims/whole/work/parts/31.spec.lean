/-! what the map means: n points with properties f, the window w, the shown sides sh -/
def qp_lf (f : Nat → Nat → Int32) (p s : Nat) : Int32 := if s = 0 ∨ s = 2 ∨ s = 4 then f 0 p + 1 else if s = 1 ∨ s = 3 ∨ s = 5 then f 0 p - f 2 p else f 0 p - (f 2 p - 1) / 2
def qp_bt (f : Nat → Nat → Int32) (p s : Nat) : Int32 := if s = 0 ∨ s = 1 ∨ s = 6 then f 1 p + 1 else if s = 2 ∨ s = 3 ∨ s = 7 then f 1 p - f 3 p else f 1 p - (f 3 p - 1) / 2
/-- the window holds these cells -/
def qp_hold (w : Nat → Int32) (l b wd hg : Int32) : Bool := !decide (l < w 0) && (!decide (w 0 + w 2 < l + wd) && (!decide (b < w 1) && !decide (w 1 + w 3 < b + hg)))
def qp_vis (f : Nat → Nat → Int32) (w : Nat → Int32) (p : Nat) : Bool := qp_hold w (f 0 p) (f 1 p) 1 1
def qp_cov (l b wd hg x y : Int32) : Bool := decide (l.toInt ≤ x.toInt) && (decide (x.toInt < l.toInt + wd.toInt) && (decide (b.toInt ≤ y.toInt) && decide (y.toInt < b.toInt + hg.toInt)))
/-- a point lies in these cells -/
def qp_isIn (n : Nat) (f : Nat → Nat → Int32) (l b wd hg : Int32) : Bool := !decide (qp_cnt n (fun q => qp_cov l b wd hg (f 0 q) (f 1 q)) = 0)
def qp_bit (f : Nat → Nat → Int32) (p s : Nat) : Bool := decide (((f 5 p) >>> (nI s &&& 31)) &&& 1 = 1)
def qp_pl (n : Nat) (f : Nat → Nat → Int32) (w : Nat → Int32) (p s : Nat) : Bool := qp_bit f p s && (qp_vis f w p && (qp_hold w (qp_lf f p s) (qp_bt f p s) (f 2 p) (f 3 p) && !qp_isIn n f (qp_lf f p s) (qp_bt f p s) (f 2 p) (f 3 p)))
def qp_mt (f : Nat → Nat → Int32) (p s q t : Nat) : Bool := !decide (qp_lf f q t + f 2 q ≤ qp_lf f p s) && (!decide (qp_lf f p s + f 2 p ≤ qp_lf f q t) && (!decide (qp_bt f q t + f 3 q ≤ qp_bt f p s) && !decide (qp_bt f p s + f 3 p ≤ qp_bt f q t)))
/-- the points and the window are in their ranges -/
def qv_pt (f : Nat → Nat → Int32) (p : Nat) : Prop := (0 ≤ (f 0 p).toInt ∧ (f 0 p).toInt ≤ 199) ∧ (0 ≤ (f 1 p).toInt ∧ (f 1 p).toInt ≤ 199) ∧ (1 ≤ (f 2 p).toInt ∧ (f 2 p).toInt ≤ 20) ∧ (1 ≤ (f 3 p).toInt ∧ (f 3 p).toInt ≤ 6) ∧ (1 ≤ (f 4 p).toInt ∧ (f 4 p).toInt ≤ 9) ∧ (1 ≤ (f 5 p).toInt ∧ (f 5 p).toInt ≤ 255)
def qv_win (w : Nat → Int32) : Prop := 10 ≤ (w 2).toInt ∧ (w 2).toInt ≤ 100 ∧ 10 ≤ (w 3).toInt ∧ (w 3).toInt ≤ 100 ∧ 0 ≤ (w 0).toInt ∧ (w 0).toInt + (w 2).toInt ≤ 200 ∧ 0 ≤ (w 1).toInt ∧ (w 1).toInt + (w 3).toInt ≤ 200
def qv_ok (n : Nat) (f : Nat → Nat → Int32) (w : Nat → Int32) : Prop := n ≤ 20 ∧ (∀ p, p < n → qv_pt f p) ∧ qv_win w
/-- shown: none, or a side -/
def qv_sh (n : Nat) (sh : Nat → Int32) : Prop := ∀ p, p < n → sh p = -1 ∨ ∃ s, s < 8 ∧ sh p = nI s
/-- the reference's cells hold it -/
def qr_M (n : Nat) (f : Nat → Nat → Int32) (w sh : Nat → Int32) (τ : QS) : Prop := τ.1 0 1 = nI n ∧ (τ.1 0 2 = w 0 ∧ τ.1 0 3 = w 1 ∧ τ.1 0 4 = w 2 ∧ τ.1 0 5 = w 3) ∧ ∀ p, p < n → τ.1 1 (0 + p) = f 0 p ∧ τ.1 1 (20 + p) = f 1 p ∧ τ.1 1 (40 + p) = f 2 p ∧ τ.1 1 (60 + p) = f 3 p ∧ τ.1 1 (80 + p) = f 4 p ∧ τ.1 1 (100 + p) = f 5 p ∧ τ.1 1 (120 + p) = sh p
/-- the class's cells hold it -/
def qr_C (n : Nat) (f : Nat → Nat → Int32) (w sh : Nat → Int32) (σ : QS) : Prop := σ.1 1 0 = nI n ∧ (σ.1 4 0 = w 0 ∧ σ.1 4 1 = w 1 ∧ σ.1 4 2 = w 2 ∧ σ.1 4 3 = w 3) ∧ ∀ p, p < n → σ.1 2 (6 * p + 0) = f 0 p ∧ σ.1 2 (6 * p + 1) = f 1 p ∧ σ.1 2 (6 * p + 2) = f 2 p ∧ σ.1 2 (6 * p + 3) = f 3 p ∧ σ.1 2 (6 * p + 4) = f 4 p ∧ σ.1 2 (6 * p + 5) = f 5 p ∧ σ.1 12 p = sh p
theorem q8 {s : Nat} (h : s < 8) : s = 0 ∨ s = 1 ∨ s = 2 ∨ s = 3 ∨ s = 4 ∨ s = 5 ∨ s = 6 ∨ s = 7 := by omega
theorem qi_half {a : Int32} (h1 : 0 ≤ a.toInt) : (a / 2).toInt = a.toInt / 2 := by
  obtain ⟨j, hj, rfl⟩ := nI_of (x := a) (by rw [qi_lt]; exact Int.not_lt.mpr h1)
  rw [show (2 : Int32) = nI 2 from rfl, pk_div hj (by decide) (by decide), nI_toInt hj, nI_toInt (by omega)]
  omega
theorem qp_lf_i {f : Nat → Nat → Int32} {p : Nat} (h : qv_pt f p) (s : Nat) : (qp_lf f p s).toInt = if s = 0 ∨ s = 2 ∨ s = 4 then (f 0 p).toInt + 1 else if s = 1 ∨ s = 3 ∨ s = 5 then (f 0 p).toInt - (f 2 p).toInt else (f 0 p).toInt - ((f 2 p).toInt - 1) / 2 := by
  obtain ⟨⟨a1, a2⟩, -, ⟨c1, c2⟩, -⟩ := h
  have h1 : (1 : Int32).toInt = 1 := by decide
  unfold qp_lf
  split
  · rw [qi_add (by omega) (by omega), h1]
  · split
    · rw [qi_sub (by omega) (by omega)]
    · have e : (f 2 p - 1).toInt = (f 2 p).toInt - 1 := by rw [qi_sub (by omega) (by omega), h1]
      have e2 : ((f 2 p - 1) / 2).toInt = ((f 2 p).toInt - 1) / 2 := by rw [qi_half (by omega), e]
      rw [qi_sub (by omega) (by omega), e2]
theorem qp_bt_i {f : Nat → Nat → Int32} {p : Nat} (h : qv_pt f p) (s : Nat) : (qp_bt f p s).toInt = if s = 0 ∨ s = 1 ∨ s = 6 then (f 1 p).toInt + 1 else if s = 2 ∨ s = 3 ∨ s = 7 then (f 1 p).toInt - (f 3 p).toInt else (f 1 p).toInt - ((f 3 p).toInt - 1) / 2 := by
  obtain ⟨-, ⟨a1, a2⟩, -, ⟨c1, c2⟩, -⟩ := h
  have h1 : (1 : Int32).toInt = 1 := by decide
  unfold qp_bt
  split
  · rw [qi_add (by omega) (by omega), h1]
  · split
    · rw [qi_sub (by omega) (by omega)]
    · have e : (f 3 p - 1).toInt = (f 3 p).toInt - 1 := by rw [qi_sub (by omega) (by omega), h1]
      have e2 : ((f 3 p - 1) / 2).toInt = ((f 3 p).toInt - 1) / 2 := by rw [qi_half (by omega), e]
      rw [qi_sub (by omega) (by omega), e2]
theorem qp_lf_b {f : Nat → Nat → Int32} {p : Nat} (h : qv_pt f p) (s : Nat) : -20 ≤ (qp_lf f p s).toInt ∧ (qp_lf f p s).toInt ≤ 200 := by
  rw [qp_lf_i h]
  obtain ⟨⟨a1, a2⟩, -, ⟨c1, c2⟩, -⟩ := h
  split
  · omega
  · split <;> omega
theorem qp_bt_b {f : Nat → Nat → Int32} {p : Nat} (h : qv_pt f p) (s : Nat) : -20 ≤ (qp_bt f p s).toInt ∧ (qp_bt f p s).toInt ≤ 200 := by
  rw [qp_bt_i h]
  obtain ⟨-, ⟨a1, a2⟩, -, ⟨c1, c2⟩, -⟩ := h
  split
  · omega
  · split <;> omega
section
variable {n : Nat} {f : Nat → Nat → Int32} {w sh : Nat → Int32} {τ σ : QS}
-- the reference's questions
theorem qM_in_s (a b c : Int64) : qM_in τ a b c = some (qb (decide (b.toInt ≤ a.toInt) && decide (a.toInt ≤ c.toInt))) := by
  unfold qM_in
  simp only [ql_lt]
  by_cases h1 : a.toInt < b.toInt
  · have : ¬ b.toInt ≤ a.toInt := by omega
    simp [h1, this, qb]
  · have h1' : b.toInt ≤ a.toInt := by omega
    by_cases h2 : c.toInt < a.toInt
    · have : ¬ a.toInt ≤ c.toInt := by omega
      simp [h1, h2, this, qb]
    · have : a.toInt ≤ c.toInt := by omega
      simp [h1, h2, this, h1', qb]
theorem qM_isVisible_s (hok : qv_ok n f w) (h : qr_M n f w sh τ) {p : Nat} (hp : p < n) : qM_isVisible τ (nI p) = some (qb (qp_vis f w p)) := by
  obtain ⟨hn, hf, w1, w2, w3, w4, w5, w6, w7, w8⟩ := hok
  obtain ⟨⟨a1, a2⟩, ⟨b1, b2⟩, -⟩ := hf p hp
  obtain ⟨hm, ⟨e0, e1, e2, e3⟩, ha⟩ := h
  obtain ⟨x0, x1, -⟩ := ha p hp
  have k1 : (1 : Int32).toInt = 1 := by decide
  unfold qM_isVisible
  rw [qn_a0, qn_a20, qo_in (by omega) (by decide), nI_clamp (by omega), nI_clamp (by omega), x0, x1, e0, e1, e2, e3, qM_in_s, qob_bind]
  have s1 : (w 0 + w 2).toInt = (w 0).toInt + (w 2).toInt := qi_add (by omega) (by omega)
  have s2 : (w 0 + w 2 - 1).toInt = (w 0).toInt + (w 2).toInt - 1 := by rw [qi_sub (by omega) (by omega), s1, k1]
  have s3 : (w 1 + w 3).toInt = (w 1).toInt + (w 3).toInt := qi_add (by omega) (by omega)
  have s4 : (w 1 + w 3 - 1).toInt = (w 1).toInt + (w 3).toInt - 1 := by rw [qi_sub (by omega) (by omega), s3, k1]
  have s5 : (f 0 p + 1).toInt = (f 0 p).toInt + 1 := by rw [qi_add (by omega) (by omega), k1]
  have s6 : (f 1 p + 1).toInt = (f 1 p).toInt + 1 := by rw [qi_add (by omega) (by omega), k1]
  simp only [qi_l, s2, s4, qb_0]
  have hv : qp_vis f w p = ((decide ((w 0).toInt ≤ (f 0 p).toInt) && decide ((f 0 p).toInt ≤ (w 0).toInt + (w 2).toInt - 1)) && (decide ((w 1).toInt ≤ (f 1 p).toInt) && decide ((f 1 p).toInt ≤ (w 1).toInt + (w 3).toInt - 1))) := by
    unfold qp_vis qp_hold
    simp only [qi_lt, s1, s3, s5, s6]
    rw [Bool.eq_iff_iff]
    simp only [Bool.and_eq_true, Bool.not_eq_true', decide_eq_true_eq, decide_eq_false_iff_not]
    omega
  rw [hv]
  cases hc : (decide ((w 0).toInt ≤ (f 0 p).toInt) && decide ((f 0 p).toInt ≤ (w 0).toInt + (w 2).toInt - 1)) with
  | false => simp [qb]
  | true =>
    rw [if_neg (by simp), qo_in (by omega) (by decide), qM_in_s, qob_bind]
    simp only [qi_l, s4, qb_0]
    cases (decide ((w 1).toInt ≤ (f 1 p).toInt) && decide ((f 1 p).toInt ≤ (w 1).toInt + (w 3).toInt - 1)) <;> simp [qb]
theorem qM_left_s (hn : n ≤ 20) (h : qr_M n f w sh τ) {p s : Nat} (hp : p < n) (hs : s < 8) : qM_left τ (nI p) (nI s) = some (qp_lf f p s) := by
  obtain ⟨-, -, ha⟩ := h
  obtain ⟨x0, -, x2, -⟩ := ha p hp
  unfold qM_left
  rw [qn_a0, qn_a40, qo_in (by omega) (by decide), qo_in (by omega) (by decide), qo_in (by omega) (by decide), nI_clamp (by omega), nI_clamp (by omega), x0, x2]
  rcases q8 hs with rfl | rfl | rfl | rfl | rfl | rfl | rfl | rfl
  · rw [if_pos (by decide), if_pos (by decide)]; rfl
  · rw [if_pos (by decide), if_neg (by decide)]; rfl
  · rw [if_pos (by decide), if_pos (by decide)]; rfl
  · rw [if_pos (by decide), if_neg (by decide)]; rfl
  · rw [if_pos (by decide), if_pos (by decide)]; rfl
  · rw [if_pos (by decide), if_neg (by decide)]; rfl
  · rw [if_neg (by decide)]; rfl
  · rw [if_neg (by decide)]; rfl
theorem qM_bottom_s (hn : n ≤ 20) (h : qr_M n f w sh τ) {p s : Nat} (hp : p < n) (hs : s < 8) : qM_bottom τ (nI p) (nI s) = some (qp_bt f p s) := by
  obtain ⟨-, -, ha⟩ := h
  obtain ⟨-, x1, -, x3, -⟩ := ha p hp
  unfold qM_bottom qM_bottom_J20
  rw [qn_a20, qn_a60, qo_in (by omega) (by decide), qo_in (by omega) (by decide), qo_in (by omega) (by decide), nI_clamp (by omega), nI_clamp (by omega), x1, x3]
  rcases q8 hs with rfl | rfl | rfl | rfl | rfl | rfl | rfl | rfl
  · rw [if_neg (by decide), if_neg (by decide), if_pos (by decide)]; rfl
  · rw [if_neg (by decide), if_neg (by decide), if_neg (by decide), if_pos (by decide)]; rfl
  · rw [if_neg (by decide), if_neg (by decide), if_neg (by decide), if_neg (by decide), if_neg (by decide)]; rfl
  · rw [if_neg (by decide), if_neg (by decide), if_neg (by decide), if_neg (by decide), if_neg (by decide)]; rfl
  · rw [if_pos (by decide)]; rfl
  · rw [if_neg (by decide), if_pos (by decide)]; rfl
  · rw [if_neg (by decide), if_neg (by decide), if_neg (by decide), if_neg (by decide), if_pos (by decide)]; rfl
  · rw [if_neg (by decide), if_neg (by decide), if_neg (by decide), if_neg (by decide), if_neg (by decide)]; rfl
end
