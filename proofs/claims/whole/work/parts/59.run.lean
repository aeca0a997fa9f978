/-! run side by side: the text, blanks, letters -/
section
variable {σ τ : QS} {u : Nat → Int32} {t : Nat}
theorem qu_ne (σ : QS) {c i : Nat} {v : Int32} {k : Nat} (h : ¬ k = c) : (qx_up σ c i v).1 k = σ.1 k := by
  unfold qx_up
  simp only [if_neg h]
theorem qu_nj (σ : QS) {c i : Nat} {v : Int32} {j : Nat} (h : ¬ j = i) : (qx_up σ c i v).1 c j = σ.1 c j := by
  rw [qu_1, if_neg (fun e => h e.2)]
theorem qu_up2 (σ : QS) (c i : Nat) (a b : Int32) : qx_up (qx_up σ c i a) c i b = qx_up σ c i b := by
  refine Prod.ext ?_ rfl
  funext k j
  rw [qu_1, qu_1, qu_1]
  by_cases e : k = c ∧ j = i
  · rw [if_pos e, if_pos e]
  · rw [if_neg e, if_neg e, if_neg e]
theorem qu_own {σ : QS} {c i : Nat} {v : Int32} (h : σ.1 c i = v) : qx_up σ c i v = σ := by
  refine Prod.ext ?_ rfl
  funext k j
  rw [qu_1]
  by_cases e : k = c ∧ j = i
  · rw [if_pos e, e.1, e.2, h]
  · rw [if_neg e]
/-- letter i of the text, -1 past its end -/
def qt_ch (u : Nat → Int32) (t i : Nat) : Int32 := if i < t then u i else -1
def qt_C (u : Nat → Int32) (t : Nat) (σ : QS) : Prop := t ≤ 80 ∧ σ.1 19 0 = nI t ∧ ∀ i, i < t → σ.1 20 i = u i
def qt_M (u : Nat → Int32) (t : Nat) (τ : QS) : Prop := t ≤ 80 ∧ τ.1 0 14 = nI t ∧ ∀ i, i < t → τ.1 8 i = u i
theorem qt_ch_in {i : Nat} (h : i < t) : qt_ch u t i = u i := if_pos h
theorem qt_ch_out {i : Nat} (h : t ≤ i) : qt_ch u t i = -1 := if_neg (by omega)
theorem qTx_at_s (h : qt_C u t σ) {i : Nat} (hi : i < 2 ^ 31) : qTx_at σ (nI i) = some (qt_ch u t i) := by
  obtain ⟨h1, h2, h3⟩ := h
  unfold qTx_at
  rw [h2, if_neg (nI_nneg hi)]
  rcases Nat.lt_or_ge i t with c | c
  · rw [if_neg (nI_ge c (by omega)), qo_in (by omega) (by decide), nI_clamp hi, h3 i c, qt_ch_in c]
  · rw [if_pos (nI_le c hi), qt_ch_out c]
theorem qM_next_s (h : qt_M u t τ) {i : Nat} (hi : i < 2 ^ 31) (e : τ.1 0 15 = nI i) : qM_next τ = some (qt_ch u t i) := by
  obtain ⟨h1, h2, h3⟩ := h
  unfold qM_next
  rw [h2, e]
  rcases Nat.lt_or_ge i t with c | c
  · rw [if_neg (nI_ge c (by omega)), qo_in (by omega) (by decide), nI_clamp hi, h3 i c, qt_ch_in c]
  · rw [if_pos (nI_le c hi), qt_ch_out c]
theorem qt_C.up (h : qt_C u t σ) {c i : Nat} {v : Int32} (h1 : ¬ 19 = c) (h2 : ¬ 20 = c) : qt_C u t (qx_up σ c i v) := by
  unfold qt_C
  rw [qu_ne σ h1, qu_ne σ h2]
  exact h
theorem qt_M.up0 (h : qt_M u t τ) {i : Nat} {v : Int32} (h1 : ¬ 14 = i) : qt_M u t (qx_up τ 0 i v) := by
  unfold qt_M
  rw [qu_nj τ h1, qu_ne τ (by decide)]
  exact h
theorem qt_M.up (h : qt_M u t τ) {c i : Nat} {v : Int32} (h1 : ¬ 0 = c) (h2 : ¬ 8 = c) : qt_M u t (qx_up τ c i v) := by
  unfold qt_M
  rw [qu_ne τ h1, qu_ne τ h2]
  exact h
/-- where a run of letters of one sort ends -/
def qt_rk (P : Int32 → Bool) (g : Nat → Int32) : Nat → Nat → Nat
  | 0, i => i
  | k + 1, i => if P (g i) = true then qt_rk P g k (i + 1) else i
def qt_r (P : Int32 → Bool) (u : Nat → Int32) (t i : Nat) : Nat := qt_rk P (qt_ch u t) (t - i) i
theorem qt_lt {P : Int32 → Bool} (hP : P (-1) = false) {i : Nat} (h : P (qt_ch u t i) = true) : i < t := by
  rcases Nat.lt_or_ge i t with c | c
  · exact c
  · rw [qt_ch_out c, hP] at h; cases h
theorem qt_r_go {P : Int32 → Bool} (hP : P (-1) = false) {i : Nat} (h : P (qt_ch u t i) = true) : qt_r P u t i = qt_r P u t (i + 1) := by
  have hi := qt_lt hP h
  unfold qt_r
  rw [show t - i = (t - (i + 1)) + 1 by omega, qt_rk, if_pos h]
theorem qt_r_no {P : Int32 → Bool} {i : Nat} (h : P (qt_ch u t i) = false) : qt_r P u t i = i := by
  unfold qt_r
  cases t - i with
  | zero => rfl
  | succ k => rw [qt_rk, h]; rfl
theorem qt_ind {P : Int32 → Bool} (hP : P (-1) = false) {Q : Nat → Prop} (h1 : ∀ i, P (qt_ch u t i) = false → Q i) (h2 : ∀ i, i < t → P (qt_ch u t i) = true → Q (i + 1) → Q i) : ∀ i, Q i := by
  have key : ∀ k i, t - i ≤ k → Q i := by
    intro k
    induction k with
    | zero => intro i hi; exact h1 i (by rw [qt_ch_out (by omega)]; exact hP)
    | succ k ih =>
      intro i hi
      cases h : P (qt_ch u t i) with
      | false => exact h1 i h
      | true =>
        have := qt_lt hP h
        exact h2 i this h (ih (i + 1) (by omega))
  exact fun i => key _ i (Nat.le_refl _)
theorem qt_r_ge {P : Int32 → Bool} (hP : P (-1) = false) : ∀ i, i ≤ qt_r P u t i := by
  refine qt_ind (u := u) (t := t) hP (fun i h => by rw [qt_r_no h]; exact Nat.le_refl _) (fun i _ h ih => ?_)
  rw [qt_r_go hP h]; omega
theorem qt_r_le {P : Int32 → Bool} (hP : P (-1) = false) : ∀ i, i ≤ t → qt_r P u t i ≤ t := by
  refine qt_ind (u := u) (t := t) hP (fun i h hi => by rw [qt_r_no h]; exact hi) (fun i hi h ih _ => ?_)
  rw [qt_r_go hP h]; exact ih (by omega)
theorem qt_r_end {P : Int32 → Bool} (hP : P (-1) = false) : ∀ i, P (qt_ch u t (qt_r P u t i)) = false := by
  refine qt_ind (u := u) (t := t) hP (fun i h => by rw [qt_r_no h]; exact h) (fun i hi h ih => ?_)
  rw [qt_r_go hP h]; exact ih
theorem qt_r_in {P : Int32 → Bool} (hP : P (-1) = false) : ∀ i j, i ≤ j → j < qt_r P u t i → P (qt_ch u t j) = true := by
  refine qt_ind (u := u) (t := t) hP (fun i h j h1 h2 => by rw [qt_r_no h] at h2; omega) (fun i hi h ih j h1 h2 => ?_)
  rw [qt_r_go hP h] at h2
  by_cases c : j = i
  · subst c; exact h
  · exact ih j (by omega) h2
def qt_bl (x : Int32) : Bool := decide (x = 32)
theorem qt_bl1 : qt_bl (-1) = false := by decide
theorem qt_le1 : qp_rng 97 122 (-1) = false := by decide
theorem qt_di1 : qp_rng 48 57 (-1) = false := by decide
theorem qCm_skip_L (h : qt_C u t σ) : ∀ i m, t - i < m → i ≤ t → qCm_skipBlanks_L0 m (qx_up σ 21 2 (nI i)) = some (qx_up σ 21 2 (nI (qt_r qt_bl u t i))) := by
  have h80 := h.1
  refine qt_ind (u := u) (t := t) qt_bl1 (fun i hb m hm hi => ?_) (fun i hi hb ih m hm _ => ?_)
  · obtain ⟨m, rfl⟩ : ∃ m', m = m' + 1 := ⟨m - 1, by omega⟩
    have h' : qt_C u t (qx_up σ 21 2 (nI i)) := h.up (by decide) (by decide)
    rw [qCm_skipBlanks_L0, h'.2.1, qu_s, qt_r_no hb]
    by_cases c : nI t ≤ nI i
    · rw [if_pos c]
    · rw [if_neg c, qTx_at_s h' (by omega), qob_bind, if_neg (by unfold qt_bl at hb; exact of_decide_eq_false hb)]
  · obtain ⟨m, rfl⟩ : ∃ m', m = m' + 1 := ⟨m - 1, by omega⟩
    have h' : qt_C u t (qx_up σ 21 2 (nI i)) := h.up (by decide) (by decide)
    rw [qCm_skipBlanks_L0, h'.2.1, qu_s, qt_r_go qt_bl1 hb, if_neg (nI_ge hi (by omega)), qTx_at_s h' (by omega), qob_bind, if_pos (by unfold qt_bl at hb; exact of_decide_eq_true hb), qu_up2, nI_1]
    exact ih m (by omega) (by omega)
theorem qCm_skip_s (h : qt_C u t σ) {i : Nat} (hi : i ≤ t) : qCm_skipBlanks (qx_up σ 21 2 (nI i)) = some (qx_up σ 21 2 (nI (qt_r qt_bl u t i))) := qCm_skip_L h i qx_F (by rw [qF_big]; have := h.1; omega) hi
theorem qM_skip_L (h : qt_M u t τ) : ∀ i m, t - i < m → i ≤ t → qM_skips_L0 m (qx_up τ 0 15 (nI i)) = some (qx_up τ 0 15 (nI (qt_r qt_bl u t i))) := by
  have h80 := h.1
  refine qt_ind (u := u) (t := t) qt_bl1 (fun i hb m hm hi => ?_) (fun i hi hb ih m hm _ => ?_)
  · obtain ⟨m, rfl⟩ : ∃ m', m = m' + 1 := ⟨m - 1, by omega⟩
    have h' : qt_M u t (qx_up τ 0 15 (nI i)) := h.up0 (by decide)
    rw [qM_skips_L0, qM_next_s h' (show i < 2 ^ 31 by omega) (qu_s _ _ _ _), qob_bind, qt_r_no hb, if_neg (by unfold qt_bl at hb; exact of_decide_eq_false hb)]
  · obtain ⟨m, rfl⟩ : ∃ m', m = m' + 1 := ⟨m - 1, by omega⟩
    have h' : qt_M u t (qx_up τ 0 15 (nI i)) := h.up0 (by decide)
    rw [qM_skips_L0, qM_next_s h' (show i < 2 ^ 31 by omega) (qu_s _ _ _ _), qob_bind, qt_r_go qt_bl1 hb, if_pos (by unfold qt_bl at hb; exact of_decide_eq_true hb), qu_up2, qu_s, nI_1]
    exact ih m (by omega) (by omega)
theorem qM_skip_s (h : qt_M u t τ) {i : Nat} (hi : i ≤ t) (e : τ.1 0 15 = nI i) : qM_skips τ = some (qx_up τ 0 15 (nI (qt_r qt_bl u t i))) := by
  have := qM_skip_L h i qx_F (by rw [qF_big]; have := h.1; omega) hi
  rw [qu_own e] at this
  exact this
theorem qTx_rng {lo hi : Int32} (x : Int32) : (if x < lo then some 0 else if hi < x then some 0 else some 1) = some (qb (qp_rng lo.toInt hi.toInt x)) := by
  unfold qp_rng
  by_cases c1 : x < lo
  · rw [if_pos c1]
    rw [qi_lt] at c1
    rw [show decide (lo.toInt ≤ x.toInt) = false from decide_eq_false (by omega)]; rfl
  · rw [if_neg c1]
    rw [qi_lt] at c1
    rw [show decide (lo.toInt ≤ x.toInt) = true from decide_eq_true (by omega)]
    by_cases c2 : hi < x
    · rw [if_pos c2]
      rw [qi_lt] at c2
      rw [show decide (x.toInt ≤ hi.toInt) = false from decide_eq_false (by omega)]; rfl
    · rw [if_neg c2]
      rw [qi_lt] at c2
      rw [show decide (x.toInt ≤ hi.toInt) = true from decide_eq_true (by omega)]; rfl
theorem qTx_isDigit_s (h : qt_C u t σ) {i : Nat} (hi : i < 2 ^ 31) : qTx_isDigit σ (nI i) = some (qb (qp_rng 48 57 (qt_ch u t i))) := by
  unfold qTx_isDigit
  rw [qTx_at_s h hi]
  simp only [qob_bind]
  exact qTx_rng _
theorem qTx_isSmallLetter_s (h : qt_C u t σ) {i : Nat} (hi : i < 2 ^ 31) : qTx_isSmallLetter σ (nI i) = some (qb (qp_rng 97 122 (qt_ch u t i))) := by
  unfold qTx_isSmallLetter
  rw [qTx_at_s h hi]
  simp only [qob_bind]
  exact qTx_rng _
theorem qCm_word_L (h : qt_C u t σ) (x : Int32) : ∀ i m, t - i < m → i ≤ t → qCm_read_L15 x m (qx_up σ 21 2 (nI i)) = qCm_read_J50 (qx_up σ 21 2 (nI (qt_r (qp_rng 97 122) u t i))) x := by
  have h80 := h.1
  refine qt_ind (u := u) (t := t) qt_le1 (fun i hb m hm hi => ?_) (fun i hi hb ih m hm _ => ?_)
  · obtain ⟨m, rfl⟩ : ∃ m', m = m' + 1 := ⟨m - 1, by omega⟩
    have h' : qt_C u t (qx_up σ 21 2 (nI i)) := h.up (by decide) (by decide)
    rw [qCm_read_L15, h'.2.1, qu_s, qt_r_no hb]
    by_cases c : nI t ≤ nI i
    · rw [if_pos c]
    · rw [if_neg c, qTx_isSmallLetter_s h' (by omega), qob_bind, hb, if_pos qb_f]
  · obtain ⟨m, rfl⟩ : ∃ m', m = m' + 1 := ⟨m - 1, by omega⟩
    have h' : qt_C u t (qx_up σ 21 2 (nI i)) := h.up (by decide) (by decide)
    rw [qCm_read_L15, h'.2.1, qu_s, qt_r_go qt_le1 hb, if_neg (nI_ge hi (by omega)), qTx_isSmallLetter_s h' (by omega), qob_bind, hb, if_neg qb_ne, qu_up2, nI_1]
    exact ih m (by omega) (by omega)
/-- the reference while it reads its word, from a on, at i -/
def qt_W (u : Nat → Int32) (t : Nat) (τ0 : QS) (a i : Nat) (τ : QS) : Prop := (∀ k, ¬ k = 0 → ¬ k = 9 → τ.1 k = τ0.1 k) ∧ (∀ j, ¬ j = 15 → ¬ j = 18 → τ.1 0 j = τ0.1 0 j) ∧ τ.1 0 15 = nI i ∧ τ.1 0 18 = nI (i - a) ∧ ∀ j, a + j < i → τ.1 9 j = qt_ch u t (a + j)
theorem qM_word_L {τ0 : QS} (h : qt_M u t τ0) {a : Nat} : ∀ i m τ, t - i < m → a ≤ i → i ≤ t → qt_W u t τ0 a i τ → ∃ τ', qM_readsWord_L5 m τ = some τ' ∧ qt_W u t τ0 a (qt_r (qp_rng 97 122) u t i) τ' := by
  have h80 := h.1
  have hM : ∀ i τ, qt_W u t τ0 a i τ → qt_M u t τ := by
    intro i τ hW
    unfold qt_M
    rw [hW.2.1 14 (by decide) (by decide), hW.1 8 (by decide) (by decide)]
    exact h
  refine qt_ind (u := u) (t := t) qt_le1 (fun i hb m τ hm ha hi hW => ?_) (fun i hi hb ih m τ hm ha _ hW => ?_)
  · obtain ⟨m, rfl⟩ : ∃ m', m = m' + 1 := ⟨m - 1, by omega⟩
    rw [qM_readsWord_L5, qM_next_s (hM i τ hW) (show i < 2 ^ 31 by omega) hW.2.2.1, qob_bind, qM_in_r _ 97 122 97 122 (by decide) (by decide), qob_bind, hb, if_pos qb_f, qt_r_no hb]
    exact ⟨τ, rfl, hW⟩
  · obtain ⟨m, rfl⟩ : ∃ m', m = m' + 1 := ⟨m - 1, by omega⟩
    rw [qM_readsWord_L5, qM_next_s (hM i τ hW) (show i < 2 ^ 31 by omega) hW.2.2.1, qob_bind, qM_in_r _ 97 122 97 122 (by decide) (by decide), qob_bind, hb, if_neg qb_ne, qob_bind, qt_r_go qt_le1 hb, hW.2.2.2.1, qo_in (by omega) (by decide), nI_clamp (by omega)]
    obtain ⟨w1, w2, w3, w4, w5⟩ := hW
    refine ih m _ (by omega) (by omega) (by omega) ⟨fun k k0 k9 => ?_, fun j j1 j2 => ?_, ?_, ?_, fun j hj => ?_⟩
    · rw [qu_ne _ k0, qu_ne _ k0, qu_ne _ k9, w1 k k0 k9]
    · rw [qu_nj _ j1, qu_nj _ j2, qu_ne _ (by decide), w2 j j1 j2]
    · rw [qu_s, qu_nj _ (by decide), qu_ne _ (by decide), w3, nI_1]
    · rw [qu_nj _ (by decide), qu_s, qu_ne _ (by decide), w4, nI_1, show i - a + 1 = i + 1 - a by omega]
    · rw [qu_ne _ (by decide), qu_ne _ (by decide), qu_1]
      by_cases c : j = i - a
      · rw [if_pos ⟨rfl, c⟩, c, show a + (i - a) = i by omega]
      · rw [if_neg (fun e => c e.2)]; exact w5 j (by omega)
end
