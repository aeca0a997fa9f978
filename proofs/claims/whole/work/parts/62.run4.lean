/-! run side by side: the numbers of a command -/
section
variable {σ τ σ0 τ0 : QS} {u : Nat → Int32} {t : Nat}
/-- at most k digits from i on -/
def qt_dk (g : Nat → Int32) : Nat → Nat → Int32 → Nat × Int32
  | 0, i, v => (i, v)
  | k + 1, i, v => if qp_rng 48 57 (g i) = true then qt_dk g k (i + 1) (10 * v + g i - 48) else (i, v)
def qt_dg (u : Nat → Int32) (t i : Nat) : Prop := qp_rng 48 57 (qt_ch u t i) = true
theorem qt_dk_f : ∀ (k i : Nat) (v : Int32), i ≤ t → i ≤ (qt_dk (qt_ch u t) k i v).1 ∧ (qt_dk (qt_ch u t) k i v).1 ≤ i + k ∧ (qt_dk (qt_ch u t) k i v).1 ≤ t ∧ ((qt_dk (qt_ch u t) k i v).1 < i + k → ¬ qt_dg u t (qt_dk (qt_ch u t) k i v).1) ∧ ∀ j, i ≤ j → j < (qt_dk (qt_ch u t) k i v).1 → qt_dg u t j := by
  intro k
  induction k with
  | zero => intro i v hi; exact ⟨Nat.le_refl _, Nat.le_refl _, hi, fun h => absurd h (Nat.lt_irrefl _), fun j h1 h2 => absurd h2 (Nat.not_lt.mpr h1)⟩
  | succ k ih =>
    intro i v hi
    rw [qt_dk]
    by_cases c : qp_rng 48 57 (qt_ch u t i) = true
    · have := qt_lt qt_di1 c
      rw [if_pos c]
      obtain ⟨h1, h2, h3, h4, h5⟩ := ih (i + 1) (10 * v + qt_ch u t i - 48) (by omega)
      refine ⟨by omega, by omega, h3, fun q => h4 (by omega), fun j j1 j2 => ?_⟩
      by_cases cj : j = i
      · subst cj; exact c
      · exact h5 j (by omega) j2
    · rw [if_neg c]
      exact ⟨Nat.le_refl _, by omega, hi, fun _ => c, fun j h1 h2 => absurd h2 (Nat.not_lt.mpr h1)⟩
theorem qCm_num_L (h : qt_C u t σ) (x y : Int32) : ∀ (k m i : Nat) (v : Int32), k < m → k ≤ 3 → i ≤ t → qCm_readNumber_L83 x y m (qx_up σ 21 2 (nI i)) v (nI (3 - k)) = qCm_readNumber_J135 (qx_up σ 21 2 (nI (qt_dk (qt_ch u t) k i v).1)) x y (qt_dk (qt_ch u t) k i v).2 := by
  have h80 := h.1
  intro k
  induction k with
  | zero =>
    intro m i v hm _ hi
    obtain ⟨m, rfl⟩ : ∃ m', m = m' + 1 := ⟨m - 1, by omega⟩
    rw [qCm_readNumber_L83, if_pos (by decide)]
    rfl
  | succ k ih =>
    intro m i v hm hk hi
    obtain ⟨m, rfl⟩ : ∃ m', m = m' + 1 := ⟨m - 1, by omega⟩
    have h' : qt_C u t (qx_up σ 21 2 (nI i)) := h.up (by decide) (by decide)
    rw [qCm_readNumber_L83, if_neg (show ¬ (3 : Int32) ≤ nI (3 - (k + 1)) from nI_ge (b := 3) (by omega) (by omega)), qu_s, qTx_isDigit_s h' (by omega), qob_bind, qTx_at_s h' (by omega), qob_bind, qu_up2, nI_1, nI_1]
    rw [qt_dk]
    cases c : qp_rng 48 57 (qt_ch u t i) with
    | true =>
      have := qt_lt qt_di1 c
      rw [if_neg qb_ne, if_pos rfl, show 3 - (k + 1) + 1 = 3 - k by omega]
      exact ih m (i + 1) _ (by omega) (by omega) (by omega)
    | false => rw [if_pos qb_f, if_neg (by decide)]
theorem qM_num_L (h : qt_M u t τ) (a : Nat) (ha : a ≤ 80) : ∀ (k m i : Nat) (v : Int32), k < m → i + k = a + 3 → i ≤ t → qM_readsNumber_L7 (nI a) m (qx_up τ 0 15 (nI i)) v = qM_readsNumber_J60 (qx_up τ 0 15 (nI (qt_dk (qt_ch u t) k i v).1)) (nI a) (qt_dk (qt_ch u t) k i v).2 := by
  have h80 := h.1
  have e3 : nI a + 3 = nI (a + 3) := nI_add a 3
  intro k
  induction k with
  | zero =>
    intro m i v hm e hi
    obtain ⟨m, rfl⟩ : ∃ m', m = m' + 1 := ⟨m - 1, by omega⟩
    rw [qM_readsNumber_L7, e3, qu_s, if_pos (nI_le (by omega) (by omega))]
    rfl
  | succ k ih =>
    intro m i v hm e hi
    obtain ⟨m, rfl⟩ : ∃ m', m = m' + 1 := ⟨m - 1, by omega⟩
    have h' : qt_M u t (qx_up τ 0 15 (nI i)) := h.up0 (by decide)
    rw [qM_readsNumber_L7, e3, qu_s, if_neg (nI_ge (by omega) (by omega)), qM_next_s h' (show i < 2 ^ 31 by omega) (qu_s _ _ _ _), qob_bind, qM_in_r _ 48 57 48 57 (by decide) (by decide), qob_bind, qob_bind, qu_up2, nI_1]
    rw [qt_dk]
    cases c : qp_rng 48 57 (qt_ch u t i) with
    | true =>
      have := qt_lt qt_di1 c
      rw [if_neg qb_ne, if_pos rfl]
      exact ih m (i + 1) _ (by omega) (by omega) (by omega)
    | false => rw [if_pos qb_f, if_neg (by decide)]
theorem qt_bl2 {x : Int32} (h : qt_bl x = true) : x = 32 := by
  unfold qt_bl at h
  exact of_decide_eq_true h
/-- a minus sign counts, and where the digits then begin -/
def qt_ng (kd : Int32) (u : Nat → Int32) (t i : Nat) : Bool := decide (kd = 2) && decide (qt_ch u t (qt_r qt_bl u t i) = 45)
def qt_jp (kd : Int32) (u : Nat → Int32) (t i : Nat) : Nat := if qt_ng kd u t i = true then qt_r qt_bl u t (qt_r qt_bl u t i + 1) else qt_r qt_bl u t i
theorem qt_45 {i : Nat} (h : qt_ch u t i = 45) : i < t := by
  rcases Nat.lt_or_ge i t with c | c
  · exact c
  · rw [qt_ch_out c] at h; cases (by decide : ¬ (-1 : Int32) = 45) h
theorem qt_jp_f {kd : Int32} {i : Nat} (hi : i ≤ t) : i ≤ qt_jp kd u t i ∧ qt_jp kd u t i ≤ t ∧ (i < qt_jp kd u t i → ¬ qt_dg u t (qt_jp kd u t i - 1)) := by
  have a1 := qt_r_ge (u := u) (t := t) qt_bl1 i
  have a2 := qt_r_le (u := u) (t := t) qt_bl1 i hi
  unfold qt_jp
  cases c : qt_ng kd u t i with
  | false =>
    rw [if_neg (by decide)]
    refine ⟨a1, a2, fun q d => ?_⟩
    have := qt_r_in (u := u) (t := t) qt_bl1 i (qt_r qt_bl u t i - 1) (by omega) (by omega)
    unfold qt_dg at d
    rw [qt_bl2 this] at d
    cases d
  | true =>
    rw [if_pos rfl]
    unfold qt_ng at c
    simp only [Bool.and_eq_true, decide_eq_true_eq] at c
    have l := qt_45 c.2
    have b1 := qt_r_ge (u := u) (t := t) qt_bl1 (qt_r qt_bl u t i + 1)
    have b2 := qt_r_le (u := u) (t := t) qt_bl1 (qt_r qt_bl u t i + 1) (by omega)
    refine ⟨by omega, b2, fun q d => ?_⟩
    unfold qt_dg at d
    rcases Nat.eq_or_lt_of_le b1 with e | e
    · rw [← e, show qt_r qt_bl u t i + 1 - 1 = qt_r qt_bl u t i by omega, c.2] at d
      cases d
    · have := qt_r_in (u := u) (t := t) qt_bl1 (qt_r qt_bl u t i + 1) (qt_r qt_bl u t (qt_r qt_bl u t i + 1) - 1) (by omega) (by omega)
      rw [qt_bl2 this] at d
      cases d
def qt_sg (b : Bool) (v : Int32) : Int32 := if b = true then -v else v
theorem qCm_num_51 (h : qt_C u t σ) {x j : Nat} (hx : x < 5) (hj : 1 ≤ j) (hjt : j ≤ t) (b : Bool) : qCm_readNumber_J51 (qx_up σ 21 2 (nI j)) (nI x) (qb b) = if qp_rng 48 57 (qt_ch u t j) = true ∧ ¬ qp_rng 48 57 (qt_ch u t (j - 1)) = true then some (1, qx_up (qx_up σ 21 2 (nI (qt_dk (qt_ch u t) 3 j 0).1)) 22 x (qt_sg b (qt_dk (qt_ch u t) 3 j 0).2)) else some (0, qx_up σ 21 2 (nI j)) := by
  have h80 := h.1
  have h' : qt_C u t (qx_up σ 21 2 (nI j)) := h.up (by decide) (by decide)
  obtain ⟨e1, -⟩ := nI_m1 (show 0 < j by omega)
  unfold qCm_readNumber_J51
  rw [qu_s, e1, qTx_isDigit_s h' (by omega), qob_bind, qTx_isDigit_s h' (by omega), qob_bind]
  cases c1 : qp_rng 48 57 (qt_ch u t j) with
  | false => rw [if_pos qb_f, if_neg (by simp)]
  | true =>
    rw [if_neg qb_ne]
    cases c2 : qp_rng 48 57 (qt_ch u t (j - 1)) with
    | true => rw [if_neg qb_ne, if_neg (by simp)]
    | false =>
      rw [if_pos qb_f, if_pos (by simp)]
      have := qCm_num_L h (nI x) (qb b) 3 qx_F j 0 (by rw [qF_big]; omega) (by omega) hjt
      rw [show nI (3 - 3) = 0 from rfl] at this
      rw [this]
      unfold qCm_readNumber_J135 qt_sg
      rw [qo_in (by omega) (by decide), qo_in (by omega) (by decide), nI_clamp (by omega)]
      cases b with
      | true => rw [if_neg qb_ne, if_pos rfl]
      | false => rw [if_pos qb_f, if_neg (by decide)]
theorem qCm_num_s (h : qt_C u t σ) {x i : Nat} {kd : Int32} (hx : x < 5) (hi : 1 ≤ i) (hit : i ≤ t) (e : σ.1 21 2 = nI i) (ek : σ.1 21 0 = kd) : qCm_readNumber σ (nI x) = if qp_rng 48 57 (qt_ch u t (qt_jp kd u t i)) = true ∧ ¬ qp_rng 48 57 (qt_ch u t (qt_jp kd u t i - 1)) = true then some (1, qx_up (qx_up σ 21 2 (nI (qt_dk (qt_ch u t) 3 (qt_jp kd u t i) 0).1)) 22 x (qt_sg (qt_ng kd u t i) (qt_dk (qt_ch u t) 3 (qt_jp kd u t i) 0).2)) else some (0, qx_up σ 21 2 (nI (qt_jp kd u t i))) := by
  have h80 := h.1
  have a1 := qt_r_ge (u := u) (t := t) qt_bl1 i
  have a2 := qt_r_le (u := u) (t := t) qt_bl1 i hit
  have sk := qCm_skip_s h hit
  rw [qu_own e] at sk
  have h' : qt_C u t (qx_up σ 21 2 (nI (qt_r qt_bl u t i))) := h.up (by decide) (by decide)
  have plain : qCm_readNumber_J31 (qx_up σ 21 2 (nI (qt_r qt_bl u t i))) (nI x) 0 = qCm_readNumber_J51 (qx_up σ 21 2 (nI (qt_r qt_bl u t i))) (nI x) (qb false) := by
    unfold qCm_readNumber_J31
    rw [if_pos rfl]; rfl
  have jp : qt_ng kd u t i = false → qt_jp kd u t i = qt_r qt_bl u t i := by intro en; unfold qt_jp; rw [en, if_neg (by decide)]
  unfold qCm_readNumber
  rw [sk, qob_bind, qu_nj _ (by decide), ek, qu_s, qTx_at_s h' (by omega), qob_bind]
  by_cases c1 : kd = 2
  · rw [if_pos c1]
    by_cases c2 : qt_ch u t (qt_r qt_bl u t i) = 45
    · have en : qt_ng kd u t i = true := by unfold qt_ng; rw [decide_eq_true c1, decide_eq_true c2]; rfl
      have l := qt_45 c2
      rw [if_pos c2]
      have ej : qt_jp kd u t i = qt_r qt_bl u t (qt_r qt_bl u t i + 1) := by unfold qt_jp; rw [en, if_pos rfl]
      unfold qCm_readNumber_J31
      rw [ej, en, if_neg (show ¬ (1 : Int32) = 0 by decide), qu_s, qu_up2, nI_1, qCm_skip_s h (show qt_r qt_bl u t i + 1 ≤ t by omega), qob_bind]
      exact qCm_num_51 h hx (by have := qt_r_ge (u := u) (t := t) qt_bl1 (qt_r qt_bl u t i + 1); omega) (qt_r_le (u := u) (t := t) qt_bl1 (qt_r qt_bl u t i + 1) (by omega)) true
    · have en : qt_ng kd u t i = false := by unfold qt_ng; rw [decide_eq_false c2, Bool.and_false]
      rw [if_neg c2, plain, jp en, en]
      exact qCm_num_51 h hx (by omega) a2 false
  · have en : qt_ng kd u t i = false := by unfold qt_ng; rw [decide_eq_false c1, Bool.false_and]
    rw [if_neg c1, plain, jp en, en]
    exact qCm_num_51 h hx (by omega) a2 false
/-- what the reference's reading leaves alone -/
def qt_m (τ0 τ : QS) : Prop := (∀ k, ¬ k = 0 → ¬ k = 9 → ¬ k = 10 → τ.1 k = τ0.1 k) ∧ ∀ j, ¬ j = 15 → ¬ j = 16 → ¬ j = 18 → τ.1 0 j = τ0.1 0 j
theorem qt_m.rf : qt_m τ τ := ⟨fun _ _ _ _ => rfl, fun _ _ _ _ => rfl⟩
theorem qt_m.tr {τ1 : QS} (h : qt_m τ0 τ1) (h2 : qt_m τ1 τ) : qt_m τ0 τ := ⟨fun k a b c => (h2.1 k a b c).trans (h.1 k a b c), fun j a b c => (h2.2 j a b c).trans (h.2 j a b c)⟩
theorem qt_m.up0 (h : qt_m τ0 τ) {j : Nat} {v : Int32} (hj : j = 15 ∨ j = 16 ∨ j = 18) : qt_m τ0 (qx_up τ 0 j v) := by
  refine ⟨fun k a b c => ?_, fun i a b c => ?_⟩
  · rw [qu_ne _ a]; exact h.1 k a b c
  · rw [qu_nj _ (by omega)]; exact h.2 i a b c
theorem qt_m.up (h : qt_m τ0 τ) {j : Nat} {v : Int32} : qt_m τ0 (qx_up τ 10 j v) := by
  refine ⟨fun k a b c => ?_, fun i a b c => ?_⟩
  · rw [qu_ne _ c]; exact h.1 k a b c
  · rw [qu_ne _ (by decide)]; exact h.2 i a b c
theorem qt_M.m (h : qt_M u t τ0) (hm : qt_m τ0 τ) : qt_M u t τ := by
  unfold qt_M
  rw [hm.2 14 (by decide) (by decide) (by decide), hm.1 8 (by decide) (by decide) (by decide)]
  exact h
theorem qM_num_s (h : qt_M u t τ) {j : Nat} (hj : j ≤ t) (e : τ.1 0 15 = nI j) (ef : τ.1 0 16 = -1) : ∃ τ', qM_readsNumber τ = some ((qt_dk (qt_ch u t) 3 j 0).2, τ') ∧ qt_m τ τ' ∧ τ'.1 10 = τ.1 10 ∧ τ'.1 0 15 = nI (qt_r qt_bl u t (qt_dk (qt_ch u t) 3 j 0).1) ∧ (((qt_dk (qt_ch u t) 3 j 0).1 = j ∨ qt_dg u t (qt_dk (qt_ch u t) 3 j 0).1) ∧ τ'.1 0 16 = nI (qt_dk (qt_ch u t) 3 j 0).1 ∨ (¬ (qt_dk (qt_ch u t) 3 j 0).1 = j ∧ ¬ qt_dg u t (qt_dk (qt_ch u t) 3 j 0).1) ∧ τ'.1 0 16 = -1) := by
  have h80 := h.1
  obtain ⟨f1, f2, f3, f4, f5⟩ := qt_dk_f (u := u) (t := t) 3 j 0 hj
  have L := qM_num_L h j (by omega) 3 qx_F j 0 (by rw [qF_big]; omega) rfl hj
  rw [qu_own e] at L
  unfold qM_readsNumber
  rw [e, L]
  generalize (qt_dk (qt_ch u t) 3 j 0).1 = d at *
  generalize (qt_dk (qt_ch u t) 3 j 0).2 = v at *
  have hT : qt_M u t (qx_up τ 0 15 (nI d)) := h.up0 (by decide)
  have bad : ((d = j) ∨ qt_dg u t d) → ∃ τ', qM_readsNumber_J85 (qx_up τ 0 15 (nI d)) v = some (v, τ') ∧ qt_m τ τ' ∧ τ'.1 10 = τ.1 10 ∧ τ'.1 0 15 = nI (qt_r qt_bl u t d) ∧ ((d = j ∨ qt_dg u t d) ∧ τ'.1 0 16 = nI d ∨ (¬ d = j ∧ ¬ qt_dg u t d) ∧ τ'.1 0 16 = -1) := by
    intro q
    unfold qM_readsNumber_J85 qM_fails qM_readsNumber_J93
    rw [qu_nj _ (by decide), ef, if_pos rfl, qob_bind, qu_s, qM_skip_s (u := u) (t := t) (i := d) (hT.up0 (by decide)) (by omega) (by rw [qu_nj _ (by decide), qu_s]), qob_bind]
    refine ⟨_, rfl, ((qt_m.rf.up0 (by decide)).up0 (by decide)).up0 (by decide), ?_, qu_s _ _ _ _, Or.inl ⟨q, ?_⟩⟩
    · rw [qu_ne _ (by decide), qu_ne _ (by decide), qu_ne _ (by decide)]
    · rw [qu_nj _ (by decide), qu_s]
  unfold qM_readsNumber_J60
  rw [qu_s]
  by_cases c1 : d = j
  · rw [if_pos (by rw [c1])]
    exact bad (Or.inl c1)
  · rw [if_neg (fun q => c1 ((nI_eq (by omega) (by omega)).mp q)), qM_next_s hT (show d < 2 ^ 31 by omega) (qu_s _ _ _ _), qob_bind, qM_in_r _ 48 57 48 57 (by decide) (by decide), qob_bind]
    cases c2 : qp_rng 48 57 (qt_ch u t d) with
    | true => rw [if_neg qb_ne]; exact bad (Or.inr c2)
    | false =>
      rw [if_pos qb_f]
      unfold qM_readsNumber_J93
      rw [qM_skip_s (u := u) (t := t) (i := d) hT (by omega) (qu_s _ _ _ _), qob_bind]
      refine ⟨_, rfl, (qt_m.rf.up0 (by decide)).up0 (by decide), ?_, qu_s _ _ _ _, Or.inr ⟨⟨c1, fun q => ?_⟩, ?_⟩⟩
      · rw [qu_ne _ (by decide), qu_ne _ (by decide)]
      · unfold qt_dg at q; rw [c2] at q; cases q
      · rw [qu_nj _ (by decide), qu_nj _ (by decide), ef]
/-- the reference's step for one number -/
noncomputable def qt_ms (kd : Int32) (τ : QS) : Option (Int32 × QS) := if kd = 2 then qM_readsWhole τ else qM_readsNumber τ
theorem qM_num_m (h : qt_M u t τ) {kd : Int32} {i : Nat} (hi : i ≤ t) (e : τ.1 0 15 = nI (qt_r qt_bl u t i)) (ef : τ.1 0 16 = -1) : ∃ τ', qt_ms kd τ = some (qt_sg (qt_ng kd u t i) (qt_dk (qt_ch u t) 3 (qt_jp kd u t i) 0).2, τ') ∧ qt_m τ τ' ∧ τ'.1 10 = τ.1 10 ∧ τ'.1 0 15 = nI (qt_r qt_bl u t (qt_dk (qt_ch u t) 3 (qt_jp kd u t i) 0).1) ∧ (((qt_dk (qt_ch u t) 3 (qt_jp kd u t i) 0).1 = (qt_jp kd u t i) ∨ qt_dg u t (qt_dk (qt_ch u t) 3 (qt_jp kd u t i) 0).1) ∧ τ'.1 0 16 = nI (qt_dk (qt_ch u t) 3 (qt_jp kd u t i) 0).1 ∨ (¬ (qt_dk (qt_ch u t) 3 (qt_jp kd u t i) 0).1 = (qt_jp kd u t i) ∧ ¬ qt_dg u t (qt_dk (qt_ch u t) 3 (qt_jp kd u t i) 0).1) ∧ τ'.1 0 16 = -1) := by
  have h80 := h.1
  have a2 := qt_r_le (u := u) (t := t) qt_bl1 i hi
  have plain : qt_ng kd u t i = false → ∃ τ', qM_readsNumber τ = some (qt_sg (qt_ng kd u t i) (qt_dk (qt_ch u t) 3 (qt_jp kd u t i) 0).2, τ') ∧ qt_m τ τ' ∧ τ'.1 10 = τ.1 10 ∧ τ'.1 0 15 = nI (qt_r qt_bl u t (qt_dk (qt_ch u t) 3 (qt_jp kd u t i) 0).1) ∧ (((qt_dk (qt_ch u t) 3 (qt_jp kd u t i) 0).1 = (qt_jp kd u t i) ∨ qt_dg u t (qt_dk (qt_ch u t) 3 (qt_jp kd u t i) 0).1) ∧ τ'.1 0 16 = nI (qt_dk (qt_ch u t) 3 (qt_jp kd u t i) 0).1 ∨ (¬ (qt_dk (qt_ch u t) 3 (qt_jp kd u t i) 0).1 = (qt_jp kd u t i) ∧ ¬ qt_dg u t (qt_dk (qt_ch u t) 3 (qt_jp kd u t i) 0).1) ∧ τ'.1 0 16 = -1) := by
    intro en
    have ej : qt_jp kd u t i = qt_r qt_bl u t i := by unfold qt_jp; rw [en, if_neg (by decide)]
    rw [en, ej]
    exact qM_num_s h a2 e ef
  unfold qt_ms
  by_cases c1 : kd = 2
  · rw [if_pos c1]
    unfold qM_readsWhole
    rw [qM_next_s h (show qt_r qt_bl u t i < 2 ^ 31 by omega) e, qob_bind]
    by_cases c2 : qt_ch u t (qt_r qt_bl u t i) = 45
    · have en : qt_ng kd u t i = true := by unfold qt_ng; rw [decide_eq_true c1, decide_eq_true c2]; rfl
      have l := qt_45 c2
      have ej : qt_jp kd u t i = qt_r qt_bl u t (qt_r qt_bl u t i + 1) := by unfold qt_jp; rw [en, if_pos rfl]
      rw [if_pos c2, en, ej]
      unfold qM_readsWhole_J14
      have hT : qt_M u t (qx_up τ 0 15 (nI (qt_r qt_bl u t i + 1))) := h.up0 (by decide)
      rw [if_neg (by decide), e, nI_1, qM_skip_s hT (show qt_r qt_bl u t i + 1 ≤ t by omega) (qu_s _ _ _ _), qob_bind, qu_up2]
      unfold qM_readsWhole_J33
      obtain ⟨τ', g1, g2, g3, g4, g5⟩ := qM_num_s (τ := qx_up τ 0 15 (nI (qt_r qt_bl u t (qt_r qt_bl u t i + 1)))) (h.up0 (by decide)) (qt_r_le (u := u) (t := t) qt_bl1 (qt_r qt_bl u t i + 1) (by omega)) (qu_s _ _ _ _) (by rw [qu_nj _ (by decide)]; exact ef)
      rw [g1, qob_bind, if_neg (by decide)]
      exact ⟨τ', rfl, (qt_m.rf.up0 (by decide)).tr g2, by rw [g3, qu_ne _ (by decide)], g4, g5⟩
    · have en : qt_ng kd u t i = false := by unfold qt_ng; rw [decide_eq_false c2, Bool.and_false]
      rw [if_neg c2]
      unfold qM_readsWhole_J14 qM_readsWhole_J33
      obtain ⟨τ', g1, g2⟩ := plain en
      rw [if_pos rfl, g1, qob_bind, if_pos rfl]
      exact ⟨τ', rfl, g2⟩
  · have en : qt_ng kd u t i = false := by unfold qt_ng; rw [decide_eq_false c1, Bool.false_and]
    rw [if_neg c1]
    exact plain en
end
