/-! leaders side by side -/
def qn_up (A : Nat → Nat) (i v : Nat) (j : Nat) : Nat := if j = i then v else A j
/-- p put among the first i, from behind -/
def qp_ins (ah : Nat → Nat → Bool) (p : Nat) : Nat → (Nat → Nat) → (Nat → Nat)
  | 0, A => qn_up A 0 p
  | i + 1, A => if ah p (A i) = true then qp_ins ah p i (qn_up A (i + 1) (A i)) else qn_up A (i + 1) p
def qp_ah (f : Nat → Nat → Int32) (p q : Nat) : Bool := decide (f 1 q < f 1 p) || (decide (f 1 p = f 1 q) && !decide (f 0 q ≤ f 0 p))
def qp_ga (f : Nat → Nat → Int32) (w sh : Nat → Int32) : Nat → (Nat → Nat) × Nat
  | 0 => (fun _ => 0, 0)
  | p + 1 => if qp_want f w sh p = true then (qp_ins (qp_ah f) p (qp_ga f w sh p).2 (qp_ga f w sh p).1, (qp_ga f w sh p).2 + 1) else qp_ga f w sh p
theorem qp_ga_le (f : Nat → Nat → Int32) (w sh : Nat → Int32) (p : Nat) : (qp_ga f w sh p).2 ≤ p := by
  induction p with
  | zero => exact Nat.le_refl _
  | succ p ih =>
    unfold qp_ga
    split
    · show (qp_ga f w sh p).2 + 1 ≤ p + 1; omega
    · omega
section
variable {n : Nat} {f : Nat → Nat → Int32} {w sh : Nat → Int32} {τ σ σ0 : QS}
theorem qLn_comesBefore_s (hn : n ≤ 20) (h : qr_C n f w sh σ) {p q : Nat} (hp : p < n) (hq : q < n) : qLn_comesBefore σ (nI p) (nI q) = some (qb (qp_ah f p q)) := by
  unfold qLn_comesBefore qp_ah
  rw [qPt_get1 hn h hp, qob_bind, qPt_get1 hn h hq, qob_bind, qPt_get0 hn h hp, qob_bind, qPt_get0 hn h hq, qob_bind]
  by_cases c1 : f 1 q < f 1 p
  · simp [c1, qb]
  · by_cases c2 : f 1 p = f 1 q
    · by_cases c3 : f 0 q ≤ f 0 p
      · rw [if_neg c1, if_pos c2, if_pos c3, decide_eq_false c1, decide_eq_true c2, decide_eq_true c3]; rfl
      · rw [if_neg c1, if_pos c2, if_neg c3, decide_eq_false c1, decide_eq_true c2, decide_eq_false c3]; rfl
    · rw [if_neg c1, if_neg c2, decide_eq_false c1, decide_eq_false c2]; rfl
theorem qM_isAhead_s (hn : n ≤ 20) (h : qr_M n f w sh τ) {p q : Nat} (hp : p < n) (hq : q < n) : qM_isAhead τ (nI p) (nI q) = some (qb (qp_ah f p q)) := by
  obtain ⟨x0, x1, -⟩ := h.2.2 p hp
  obtain ⟨y0, y1, -⟩ := h.2.2 q hq
  unfold qM_isAhead qp_ah
  simp only [qn_a0, qn_a20, qo_in (show 20 + p < 140 by omega) (by decide), qo_in (show 20 + q < 140 by omega) (by decide), qo_in (show 0 + p < 140 by omega) (by decide), qo_in (show 0 + q < 140 by omega) (by decide), nI_clamp (show 20 + p < 2 ^ 31 by omega), nI_clamp (show 20 + q < 2 ^ 31 by omega), nI_clamp (show 0 + p < 2 ^ 31 by omega), nI_clamp (show 0 + q < 2 ^ 31 by omega), x0, x1, y0, y1]
  by_cases c1 : f 1 q < f 1 p
  · simp [c1, qb]
  · by_cases c2 : f 1 p = f 1 q
    · by_cases c3 : f 0 q ≤ f 0 p
      · rw [if_neg c1, if_pos c2, if_pos c3, decide_eq_false c1, decide_eq_true c2, decide_eq_true c3]; rfl
      · rw [if_neg c1, if_pos c2, if_neg c3, decide_eq_false c1, decide_eq_true c2, decide_eq_false c3]; rfl
    · rw [if_neg c1, if_neg c2, decide_eq_false c1, decide_eq_false c2]; rfl
theorem nI_m1 {i : Nat} (h : 0 < i) : nI i - 1 = nI (i - 1) ∧ nI i + (-1) = nI (i - 1) := by
  have h1 := nI_pred (i - 1)
  have h2 := pk_m1 (i - 1)
  rw [show i - 1 + 1 = i by omega] at h1 h2
  exact ⟨h1, h2⟩
theorem qLn_ins (hn : n ≤ 20) {p k : Nat} (hp : p < n) (hk : k < 20) (K : QS → Int32 → Int32 → Option (Int32 × QS)) (hC : ∀ σ', qs_only [18] σ0 σ' → qr_C n f w sh σ') : ∀ (m i : Nat) (σ : QS) (A : Nat → Nat), i ≤ k → i < m → qs_only [18] σ0 σ → (∀ j, j ≤ k → ¬ j = i → σ.1 18 j = nI (A j) ∧ A j < n) →
    ∃ σ', qLn_gatherWaiting_L28 (nI k) (nI p) K m σ (nI i) = K σ' (nI (k + 1)) (nI (p + 1)) ∧ qs_only [18] σ0 σ' ∧ ∀ j, j ≤ k → σ'.1 18 j = nI (qp_ins (qp_ah f) p i A j) ∧ qp_ins (qp_ah f) p i A j < n := by
  intro m
  induction m with
  | zero => intro i σ A h1 h2; omega
  | succ m ih =>
    intro i σ A h1 h2 ho hA
    have fin : ∀ j, j ≤ k → (qx_up σ 18 i (nI p)).1 18 j = nI (qn_up A i p j) ∧ qn_up A i p j < n := by
      intro j hj
      rw [qu_1]
      unfold qn_up
      by_cases c : j = i
      · rw [if_pos ⟨rfl, c⟩, if_pos c]; exact ⟨rfl, hp⟩
      · rw [if_neg (fun e => c e.2), if_neg c]; exact hA j hj c
    have ho1 : ∀ v, qs_only [18] σ0 (qx_up σ 18 i v) := fun v => qs_only.up (by decide) ho
    rw [qLn_gatherWaiting_L28]
    rcases Nat.eq_zero_or_pos i with hi | hi
    · subst hi
      rw [if_pos (by decide), qo_in (by omega) (by decide), nI_clamp (by omega), nI_1, nI_1]
      exact ⟨_, rfl, ho1 _, fin⟩
    · obtain ⟨e1, e2⟩ := nI_m1 hi
      obtain ⟨g1, g2⟩ := hA (i - 1) (by omega) (by omega)
      obtain ⟨i', rfl⟩ : ∃ i', i = i' + 1 := ⟨i - 1, by omega⟩
      rw [show i' + 1 - 1 = i' by omega] at g1 g2 e1 e2
      rw [if_neg (nI_nle hi (by omega)), e1, e2, qo_in (by omega) (by decide), nI_clamp (by omega), g1, qLn_comesBefore_s hn (hC _ ho) hp g2, qob_bind, qo_in (by omega) (by decide), qo_in (by omega) (by decide), nI_clamp (by omega), nI_1, nI_1]
      unfold qp_ins
      cases qp_ah f p (A i') with
      | false => rw [if_pos qb_f]; exact ⟨_, rfl, ho1 _, fin⟩
      | true =>
        rw [if_neg qb_ne]
        simp only [if_true]
        rw [qo_in (show i' + 1 < 20 by omega) (by decide)]
        refine ih i' _ (qn_up A (i' + 1) (A i')) (by omega) (by omega) (ho1 _) (fun j hj hji => ?_)
        rw [qu_1]
        unfold qn_up
        by_cases c : j = i' + 1
        · rw [if_pos ⟨rfl, c⟩, if_pos c]; exact ⟨rfl, g2⟩
        · rw [if_neg (fun e => c e.2), if_neg c]; exact hA j hj c
theorem qM_ins (hn : n ≤ 20) {p k : Nat} (hp : p < n) (hk : k < 20) (K : QS → Int32 → Int32 → Option (Int32 × QS)) (hC : ∀ σ', qs_only [7] σ0 σ' → qr_M n f w sh σ') : ∀ (m i : Nat) (σ : QS) (A : Nat → Nat), i ≤ k → i < m → qs_only [7] σ0 σ → (∀ j, j ≤ k → ¬ j = i → σ.1 7 j = nI (A j) ∧ A j < n) →
    ∃ σ', qM_leaders_L22 (nI k) (nI p) K m σ (nI i) = K σ' (nI (k + 1)) (nI (p + 1)) ∧ qs_only [7] σ0 σ' ∧ ∀ j, j ≤ k → σ'.1 7 j = nI (qp_ins (qp_ah f) p i A j) ∧ qp_ins (qp_ah f) p i A j < n := by
  intro m
  induction m with
  | zero => intro i σ A h1 h2; omega
  | succ m ih =>
    intro i σ A h1 h2 ho hA
    have fin : ∀ j, j ≤ k → (qx_up σ 7 i (nI p)).1 7 j = nI (qn_up A i p j) ∧ qn_up A i p j < n := by
      intro j hj
      rw [qu_1]
      unfold qn_up
      by_cases c : j = i
      · rw [if_pos ⟨rfl, c⟩, if_pos c]; exact ⟨rfl, hp⟩
      · rw [if_neg (fun e => c e.2), if_neg c]; exact hA j hj c
    have ho1 : ∀ v, qs_only [7] σ0 (qx_up σ 7 i v) := fun v => qs_only.up (by decide) ho
    rw [qM_leaders_L22]
    rcases Nat.eq_zero_or_pos i with hi | hi
    · subst hi
      rw [if_pos (by decide), qo_in (by omega) (by decide), nI_clamp (by omega), nI_1, nI_1]
      exact ⟨_, rfl, ho1 _, fin⟩
    · obtain ⟨e1, e2⟩ := nI_m1 hi
      obtain ⟨g1, g2⟩ := hA (i - 1) (by omega) (by omega)
      obtain ⟨i', rfl⟩ : ∃ i', i = i' + 1 := ⟨i - 1, by omega⟩
      rw [show i' + 1 - 1 = i' by omega] at g1 g2 e1 e2
      rw [if_neg (nI_nle hi (by omega)), e1, e2, qo_in (by omega) (by decide), nI_clamp (by omega), g1, qM_isAhead_s hn (hC _ ho) hp g2, qob_bind, qo_in (by omega) (by decide), qo_in (by omega) (by decide), nI_clamp (by omega), nI_1, nI_1]
      unfold qp_ins
      cases qp_ah f p (A i') with
      | false => rw [if_pos qb_f]; exact ⟨_, rfl, ho1 _, fin⟩
      | true =>
        rw [if_neg qb_ne]
        simp only [if_true]
        rw [qo_in (show i' + 1 < 20 by omega) (by decide)]
        refine ih i' _ (qn_up A (i' + 1) (A i')) (by omega) (by omega) (ho1 _) (fun j hj hji => ?_)
        rw [qu_1]
        unfold qn_up
        by_cases c : j = i' + 1
        · rw [if_pos ⟨rfl, c⟩, if_pos c]; exact ⟨rfl, g2⟩
        · rw [if_neg (fun e => c e.2), if_neg c]; exact hA j hj c
/-- the points that wait, gathered -/
theorem qLn_gather_L (hn : n ≤ 20) (hC : ∀ σ', qs_only [18] σ0 σ' → qr_C n f w sh σ') : ∀ (m p : Nat) (σ : QS), p ≤ n → n < m + p → qs_only [18] σ0 σ → (∀ j, j < (qp_ga f w sh p).2 → σ.1 18 j = nI ((qp_ga f w sh p).1 j) ∧ (qp_ga f w sh p).1 j < n) →
    ∃ σ', qLn_gatherWaiting_L4 m σ (nI (qp_ga f w sh p).2) (nI p) = some (nI (qp_ga f w sh n).2, σ') ∧ qs_only [18] σ0 σ' ∧ ∀ j, j < (qp_ga f w sh n).2 → σ'.1 18 j = nI ((qp_ga f w sh n).1 j) ∧ (qp_ga f w sh n).1 j < n := by
  intro m
  induction m with
  | zero => intro p σ h1 h2; omega
  | succ m ih =>
    intro p σ h1 h2 ho hA
    have h := hC σ ho
    have hle := qp_ga_le f w sh p
    rw [qLn_gatherWaiting_L4, h.1]
    rcases Nat.lt_or_ge p n with hp | hp
    · rw [if_neg (nI_ge hp (by omega)), qLb_lacksLabel_s hn h hp, qob_bind, nI_1]
      cases hw : qp_want f w sh p with
      | false =>
        have e : qp_ga f w sh (p + 1) = qp_ga f w sh p := by
          show (if qp_want f w sh p = true then _ else _) = _
          rw [hw]; rfl
        rw [if_pos qb_f, ← e]
        exact ih (p + 1) σ hp (by omega) ho (by rw [e]; exact hA)
      | true =>
        have e : qp_ga f w sh (p + 1) = (qp_ins (qp_ah f) p (qp_ga f w sh p).2 (qp_ga f w sh p).1, (qp_ga f w sh p).2 + 1) := by
          show (if qp_want f w sh p = true then _ else _) = _
          rw [hw]; rfl
        rw [if_neg qb_ne]
        obtain ⟨σ1, e1, o1, v1⟩ := qLn_ins (σ0 := σ0) hn hp (show (qp_ga f w sh p).2 < 20 by omega) (qLn_gatherWaiting_L4 m) hC qx_F (qp_ga f w sh p).2 σ (qp_ga f w sh p).1 (Nat.le_refl _) (by rw [qF_big]; omega) ho (fun j hj hne => hA j (by omega))
        rw [e1]
        have := ih (p + 1) σ1 hp (by omega) o1 (by rw [e]; exact fun j hj => v1 j (Nat.lt_succ_iff.mp hj))
        rw [e] at this
        exact this
    · have ep : p = n := by omega
      subst ep
      rw [if_pos (nI_le (Nat.le_refl _) (by omega))]
      exact ⟨σ, rfl, ho, hA⟩
theorem qM_gather_L (hok : qv_ok n f w) (hC : ∀ σ', qs_only [7] σ0 σ' → qr_M n f w sh σ') : ∀ (m p : Nat) (σ : QS), p ≤ n → n < m + p → qs_only [7] σ0 σ → (∀ j, j < (qp_ga f w sh p).2 → σ.1 7 j = nI ((qp_ga f w sh p).1 j) ∧ (qp_ga f w sh p).1 j < n) →
    ∃ σ' m', qM_leaders_L4 m σ (nI (qp_ga f w sh p).2) (nI p) = qM_leaders_L4 (m' + 1) σ' (nI (qp_ga f w sh n).2) (nI n) ∧ qs_only [7] σ0 σ' ∧ ∀ j, j < (qp_ga f w sh n).2 → σ'.1 7 j = nI ((qp_ga f w sh n).1 j) ∧ (qp_ga f w sh n).1 j < n := by
  have hn := hok.1
  intro m
  induction m with
  | zero => intro p σ h1 h2; omega
  | succ m ih =>
    intro p σ h1 h2 ho hA
    have h := hC σ ho
    have hle := qp_ga_le f w sh p
    rcases Nat.lt_or_ge p n with hp | hp
    · rw [qM_leaders_L4, h.1, if_neg (nI_ge hp (by omega)), qM_wants_s hok h hp, qob_bind, nI_1]
      show ∃ σ' m', (if qb (qp_want f w sh p) = 0 then _ else _) = _ ∧ _
      cases hw : qp_want f w sh p with
      | false =>
        have e : qp_ga f w sh (p + 1) = qp_ga f w sh p := by
          show (if qp_want f w sh p = true then _ else _) = _
          rw [hw]; rfl
        rw [if_pos qb_f, ← e]
        exact ih (p + 1) σ hp (by omega) ho (by rw [e]; exact hA)
      | true =>
        have e : qp_ga f w sh (p + 1) = (qp_ins (qp_ah f) p (qp_ga f w sh p).2 (qp_ga f w sh p).1, (qp_ga f w sh p).2 + 1) := by
          show (if qp_want f w sh p = true then _ else _) = _
          rw [hw]; rfl
        rw [if_neg qb_ne]
        obtain ⟨σ1, e1, o1, v1⟩ := qM_ins (σ0 := σ0) hn hp (show (qp_ga f w sh p).2 < 20 by omega) (qM_leaders_L4 m) hC qx_F (qp_ga f w sh p).2 σ (qp_ga f w sh p).1 (Nat.le_refl _) (by rw [qF_big]; omega) ho (fun j hj hne => hA j (by omega))
        rw [e1]
        have := ih (p + 1) σ1 hp (by omega) o1 (by rw [e]; exact fun j hj => v1 j (Nat.lt_succ_iff.mp hj))
        rw [e] at this
        exact this
    · have ep : p = n := by omega
      subst ep
      exact ⟨σ, m, rfl, ho, hA⟩
/-- what is kept of leader i of k, whose point is p -/
def qp_lv (f : Nat → Nat → Int32) (w : Nat → Int32) (k i p x : Nat) : Int32 := match x with
  | 0 => nI p
  | 1 => w 1 + w 3 - 1 - 2 * nI i
  | 2 => w 0 + w 2 + (if w 1 + w 3 - 1 - 2 * nI i ≤ f 1 p then nI k - 1 - nI i else nI i)
  | _ => w 0 + w 2 + nI k - f 0 p + (if w 1 + w 3 - 1 - 2 * nI i ≤ f 1 p then f 1 p - (w 1 + w 3 - 1 - 2 * nI i) else w 1 + w 3 - 1 - 2 * nI i - f 1 p)
def qr_V (f : Nat → Nat → Int32) (w : Nat → Int32) (k : Nat) (A : Nat → Nat) (c : Nat) (j : Nat) (σ : QS) : Prop := ∀ i, i < 4 * j → σ.1 c i = qp_lv f w k (i / 4) (A (i / 4)) (i % 4)
theorem qr_V.next {k c j : Nat} {A : Nat → Nat} (h : qr_V f w k A c j σ) : qr_V f w k A c (j + 1) (qx_up (qx_up (qx_up (qx_up σ c (4 * j) (qp_lv f w k j (A j) 0)) c (4 * j + 1) (qp_lv f w k j (A j) 1)) c (4 * j + 2) (qp_lv f w k j (A j) 2)) c (4 * j + 3) (qp_lv f w k j (A j) 3)) := by
  intro i hi
  simp only [qu_1]
  by_cases c3 : i = 4 * j + 3
  · rw [if_pos ⟨trivial, c3⟩, show i / 4 = j by omega, show i % 4 = 3 by omega]
  · rw [if_neg (fun e => c3 e.2)]
    by_cases c2 : i = 4 * j + 2
    · rw [if_pos ⟨trivial, c2⟩, show i / 4 = j by omega, show i % 4 = 2 by omega]
    · rw [if_neg (fun e => c2 e.2)]
      by_cases c1 : i = 4 * j + 1
      · rw [if_pos ⟨trivial, c1⟩, show i / 4 = j by omega, show i % 4 = 1 by omega]
      · rw [if_neg (fun e => c1 e.2)]
        by_cases c0 : i = 4 * j
        · rw [if_pos ⟨trivial, c0⟩, show i / 4 = j by omega, show i % 4 = 0 by omega]
        · rw [if_neg (fun e => c0 e.2)]
          exact h i (by omega)
theorem q_abs {a b : Int32} (h1 : -10000 ≤ a.toInt ∧ a.toInt ≤ 10000) (h2 : -10000 ≤ b.toInt ∧ b.toInt ≤ 10000) : (if 0 ≤ a - b then a - b else 0 - (a - b)) = if a ≤ b then b - a else a - b := by
  have z : (0 : Int32).toInt = 0 := by decide
  have e1 : (a - b).toInt = a.toInt - b.toInt := qi_sub (by omega) (by omega)
  have e2 : (b - a).toInt = b.toInt - a.toInt := qi_sub (by omega) (by omega)
  have e3 : (0 - (a - b)).toInt = b.toInt - a.toInt := by rw [qi_sub (by omega) (by omega), e1, z]; omega
  by_cases c1 : 0 ≤ a - b
  · rw [if_pos c1]
    rw [qi_le, e1, z] at c1
    by_cases c2 : a ≤ b
    · rw [if_pos c2, qi_eq, e1, e2]; rw [qi_le] at c2; omega
    · rw [if_neg c2]
  · rw [if_neg c1]
    rw [qi_le, e1, z] at c1
    rw [if_pos (by rw [qi_le]; omega), qi_eq, e3, e2]
end
