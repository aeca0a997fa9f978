/-! the reference: labels that are lost, the order of points, labels hidden -/
def qv_at (n : Nat) (f : Nat → Nat → Int32) (w sh : Nat → Int32) : Prop := ∀ p, p < n → sh p = -1 ∨ ∃ s, s < 8 ∧ sh p = nI s ∧ qp_pl n f w p s = true
theorem qv_at.sh {n : Nat} {f : Nat → Nat → Int32} {w sh : Nat → Int32} (h : qv_at n f w sh) : qv_sh n sh := fun p hp => by
  rcases h p hp with h1 | ⟨s, h1, h2, -⟩
  · exact Or.inl h1
  · exact Or.inr ⟨s, h1, h2⟩
/-- what stays shown -/
def qp_set (n : Nat) (f : Nat → Nat → Int32) (w sh : Nat → Int32) (p : Nat) : Int32 := if sh p = -1 then -1 else if qp_pl n f w p (sh p).toNatClampNeg = true then sh p else -1
theorem qp_set_at {n : Nat} {f : Nat → Nat → Int32} {w sh : Nat → Int32} (h : qv_sh n sh) : qv_at n f w (qp_set n f w sh) := by
  intro p hp
  unfold qp_set
  by_cases c : sh p = -1
  · exact Or.inl (by rw [if_pos c])
  · obtain ⟨h1, h2⟩ := qv_shN h hp c
    by_cases c2 : qp_pl n f w p (sh p).toNatClampNeg = true
    · exact Or.inr ⟨(sh p).toNatClampNeg, h1, by rw [if_neg c, if_pos c2]; exact h2, c2⟩
    · exact Or.inl (by rw [if_neg c, if_neg c2])
theorem qv_at.up {n : Nat} {f : Nat → Nat → Int32} {w sh : Nat → Int32} (h : qv_at n f w sh) (p : Nat) (v : Int32) (hv : v = -1 ∨ ∃ s, s < 8 ∧ v = nI s ∧ qp_pl n f w p s = true) : qv_at n f w (upd sh p v) := by
  intro q hq
  unfold upd
  by_cases c : q = p
  · subst c
    simpa using hv
  · simpa [c] using h q hq
section
variable {n : Nat} {f : Nat → Nat → Int32} {w sh : Nat → Int32} {τ σ : QS}
theorem qr_M.alt {sh' : Nat → Int32} (h : qr_M n f w sh τ) (e : ∀ p, p < n → sh p = sh' p) : qr_M n f w sh' τ := by
  refine ⟨h.1, h.2.1, fun p hp => ?_⟩
  obtain ⟨a0, a1, a2, a3, a4, a5, a6⟩ := h.2.2 p hp
  exact ⟨a0, a1, a2, a3, a4, a5, by rw [a6]; exact e p hp⟩
theorem qr_M.up (hn : n ≤ 20) (h : qr_M n f w sh τ) {p : Nat} (hp : p < 20) (v : Int32) : qr_M n f w (upd sh p v) (qx_up τ 1 (120 + p) v) := by
  refine ⟨?_, ?_, fun q hq => ?_⟩
  · rw [qu_1]; simpa using h.1
  · simp only [qu_1]; simpa using h.2.1
  · obtain ⟨a0, a1, a2, a3, a4, a5, a6⟩ := h.2.2 q hq
    simp only [qu_1]
    refine ⟨?_, ?_, ?_, ?_, ?_, ?_, ?_⟩
    · rw [if_neg (by omega)]; exact a0
    · rw [if_neg (by omega)]; exact a1
    · rw [if_neg (by omega)]; exact a2
    · rw [if_neg (by omega)]; exact a3
    · rw [if_neg (by omega)]; exact a4
    · rw [if_neg (by omega)]; exact a5
    · unfold upd
      by_cases c : q = p
      · subst c; simp
      · rw [if_neg (by omega), if_neg c]; exact a6
theorem qs_only.sub1 {S : List Nat} {τ τ' : QS} {k : Nat} (h : qs_only S τ τ') (hk : k ∉ S) : τ'.1 k = τ.1 k := h.1 k hk
theorem qr_P.off {S : List Nat} {τ τ' : QS} (h : qr_P n f w τ) (ho : qs_only S τ τ') (h2 : 2 ∉ S) : qr_P n f w τ' := fun p hp s hs => by rw [ho.1 2 h2]; exact h p hp s hs
theorem qM_settles_J0 (K : QS → Int32 → Option QS) {q : Nat} (hq : q < 20) : qM_settles_J54 τ K (nI q) 0 = K (qx_up τ 1 (120 + q) (-1)) (nI (q + 1)) := by
  unfold qM_settles_J54
  rw [if_pos rfl, qn_a120, nI_clamp (by omega), nI_1, qo_in (by omega) (by decide)]
theorem qM_settles_J1 (K : QS → Int32 → Option QS) {q : Nat} (hq : q < 20) : qM_settles_J54 τ K (nI q) 1 = K (qx_up τ 1 (120 + q) (τ.1 1 (120 + q))) (nI (q + 1)) := by
  unfold qM_settles_J54
  rw [if_neg (by decide), qn_a120, nI_clamp (by omega), nI_1, qo_in (by omega) (by decide), qo_in (by omega) (by decide)]
theorem qM_settles_L (hok : qv_ok n f w) (hsh : qv_sh n sh) : ∀ (k q : Nat) (τ : QS), q ≤ n → n < k + q → qr_M n f w (fun p => if p < q then qp_set n f w sh p else sh p) τ → qr_P n f w τ →
    ∃ τ', qM_settles_L6 k τ (nI q) = some τ' ∧ qs_only [1] τ τ' ∧ qr_M n f w (qp_set n f w sh) τ' := by
  have hn := hok.1
  intro k
  induction k with
  | zero => intro q τ h1 h2; omega
  | succ k ih =>
    intro q τ h1 h2 h hP
    rw [qM_settles_L6, h.1]
    rcases Nat.lt_or_ge q n with hq | hq
    · have e := (h.2.2 q hq).2.2.2.2.2.2
      simp only [Nat.lt_irrefl, if_false] at e
      have go : ∀ v, v = qp_set n f w sh q → ∃ τ', qM_settles_L6 k (qx_up τ 1 (120 + q) v) (nI (q + 1)) = some τ' ∧ qs_only [1] τ τ' ∧ qr_M n f w (qp_set n f w sh) τ' := by
        intro v hv
        have h' := (h.up hn (show q < 20 by omega) v).alt (sh' := fun p => if p < q + 1 then qp_set n f w sh p else sh p) (fun p hp => by
          unfold upd
          by_cases c : p = q
          · subst c; simp [hv]
          · by_cases c2 : p < q
            · simp [c, c2, show p < q + 1 by omega]
            · simp [c, c2, show ¬ p < q + 1 by omega])
        obtain ⟨τ', e1, e2, e3⟩ := ih (q + 1) _ hq (by omega) h' (hP.off (qs_only.up (S := [1]) (by decide) qs_only.rf) (by decide))
        exact ⟨τ', e1, (qs_only.up (S := [1]) (by decide) qs_only.rf).tr e2, e3⟩
      rw [if_neg (nI_ge hq (by omega)), qn_a120, nI_clamp (by omega), e, qo_in (by omega) (by decide), qo_in (by omega) (by decide)]
      rw [qM_settles_J0 _ (show q < 20 by omega), qM_settles_J1 _ (show q < 20 by omega), e]
      by_cases c : sh q = -1
      · rw [if_pos c]
        exact go _ (by unfold qp_set; rw [if_pos c])
      · obtain ⟨ht, e2⟩ := qv_shN hsh hq c
        rw [if_neg c]
        have hpl := hP q hq _ ht
        have e3 : 8 * nI q + sh q = nI (8 * q + (sh q).toNatClampNeg) := by
          conv => lhs; rw [e2]
          exact qn_8' _ _
        rw [e3, qo_in (by omega) (by decide), nI_clamp (by omega), hpl]
        cases c2 : qp_pl n f w q (sh q).toNatClampNeg with
        | false =>
          rw [if_pos qb_f]
          exact go _ (by unfold qp_set; rw [if_neg c, c2]; rfl)
        | true =>
          rw [if_neg (by decide)]
          exact go _ (by unfold qp_set; rw [if_neg c, c2]; rfl)
    · rw [if_pos (nI_le (by omega) (by omega))]
      exact ⟨τ, rfl, qs_only.rf, h.alt (fun p hp => by simp [show p < q by omega])⟩
theorem qM_settles_s (hok : qv_ok n f w) (hsh : qv_sh n sh) (h : qr_M n f w sh τ) : ∃ τ', qM_settles τ = some τ' ∧ qs_only [1, 2] τ τ' ∧ qr_M n f w (qp_set n f w sh) τ' ∧ qr_P n f w τ' := by
  obtain ⟨τ1, e1, e2, e3⟩ := qM_findsAll_s hok h
  have h1 := (h.off e2 (by decide) (by decide)).alt (sh' := fun p => if p < 0 then qp_set n f w sh p else sh p) (fun p hp => by simp)
  obtain ⟨τ', f1, f2, f3⟩ := qM_settles_L hok hsh qx_F 0 τ1 (Nat.zero_le _) (by have := hok.1; rw [qF_big]; omega) h1 e3
  refine ⟨τ', ?_, (e2.wide (by decide)).tr (f2.wide (by decide)), f3, e3.off f2 (by decide)⟩
  unfold qM_settles
  rw [e1]
  exact f1
theorem qM_hideAll_L (hn : n ≤ 20) (x : Int32) : ∀ (k q : Nat) (τ : QS), q ≤ n → n < k + q → qr_M n f w (fun p => if p < q then -1 else sh p) τ →
    ∃ τ', qM_hideAll_L7 x k τ (nI q) = some (x, τ') ∧ qs_only [1] τ τ' ∧ qr_M n f w (fun _ => -1) τ' := by
  intro k
  induction k with
  | zero => intro q τ h1 h2; omega
  | succ k ih =>
    intro q τ h1 h2 h
    rw [qM_hideAll_L7, h.1]
    rcases Nat.lt_or_ge q n with hq | hq
    · rw [if_neg (nI_ge hq (by omega)), qn_a120, nI_clamp (by omega), qo_in (by omega) (by decide), nI_1]
      have h' := (h.up hn (show q < 20 by omega) (-1)).alt (sh' := fun p => if p < q + 1 then -1 else sh p) (fun p hp => by
        unfold upd
        by_cases c : p = q
        · subst c; simp
        · by_cases c2 : p < q
          · simp [c, c2, show p < q + 1 by omega]
          · simp [c, c2, show ¬ p < q + 1 by omega])
      obtain ⟨τ', e1, e2, e3⟩ := ih (q + 1) _ hq (by omega) h'
      exact ⟨τ', e1, (qs_only.up (S := [1]) (by decide) qs_only.rf).tr e2, e3⟩
    · rw [if_pos (nI_le (by omega) (by omega))]
      exact ⟨τ, rfl, qs_only.rf, h.alt (fun p hp => by simp [show p < q by omega])⟩
theorem qM_hideAll_s (hn : n ≤ 20) (h : qr_M n f w sh τ) : ∃ τ', qM_hideAll τ = some (nI (qp_cnt n (fun q => !decide (sh q = -1))), τ') ∧ qs_only [1] τ τ' ∧ qr_M n f w (fun _ => -1) τ' := by
  obtain ⟨τ', e1, e2, e3⟩ := qM_hideAll_L hn (nI (qp_cnt n (fun q => !decide (sh q = -1)))) qx_F 0 τ (Nat.zero_le _) (by rw [qF_big]; omega) (h.alt (sh' := fun p => if p < 0 then -1 else sh p) (fun p hp => by simp))
  refine ⟨τ', ?_, e2, e3⟩
  unfold qM_hideAll
  rw [qM_shown_s hn h]
  exact e1
end
/-- the points of one priority among the first k; those of the j greatest priorities -/
def qp_oi (f : Nat → Nat → Int32) (pr : Nat) : Nat → List Nat
  | 0 => []
  | k + 1 => qp_oi f pr k ++ (if f 4 k = nI pr then [k] else [])
def qp_oo (n : Nat) (f : Nat → Nat → Int32) : Nat → List Nat
  | 0 => []
  | j + 1 => qp_oo n f j ++ qp_oi f (9 - j) n
def qp_ords (n : Nat) (f : Nat → Nat → Int32) : List Nat := qp_oo n f 9
theorem qp_oi_mem {f : Nat → Nat → Int32} {pr k p : Nat} (h : p ∈ qp_oi f pr k) : p < k ∧ f 4 p = nI pr := by
  induction k with
  | zero => cases h
  | succ k ih =>
    rcases List.mem_append.mp h with h | h
    · exact ⟨by have := (ih h).1; omega, (ih h).2⟩
    · by_cases c : f 4 k = nI pr
      · rw [if_pos c] at h
        rw [List.mem_singleton.mp h]
        exact ⟨by omega, c⟩
      · rw [if_neg c] at h; cases h
theorem qp_oo_mem {n : Nat} {f : Nat → Nat → Int32} {j p : Nat} (h : p ∈ qp_oo n f j) : p < n := by
  induction j with
  | zero => cases h
  | succ j ih =>
    rcases List.mem_append.mp h with h | h
    · exact ih h
    · exact (qp_oi_mem h).1
theorem qp_oo_len {n : Nat} {f : Nat → Nat → Int32} (h : 1 ≤ (f 4 n).toInt ∧ (f 4 n).toInt ≤ 9) : ∀ j, j ≤ 9 → (qp_oo (n + 1) f j).length = (qp_oo n f j).length + (if 9 - (j : Int) < (f 4 n).toInt then 1 else 0) := by
  intro j
  induction j with
  | zero => intro _; show 0 = 0 + _; rw [if_neg (by omega)]
  | succ j ih =>
    intro hj
    show (qp_oo (n + 1) f j ++ (qp_oi f (9 - j) n ++ (if f 4 n = nI (9 - j) then [n] else []))).length = (qp_oo n f j ++ qp_oi f (9 - j) n).length + _
    rw [List.length_append, List.length_append, List.length_append, ih (by omega)]
    by_cases c : f 4 n = nI (9 - j)
    · have e : (f 4 n).toInt = 9 - j := by rw [c, nI_toInt (by omega)]; omega
      rw [if_pos c, if_neg (by omega), if_pos (by omega)]
      simp only [List.length_singleton]
      omega
    · have e : ¬ (f 4 n).toInt = 9 - j := fun e => c (by rw [qi_eq, nI_toInt (by omega)]; omega)
      rw [if_neg c]
      simp only [List.length_nil]
      by_cases c2 : 9 - (j : Int) < (f 4 n).toInt
      · rw [if_pos c2, if_pos (by omega)]; omega
      · rw [if_neg c2, if_neg (by omega)]; omega
theorem qp_ords_len {f : Nat → Nat → Int32} : ∀ n, (∀ p, p < n → 1 ≤ (f 4 p).toInt ∧ (f 4 p).toInt ≤ 9) → (qp_ords n f).length = n := by
  intro n
  induction n with
  | zero =>
    intro _
    have : ∀ j, (qp_oo 0 f j).length = 0 := by
      intro j
      induction j with
      | zero => rfl
      | succ j ih => show (qp_oo 0 f j ++ []).length = 0; rw [List.append_nil]; exact ih
    exact this 9
  | succ n ih =>
    intro h
    have h1 := qp_oo_len (h n (by omega)) 9 (by omega)
    have h2 := ih (fun p hp => h p (by omega))
    unfold qp_ords at h2 ⊢
    rw [h1, h2, if_pos (by have := (h n (by omega)).1; omega)]
theorem qp_oo_pre {n : Nat} {f : Nat → Nat → Int32} : ∀ j k, (qp_oo n f j).length ≤ (qp_oo n f (j + k)).length := by
  intro j k
  induction k with
  | zero => exact Nat.le_refl _
  | succ k ih =>
    refine Nat.le_trans ih ?_
    show _ ≤ (qp_oo n f (j + k) ++ _).length
    rw [List.length_append]
    omega
theorem qp_oi_pre {f : Nat → Nat → Int32} {pr : Nat} : ∀ j k, (qp_oi f pr j).length ≤ (qp_oi f pr (j + k)).length := by
  intro j k
  induction k with
  | zero => exact Nat.le_refl _
  | succ k ih =>
    refine Nat.le_trans ih ?_
    show _ ≤ (qp_oi f pr (j + k) ++ _).length
    rw [List.length_append]
    omega
/-- a row of a cell holds a list -/
def qr_L (τ : QS) (c : Nat) (l : List Nat) : Prop := ∀ i p, l[i]? = some p → τ.1 c i = nI p
theorem qr_L.push {τ : QS} {c : Nat} {l : List Nat} (h : qr_L τ c l) (p : Nat) : qr_L (qx_up τ c l.length (nI p)) c (l ++ [p]) := by
  intro i q hq
  rw [qu_1]
  rcases Nat.lt_trichotomy i l.length with h1 | h1 | h1
  · rw [if_neg (by omega)]
    exact h i q (by rw [List.getElem?_append_left h1] at hq; exact hq)
  · subst h1
    rw [if_pos ⟨rfl, rfl⟩]
    rw [List.getElem?_append_right (Nat.le_refl _), Nat.sub_self] at hq
    cases hq
    rfl
  · have : (l ++ [p])[i]? = none := List.getElem?_eq_none (by rw [List.length_append, List.length_singleton]; omega)
    rw [this] at hq
    cases hq
section
variable {n : Nat} {f : Nat → Nat → Int32} {w sh : Nat → Int32} {τ σ : QS}
theorem qM_orders_L1 (hok : qv_ok n f w) (j : Nat) (hj : j < 9) (K : QS → Int32 → Int32 → Option QS) : ∀ (k q : Nat) (τ : QS), q ≤ n → n < k + q → qr_M n f w sh τ → qr_L τ 3 (qp_oo n f j ++ qp_oi f (9 - j) q) →
    ∃ τ', qM_orders_L11 (nI (9 - j)) K k τ (nI (qp_oo n f j ++ qp_oi f (9 - j) q).length) (nI q) = K τ' (nI (qp_oo n f (j + 1)).length) (nI (9 - (j + 1))) ∧ qs_only [3] τ τ' ∧ qr_L τ' 3 (qp_oo n f (j + 1)) := by
  have hn := hok.1
  have hlen := qp_ords_len n (fun p hp => (hok.2.1 p hp).2.2.2.2.1)
  intro k
  induction k with
  | zero => intro q τ h1 h2; omega
  | succ k ih =>
    intro q τ h1 h2 h hL
    rw [qM_orders_L11, h.1]
    rcases Nat.lt_or_ge q n with hq | hq
    · have e4 := (h.2.2 q hq).2.2.2.2.1
      rw [if_neg (nI_ge hq (by omega)), qn_a80, nI_clamp (by omega), qo_in (by omega) (by decide), e4, nI_1]
      by_cases c : f 4 q = nI (9 - j)
      · have hoi : qp_oi f (9 - j) (q + 1) = qp_oi f (9 - j) q ++ [q] := by show _ ++ _ = _; rw [if_pos c]
        have hlt : (qp_oo n f j ++ qp_oi f (9 - j) q).length < 20 := by
          have a1 := qp_oi_pre (f := f) (pr := 9 - j) (q + 1) (n - (q + 1))
          have a2 := qp_oo_pre (n := n) (f := f) (j + 1) (9 - (j + 1))
          rw [show q + 1 + (n - (q + 1)) = n by omega] at a1
          rw [show j + 1 + (9 - (j + 1)) = 9 by omega] at a2
          have a3 : (qp_oo n f (j + 1)).length = (qp_oo n f j).length + (qp_oi f (9 - j) n).length := List.length_append
          rw [hoi, List.length_append, List.length_singleton] at a1
          rw [List.length_append]
          unfold qp_ords at hlen
          omega
        rw [if_pos c, qo_in hlt (by decide), nI_clamp (by omega), nI_1]
        have hL' := hL.push q
        rw [List.append_assoc, ← hoi] at hL'
        obtain ⟨τ', e1, e2, e3⟩ := ih (q + 1) _ hq (by omega) (h.off (qs_only.up (S := [3]) (by decide) qs_only.rf) (by decide) (by decide)) hL'
        refine ⟨τ', ?_, (qs_only.up (S := [3]) (by decide) qs_only.rf).tr e2, e3⟩
        rw [← e1, hoi, ← List.append_assoc, List.length_append (as := _ ++ _), List.length_singleton]
      · have hoi : qp_oi f (9 - j) (q + 1) = qp_oi f (9 - j) q := by show _ ++ _ = _; rw [if_neg c, List.append_nil]
        rw [if_neg c, ← hoi, nI_1]
        exact ih (q + 1) τ hq (by omega) h (by rw [hoi]; exact hL)
    · have e : q = n := by omega
      subst e
      rw [if_pos (nI_le (Nat.le_refl _) (by omega))]
      refine ⟨τ, ?_, qs_only.rf, hL⟩
      have e9 : nI (9 - j) + (-1) = nI (9 - (j + 1)) := by
        have := pk_m1 (9 - (j + 1))
        rwa [show 9 - (j + 1) + 1 = 9 - j by omega] at this
      rw [e9]
      rfl
theorem qM_orders_L (hok : qv_ok n f w) : ∀ (k j : Nat) (τ : QS), j ≤ 9 → 9 < k + j → qr_M n f w sh τ → qr_L τ 3 (qp_oo n f j) →
    ∃ τ', qM_orders_L5 k τ (nI (qp_oo n f j).length) (nI (9 - j)) = some τ' ∧ qs_only [3] τ τ' ∧ qr_L τ' 3 (qp_ords n f) := by
  have hn := hok.1
  intro k
  induction k with
  | zero => intro j τ h1 h2; omega
  | succ k ih =>
    intro j τ h1 h2 h hL
    rw [qM_orders_L5]
    rcases Nat.lt_or_ge j 9 with hj | hj
    · rw [if_neg (nI_nle (by omega) (by omega))]
      have hL0 : qr_L τ 3 (qp_oo n f j ++ qp_oi f (9 - j) 0) := by show qr_L τ 3 (qp_oo n f j ++ []); rw [List.append_nil]; exact hL
      obtain ⟨τ1, e1, e2, e3⟩ := qM_orders_L1 hok j hj (qM_orders_L5 k) qx_F 0 τ (Nat.zero_le _) (by rw [qF_big]; omega) h hL0
      obtain ⟨τ', g1, g2, g3⟩ := ih (j + 1) τ1 hj (by omega) (h.off e2 (by decide) (by decide)) e3
      refine ⟨τ', ?_, e2.tr g2, g3⟩
      rw [← g1, ← e1]
      show _ = qM_orders_L11 _ _ _ _ (nI (qp_oo n f j ++ []).length) _
      rw [List.append_nil]
      rfl
    · have e : j = 9 := by omega
      subst e
      rw [if_pos (by decide)]
      exact ⟨τ, rfl, qs_only.rf, hL⟩
theorem qM_orders_s (hok : qv_ok n f w) (h : qr_M n f w sh τ) : ∃ τ', qM_orders τ = some τ' ∧ qs_only [3] τ τ' ∧ qr_L τ' 3 (qp_ords n f) :=
  qM_orders_L hok qx_F 0 τ (by omega) (by rw [qF_big]; omega) h (fun i p hp => by cases hp)
end
