/-! greatest: the reference's walk through all choices -/
section
variable {pl : Nat → Nat → Bool} {mt : Nat → Nat → Nat → Nat → Bool} {pr : Nat → Nat} {l : List Nat} {ch : List (Nat × Nat)} {p S b : Nat}
def qg_it (g : Nat → Option Nat) : Nat → Nat → Nat
  | 0, b => b
  | k + 1, b => match g k with
    | some x => max (qg_it g k b) x
    | none => qg_it g k b
def qg_h (pl : Nat → Nat → Bool) (mt : Nat → Nat → Nat → Nat → Bool) (pr : Nat → Nat) (l : List Nat) (ch : List (Nat × Nat)) (p s : Nat) : Nat := if qg_fr pl mt ch p s = true then pr p + qg_G pl mt pr l ((p, s) :: ch) else 0
def qg_go (pl : Nat → Nat → Bool) (mt : Nat → Nat → Nat → Nat → Bool) (pr : Nat → Nat) (S : Nat) (l : List Nat) (ch : List (Nat × Nat)) (p u : Nat) : Option Nat :=
  if u = 8 then some (S + qg_G pl mt pr l ch) else if qg_fr pl mt ch p u = true then some (S + pr p + qg_G pl mt pr l ((p, u) :: ch)) else none
theorem qg_G_c : qg_G pl mt pr (p :: l) ch = max (qg_G pl mt pr l ch) (qg_mx 8 (qg_h pl mt pr l ch p)) := rfl
theorem qg_it_8 : ∀ k, k ≤ 8 → max (qg_it (qg_go pl mt pr S l ch p) k b) S = max (max b S) (S + qg_mx k (qg_h pl mt pr l ch p)) := by
  intro k
  induction k with
  | zero => intro _; show max b S = max (max b S) (S + 0); omega
  | succ k ih =>
    intro h
    have ih := ih (by omega)
    show max (match qg_go pl mt pr S l ch p k with | some x => max (qg_it (qg_go pl mt pr S l ch p) k b) x | none => qg_it (qg_go pl mt pr S l ch p) k b) S = max (max b S) (S + max (qg_mx k (qg_h pl mt pr l ch p)) (qg_h pl mt pr l ch p k))
    by_cases c : qg_fr pl mt ch p k = true
    · have e1 : qg_go pl mt pr S l ch p k = some (S + pr p + qg_G pl mt pr l ((p, k) :: ch)) := by
        unfold qg_go
        rw [if_neg (by omega), if_pos c]
      have e2 : qg_h pl mt pr l ch p k = pr p + qg_G pl mt pr l ((p, k) :: ch) := if_pos c
      rw [e1, e2]
      show max (max (qg_it (qg_go pl mt pr S l ch p) k b) _) S = _
      omega
    · have e1 : qg_go pl mt pr S l ch p k = none := by
        unfold qg_go
        rw [if_neg (by omega), if_neg c]
      have e2 : qg_h pl mt pr l ch p k = 0 := if_neg c
      rw [e1, e2]
      show max (qg_it (qg_go pl mt pr S l ch p) k b) S = _
      omega
theorem qg_it_9 : qg_it (qg_go pl mt pr S l ch p) 9 b = max b (S + qg_G pl mt pr (p :: l) ch) := by
  have h := qg_it_8 (pl := pl) (mt := mt) (pr := pr) (S := S) (l := l) (ch := ch) (p := p) (b := b) 8 (by omega)
  show max (qg_it (qg_go pl mt pr S l ch p) 8 b) (S + qg_G pl mt pr l ch) = _
  rw [qg_G_c]
  omega
theorem qg_it_s {g : Nat → Option Nat} {k x : Nat} (h : g k = some x) : qg_it g (k + 1) b = max (qg_it g k b) x := by
  show (match g k with | some x => max (qg_it g k b) x | none => qg_it g k b) = _
  rw [h]
theorem qg_it_n {g : Nat → Option Nat} {k : Nat} (h : g k = none) : qg_it g (k + 1) b = qg_it g k b := by
  show (match g k with | some x => max (qg_it g k b) x | none => qg_it g k b) = _
  rw [h]
theorem qg_it_le {g : Nat → Option Nat} {M : Nat} (hb : b ≤ M) (hg : ∀ u x, g u = some x → x ≤ M) : ∀ k, qg_it g k b ≤ M := by
  intro k
  induction k with
  | zero => exact hb
  | succ k ih =>
    cases h : g k with
    | none => rw [qg_it_n h]; exact ih
    | some x => rw [qg_it_s h]; have := hg k x h; omega
theorem qg_G_le : ∀ (l : List Nat) (ch : List (Nat × Nat)), (∀ p, p ∈ l → pr p ≤ 9) → qg_G pl mt pr l ch ≤ 9 * l.length := by
  intro l
  induction l with
  | nil => intro _ _; exact Nat.le_refl _
  | cons p l ih =>
    intro ch h
    have h0 := h p List.mem_cons_self
    have hl := fun q hq => h q (List.mem_cons_of_mem p hq)
    have i0 := ih ch hl
    rw [qg_G_c, List.length_cons]
    rcases qg_mx_at (g := qg_h pl mt pr l ch p) 8 with e | ⟨s, hs, e⟩
    · omega
    · have i1 := ih ((p, s) :: ch) hl
      have : qg_h pl mt pr l ch p s ≤ 9 + 9 * l.length := by
        unfold qg_h
        split <;> omega
      omega
/-- the choices of the first k -/
def qg_ch (L : List Nat) (t : Nat → Nat) : Nat → List (Nat × Nat)
  | 0 => []
  | k + 1 => if t k < 8 then (L.getD k 0, t k) :: qg_ch L t k else qg_ch L t k
def qg_sm (pr : Nat → Nat) (L : List Nat) (t : Nat → Nat) : Nat → Nat
  | 0 => 0
  | k + 1 => qg_sm pr L t k + (if t k < 8 then pr (L.getD k 0) else 0)
theorem qg_ch_cg {L : List Nat} {t t' : Nat → Nat} : ∀ k, (∀ i, i < k → t i = t' i) → qg_ch L t k = qg_ch L t' k := by
  intro k
  induction k with
  | zero => intro _; rfl
  | succ k ih =>
    intro h
    show (if t k < 8 then (L.getD k 0, t k) :: qg_ch L t k else qg_ch L t k) = (if t' k < 8 then (L.getD k 0, t' k) :: qg_ch L t' k else qg_ch L t' k)
    rw [ih (fun i hi => h i (by omega)), h k (by omega)]
theorem qg_sm_cg {L : List Nat} {t t' : Nat → Nat} : ∀ k, (∀ i, i < k → t i = t' i) → qg_sm pr L t k = qg_sm pr L t' k := by
  intro k
  induction k with
  | zero => intro _; rfl
  | succ k ih =>
    intro h
    show qg_sm pr L t k + (if t k < 8 then pr (L.getD k 0) else 0) = qg_sm pr L t' k + (if t' k < 8 then pr (L.getD k 0) else 0)
    rw [ih (fun i hi => h i (by omega)), h k (by omega)]
theorem qg_sm_le {L : List Nat} {t : Nat → Nat} (h : ∀ i, i < L.length → pr (L.getD i 0) ≤ 9) : ∀ k, k ≤ L.length → qg_sm pr L t k ≤ 9 * k := by
  intro k
  induction k with
  | zero => intro _; exact Nat.le_refl _
  | succ k ih =>
    intro hk
    have := ih (by omega)
    have := h k (by omega)
    show qg_sm pr L t k + (if t k < 8 then pr (L.getD k 0) else 0) ≤ _
    split <;> omega
theorem qg_dr {L : List Nat} {k : Nat} (h : k < L.length) : L.drop k = L.getD k 0 :: L.drop (k + 1) := by
  rw [List.drop_eq_getElem_cons h]
  simp [h]
end
def qg_pr (f : Nat → Nat → Int32) (p : Nat) : Nat := (f 4 p).toInt.toNat
section
variable {n : Nat} {f : Nat → Nat → Int32} {w sh : Nat → Int32} {τ : QS} {L : List Nat} {t : Nat → Nat}
theorem qg_pr_e {p : Nat} (h : qv_pt f p) : f 4 p = nI (qg_pr f p) ∧ qg_pr f p ≤ 9 := by
  obtain ⟨-, -, -, -, ⟨h1, h2⟩, -⟩ := h
  unfold qg_pr
  refine ⟨?_, by omega⟩
  rw [qi_eq, nI_toInt (by omega)]
  omega
/-- what the walk keeps, at the choice k -/
def qg_I (n : Nat) (f : Nat → Nat → Int32) (w sh : Nat → Int32) (L : List Nat) (t : Nat → Nat) (k : Nat) (τ : QS) : Prop := qr_M n f w sh τ ∧ qr_P n f w τ ∧ (∀ i, i < L.length → τ.1 5 i = nI (L.getD i 0)) ∧ ∀ i, i < k → τ.1 4 i = nI (t i)
def qg_L (n : Nat) (L : List Nat) : Prop := L.length ≤ 6 ∧ ∀ i, i < L.length → L.getD i 0 < n
theorem qg_I.mv {τ' : QS} {k k' : Nat} {t' : Nat → Nat} (h : qg_I n f w sh L t k τ) (ho : qs_only [4] τ τ') (h4 : ∀ i, i < k' → τ'.1 4 i = nI (t' i)) : qg_I n f w sh L t' k' τ' :=
  ⟨h.1.off ho (by decide) (by decide), h.2.1.off ho (by decide), fun i hi => by rw [ho.1 5 (by decide)]; exact h.2.2.1 i hi, h4⟩
theorem qM_fitsWith_s (hok : qv_ok n f w) (hL : qg_L n L) {k u : Nat} (hk : k < L.length) (hu : u < 8) (ht : ∀ i, t i ≤ 8) (h : qg_I n f w sh L t k τ) (h4 : τ.1 4 k = nI u) : qM_fitsWith τ (nI k) = some (qb ((qg_ch L t k).all (fun c => !qp_mt f c.1 c.2 (L.getD k 0) u))) := by
  obtain ⟨hM, hP, h5, ht4⟩ := h
  obtain ⟨hL6, hLn⟩ := hL
  have hn := hok.1
  have key : ∀ F i, i ≤ k → k < F + i → qM_fitsWith_L4 τ (nI k) F (qb ((qg_ch L t i).all (fun c => !qp_mt f c.1 c.2 (L.getD k 0) u))) (nI i) = some (qb ((qg_ch L t k).all (fun c => !qp_mt f c.1 c.2 (L.getD k 0) u))) := by
    intro F
    induction F with
    | zero => intro i h1 h2; omega
    | succ F ih =>
      intro i h1 h2
      rw [qM_fitsWith_L4]
      by_cases c : i = k
      · subst c
        rw [if_pos (nI_le (Nat.le_refl _) (by omega)), qb_and1]
      · have hi : i < k := by omega
        rw [if_neg (nI_ge hi (by omega))]
        have ih := ih (i + 1) (by omega) (by omega)
        have e : (qg_ch L t (i + 1)) = if t i < 8 then (L.getD i 0, t i) :: qg_ch L t i else qg_ch L t i := rfl
        cases hA : (qg_ch L t i).all (fun c => !qp_mt f c.1 c.2 (L.getD k 0) u) with
        | false =>
          rw [if_pos qb_f, qb_and1]
          have hB : (qg_ch L t (i + 1)).all (fun c => !qp_mt f c.1 c.2 (L.getD k 0) u) = false := by
            rw [e]
            split
            · rw [List.all_cons, hA, Bool.and_false]
            · exact hA
          rw [hB] at ih
          cases F with
          | zero => exfalso; omega
          | succ F =>
            rw [qM_fitsWith_L4] at ih
            by_cases c2 : i + 1 = k
            · rw [if_pos (by rw [c2]; exact nI_le (Nat.le_refl _) (by omega)), qb_and1] at ih
              exact ih
            · rw [if_neg (nI_ge (by omega) (by omega)), if_pos qb_f, qb_and1] at ih
              exact ih
        | true =>
          rw [if_neg qb_ne, qo_in (by omega) (by decide), nI_clamp (by omega), ht4 i hi, nI_1]
          have ti := ht i
          by_cases c8 : t i = 8
          · rw [if_pos (by rw [c8]; rfl)]
            rw [e, if_neg (by omega), hA] at ih
            exact ih
          · rw [if_neg (show ¬ nI (t i) = (8 : Int32) from fun q => c8 ((nI_eq (b := 8) (by omega) (by omega)).mp q)), qo_in (by omega) (by decide), qo_in (by omega) (by decide), qo_in (by omega) (by decide), qo_in (by omega) (by decide), nI_clamp (by omega), h5 k hk, h4, h5 i (by omega), qM_meet_s hn hM (hLn k hk) hu (hLn i (by omega)) (by omega), qob_bind]
            rw [e, if_pos (by omega), List.all_cons, hA, Bool.and_true] at ih
            rw [qp_mt_sym f (L.getD k 0) u] at ih
            cases hm : qp_mt f (L.getD k 0) u (L.getD i 0) (t i) with
            | false => rw [hm] at ih; rw [if_pos qb_f]; exact ih
            | true => rw [hm] at ih; rw [if_neg qb_ne]; exact ih
  have := key qx_F 0 (Nat.zero_le _) (by rw [qF_big]; omega)
  exact this
theorem qM_sum_s (hok : qv_ok n f w) (hL : qg_L n L) (ht : ∀ i, t i ≤ 8) (h : qg_I n f w sh L t L.length τ) : qM_sum τ (nI L.length) = some (nI (qg_sm (qg_pr f) L t L.length)) := by
  obtain ⟨hM, hP, h5, ht4⟩ := h
  obtain ⟨hL6, hLn⟩ := hL
  have hn := hok.1
  have e : ∀ k, qp_sum k (fun i => nI (if t i < 8 then qg_pr f (L.getD i 0) else 0)) = nI (qg_sm (qg_pr f) L t k) := by
    intro k
    induction k with
    | zero => rfl
    | succ k ih => show qp_sum k _ + nI _ = nI (qg_sm (qg_pr f) L t k + _); rw [ih, nI_add]
  rw [← e]
  refine ql_acc0 (L := qM_sum_L4 τ (nI L.length)) (fin := id) (by omega) (fun k x => ?_) (fun k x q hq => ?_)
  · rw [qM_sum_L4, if_pos (nI_le (Nat.le_refl _) (by omega))]; rfl
  · have tq := ht q
    have hq6 := hLn q hq
    obtain ⟨-, -, -, -, e4, -⟩ := hM.2.2 _ hq6
    rw [qM_sum_L4, if_neg (nI_ge hq (by omega)), qo_in (by omega) (by decide), nI_clamp (by omega), ht4 q hq, h5 q hq, nI_1, qn_a80, nI_clamp (by omega), e4, (qg_pr_e (hok.2.1 _ hq6)).1]
    by_cases c : t q < 8
    · rw [if_neg (qn_lt8 c), qo_in (by omega) (by decide), qo_in (by omega) (by decide), if_pos c]
    · rw [if_pos (show (8 : Int32) ≤ nI (t q) from nI_le (a := 8) (by omega) (by omega)), if_neg c]; rfl
theorem qM_gr_J (hm : L.length ≤ 6) (K : QS → Int32 → Int32 → Option (Int32 × QS)) (x : Int32) {k u s : Nat} (fit : Bool) (hk : k < L.length) (hu : u ≤ 9) (h4 : τ.1 4 k = nI u) (hs : ¬ u = 9 → k + 1 = L.length → qM_sum τ (nI L.length) = some (nI s)) :
    qM_greatest_J137 τ K (nI L.length) x (nI k) (qb fit) = if u = 9 then K τ x (nI k + (-1)) else if fit = true then (if k + 1 = L.length then K τ (if nI s ≤ x then x else nI s) (nI k) else K (qx_up τ 4 (k + 1) (-1)) x (nI (k + 1))) else K τ x (nI k) := by
  unfold qM_greatest_J137 qM_greatest_J190
  rw [qo_in (by omega) (by decide), nI_clamp (by omega), h4]
  by_cases c9 : u = 9
  · rw [if_pos c9, if_neg (by rw [c9]; decide)]
  · rw [if_neg c9, if_pos (show nI u ≤ (8 : Int32) from nI_le (b := 8) (by omega) (by omega))]
    cases fit with
    | false => rw [if_pos qb_f, if_pos qb_f, if_neg (by decide)]
    | true =>
      rw [if_neg qb_ne, if_neg qb_ne, if_pos rfl]
      by_cases c : k + 1 = L.length
      · rw [if_pos c, if_pos (by rw [← c, (nI_m1 (Nat.succ_pos k)).1]; rfl), hs c9 c, qob_bind, qob_bind]
        split <;> rfl
      · rw [if_neg c, if_neg (fun q => by
          rw [(nI_m1 (show 0 < L.length by omega)).1, nI_eq (by omega) (by omega)] at q
          omega), nI_1, qo_in (by omega) (by decide), nI_clamp (by omega)]
theorem qM_gr_1 (hok : qv_ok n f w) (hL : qg_L n L) (ht : ∀ i, t i ≤ 8) {k u : Nat} (hk : k < L.length) (hu : u ≤ 9) (h : qg_I n f w sh L t k τ) (h4 : τ.1 4 k + 1 = nI u) (F : Nat) (x : Int32) :
    qM_greatest_L60 (nI L.length) (F + 1) τ x (nI k) = qM_greatest_J137 (qx_up τ 4 k (nI u)) (qM_greatest_L60 (nI L.length) F) (nI L.length) x (nI k) (qb (decide (u = 8) || (decide (u < 8) && qg_fr (qp_pl n f w) (qp_mt f) (qg_ch L t k) (L.getD k 0) u))) := by
  have hn := hok.1
  obtain ⟨hL6, hLn⟩ := hL
  have hp := hLn k hk
  have ho : qs_only [4] τ (qx_up τ 4 k (nI u)) := qs_only.up (S := [4]) (by decide) qs_only.rf
  have h' : qg_I n f w sh L t k (qx_up τ 4 k (nI u)) := h.mv ho (fun i hi => by rw [qu_1, if_neg (by omega)]; exact h.2.2.2 i hi)
  have h5 := h'.2.2.1 k hk
  rw [qM_greatest_L60, if_neg (nI_pos (by omega)), if_neg (nI_nle (by omega) (by omega)), qo_in (by omega) (by decide), qo_in (by omega) (by decide), qo_in (by omega) (by decide), qo_in (by omega) (by decide), qo_in (by omega) (by decide), qo_in (by omega) (by decide), nI_clamp (by omega), h4, qu_s, h5]
  by_cases c8 : u = 8
  · rw [if_pos (by rw [c8]; rfl)]
    simp [c8, qb]
  · rw [if_neg (show ¬ nI u = (8 : Int32) from fun q => c8 ((nI_eq (b := 8) (by omega) (by omega)).mp q))]
    by_cases c7 : u < 8
    · rw [if_neg (qn_lt8 c7), qn_8', qo_in (by omega) (by decide), nI_clamp (by omega), h'.2.1 _ hp u c7, qM_fitsWith_s hok ⟨hL6, hLn⟩ hk c7 ht h' (by rw [qu_s]), qob_bind]
      unfold qg_fr
      cases h1 : qp_pl n f w (L.getD k 0) u with
      | false => rw [if_pos qb_f]; simp [c8, c7, qb]
      | true =>
        rw [if_neg qb_ne]
        cases h2 : (qg_ch L t k).all (fun c => !qp_mt f c.1 c.2 (L.getD k 0) u) with
        | false => rw [if_pos qb_f]; simp [c8, c7, qb]
        | true => rw [if_neg qb_ne]; simp [c8, c7, qb]
    · rw [if_pos (show (8 : Int32) ≤ nI u from nI_le (a := 8) (by omega) (by omega))]
      simp [c8, c7, qb]
end
