/-! loops that add up, loops that seek; more of the reference's questions -/
def qp_sum : Nat → (Nat → Int32) → Int32
  | 0, _ => 0
  | n + 1, g => qp_sum n g + g n
theorem qp_sum_congr {n : Nat} {f g : Nat → Int32} (h : ∀ i, i < n → f i = g i) : qp_sum n f = qp_sum n g := by
  induction n with
  | zero => rfl
  | succ n ih =>
    show qp_sum n f + _ = qp_sum n g + _
    rw [ih (fun i hi => h i (by omega)), h n (by omega)]
theorem qp_sum_cnt (n : Nat) (c : Nat → Bool) : qp_sum n (fun q => qb (c q)) = nI (qp_cnt n c) := by
  induction n with
  | zero => rfl
  | succ n ih =>
    show qp_sum n _ + qb (c n) = nI (qp_cnt n c + _)
    rw [ih, ← nI_add]
    cases c n <;> rfl
theorem ql_acc {L : Nat → Int32 → Int32 → Option Int32} {N : Nat} {g : Nat → Int32} {fin : Int32 → Int32} (hend : ∀ k x, L (k + 1) x (nI N) = some (fin x)) (hstep : ∀ k x q, q < N → L (k + 1) x (nI q) = L k (x + g q) (nI (q + 1))) :
    ∀ k q, q ≤ N → N < k + q → L k (qp_sum q g) (nI q) = some (fin (qp_sum N g)) := by
  intro k
  induction k with
  | zero => intro q h1 h2; omega
  | succ k ih =>
    intro q h1 h2
    rcases Nat.lt_or_ge q N with hq | hq
    · rw [hstep k _ q hq]
      exact ih (q + 1) hq (by omega)
    · rw [show q = N by omega]
      exact hend k _
theorem ql_acc0 {L : Nat → Int32 → Int32 → Option Int32} {N : Nat} {g : Nat → Int32} {fin : Int32 → Int32} (hN : N < 10000) (hend : ∀ k x, L (k + 1) x (nI N) = some (fin x)) (hstep : ∀ k x q, q < N → L (k + 1) x (nI q) = L k (x + g q) (nI (q + 1))) : L qx_F 0 0 = some (fin (qp_sum N g)) :=
  ql_acc hend hstep qx_F 0 (Nat.zero_le _) (by rw [qF_big]; omega)
/-- the first from q on of the next m -/
def qp_find (c : Nat → Bool) : Nat → Nat → Option Nat
  | 0, _ => none
  | m + 1, q => if c q = true then some q else qp_find c m (q + 1)
theorem qp_find_congr {c c' : Nat → Bool} : ∀ (m q : Nat), (∀ i, q ≤ i → i < q + m → c i = c' i) → qp_find c m q = qp_find c' m q := by
  intro m
  induction m with
  | zero => intro q _; rfl
  | succ m ih =>
    intro q h
    unfold qp_find
    rw [h q (Nat.le_refl _) (by omega), ih (q + 1) (fun i h1 h2 => h i (by omega) (by omega))]
theorem qp_find_some {c : Nat → Bool} : ∀ (m q r : Nat), qp_find c m q = some r → q ≤ r ∧ r < q + m ∧ c r = true ∧ ∀ i, q ≤ i → i < r → c i = false := by
  intro m
  induction m with
  | zero => intro q r h; cases h
  | succ m ih =>
    intro q r h
    unfold qp_find at h
    by_cases hc : c q = true
    · rw [if_pos hc] at h
      cases h
      exact ⟨Nat.le_refl _, by omega, hc, fun i h1 h2 => by omega⟩
    · rw [if_neg hc] at h
      obtain ⟨h1, h2, h3, h4⟩ := ih (q + 1) r h
      refine ⟨by omega, by omega, h3, fun i h5 h6 => ?_⟩
      rcases Nat.lt_or_ge q i with h7 | h7
      · exact h4 i h7 h6
      · rw [show i = q by omega]; simpa using hc
theorem qp_find_none {c : Nat → Bool} : ∀ (m q : Nat), qp_find c m q = none → ∀ i, q ≤ i → i < q + m → c i = false := by
  intro m
  induction m with
  | zero => intro q _ i h1 h2; omega
  | succ m ih =>
    intro q h i h1 h2
    unfold qp_find at h
    by_cases hc : c q = true
    · rw [if_pos hc] at h; cases h
    · rw [if_neg hc] at h
      rcases Nat.lt_or_ge q i with h7 | h7
      · exact ih (q + 1) h i h7 (by omega)
      · rw [show i = q by omega]; simpa using hc
theorem ql_first {α : Type} {L : Nat → Int32 → Option α} {N : Nat} {c : Nat → Bool} {r : Nat → α} {e : α} (hend : ∀ k, L (k + 1) (nI N) = some e) (hstep : ∀ k q, q < N → L (k + 1) (nI q) = if c q = true then some (r q) else L k (nI (q + 1))) :
    ∀ k q, q ≤ N → N < k + q → L k (nI q) = some (match qp_find c (N - q) q with | some p => r p | none => e) := by
  intro k
  induction k with
  | zero => intro q h1 h2; omega
  | succ k ih =>
    intro q h1 h2
    rcases Nat.lt_or_ge q N with hq | hq
    · rw [hstep k q hq, show N - q = (N - (q + 1)) + 1 by omega]
      unfold qp_find
      by_cases hc : c q = true
      · rw [if_pos hc, if_pos hc]
      · rw [if_neg hc, if_neg hc]
        exact ih (q + 1) hq (by omega)
    · rw [show q = N by omega, hend, Nat.sub_self]
      rfl
theorem ql_first0 {α : Type} {L : Nat → Int32 → Option α} {N : Nat} {c : Nat → Bool} {r : Nat → α} {e : α} (hN : N < 10000) (hend : ∀ k, L (k + 1) (nI N) = some e) (hstep : ∀ k q, q < N → L (k + 1) (nI q) = if c q = true then some (r q) else L k (nI (q + 1))) : L qx_F 0 = some (match qp_find c N 0 with | some p => r p | none => e) := by
  have := ql_first hend hstep qx_F 0 (Nat.zero_le _) (by rw [qF_big]; omega)
  exact this
theorem qn_lt8 {q : Nat} (h : q < 8) : ¬ (8 : Int32) ≤ nI q := nI_ge (b := 8) h (by omega)
/-- the label of q that is shown is in the way of p on s -/
def qp_hit (f : Nat → Nat → Int32) (sh : Nat → Int32) (p s q : Nat) : Bool := !decide (q = p) && (!decide (sh q = -1) && qp_mt f p s q (sh q).toNatClampNeg)
def qp_last (c : Nat → Bool) : Nat → Int32
  | 0 => -1
  | n + 1 => if c n = true then nI n else qp_last c n
section
variable {n : Nat} {f : Nat → Nat → Int32} {w sh : Nat → Int32} {τ σ : QS}
theorem qv_shN (hsh : qv_sh n sh) {q : Nat} (hq : q < n) (h : ¬ sh q = -1) : (sh q).toNatClampNeg < 8 ∧ sh q = nI (sh q).toNatClampNeg := by
  rcases hsh q hq with h1 | ⟨s, hs, h1⟩
  · exact absurd h1 h
  · rw [h1, nI_clamp (by omega)]
    exact ⟨hs, rfl⟩
theorem qM_meet_s (hn : n ≤ 20) (h : qr_M n f w sh τ) {p s q t : Nat} (hp : p < n) (hs : s < 8) (hq : q < n) (ht : t < 8) : qM_meet τ (nI p) (nI s) (nI q) (nI t) = some (qb (qp_mt f p s q t)) := by
  obtain ⟨-, -, x2, x3, -⟩ := h.2.2 p hp
  obtain ⟨-, -, y2, y3, -⟩ := h.2.2 q hq
  unfold qM_meet qM_meet_J57
  simp only [qM_left_s hn h hp hs, qM_left_s hn h hq ht, qM_bottom_s hn h hp hs, qM_bottom_s hn h hq ht, qob_bind, qn_a40, qn_a60, qo_in (show 40 + p < 140 by omega) (by decide), qo_in (show 40 + q < 140 by omega) (by decide), qo_in (show 60 + p < 140 by omega) (by decide), qo_in (show 60 + q < 140 by omega) (by decide), nI_clamp (show 40 + p < 2 ^ 31 by omega), nI_clamp (show 40 + q < 2 ^ 31 by omega), nI_clamp (show 60 + p < 2 ^ 31 by omega), nI_clamp (show 60 + q < 2 ^ 31 by omega), x2, x3, y2, y3]
  unfold qp_mt
  by_cases c1 : qp_lf f q t + f 2 q ≤ qp_lf f p s
  · simp [c1, qb]
  · by_cases c2 : qp_lf f p s + f 2 p ≤ qp_lf f q t
    · simp [c1, c2, qb]
    · by_cases c3 : qp_bt f q t + f 3 q ≤ qp_bt f p s
      · simp [c1, c2, c3, qb]
      · by_cases c4 : qp_bt f p s + f 3 p ≤ qp_bt f q t
        · simp [c1, c2, c3, c4, qb]
        · simp [c1, c2, c3, c4, qb]
theorem nI_neq {a b : Nat} (ha : a < 2 ^ 31) (hb : b < 2 ^ 31) (h : ¬ a = b) : ¬ nI a = nI b := fun e => h ((nI_eq ha hb).mp e)
theorem nI_nm1 {a : Nat} (ha : a < 2 ^ 31) : ¬ nI a = -1 := fun e => (qn_neg a ha).mp e
theorem qM_clashes_s (hok : qv_ok n f w) (hsh : qv_sh n sh) (h : qr_M n f w sh τ) {p s : Nat} (hp : p < n) (hs : s < 8) : qM_clashes τ (nI p) (nI s) (-1) = some (nI (qp_cnt n (qp_hit f sh p s))) := by
  have hn := hok.1
  rw [← qp_sum_cnt]
  refine ql_acc0 (L := qM_clashes_L6 τ (nI p) (nI s) (-1)) (fin := id) (by omega) (fun k x => ?_) (fun k x q hq => ?_)
  · rw [qM_clashes_L6, h.1, if_pos (nI_le (Nat.le_refl _) (by omega))]; rfl
  · obtain ⟨-, -, -, -, -, -, e⟩ := h.2.2 q hq
    unfold qp_hit
    rw [qM_clashes_L6, h.1, if_neg (nI_ge hq (by omega)), if_neg (nI_nm1 (show q < 2 ^ 31 by omega)), qn_a120, nI_clamp (by omega), e, nI_1, qo_in (by omega) (by decide), qo_in (by omega) (by decide)]
    by_cases c1 : q = p
    · subst c1
      simp [qb]
    · rw [if_neg (nI_neq (by omega) (by omega) c1)]
      by_cases c2 : sh q = -1
      · simp [c1, c2, qb]
      · obtain ⟨ht, e2⟩ := qv_shN hsh hq c2
        have hm := qM_meet_s hn h hp hs hq ht
        rw [← e2] at hm
        rw [if_neg c2, hm, qob_bind]
        cases qp_mt f p s q (sh q).toNatClampNeg <;> simp [c1, c2, qb]
theorem qM_clashing_L (hok : qv_ok n f w) (hsh : qv_sh n sh) (h : qr_M n f w sh τ) {p s : Nat} (hp : p < n) (hs : s < 8) : ∀ k q, q ≤ n → n < k + q → qM_clashing_L5 τ (nI p) (nI s) k (qp_last (qp_hit f sh p s) q) (nI q) = some (qp_last (qp_hit f sh p s) n) := by
  have hn := hok.1
  intro k
  induction k with
  | zero => intro q h1 h2; omega
  | succ k ih =>
    intro q h1 h2
    rw [qM_clashing_L5, h.1]
    rcases Nat.lt_or_ge q n with hq | hq
    · obtain ⟨-, -, -, -, -, -, e⟩ := h.2.2 q hq
      have ih' : qM_clashing_L5 τ (nI p) (nI s) k (if qp_hit f sh p s q = true then nI q else qp_last (qp_hit f sh p s) q) (nI (q + 1)) = some (qp_last (qp_hit f sh p s) n) := ih (q + 1) hq (by omega)
      rw [if_neg (nI_ge hq (by omega)), qn_a120, nI_clamp (by omega), e, nI_1, qo_in (by omega) (by decide), qo_in (by omega) (by decide)]
      by_cases c1 : q = p
      · rw [if_pos (by rw [c1]), ← ih']
        rw [if_neg (by simp [qp_hit, c1])]
      · rw [if_neg (nI_neq (by omega) (by omega) c1)]
        by_cases c2 : sh q = -1
        · rw [if_pos c2, ← ih', if_neg (by simp [qp_hit, c2])]
        · obtain ⟨ht, e2⟩ := qv_shN hsh hq c2
          have hm := qM_meet_s hn h hp hs hq ht
          rw [← e2] at hm
          rw [if_neg c2, hm, qob_bind, ← ih']
          cases hmt : qp_mt f p s q (sh q).toNatClampNeg with
          | false => rw [if_pos qb_f, if_neg (by simp [qp_hit, hmt])]
          | true => rw [if_neg (by decide), if_pos (by simp [qp_hit, hmt, c1, c2])]
    · rw [show q = n by omega, if_pos (nI_le (Nat.le_refl _) (by omega))]
theorem qM_clashing_s (hok : qv_ok n f w) (hsh : qv_sh n sh) (h : qr_M n f w sh τ) {p s : Nat} (hp : p < n) (hs : s < 8) : qM_clashing τ (nI p) (nI s) = some (qp_last (qp_hit f sh p s) n) :=
  qM_clashing_L hok hsh h hp hs qx_F 0 (Nat.zero_le _) (by have := hok.1; rw [qF_big]; omega)
theorem qM_shown_s (hn : n ≤ 20) (h : qr_M n f w sh τ) : qM_shown τ = some (nI (qp_cnt n (fun q => !decide (sh q = -1)))) := by
  rw [← qp_sum_cnt]
  refine ql_acc0 (L := qM_shown_L4 τ) (fin := id) (by omega) (fun k x => ?_) (fun k x q hq => ?_)
  · rw [qM_shown_L4, h.1, if_pos (nI_le (Nat.le_refl _) (by omega))]; rfl
  · obtain ⟨-, -, -, -, -, -, e⟩ := h.2.2 q hq
    rw [qM_shown_L4, h.1, if_neg (nI_ge hq (by omega)), qn_a120, nI_clamp (by omega), e, nI_1, qo_in (by omega) (by decide)]
    by_cases c : sh q = -1 <;> simp [c, qb]
theorem qM_visible_s (hok : qv_ok n f w) (h : qr_M n f w sh τ) : qM_visible τ = some (nI (qp_cnt n (qp_vis f w))) := by
  have hn := hok.1
  rw [← qp_sum_cnt]
  refine ql_acc0 (L := qM_visible_L4 τ) (fin := id) (by omega) (fun k x => ?_) (fun k x q hq => ?_)
  · rw [qM_visible_L4, h.1, if_pos (nI_le (Nat.le_refl _) (by omega))]; rfl
  · rw [qM_visible_L4, h.1, if_neg (nI_ge hq (by omega)), qM_isVisible_s hok h hq, qob_bind, nI_1]
    cases qp_vis f w q <;> simp [qb]
theorem qM_placesOf_s (hn : n ≤ 20) (h : qr_P n f w τ) {p : Nat} (hp : p < n) : qM_placesOf τ (nI p) = some (nI (qp_cnt 8 (qp_pl n f w p))) := by
  rw [← qp_sum_cnt]
  refine ql_acc0 (L := qM_placesOf_L4 τ (nI p)) (fin := id) (by omega) (fun k x => ?_) (fun k x q hq => ?_)
  · rw [qM_placesOf_L4, if_pos (by decide)]; rfl
  · rw [qM_placesOf_L4, if_neg (qn_lt8 hq), qn_8', qo_in (by omega) (by decide), nI_clamp (by omega), h p hp q hq, nI_1]
    cases qp_pl n f w p q <;> simp [qb]
theorem qM_priorities_s (hn : n ≤ 20) (h : qr_M n f w sh τ) : qM_priorities τ = some (qp_sum n (fun q => if sh q = -1 then 0 else f 4 q)) := by
  refine ql_acc0 (L := qM_priorities_L4 τ) (fin := id) (by omega) (fun k x => ?_) (fun k x q hq => ?_)
  · rw [qM_priorities_L4, h.1, if_pos (nI_le (Nat.le_refl _) (by omega))]; rfl
  · obtain ⟨-, -, -, -, e4, -, e⟩ := h.2.2 q hq
    rw [qM_priorities_L4, h.1, if_neg (nI_ge hq (by omega)), qn_a120, qn_a80, nI_clamp (by omega), nI_clamp (by omega), e, e4, nI_1, qo_in (by omega) (by decide), qo_in (by omega) (by decide)]
    by_cases c : sh q = -1 <;> simp [c]
theorem qM_places_s (hn : n ≤ 20) (hm : τ.1 0 1 = nI n) (h : qr_P n f w τ) : qM_places τ = some (qp_sum n (fun p => nI (qp_cnt 8 (qp_pl n f w p)))) := by
  refine ql_acc0 (L := qM_places_L4 τ) (fin := id) (by omega) (fun k x => ?_) (fun k x q hq => ?_)
  · rw [qM_places_L4, hm, if_pos (nI_le (Nat.le_refl _) (by omega))]; rfl
  · rw [qM_places_L4, hm, if_neg (nI_ge hq (by omega)), qM_placesOf_s hn h hq, qob_bind, nI_1]
theorem qM_meets_s (hok : qv_ok n f w) (h : qr_M n f w sh τ) (hP : qr_P n f w τ) {p s : Nat} (hp : p < n) (hs : s < 8) : qM_meets τ (nI p) (nI s) = some (qp_sum (8 * n) (fun k => qb (!decide (k / 8 = p) && (qp_pl n f w (k / 8) (k % 8) && qp_mt f p s (k / 8) (k % 8))))) := by
  have hn := hok.1
  refine ql_acc0 (L := qM_meets_L5 τ (nI p) (nI s)) (fin := id) (by omega) (fun k x => ?_) (fun k x q hq => ?_)
  · rw [qM_meets_L5, h.1, qn_m8, if_pos (nI_le (Nat.le_refl _) (by omega))]; rfl
  · rw [qM_meets_L5]
    have hpl := hP (q / 8) (by omega) (q % 8) (by omega)
    rw [show 8 * (q / 8) + q % 8 = q by omega] at hpl
    rw [h.1, qn_m8, if_neg (nI_ge hq (by omega)), qn_d8 (by omega), qn_r8' q (by omega), nI_1, qo_in (by omega) (by decide), nI_clamp (by omega), hpl, qM_meet_s hn h hp hs (show q / 8 < n by omega) (show q % 8 < 8 by omega)]
    by_cases c1 : q / 8 = p
    · rw [if_pos (by rw [c1])]
      simp [c1, qb]
    · rw [if_neg (nI_neq (by omega) (by omega) c1)]
      cases qp_pl n f w (q / 8) (q % 8) with
      | false => simp [qb]
      | true =>
        rw [if_neg (by decide), qob_bind]
        cases qp_mt f p s (q / 8) (q % 8) <;> simp [c1, qb]
theorem qM_pairs_s (hok : qv_ok n f w) (h : qr_M n f w sh τ) (hP : qr_P n f w τ) : qM_pairs τ = some (qp_sum (8 * n) (fun k => if qp_pl n f w (k / 8) (k % 8) = true then qp_sum (8 * n) (fun j => qb (!decide (j / 8 = k / 8) && (qp_pl n f w (j / 8) (j % 8) && qp_mt f (k / 8) (k % 8) (j / 8) (j % 8)))) else 0) / 2) := by
  have hn := hok.1
  refine ql_acc0 (L := qM_pairs_L4 τ) (fin := fun x => x / 2) (by omega) (fun k x => ?_) (fun k x q hq => ?_)
  · rw [qM_pairs_L4, h.1, qn_m8, if_pos (nI_le (Nat.le_refl _) (by omega))]
  · rw [qM_pairs_L4]
    have hpl := hP (q / 8) (by omega) (q % 8) (by omega)
    rw [show 8 * (q / 8) + q % 8 = q by omega] at hpl
    rw [h.1, qn_m8, if_neg (nI_ge hq (by omega)), qn_d8 (by omega), qn_r8' q (by omega), nI_1, qo_in (by omega) (by decide), nI_clamp (by omega), hpl, qM_meets_s hok h hP (show q / 8 < n by omega) (show q % 8 < 8 by omega), qob_bind]
    cases qp_pl n f w (q / 8) (q % 8) <;> simp [qb]
theorem qM_wants_s (hok : qv_ok n f w) (h : qr_M n f w sh τ) {p : Nat} (hp : p < n) : qM_wants τ (nI p) = some (qb (decide (sh p = -1) && qp_vis f w p)) := by
  have hn := hok.1
  obtain ⟨-, -, -, -, -, -, e⟩ := h.2.2 p hp
  unfold qM_wants
  rw [qn_a120, nI_clamp (by omega), e, qo_in (by omega) (by decide), qM_isVisible_s hok h hp, qob_bind]
  by_cases c : sh p = -1
  · cases qp_vis f w p <;> simp [c, qb]
  · simp [c, qb]
theorem qM_pointAt_s (hn : n ≤ 20) (h : qr_M n f w sh τ) (x y : Int32) : qM_pointAt τ x y = some (match qp_find (fun q => decide (f 0 q = x) && decide (f 1 q = y)) n 0 with | some p => nI p | none => -1) := by
  refine ql_first0 (L := qM_pointAt_L2 τ x y) (r := nI) (by omega) (fun k => ?_) (fun k q hq => ?_)
  · rw [qM_pointAt_L2, h.1, if_pos (nI_le (Nat.le_refl _) (by omega))]
  · obtain ⟨e0, e1, -⟩ := h.2.2 q hq
    rw [qM_pointAt_L2, h.1, if_neg (nI_ge hq (by omega)), qn_a0, qn_a20, qo_in (by omega) (by decide), qo_in (by omega) (by decide), nI_clamp (by omega), nI_clamp (by omega), e0, e1, nI_1]
    by_cases c1 : f 0 q = x
    · by_cases c2 : f 1 q = y <;> simp [c1, c2]
    · simp [c1]
end
