/-! labels given: fill, improve; what they mean, and the reference's way -/
def qp_want (f : Nat → Nat → Int32) (w sh : Nat → Int32) (p : Nat) : Bool := decide (sh p = -1) && qp_vis f w p
def qp_free (n : Nat) (f : Nat → Nat → Int32) (w sh : Nat → Int32) (p s : Nat) : Bool := qp_pl n f w p s && decide (qp_cnt n (qp_hit f sh p s) = 0)
def qp_fold (step : Nat → (Nat → Int32) → Option (Nat → Int32)) : List Nat → (Nat → Int32) → Int32 → (Nat → Int32) × Int32
  | [], sh, c => (sh, c)
  | p :: l, sh, c => qp_fold step l ((step p sh).getD sh) (c + qb (step p sh).isSome)
def qp_fillS (n : Nat) (f : Nat → Nat → Int32) (w : Nat → Int32) (p : Nat) (sh : Nat → Int32) : Option (Nat → Int32) := if qp_want f w sh p = true then (qp_find (qp_free n f w sh p) 8 0).map (fun s => upd sh p (nI s)) else none
/-- where the label of q could go, when p comes to s -/
def qp_esc (n : Nat) (f : Nat → Nat → Int32) (w sh : Nat → Int32) (q p s : Nat) : Option Nat := qp_find (fun t => qp_free n f w sh q t && !qp_mt f p s q t) 8 0
def qp_tryI (n : Nat) (f : Nat → Nat → Int32) (w sh : Nat → Int32) (p s : Nat) : Option (Nat → Int32) :=
  if qp_pl n f w p s = true then
    if qp_cnt n (qp_hit f sh p s) = 0 then some (upd sh p (nI s))
    else if qp_cnt n (qp_hit f sh p s) = 1 then
      match qp_find (qp_hit f sh p s) n 0 with
      | some q => (qp_esc n f w sh q p s).map (fun t => upd (upd sh q (nI t)) p (nI s))
      | none => none
    else none
  else none
/-- the first side that makes it -/
def qp_tryFrom (n : Nat) (f : Nat → Nat → Int32) (w sh : Nat → Int32) (p : Nat) : Nat → Nat → Option (Nat → Int32)
  | 0, _ => none
  | m + 1, s => match qp_tryI n f w sh p s with
    | some x => some x
    | none => qp_tryFrom n f w sh p m (s + 1)
def qp_impS (n : Nat) (f : Nat → Nat → Int32) (w : Nat → Int32) (p : Nat) (sh : Nat → Int32) : Option (Nat → Int32) := if qp_want f w sh p = true then qp_tryFrom n f w sh p 8 0 else none
theorem ql_fold {L : Nat → QS → Int32 → Int32 → Option (Int32 × QS)} {Inv : QS → (Nat → Int32) → Prop} {n : Nat} {ords : List Nat} {step : Nat → (Nat → Int32) → Option (Nat → Int32)} (hlen : ords.length = n) (hend : ∀ k τ sh x, Inv τ sh → L (k + 1) τ x (nI n) = some (x, τ))
    (hstep : ∀ k τ sh x i p, Inv τ sh → i < n → ords[i]? = some p → ∃ τ', Inv τ' ((step p sh).getD sh) ∧ L (k + 1) τ x (nI i) = L k τ' (x + qb (step p sh).isSome) (nI (i + 1))) :
    ∀ k i τ sh x, i ≤ n → n < k + i → Inv τ sh → ∃ τ', Inv τ' (qp_fold step (ords.drop i) sh x).1 ∧ L k τ x (nI i) = some ((qp_fold step (ords.drop i) sh x).2, τ') := by
  intro k
  induction k with
  | zero => intro i τ sh x h1 h2; omega
  | succ k ih =>
    intro i τ sh x h1 h2 hI
    rcases Nat.lt_or_ge i n with hi | hi
    · have hil : i < ords.length := by omega
      obtain ⟨τ1, hI1, e1⟩ := hstep k τ sh x i ords[i] hI hi (List.getElem?_eq_getElem hil)
      obtain ⟨τ2, hI2, e2⟩ := ih (i + 1) τ1 _ (x + qb (step ords[i] sh).isSome) hi (by omega) hI1
      rw [List.drop_eq_getElem_cons hil]
      exact ⟨τ2, hI2, by rw [e1]; exact e2⟩
    · have e : i = n := by omega
      subst e
      rw [List.drop_eq_nil_of_le (by omega)]
      exact ⟨τ, hI, hend k τ sh x hI⟩
theorem qp_mt_sym (f : Nat → Nat → Int32) (p s q t : Nat) : qp_mt f q t p s = qp_mt f p s q t := by
  unfold qp_mt
  cases decide (qp_lf f q t + f 2 q ≤ qp_lf f p s) <;> cases decide (qp_lf f p s + f 2 p ≤ qp_lf f q t) <;> cases decide (qp_bt f q t + f 3 q ≤ qp_bt f p s) <;> cases decide (qp_bt f p s + f 3 p ≤ qp_bt f q t) <;> rfl
theorem qp_cnt_zero {n : Nat} {c : Nat → Bool} (h : qp_cnt n c = 0) : ∀ i, i < n → c i = false := by
  induction n with
  | zero => intro i hi; omega
  | succ n ih =>
    intro i hi
    have h' : qp_cnt n c + (if c n = true then 1 else 0) = 0 := h
    rcases Nat.lt_or_ge i n with h1 | h1
    · exact ih (by omega) i h1
    · rw [show i = n by omega]
      cases hc : c n with
      | false => rfl
      | true => rw [hc] at h'; simp at h'
theorem qp_cnt_zero' {n : Nat} {c : Nat → Bool} (h : ∀ i, i < n → c i = false) : qp_cnt n c = 0 := by
  induction n with
  | zero => rfl
  | succ n ih =>
    show qp_cnt n c + (if c n = true then 1 else 0) = 0
    rw [ih (fun i hi => h i (by omega)), h n (by omega)]
    rfl
theorem qp_cnt_one {n : Nat} {c : Nat → Bool} (h : qp_cnt n c = 1) : ∃ q, q < n ∧ c q = true ∧ qp_find c n 0 = some q ∧ qp_last c n = nI q := by
  have hl : ∃ q, q < n ∧ c q = true ∧ (∀ i, i < n → c i = true → i = q) := by
    induction n with
    | zero => cases h
    | succ n ih =>
      have h' : qp_cnt n c + (if c n = true then 1 else 0) = 1 := h
      cases hc : c n with
      | true =>
        rw [hc] at h'
        have hz := qp_cnt_zero (n := n) (c := c) (by simpa using h')
        refine ⟨n, by omega, hc, fun i hi ht => ?_⟩
        rcases Nat.lt_or_ge i n with h1 | h1
        · rw [hz i h1] at ht; cases ht
        · omega
      | false =>
        rw [hc] at h'
        obtain ⟨q, h1, h2, h3⟩ := ih (by simpa using h')
        refine ⟨q, by omega, h2, fun i hi ht => ?_⟩
        rcases Nat.lt_or_ge i n with h4 | h4
        · exact h3 i h4 ht
        · rw [show i = n by omega, hc] at ht; cases ht
  obtain ⟨q, hq, hc, hu⟩ := hl
  refine ⟨q, hq, hc, ?_, ?_⟩
  · cases hf : qp_find c n 0 with
    | none => rw [qp_find_none n 0 hf q (by omega) (by omega)] at hc; cases hc
    | some r =>
      obtain ⟨h1, h2, h3, -⟩ := qp_find_some n 0 r hf
      rw [hu r (by omega) h3]
  · clear h
    induction n with
    | zero => omega
    | succ n ih =>
      unfold qp_last
      rcases Nat.lt_or_ge q n with h1 | h1
      · have hcn : ¬ c n = true := fun ht => by have := hu n (by omega) ht; omega
        rw [if_neg hcn]
        exact ih h1 (fun i hi ht => hu i (by omega) ht)
      · rw [show n = q by omega, if_pos hc]
section
variable {n : Nat} {f : Nat → Nat → Int32} {w sh : Nat → Int32} {τ σ : QS}
theorem nI_z (a : Nat) : (nI a ≤ 0) ↔ (nI a ≤ nI 0) := Iff.rfl
theorem nI_e0 {a : Nat} (h : a < 2 ^ 31) : (nI a = 0) ↔ a = 0 := nI_eq (b := 0) h (by decide)
theorem nI_e1 {a : Nat} (h : a < 2 ^ 31) : (nI a = 1) ↔ a = 1 := nI_eq (b := 1) h (by decide)
theorem qM_fill_i (hok : qv_ok n f w) (hat : qv_at n f w sh) (h : qr_M n f w sh τ) (hP : qr_P n f w τ) {p : Nat} (hp : p < n) (hw : qp_want f w sh p = true) (i x : Int32) (K : QS → Int32 → Int32 → Option (Int32 × QS)) : ∀ k s, s ≤ 8 → 8 < k + s →
    qM_fill_L30 i (nI p) K k τ x (nI s) = match qp_find (qp_free n f w sh p) (8 - s) s with | some t => K (qx_up τ 1 (120 + p) (nI t)) (x + 1) (i + 1) | none => K τ x (i + 1) := by
  have hn := hok.1
  intro k
  induction k with
  | zero => intro s h1 h2; omega
  | succ k ih =>
    intro s h1 h2
    rw [qM_fill_L30]
    rcases Nat.lt_or_ge s 8 with hs | hs
    · have hwt := qM_wants_s hok h hp
      rw [if_neg (qn_lt8 hs), hwt, qob_bind, show (decide (sh p = -1) && qp_vis f w p) = true from hw, if_neg (by decide), qn_8', qo_in (by omega) (by decide), nI_clamp (by omega), hP p hp s hs, qM_clashes_s hok hat.sh h hp hs, qob_bind, nI_1, qn_a120, nI_clamp (by omega), qo_in (by omega) (by decide), show 8 - s = (8 - (s + 1)) + 1 by omega]
      unfold qp_find
      cases hpl : qp_pl n f w p s with
      | false =>
        rw [if_pos qb_f, if_neg (by simp [qp_free, hpl])]
        exact ih (s + 1) hs (by omega)
      | true =>
        have hcl := qp_cnt_le n (qp_hit f sh p s)
        rw [if_neg (by decide)]
        by_cases c : qp_cnt n (qp_hit f sh p s) = 0
        · rw [if_pos ((nI_e0 (by omega)).mpr c), if_pos (by simp [qp_free, hpl, c])]
          obtain ⟨k', rfl⟩ : ∃ k', k = k' + 1 := ⟨k - 1, by omega⟩
          rw [qM_fill_L30]
          have h' := h.up hn (show p < 20 by omega) (nI s)
          have hwt' := qM_wants_s hok h' hp
          by_cases c2 : (8 : Int32) ≤ nI (s + 1)
          · rw [if_pos c2]
          · rw [if_neg c2, hwt', qob_bind, if_pos]
            rw [qb_0]
            have : ¬ upd sh p (nI s) p = -1 := by
              rw [show upd sh p (nI s) p = nI s from pk_us]
              exact nI_nm1 (by omega)
            simp [this]
        · rw [if_neg (fun e => c ((nI_e0 (by omega)).mp e)), if_neg (by simp [qp_free, c])]
          exact ih (s + 1) hs (by omega)
    · rw [show s = 8 by omega, if_pos (by decide)]
      rfl
/-- what a walk over the points in their order keeps -/
def qr_W (n : Nat) (f : Nat → Nat → Int32) (w : Nat → Int32) (τ0 τ : QS) (sh : Nat → Int32) : Prop := qs_only [1] τ0 τ ∧ qr_M n f w sh τ ∧ qr_P n f w τ ∧ qr_L τ 3 (qp_ords n f) ∧ qv_at n f w sh
theorem qr_W.up1 {τ0 : QS} (hn : n ≤ 20) (h : qr_W n f w τ0 τ sh) {p : Nat} (hp : p < n) (v : Int32) (hv : v = -1 ∨ ∃ s, s < 8 ∧ v = nI s ∧ qp_pl n f w p s = true) : qr_W n f w τ0 (qx_up τ 1 (120 + p) v) (upd sh p v) := by
  obtain ⟨h1, h2, h3, h4, h5⟩ := h
  have ho : qs_only [1] τ (qx_up τ 1 (120 + p) v) := qs_only.up (S := [1]) (by decide) qs_only.rf
  exact ⟨h1.tr ho, h2.up hn (by omega) v, h3.off ho (by decide), fun i q hq => by rw [ho.1 3 (by decide)]; exact h4 i q hq, h5.up p v hv⟩
theorem qp_ords_lt {i p : Nat} (h : (qp_ords n f)[i]? = some p) : p < n := qp_oo_mem (List.mem_of_getElem? h)
theorem qM_fill_s (hok : qv_ok n f w) (hat : qv_at n f w sh) (h : qr_M n f w sh τ) : ∃ τ', qM_fill τ = some ((qp_fold (qp_fillS n f w) (qp_ords n f) sh 0).2, τ') ∧ qs_only [1, 2, 3] τ τ' ∧ qr_M n f w (qp_fold (qp_fillS n f w) (qp_ords n f) sh 0).1 τ' ∧ qv_at n f w (qp_fold (qp_fillS n f w) (qp_ords n f) sh 0).1 := by
  have hn := hok.1
  have hlen := qp_ords_len n (fun p hp => (hok.2.1 p hp).2.2.2.2.1)
  obtain ⟨τ1, e1, o1, P1⟩ := qM_findsAll_s hok h
  obtain ⟨τ2, e2, o2, L2⟩ := qM_orders_s hok (h.off o1 (by decide) (by decide))
  have h2 := (h.off o1 (by decide) (by decide)).off o2 (by decide) (by decide)
  obtain ⟨τ3, I3, e3⟩ := ql_fold (L := qM_fill_L12) (Inv := qr_W n f w τ2) (step := qp_fillS n f w) hlen
    (fun k τ sh x hI => by
      rw [qM_fill_L12, hI.2.1.1, if_pos (nI_le (Nat.le_refl _) (by omega))])
    (fun k τ sh x i p hI hi hp => by
      have hpn := qp_ords_lt hp
      rw [qM_fill_L12, hI.2.1.1, if_neg (nI_ge hi (by omega)), qo_in (by omega) (by decide), nI_clamp (by omega), hI.2.2.2.1 i p hp]
      unfold qp_fillS
      cases hw : qp_want f w sh p with
      | false =>
        rw [qF_big, qM_fill_L30, if_neg (by decide), qM_wants_s hok hI.2.1 hpn, qob_bind, show (decide (sh p = -1) && qp_vis f w p) = false from hw, if_pos qb_f, nI_1]
        exact ⟨τ, hI, by rw [if_neg (by decide)]; show _ = qM_fill_L12 k τ (x + 0) _; rw [Int32.add_zero]⟩
      | true =>
        have hi' := qM_fill_i hok hI.2.2.2.2 hI.2.1 hI.2.2.1 hpn hw (nI i) x (qM_fill_L12 k) qx_F 0 (by omega) (by rw [qF_big]; omega)
        rw [show (0 : Int32) = nI 0 from rfl, hi', if_pos rfl]
        cases hf : qp_find (qp_free n f w sh p) (8 - 0) 0 with
        | none =>
          rw [nI_1]
          exact ⟨τ, hI, by show _ = qM_fill_L12 k τ (x + 0) _; rw [Int32.add_zero]⟩
        | some t =>
          obtain ⟨-, ht, hc, -⟩ := qp_find_some _ _ _ hf
          rw [nI_1]
          exact ⟨_, hI.up1 hn hpn (nI t) (Or.inr ⟨t, by omega, rfl, by simp [qp_free] at hc; exact hc.1⟩), rfl⟩)
    qx_F 0 τ2 sh 0 (Nat.zero_le _) (by rw [qF_big]; omega) ⟨qs_only.rf, h2, P1.off o2 (by decide), L2, hat⟩
  refine ⟨τ3, ?_, ((o1.wide (by decide)).tr (o2.wide (by decide))).tr (I3.1.wide (by decide)), I3.2.1, I3.2.2.2.2⟩
  unfold qM_fill
  rw [e1, qob_bind, e2, qob_bind, show qM_fill_L12 qx_F τ2 0 0 = qM_fill_L12 qx_F τ2 0 (nI 0) from rfl, e3]
  rfl
end
