/-! push: what it means, that it ends, and the reference's way -/
def qp_strong (n : Nat) (f : Nat → Nat → Int32) (sh : Nat → Int32) (p s : Nat) : Bool := decide (qp_cnt n (fun q => qp_hit f sh p s q && decide (f 4 p ≤ f 4 q)) = 0)
def qp_str (n : Nat) (f : Nat → Nat → Int32) (w sh : Nat → Int32) (p : Nat) : Option Nat := if qp_want f w sh p = true then qp_find (fun s => qp_pl n f w p s && qp_strong n f sh p s) 8 0 else none
def qp_shove (f : Nat → Nat → Int32) (sh : Nat → Int32) (p s : Nat) : Nat → Int32 := upd (fun q => if qp_hit f sh p s q = true then -1 else sh q) p (nI s)
def qp_push1 (n : Nat) (f : Nat → Nat → Int32) (w sh : Nat → Int32) : List Nat → Option (Nat → Int32)
  | [] => none
  | p :: l => match qp_str n f w sh p with
    | some s => some (qp_shove f sh p s)
    | none => qp_push1 n f w sh l
/-- at most m pushes -/
def qp_pu (n : Nat) (f : Nat → Nat → Int32) (w : Nat → Int32) : Nat → (Nat → Int32) → Int32 → (Nat → Int32) × Int32
  | 0, sh, c => (sh, c)
  | m + 1, sh, c => match qp_push1 n f w sh (qp_ords n f) with
    | some sh' => qp_pu n f w m sh' (c + 1)
    | none => (sh, c)
section
variable {n : Nat} {f : Nat → Nat → Int32} {w sh : Nat → Int32} {τ σ : QS}
-- the order goes down in priority
theorem qp_oo_ge {j p : Nat} (h : p ∈ qp_oo n f j) (hj : j ≤ 9) : 10 - (j : Int) ≤ (f 4 p).toInt := by
  induction j with
  | zero => cases h
  | succ j ih =>
    rcases List.mem_append.mp h with h | h
    · have := ih h (by omega); omega
    · rw [(qp_oi_mem h).2, nI_toInt (by omega)]; omega
theorem qp_oo_sorted : ∀ j : Nat, j ≤ 9 → ∀ a b p q : Nat, a ≤ b → (qp_oo n f j)[a]? = some p → (qp_oo n f j)[b]? = some q → (f 4 q).toInt ≤ (f 4 p).toInt := by
  intro j
  induction j with
  | zero => intro _ a b p q _ h; cases h
  | succ j ih =>
    intro hj a b p q hab hp hq
    have hp' : (qp_oo n f j ++ qp_oi f (9 - j) n)[a]? = some p := hp
    have hq' : (qp_oo n f j ++ qp_oi f (9 - j) n)[b]? = some q := hq
    rcases Nat.lt_or_ge b (qp_oo n f j).length with h1 | h1
    · rw [List.getElem?_append_left (by omega)] at hp' hq'
      exact ih (by omega) a b p q hab hp' hq'
    · rw [List.getElem?_append_right h1] at hq'
      have eq := (qp_oi_mem (List.mem_of_getElem? hq')).2
      have eqi : (f 4 q).toInt = 9 - j := by rw [eq, nI_toInt (by omega)]; omega
      rcases Nat.lt_or_ge a (qp_oo n f j).length with h2 | h2
      · rw [List.getElem?_append_left h2] at hp'
        have := qp_oo_ge (List.mem_of_getElem? hp') (by omega)
        omega
      · rw [List.getElem?_append_right h2] at hp'
        have ep := (qp_oi_mem (List.mem_of_getElem? hp')).2
        rw [ep, eq]
        exact Int.le_refl _
theorem qp_push1_some : ∀ (l : List Nat) x, qp_push1 n f w sh l = some x → ∃ i p s : Nat, l[i]? = some p ∧ qp_str n f w sh p = some s ∧ x = qp_shove f sh p s ∧ ∀ j q : Nat, j < i → l[j]? = some q → qp_str n f w sh q = none := by
  intro l
  induction l with
  | nil => intro x h; cases h
  | cons p l ih =>
    intro x h
    unfold qp_push1 at h
    cases hs : qp_str n f w sh p with
    | some s =>
      rw [hs] at h
      cases h
      exact ⟨0, p, s, rfl, hs, rfl, fun j q hj => by omega⟩
    | none =>
      rw [hs] at h
      obtain ⟨i, p', s, h1, h2, h3, h4⟩ := ih x h
      refine ⟨i + 1, p', s, h1, h2, h3, fun j q hj hq => ?_⟩
      cases j with
      | zero => cases hq; exact hs
      | succ j => exact h4 j q (by omega) hq
theorem qp_push1_none : ∀ (l : List Nat), (∀ p, p ∈ l → qp_str n f w sh p = none) → qp_push1 n f w sh l = none := by
  intro l
  induction l with
  | nil => intro _; rfl
  | cons p l ih =>
    intro h
    unfold qp_push1
    rw [h p List.mem_cons_self]
    exact ih (fun q hq => h q (List.mem_cons_of_mem _ hq))
theorem qp_str_some {p s : Nat} (h : qp_str n f w sh p = some s) : s < 8 ∧ sh p = -1 ∧ qp_vis f w p = true ∧ qp_pl n f w p s = true ∧ qp_strong n f sh p s = true := by
  unfold qp_str at h
  split at h
  · rename_i hw
    obtain ⟨-, h2, h3, -⟩ := qp_find_some _ _ _ h
    simp [qp_want] at hw
    simp at h3
    exact ⟨by omega, hw.1, hw.2, h3.1, h3.2⟩
  · cases h
/-- who couldn't push, and isn't less important, can't push behind a push -/
theorem qp_str_stays {p q s : Nat} (hp : p < n) (hq : q < n) (h : qp_str n f w sh p = some s) (hpq : (f 4 p).toInt ≤ (f 4 q).toInt) (hn : qp_str n f w sh q = none) : qp_str n f w (qp_shove f sh p s) q = none := by
  obtain ⟨hs, hp1, -, hpl, hst⟩ := qp_str_some h
  have hz := qp_cnt_zero (of_decide_eq_true hst)
  -- what was hit is less important
  have low : ∀ r, r < n → qp_hit f sh p s r = true → (f 4 r).toInt < (f 4 p).toInt := by
    intro r hr hh
    have := hz r hr
    rw [hh] at this
    simp [qi_le] at this
    omega
  have keep : ∀ r, r < n → ¬ r = p → ¬ (f 4 r).toInt < (f 4 p).toInt → qp_shove f sh p s r = sh r := by
    intro r hr h1 h2
    unfold qp_shove upd
    rw [if_neg h1]
    show (if qp_hit f sh p s r = true then -1 else sh r) = sh r
    rw [if_neg]
    intro hh
    exact h2 (low r hr hh)
  unfold qp_str
  by_cases hqp : q = p
  · rw [if_neg]
    subst hqp
    have : ¬ qp_shove f sh q s q = -1 := by
      unfold qp_shove
      rw [pk_us]
      exact nI_nm1 (by omega)
    simp [qp_want, this]
  · have ek := keep q hq hqp (by omega)
    by_cases hw : qp_want f w sh q = true
    · have hw' : qp_want f w (qp_shove f sh p s) q = true := by unfold qp_want at hw ⊢; rw [ek]; exact hw
      rw [if_pos hw']
      unfold qp_str at hn
      rw [if_pos hw] at hn
      cases hf : qp_find (fun s_1 => qp_pl n f w q s_1 && qp_strong n f (qp_shove f sh p s) q s_1) 8 0 with
      | none => rfl
      | some t =>
        exfalso
        obtain ⟨-, ht, hc, -⟩ := qp_find_some _ _ _ hf
        have hno := qp_find_none _ _ hn t (by omega) (by omega)
        simp at hc hno
        have hz2 := qp_cnt_zero (of_decide_eq_true hc.2)
        have hno2 := hno hc.1
        apply (show ¬ qp_strong n f sh q t = true by rw [hno2]; decide)
        unfold qp_strong
        apply decide_eq_true
        apply qp_cnt_zero'
        intro r hr
        have h3 := hz2 r hr
        cases hhit : qp_hit f sh q t r with
        | false => simp
        | true =>
          by_cases hle : f 4 q ≤ f 4 r
          · exfalso
            have hrp : ¬ r = p := by
              intro e
              subst e
              simp [qp_hit, hp1] at hhit
            have hle' := (qi_le _ _).mp hle
            have er := keep r hr hrp (by omega)
            have : qp_hit f (qp_shove f sh p s) q t r = true := by unfold qp_hit at hhit ⊢; rw [er]; exact hhit
            rw [this] at h3
            simp at h3
            exact absurd hle (by rw [qi_le, qi_lt] at *; omega)
          · simp [hle]
    · have hw' : ¬ qp_want f w (qp_shove f sh p s) q = true := by unfold qp_want at hw ⊢; rw [ek]; exact hw
      rw [if_neg hw']
/-- with the first i points of the order unable to push, n - i pushes are enough -/
theorem qp_pu_ends (hlen : (qp_ords n f).length = n) : ∀ (m i : Nat) (sh : Nat → Int32) (c : Int32), n ≤ m + i → (∀ j q : Nat, j < i → (qp_ords n f)[j]? = some q → qp_str n f w sh q = none) → qp_push1 n f w (qp_pu n f w m sh c).1 (qp_ords n f) = none := by
  intro m
  induction m with
  | zero =>
    intro i sh c hi h
    apply qp_push1_none
    intro p hp
    obtain ⟨j, hj⟩ := List.getElem?_of_mem hp
    have hjl : j < n := by
      rw [← hlen]
      exact (List.getElem?_eq_some_iff.mp hj).1
    exact h j p (by omega) hj
  | succ m ih =>
    intro i sh c hi h
    unfold qp_pu
    cases hx : qp_push1 n f w sh (qp_ords n f) with
    | none => exact hx
    | some x =>
      obtain ⟨i0, p, s, h1, h2, rfl, h4⟩ := qp_push1_some _ _ hx
      have hi0 : i ≤ i0 := by
        rcases Nat.lt_or_ge i0 i with h5 | h5
        · rw [h i0 p h5 h1] at h2; cases h2
        · exact h5
      refine ih (i0 + 1) _ _ (by omega) (fun j q hj hq => ?_)
      have hqn := qp_oo_mem (List.mem_of_getElem? hq)
      have hpn := qp_oo_mem (List.mem_of_getElem? h1)
      by_cases hji : j = i0
      · subst hji
        rw [h1] at hq
        cases hq
        unfold qp_str
        rw [if_neg]
        have : ¬ qp_shove f sh p s p = -1 := by
          unfold qp_shove
          rw [pk_us]
          exact nI_nm1 (by have := (qp_str_some h2).1; omega)
        simp [qp_want, this]
      · exact qp_str_stays hpn hqn h2 (qp_oo_sorted 9 (Nat.le_refl _) j i0 q p (by omega) hq h1) (h4 j q (by omega) hq)
theorem qp_shove_at (hat : qv_at n f w sh) {p s : Nat} (hs : s < 8) (hpl : qp_pl n f w p s = true) : qv_at n f w (qp_shove f sh p s) := by
  unfold qp_shove
  refine qv_at.up (fun q hq => ?_) p (nI s) (Or.inr ⟨s, hs, rfl, hpl⟩)
  by_cases hh : qp_hit f sh p s q = true
  · exact Or.inl (by simp [hh])
  · simpa [hh] using hat q hq
-- the reference
theorem qM_isStronger_J (K : Int32 → Int32 → Option Int32) (hn : n ≤ 20) (h : qr_M n f w sh τ) {p q : Nat} (hp : p < n) (hq : q < n) (x2 : Int32) (b : Bool) : qM_isStronger_J74 τ K (nI p) x2 (nI q) (qb b) = K (qb (!(b && decide (f 4 p ≤ f 4 q)))) (nI (q + 1)) := by
  have e1 := (h.2.2 p hp).2.2.2.2.1
  have e2 := (h.2.2 q hq).2.2.2.2.1
  unfold qM_isStronger_J74
  rw [qn_a80, qn_a80, nI_clamp (by omega), nI_clamp (by omega), e1, e2, qo_in (by omega) (by decide), qo_in (by omega) (by decide), nI_1]
  cases b with
  | false => rw [if_pos qb_f]; rfl
  | true =>
    rw [if_neg (by decide)]
    by_cases c : f 4 p ≤ f 4 q
    · rw [if_pos c]; simp [c, qb]
    · rw [if_neg c]; simp [c, qb]
theorem qM_isStronger_L (hok : qv_ok n f w) (hsh : qv_sh n sh) (h : qr_M n f w sh τ) {p s : Nat} (hp : p < n) (hs : s < 8) : ∀ k q b, q ≤ n → n < k + q → b = decide (qp_cnt q (fun q => qp_hit f sh p s q && decide (f 4 p ≤ f 4 q)) = 0) →
    qM_isStronger_L15 τ (nI p) (nI s) k (qb b) (nI q) = some (qb (qp_strong n f sh p s)) := by
  have hn := hok.1
  intro k
  induction k with
  | zero => intro q b h1 h2; omega
  | succ k ih =>
    intro q b h1 h2 hb
    rw [qM_isStronger_L15, h.1]
    rcases Nat.lt_or_ge q n with hq | hq
    · have e6 := (h.2.2 q hq).2.2.2.2.2.2
      rw [if_neg (nI_ge hq (by omega))]
      cases b with
      | false =>
        have hm := qp_cnt_mono (fun q => qp_hit f sh p s q && decide (f 4 p ≤ f 4 q)) h1
        have h0 := of_decide_eq_false hb.symm
        rw [if_pos qb_f, qb_and1]
        unfold qp_strong
        rw [decide_eq_false (by omega)]
      | true =>
        have h0 := of_decide_eq_true hb.symm
        have go : ∀ b', b' = qp_hit f sh p s q → qM_isStronger_J74 τ (qM_isStronger_L15 τ (nI p) (nI s) k) (nI p) (nI s) (nI q) (qb b') = some (qb (qp_strong n f sh p s)) := by
          intro b' hb'
          rw [qM_isStronger_J _ hn h hp hq]
          refine ih (q + 1) _ hq (by omega) ?_
          show _ = decide (qp_cnt q _ + (if (qp_hit f sh p s q && decide (f 4 p ≤ f 4 q)) = true then 1 else 0) = 0)
          rw [h0, hb']
          cases qp_hit f sh p s q <;> cases decide (f 4 p ≤ f 4 q) <;> rfl
        have z0 : (0 : Int32) = qb false := rfl
        have z1 : (1 : Int32) = qb true := rfl
        rw [if_neg (by decide), qn_a120, nI_clamp (by omega), e6, qo_in (by omega) (by decide), qo_in (by omega) (by decide)]
        by_cases c1 : q = p
        · rw [if_pos (by rw [c1])]
          exact go false (by simp [qp_hit, c1])
        · rw [if_neg (nI_neq (by omega) (by omega) c1)]
          by_cases c2 : sh q = -1
          · rw [if_pos c2]
            exact go false (by simp [qp_hit, c2])
          · obtain ⟨ht, e2⟩ := qv_shN hsh hq c2
            have hm := qM_meet_s hn h hp hs hq ht
            rw [← e2] at hm
            rw [if_neg c2, hm, qob_bind]
            cases hmt : qp_mt f p s q (sh q).toNatClampNeg with
            | false => rw [if_pos qb_f]; exact go false (by simp [qp_hit, hmt])
            | true => rw [if_neg (by decide)]; exact go true (by simp [qp_hit, hmt, c1, c2])
    · have e : q = n := by omega
      subst e
      rw [if_pos (nI_le (Nat.le_refl _) (by omega)), qb_and1, hb]
      rfl
theorem qM_isStronger_s (hok : qv_ok n f w) (hsh : qv_sh n sh) (h : qr_M n f w sh τ) (hP : qr_P n f w τ) {p s : Nat} (hp : p < n) (hs : s < 8) : qM_isStronger τ (nI p) (nI s) = some (qb (qp_pl n f w p s && qp_strong n f sh p s)) := by
  have hn := hok.1
  unfold qM_isStronger
  rw [qn_8', qo_in (by omega) (by decide), nI_clamp (by omega), hP p hp s hs]
  cases hpl : qp_pl n f w p s with
  | false =>
    rw [qF_big, qM_isStronger_L15]
    by_cases c : τ.1 0 1 ≤ 0
    · rw [if_pos c]; rfl
    · rw [if_neg c, if_pos qb_f]; rfl
  | true => exact qM_isStronger_L hok hsh h hp hs qx_F 0 true (Nat.zero_le _) (by rw [qF_big]; omega) rfl
theorem qM_strongest_s (hok : qv_ok n f w) (hsh : qv_sh n sh) (h : qr_M n f w sh τ) (hP : qr_P n f w τ) {p : Nat} (hp : p < n) : qM_strongest τ (nI p) = some (match qp_str n f w sh p with | some s => nI s | none => -1) := by
  have hn := hok.1
  have key : qM_strongest τ (nI p) = some (match qp_find (fun s => qp_want f w sh p && (qp_pl n f w p s && qp_strong n f sh p s)) 8 0 with | some s => nI s | none => -1) := by
    refine ql_first0 (L := qM_strongest_L2 τ (nI p)) (r := nI) (by omega) (fun k => ?_) (fun k s hs => ?_)
    · rw [qM_strongest_L2, if_pos (by decide)]
    · rw [qM_strongest_L2, if_neg (qn_lt8 hs), qM_wants_s hok h hp, qob_bind, qM_isStronger_s hok hsh h hP hp hs, qob_bind, nI_1]
      show (if qb (qp_want f w sh p) = 0 then _ else _) = _
      cases qp_want f w sh p with
      | false => rw [if_pos qb_f]; rfl
      | true =>
        rw [if_neg (by decide)]
        cases qp_pl n f w p s && qp_strong n f sh p s with
        | false => rw [if_pos qb_f]; rfl
        | true => rw [if_neg (by decide)]; rfl
  rw [key]
  unfold qp_str
  cases qp_want f w sh p with
  | true => rw [if_pos rfl]; simp only [Bool.true_and]
  | false =>
    rw [if_neg (by decide)]
    simp only [Bool.false_and]
    rfl
end
