/-! places and clashes side by side -/
theorem qp_sum_app (a b : Nat) (g : Nat → Int32) : qp_sum (a + b) g = qp_sum a g + qp_sum b (fun s => g (a + s)) := by
  induction b with
  | zero => show qp_sum a g = qp_sum a g + 0; rw [Int32.add_zero]
  | succ b ih =>
    show qp_sum (a + b) g + g (a + b) = qp_sum a g + (qp_sum b _ + g (a + b))
    rw [ih, Int32.add_assoc]
theorem qp_sum_flat (n : Nat) (g : Nat → Int32) : qp_sum (8 * n) g = qp_sum n (fun p => qp_sum 8 (fun s => g (8 * p + s))) := by
  induction n with
  | zero => rfl
  | succ n ih =>
    rw [show 8 * (n + 1) = 8 * n + 8 by omega, qp_sum_app, ih]
    rfl
theorem qp_sum_zero {n : Nat} {g : Nat → Int32} (h : ∀ i, i < n → g i = 0) : qp_sum n g = 0 := by
  induction n with
  | zero => rfl
  | succ n ih =>
    show qp_sum n g + g n = 0
    rw [ih (fun i hi => h i (by omega)), h n (by omega), Int32.add_zero]
def qp_ns : Nat → (Nat → Nat) → Nat
  | 0, _ => 0
  | n + 1, g => qp_ns n g + g n
theorem qp_ns_congr {n : Nat} {f g : Nat → Nat} (h : ∀ i, i < n → f i = g i) : qp_ns n f = qp_ns n g := by
  induction n with
  | zero => rfl
  | succ n ih =>
    show qp_ns n f + _ = qp_ns n g + _
    rw [ih (fun i hi => h i (by omega)), h n (by omega)]
theorem qp_sum_ns (n : Nat) (g : Nat → Nat) : qp_sum n (fun i => nI (g i)) = nI (qp_ns n g) := by
  induction n with
  | zero => rfl
  | succ n ih =>
    show qp_sum n _ + nI (g n) = nI (qp_ns n g + g n)
    rw [ih, nI_add]
theorem qp_ns_add (n : Nat) (f g : Nat → Nat) : qp_ns n (fun i => f i + g i) = qp_ns n f + qp_ns n g := by
  induction n with
  | zero => rfl
  | succ n ih =>
    show qp_ns n _ + (f n + g n) = (qp_ns n f + f n) + (qp_ns n g + g n)
    rw [ih]; omega
theorem qp_ns_le {n b : Nat} {g : Nat → Nat} (h : ∀ i, i < n → g i ≤ b) : qp_ns n g ≤ n * b := by
  induction n with
  | zero => exact Nat.zero_le _
  | succ n ih =>
    have h1 := ih (fun i hi => h i (by omega))
    have h2 := h n (by omega)
    show qp_ns n g + g n ≤ (n + 1) * b
    rw [Nat.succ_mul]
    omega
/-- a symmetric table without a diagonal is twice its half -/
theorem qp_ns_sym (m : Nat → Nat → Nat) (hs : ∀ i j, m i j = m j i) (hd : ∀ i, m i i = 0) : ∀ n, qp_ns n (fun k => qp_ns n (m k)) = 2 * qp_ns n (fun k => qp_ns k (m k)) := by
  intro n
  induction n with
  | zero => rfl
  | succ n ih =>
    have e1 : qp_ns (n + 1) (fun k => qp_ns (n + 1) (m k)) = qp_ns n (fun k => qp_ns n (m k) + m k n) + (qp_ns n (m n) + m n n) := rfl
    have e2 : qp_ns (n + 1) (fun k => qp_ns k (m k)) = qp_ns n (fun k => qp_ns k (m k)) + qp_ns n (m n) := rfl
    rw [e1, e2, qp_ns_add, ih, hd, qp_ns_congr (f := fun k => m k n) (g := m n) (fun i _ => hs i n)]
    omega
theorem qp_ns_tail {a b : Nat} {g : Nat → Nat} (hab : a ≤ b) (h : ∀ i, a ≤ i → i < b → g i = 0) : qp_ns b g = qp_ns a g := by
  induction b with
  | zero => rw [show a = 0 by omega]
  | succ b ih =>
    rcases Nat.lt_or_ge b a with h1 | h1
    · rw [show a = b + 1 by omega]
    · show qp_ns b g + g b = _
      rw [ih h1 (fun i h2 h3 => h i h2 (by omega)), h b h1 (by omega), Nat.add_zero]
theorem ql_accK {α : Type} {L : Nat → Int32 → Int32 → Option α} {N : Nat} {g : Nat → Int32} {K : Int32 → Option α} (hN : N < 10000) (hend : ∀ k x, L (k + 1) x (nI N) = K x) (hstep : ∀ k x q, q < N → L (k + 1) x (nI q) = L k (x + g q) (nI (q + 1))) (x : Int32) : L qx_F x 0 = K (x + qp_sum N g) := by
  have key : ∀ k q, q ≤ N → N < k + q → L k (x + qp_sum q g) (nI q) = K (x + qp_sum N g) := by
    intro k
    induction k with
    | zero => intro q h1 h2; omega
    | succ k ih =>
      intro q h1 h2
      rcases Nat.lt_or_ge q N with hq | hq
      · rw [hstep k _ q hq, Int32.add_assoc]
        exact ih (q + 1) hq (by omega)
      · rw [show q = N by omega]
        exact hend k _
  have := key qx_F 0 (Nat.zero_le _) (by rw [qF_big]; omega)
  rw [show x + qp_sum 0 g = x from Int32.add_zero x] at this
  exact this
section
variable {n : Nat} {f : Nat → Nat → Int32} {w sh : Nat → Int32} {τ σ σ0 : QS}
theorem qPl_clashesBefore_s (hn : n ≤ 20) (hK : qr_K n f w σ) {p s e : Nat} (hp : p < n) (hs : s < 8) (he : e ≤ n) : qPl_clashesBefore σ (nI p) (nI s) (nI e) = some (qp_sum e (fun q => qp_sum 8 (fun t => qb (!decide (p = q) && (qp_pl n f w p s && (qp_pl n f w q t && qp_mt f p s q t)))))) := by
  refine ql_acc0 (L := qPl_clashesBefore_L6 σ (nI p) (nI s) (nI e)) (fin := id) (by omega) (fun k x => ?_) (fun k x q hq => ?_)
  · rw [qPl_clashesBefore_L6, if_pos (nI_le (Nat.le_refl _) (by omega))]; rfl
  · rw [qPl_clashesBefore_L6, if_neg (nI_ge hq (by omega))]
    refine ql_accK (L := qPl_clashesBefore_L15 σ (nI p) (nI s) (nI e) (nI q) (qPl_clashesBefore_L6 σ (nI p) (nI s) (nI e) k)) (K := fun x => qPl_clashesBefore_L6 σ (nI p) (nI s) (nI e) k x (nI (q + 1))) (by omega) (fun k' x' => ?_) (fun k' x' t ht => ?_) x
    · rw [qPl_clashesBefore_L15, if_pos (by decide), nI_1]
    · rw [qPl_clashesBefore_L15, if_neg (qn_lt8 ht), qPl_doClash_s hn hK hp hs (by omega) ht, qob_bind, nI_1]
      cases (!decide (p = q) && (qp_pl n f w p s && (qp_pl n f w q t && qp_mt f p s q t))) <;> simp [qb]
theorem qPl_clashesOf_s (hn : n ≤ 20) (hC : qr_C n f w sh σ) (hK : qr_K n f w σ) {p s : Nat} (hp : p < n) (hs : s < 8) : qPl_clashesOf σ (nI p) (nI s) = some (if qp_pl n f w p s = true then qp_sum (8 * n) (fun k => qb (!decide (k / 8 = p) && (qp_pl n f w (k / 8) (k % 8) && qp_mt f p s (k / 8) (k % 8)))) else 0) := by
  unfold qPl_clashesOf
  rw [qPl_isPlace_s hn hK hp hs, qob_bind, hC.1, qPl_clashesBefore_s hn hK hp hs (Nat.le_refl n), qob_bind]
  cases hpl : qp_pl n f w p s with
  | false => rfl
  | true =>
    rw [if_neg qb_ne, if_pos rfl, qp_sum_flat]
    refine congrArg some (qp_sum_congr (fun q hq => qp_sum_congr (fun t ht => ?_)))
    rw [show (8 * q + t) / 8 = q by omega, show (8 * q + t) % 8 = t by omega, Bool.true_and]
    by_cases c : p = q
    · subst c; simp
    · have c' : ¬ q = p := fun e => c e.symm
      simp [c, c']
theorem qLP_place_s (hok : qv_ok n f w) (hat : qv_at n f w sh) (hC : qr_C n f w sh σ) (hK : qr_K n f w σ) {p s x : Nat} (hp : p < n) (hs : s < 8) (hx : x < 5) : qLP_place σ (nI p) (nI s) (nI x) = some (qp_ppart n f w sh p s x) := by
  have hn := hok.1
  have hh : qp_has n (nI p) = true := by simp [qp_has, nI_toInt (show p < 2 ^ 31 by omega), hp]
  have hh2 : qp_has 8 (nI s) = true := by simp [qp_has, nI_toInt (show s < 2 ^ 31 by omega)]; omega
  have hx' : x = 0 ∨ x = 1 ∨ x = 2 ∨ x = 3 ∨ x = 4 := by omega
  unfold qLP_place qp_ppart
  rw [qPt_has_s hn hC.1, qob_bind, hh, if_neg qb_ne, qLP_isSide_s, qob_bind, hh2, if_neg qb_ne]
  rcases hx' with rfl | rfl | rfl | rfl | rfl
  · rw [if_pos (by decide), qPl_isPlace_s hn hK hp hs, qob_bind]
    cases qp_pl n f w p s <;> rfl
  · rw [if_neg (by decide), if_pos (by decide), qPl_leftOf_s hn hK hp hs]; rfl
  · rw [if_neg (by decide), if_neg (by decide), if_pos (by decide), qPl_bottomOf_s hn hK hp hs]; rfl
  · rw [if_neg (by decide), if_neg (by decide), if_neg (by decide), if_pos (by decide), qPl_clashesOf_s hn hC hK hp hs]
    cases qp_pl n f w p s <;> rfl
  · rw [if_neg (by decide), if_neg (by decide), if_neg (by decide), if_neg (by decide), if_pos (by decide), qLb_clashing_s hn hat hC hK hp hs]
    cases hpl : qp_pl n f w p s with
    | false =>
      simp only [Bool.false_and]
      rw [show qp_cnt n (fun q => false) = 0 from qp_cnt_zero' (fun _ _ => rfl)]
      rfl
    | true =>
      simp only [Bool.true_and]
      rfl
theorem qO_place (h : qR σ τ) (x y z : Int32) : ∃ r τ', qLP_place σ x y z = some r ∧ qM_place τ x y z = some (r, τ') ∧ qR σ τ' := by
  have h0 := h
  obtain ⟨n, f, w, sh, hok, hat, ⟨hC, hK⟩, hM, hx⟩ := h
  have hn := hok.1
  unfold qM_place
  rw [qM_isPoint_s hn hM.1, qob_bind, qM_isSide_s, qob_bind, qM_in_r z 0 4 0 4 (by decide) (by decide), qob_bind, show (4 : Int) = ((4 : Nat) : Int) from rfl, qp_rng_has]
  cases hp : qp_has n x with
  | false =>
    rw [if_pos qb_f]
    refine ⟨-2, τ, ?_, rfl, h0⟩
    unfold qLP_place
    rw [qPt_has_s hn hC.1, qob_bind, hp, if_pos qb_f]
  | true =>
    obtain ⟨p, hpn, rfl⟩ := qp_hasE hp
    rw [if_neg qb_ne]
    cases hy : qp_has 8 y with
    | false =>
      rw [if_pos qb_f]
      refine ⟨-2, τ, ?_, rfl, h0⟩
      unfold qLP_place
      rw [qPt_has_s hn hC.1, qob_bind, hp, if_neg qb_ne, qLP_isSide_s, qob_bind, hy, if_pos qb_f]
    | true =>
      obtain ⟨s, hs, rfl⟩ := qp_hasE hy
      rw [if_neg qb_ne]
      cases hz : qp_has (4 + 1) z with
      | false =>
        rw [if_pos qb_f]
        refine ⟨-2, τ, ?_, rfl, h0⟩
        have ne := fun j hj => qp_hasN hz j hj (by omega)
        unfold qLP_place
        rw [qPt_has_s hn hC.1, qob_bind, hp, if_neg qb_ne, qLP_isSide_s, qob_bind, hy, if_neg qb_ne, if_neg (show ¬ z = 0 from ne 0 (by omega)), if_neg (show ¬ z = 1 from ne 1 (by omega)), if_neg (show ¬ z = 2 from ne 2 (by omega)), if_neg (show ¬ z = 3 from ne 3 (by omega)), if_neg (show ¬ z = 4 from ne 4 (by omega))]
      | true =>
        obtain ⟨v, hv, rfl⟩ := qp_hasE hz
        obtain ⟨τ1, e1, M1, P1, o1, R1⟩ := qR_finds hok hat hC hK hM hx
        rw [if_neg qb_ne, e1, qob_bind, qM_placePart_s hok hat.sh M1 P1 hpn hs (by omega), qob_bind]
        exact ⟨_, τ1, qLP_place_s hok hat hC hK hpn hs (by omega), rfl, R1⟩
theorem qO_clash (h : qR σ τ) (x y z u : Int32) : ∃ r τ', qLP_clash σ x y z u = some r ∧ qM_clash τ x y z u = some (r, τ') ∧ qR σ τ' := by
  have h0 := h
  obtain ⟨n, f, w, sh, hok, hat, ⟨hC, hK⟩, hM, hx⟩ := h
  have hn := hok.1
  unfold qLP_clash qM_clash qLP_clash_J42
  rw [qPt_has_s hn hC.1, qob_bind, qPt_has_s hn hC.1, qob_bind, qM_isPoint_s hn hM.1, qob_bind, qM_isPoint_s hn hM.1, qob_bind, qLP_isSide_s, qob_bind, qLP_isSide_s, qob_bind, qM_isSide_s, qob_bind, qM_isSide_s, qob_bind]
  cases hp : qp_has n x with
  | false => exact ⟨-2, τ, rfl, rfl, h0⟩
  | true =>
    cases hy : qp_has 8 y with
    | false => exact ⟨-2, τ, rfl, rfl, h0⟩
    | true =>
      cases hz : qp_has n z with
      | false => exact ⟨-2, τ, rfl, rfl, h0⟩
      | true =>
        cases hu : qp_has 8 u with
        | false => exact ⟨-2, τ, rfl, rfl, h0⟩
        | true =>
          obtain ⟨p, hpn, rfl⟩ := qp_hasE hp
          obtain ⟨s, hs, rfl⟩ := qp_hasE hy
          obtain ⟨q, hqn, rfl⟩ := qp_hasE hz
          obtain ⟨t, ht, rfl⟩ := qp_hasE hu
          obtain ⟨τ1, e1, M1, P1, o1, R1⟩ := qR_finds hok hat hC hK hM hx
          simp only [if_neg qb_ne]
          rw [if_neg (show ¬ (1 : Int32) = 0 by decide)]
          by_cases c : nI p = nI q
          · simp only [if_pos c]; exact ⟨-2, τ, rfl, rfl, h0⟩
          · have c' : ¬ p = q := fun e => c (by rw [e])
            simp only [if_neg c]
            rw [e1, qob_bind, qPl_isPlace_s hn hK hpn hs, qob_bind, qPl_isPlace_s hn hK hqn ht, qob_bind, qPl_doClash_s hn hK hpn hs hqn ht, qob_bind, qn_8', qn_8', qo_in (by omega) (by decide), qo_in (by omega) (by decide), nI_clamp (by omega), nI_clamp (by omega), P1 p hpn s hs, P1 q hqn t ht, qM_meet_s hn M1 hpn hs hqn ht, qob_bind]
            cases qp_pl n f w p s with
            | false => exact ⟨-3, τ1, rfl, rfl, R1⟩
            | true =>
              cases qp_pl n f w q t with
              | false => exact ⟨-3, τ1, rfl, rfl, R1⟩
              | true =>
                rw [decide_eq_false c']
                cases qp_mt f p s q t with
                | false => exact ⟨0, τ1, rfl, rfl, R1⟩
                | true => exact ⟨1, τ1, rfl, rfl, R1⟩
/-- the pairs of places that clash -/
def qp_M (n : Nat) (f : Nat → Nat → Int32) (w : Nat → Int32) (k j : Nat) : Nat := if (!decide (j / 8 = k / 8) && (qp_pl n f w (k / 8) (k % 8) && (qp_pl n f w (j / 8) (j % 8) && qp_mt f (k / 8) (k % 8) (j / 8) (j % 8)))) = true then 1 else 0
theorem qb_nI (b : Bool) : qb b = nI (if b = true then 1 else 0) := by cases b <;> rfl
theorem qp_M_sym (k j : Nat) : qp_M n f w k j = qp_M n f w j k := by
  unfold qp_M
  rw [qp_mt_sym]
  by_cases c : j / 8 = k / 8
  · simp [c]
  · have c' : ¬ k / 8 = j / 8 := fun e => c e.symm
    simp only [c, c', decide_false, Bool.not_false, Bool.true_and]
    cases qp_pl n f w (k / 8) (k % 8) <;> cases qp_pl n f w (j / 8) (j % 8) <;> rfl
theorem qM_pairs_n (hok : qv_ok n f w) (h : qr_M n f w sh τ) (hP : qr_P n f w τ) : qM_pairs τ = some (nI (qp_ns (8 * n) (fun k => qp_ns k (qp_M n f w k)))) := by
  have hn := hok.1
  rw [qM_pairs_s hok h hP]
  have e : qp_sum (8 * n) (fun k => if qp_pl n f w (k / 8) (k % 8) = true then qp_sum (8 * n) (fun j => qb (!decide (j / 8 = k / 8) && (qp_pl n f w (j / 8) (j % 8) && qp_mt f (k / 8) (k % 8) (j / 8) (j % 8)))) else 0) = nI (qp_ns (8 * n) (fun k => qp_ns (8 * n) (qp_M n f w k))) := by
    rw [← qp_sum_ns]
    refine qp_sum_congr (fun k _ => ?_)
    rw [← qp_sum_ns]
    cases hk : qp_pl n f w (k / 8) (k % 8) with
    | false =>
      rw [if_neg (by decide)]
      exact (qp_sum_zero (fun j _ => by simp [qp_M, hk, nI_0])).symm
    | true =>
      rw [if_pos rfl]
      refine qp_sum_congr (fun j _ => ?_)
      rw [qb_nI]
      unfold qp_M
      rw [hk, Bool.true_and]
  have hb : qp_ns (8 * n) (fun k => qp_ns k (qp_M n f w k)) ≤ (8 * n) * (8 * n) := qp_ns_le (fun k hk => Nat.le_trans (qp_ns_le (b := 1) (fun j _ => by unfold qp_M; split <;> omega)) (by omega))
  have hb2 : (8 * n) * (8 * n) ≤ 160 * 160 := Nat.mul_le_mul (by omega) (by omega)
  rw [e, qp_ns_sym (qp_M n f w) (fun i j => qp_M_sym i j) (fun i => by simp [qp_M]), show (2 : Int32) = nI 2 from rfl, pk_div (by omega) (by decide) (by decide), Nat.mul_div_cancel_left _ (by decide)]
theorem qPl_clashingPairs_s (hn : n ≤ 20) (hC : qr_C n f w sh σ) (hK : qr_K n f w σ) : qPl_clashingPairs σ = some (nI (qp_ns (8 * n) (fun k => qp_ns k (qp_M n f w k)))) := by
  have key : qPl_clashingPairs σ = some (qp_sum n (fun p => qp_sum 8 (fun s => if qp_pl n f w p s = true then qp_sum p (fun q => qp_sum 8 (fun t => qb (!decide (p = q) && (qp_pl n f w p s && (qp_pl n f w q t && qp_mt f p s q t))))) else 0))) := by
    refine ql_acc0 (L := qPl_clashingPairs_L4 σ) (fin := id) (by omega) (fun k x => ?_) (fun k x p hp => ?_)
    · rw [qPl_clashingPairs_L4, hC.1, if_pos (nI_le (Nat.le_refl _) (by omega))]; rfl
    · rw [qPl_clashingPairs_L4, hC.1, if_neg (nI_ge hp (by omega))]
      refine ql_accK (L := qPl_clashingPairs_L17 σ (nI p) (qPl_clashingPairs_L4 σ k)) (K := fun x => qPl_clashingPairs_L4 σ k x (nI (p + 1))) (by omega) (fun k' x' => ?_) (fun k' x' s hs => ?_) x
      · rw [qPl_clashingPairs_L17, if_pos (by decide), nI_1]
      · rw [qPl_clashingPairs_L17, if_neg (qn_lt8 hs), qPl_isPlace_s hn hK hp hs, qob_bind, qPl_clashesBefore_s hn hK hp hs (by omega), qob_bind, nI_1]
        cases qp_pl n f w p s with
        | false => rw [if_pos qb_f]; simp
        | true => rw [if_neg qb_ne]; simp
  rw [key, ← qp_sum_ns, qp_sum_flat]
  refine congrArg some (qp_sum_congr (fun p hp => qp_sum_congr (fun s hs => ?_)))
  have e1 : (8 * p + s) / 8 = p := by omega
  have e2 : (8 * p + s) % 8 = s := by omega
  rw [qp_ns_tail (a := 8 * p) (b := 8 * p + s) (by omega) (fun i h1 h2 => by unfold qp_M; rw [e1, show i / 8 = p by omega]; simp), ← qp_sum_ns, qp_sum_flat]
  cases hk : qp_pl n f w p s with
  | false =>
    rw [if_neg (by decide)]
    refine (qp_sum_zero (fun q _ => qp_sum_zero (fun t _ => ?_))).symm
    unfold qp_M
    rw [e1, e2, hk]
    simp [nI_0]
  | true =>
    rw [if_pos rfl]
    refine qp_sum_congr (fun q hq => qp_sum_congr (fun t ht => ?_))
    unfold qp_M
    rw [e1, e2, hk, show (8 * q + t) / 8 = q by omega, show (8 * q + t) % 8 = t by omega, qb_nI]
    have c : ¬ p = q := by omega
    have c' : ¬ q = p := by omega
    simp [c, c']
end
