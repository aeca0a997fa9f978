/-! the reference: push done, and the numbers -/
section
variable {n : Nat} {f : Nat → Nat → Int32} {w sh : Nat → Int32} {τ σ : QS}
theorem qM_pushes_J0 (K : QS → Int32 → Option (Int32 × QS)) (x2 x3 : Int32) {q : Nat} (hq : q < 20) : qM_pushes_J86 τ K x2 x3 (nI q) 0 = K (qx_up τ 1 (120 + q) (τ.1 1 (120 + q))) (nI (q + 1)) := by
  unfold qM_pushes_J86
  rw [if_pos rfl, qn_a120, nI_clamp (by omega), nI_1, qo_in (by omega) (by decide), qo_in (by omega) (by decide)]
theorem qM_pushes_J1 (K : QS → Int32 → Option (Int32 × QS)) (x2 x3 : Int32) {q : Nat} (hq : q < 20) : qM_pushes_J86 τ K x2 x3 (nI q) 1 = K (qx_up τ 1 (120 + q) (-1)) (nI (q + 1)) := by
  unfold qM_pushes_J86
  rw [if_neg (by decide), qn_a120, nI_clamp (by omega), nI_1, qo_in (by omega) (by decide)]
theorem qr_W.alt {τ0 : QS} {sh' : Nat → Int32} (h : qr_W n f w τ0 τ sh) (e : ∀ p, p < n → sh p = sh' p) : qr_W n f w τ0 τ sh' :=
  ⟨h.1, h.2.1.alt e, h.2.2.1, h.2.2.2.1, fun p hp => by rw [← e p hp]; exact h.2.2.2.2 p hp⟩
theorem qM_pushes_i {τ0 : QS} (hok : qv_ok n f w) (hat : qv_at n f w sh) {p s : Nat} (hp : p < n) (hs : s < 8) (hpl : qp_pl n f w p s = true) : ∀ (k q : Nat) (τ : QS), q ≤ n → n < k + q → qr_W n f w τ0 τ (fun r => if r < q then (if qp_hit f sh p s r = true then -1 else sh r) else sh r) →
    ∃ τ', qM_pushes_L31 (nI p) (nI s) k τ (nI q) = some (1, τ') ∧ qr_W n f w τ0 τ' (qp_shove f sh p s) := by
  have hn := hok.1
  intro k
  induction k with
  | zero => intro q τ h1 h2; omega
  | succ k ih =>
    intro q τ h1 h2 hI
    have h := hI.2.1
    rw [qM_pushes_L31, h.1]
    rcases Nat.lt_or_ge q n with hq | hq
    · have e6 := (h.2.2 q hq).2.2.2.2.2.2
      simp only [Nat.lt_irrefl, if_false] at e6
      have go : ∀ v, v = (if qp_hit f sh p s q = true then -1 else sh q) → ∃ τ', qM_pushes_L31 (nI p) (nI s) k (qx_up τ 1 (120 + q) v) (nI (q + 1)) = some (1, τ') ∧ qr_W n f w τ0 τ' (qp_shove f sh p s) := by
        intro v hv
        have hv' : v = -1 ∨ ∃ s, s < 8 ∧ v = nI s ∧ qp_pl n f w q s = true := by
          rw [hv]
          by_cases c : qp_hit f sh p s q = true
          · exact Or.inl (by rw [if_pos c])
          · rw [if_neg c]; exact hat q hq
        refine ih (q + 1) _ hq (by omega) ((hI.up1 hn hq v hv').alt (fun r hr => ?_))
        unfold upd
        by_cases c : r = q
        · subst c; simp [hv]
        · by_cases c2 : r < q
          · simp [c, c2, show r < q + 1 by omega]
          · simp [c, c2, show ¬ r < q + 1 by omega]
      rw [if_neg (nI_ge hq (by omega)), qn_a120, qM_pushes_J0 _ _ _ (show q < 20 by omega), qM_pushes_J1 _ _ _ (show q < 20 by omega), nI_clamp (by omega), e6, qo_in (by omega) (by decide), qo_in (by omega) (by decide)]
      by_cases c1 : q = p
      · rw [if_pos (by rw [c1])]
        exact go _ (by rw [if_neg (by simp [qp_hit, c1])])
      · rw [if_neg (nI_neq (by omega) (by omega) c1)]
        by_cases c2 : sh q = -1
        · rw [if_pos c2]
          exact go _ (by rw [if_neg (by simp [qp_hit, c2])])
        · obtain ⟨ht, e2⟩ := qv_shN hat.sh hq c2
          have hm := qM_meet_s hn h hp hs hq ht
          rw [← e2] at hm
          rw [if_neg c2, hm, qob_bind]
          cases hmt : qp_mt f p s q (sh q).toNatClampNeg with
          | false => rw [if_pos qb_f]; exact go _ (by rw [if_neg (by simp [qp_hit, hmt])])
          | true => rw [if_neg (by decide)]; exact go _ (by rw [if_pos (by simp [qp_hit, hmt, c1, c2])])
    · rw [if_pos (nI_le (by omega) (by omega)), qn_a120, nI_clamp (by omega), qo_in (by omega) (by decide)]
      refine ⟨_, rfl, (hI.up1 hn hp (nI s) (Or.inr ⟨s, hs, rfl, hpl⟩)).alt (fun r hr => ?_)⟩
      unfold qp_shove upd
      by_cases c : r = p
      · simp [c]
      · simp [c, show r < q by omega]
theorem qM_pushes_L {τ0 : QS} (hok : qv_ok n f w) (hI : qr_W n f w τ0 τ sh) : ∀ k i, i ≤ n → n < k + i →
    ∃ τ', qM_pushes_L2 τ k (nI i) = some (qb (qp_push1 n f w sh ((qp_ords n f).drop i)).isSome, τ') ∧ qr_W n f w τ0 τ' ((qp_push1 n f w sh ((qp_ords n f).drop i)).getD sh) ∧ (qp_push1 n f w sh ((qp_ords n f).drop i) = none → τ' = τ) := by
  have hn := hok.1
  have hlen := qp_ords_len n (fun p hp => (hok.2.1 p hp).2.2.2.2.1)
  have h := hI.2.1
  intro k
  induction k with
  | zero => intro i h1 h2; omega
  | succ k ih =>
    intro i h1 h2
    rw [qM_pushes_L2, h.1]
    rcases Nat.lt_or_ge i n with hi | hi
    · have hil : i < (qp_ords n f).length := by omega
      have hg : (qp_ords n f)[i]? = some (qp_ords n f)[i] := List.getElem?_eq_getElem hil
      have hpn := qp_ords_lt hg
      rw [List.drop_eq_getElem_cons hil, if_neg (nI_ge hi (by omega)), qo_in (by omega) (by decide), nI_clamp (by omega), hI.2.2.2.1 i _ hg, qM_strongest_s hok hI.2.2.2.2.sh h hI.2.2.1 hpn, qob_bind]
      unfold qp_push1
      cases hs : qp_str n f w sh (qp_ords n f)[i] with
      | none =>
        dsimp only
        rw [if_pos rfl, nI_1]
        exact ih (i + 1) hi (by omega)
      | some s =>
        obtain ⟨hs8, -, -, hpl, -⟩ := qp_str_some hs
        dsimp only
        rw [if_neg (nI_nm1 (by omega))]
        obtain ⟨τ', e1, e2⟩ := qM_pushes_i (τ0 := τ0) hok hI.2.2.2.2 hpn hs8 hpl qx_F 0 τ (Nat.zero_le _) (by rw [qF_big]; omega) (hI.alt (fun r hr => by simp))
        exact ⟨τ', by rw [show (0 : Int32) = nI 0 from rfl, e1]; rfl, e2, fun e => by cases e⟩
    · rw [if_pos (nI_le (by omega) (by omega)), List.drop_eq_nil_of_le (by omega)]
      exact ⟨τ, rfl, hI, fun _ => rfl⟩
theorem qM_pushes_s {τ0 : QS} (hok : qv_ok n f w) (hI : qr_W n f w τ0 τ sh) : ∃ τ', qM_pushes τ = some (qb (qp_push1 n f w sh (qp_ords n f)).isSome, τ') ∧ qr_W n f w τ0 τ' ((qp_push1 n f w sh (qp_ords n f)).getD sh) ∧ (qp_push1 n f w sh (qp_ords n f) = none → τ' = τ) := by
  have := qM_pushes_L hok hI qx_F 0 (Nat.zero_le _) (by have := hok.1; rw [qF_big]; omega)
  exact this
theorem qM_push_L {τ0 : QS} (hok : qv_ok n f w) : ∀ (m k : Nat) (τ : QS) (sh : Nat → Int32) (x : Int32), m < k → qr_W n f w τ0 τ sh → qp_push1 n f w (qp_pu n f w m sh x).1 (qp_ords n f) = none →
    ∃ τ', ((qM_pushes τ).bind fun r => qM_push_L15 k r.2 x r.1) = some ((qp_pu n f w m sh x).2, τ') ∧ qr_W n f w τ0 τ' (qp_pu n f w m sh x).1 := by
  intro m
  induction m with
  | zero =>
    intro k τ sh x hk hI hend
    obtain ⟨τ1, e1, e2, e3⟩ := qM_pushes_s hok hI
    have hend' : qp_push1 n f w sh (qp_ords n f) = none := hend
    obtain ⟨k', rfl⟩ : ∃ k', k = k' + 1 := ⟨k - 1, by omega⟩
    rw [e1, qob_bind, hend']
    refine ⟨τ, ?_, hI⟩
    dsimp only
    rw [e3 hend', qM_push_L15, if_pos (show qb (none : Option (Nat → Int32)).isSome = 0 from rfl)]
    rfl
  | succ m ih =>
    intro k τ sh x hk hI hend
    obtain ⟨τ1, e1, e2, e3⟩ := qM_pushes_s hok hI
    obtain ⟨k', rfl⟩ : ∃ k', k = k' + 1 := ⟨k - 1, by omega⟩
    rw [e1, qob_bind]
    dsimp only
    unfold qp_pu at hend ⊢
    cases hp : qp_push1 n f w sh (qp_ords n f) with
    | none =>
      refine ⟨τ, ?_, hI⟩
      rw [e3 hp, qM_push_L15, if_pos (show qb (none : Option (Nat → Int32)).isSome = 0 from rfl)]
    | some x' =>
      rw [hp] at hend e2
      rw [qM_push_L15, if_neg (show ¬ qb (some x').isSome = 0 from (by decide : ¬ qb true = 0))]
      exact ih k' τ1 x' (x + 1) (by omega) e2 hend
theorem qM_push_s (hok : qv_ok n f w) (hat : qv_at n f w sh) (h : qr_M n f w sh τ) : ∃ τ', qM_push τ = some ((qp_pu n f w n sh 0).2, τ') ∧ qs_only [1, 2, 3] τ τ' ∧ qr_M n f w (qp_pu n f w n sh 0).1 τ' ∧ qv_at n f w (qp_pu n f w n sh 0).1 := by
  have hn := hok.1
  have hlen := qp_ords_len n (fun p hp => (hok.2.1 p hp).2.2.2.2.1)
  obtain ⟨τ1, e1, o1, P1⟩ := qM_findsAll_s hok h
  obtain ⟨τ2, e2, o2, L2⟩ := qM_orders_s hok (h.off o1 (by decide) (by decide))
  have h2 := (h.off o1 (by decide) (by decide)).off o2 (by decide) (by decide)
  obtain ⟨τ3, e3, I3⟩ := qM_push_L (τ0 := τ2) hok n qx_F τ2 sh 0 (by rw [qF_big]; omega) ⟨qs_only.rf, h2, P1.off o2 (by decide), L2, hat⟩ (qp_pu_ends hlen n 0 sh 0 (by omega) (fun j q hj => by omega))
  refine ⟨τ3, ?_, ((o1.wide (by decide)).tr (o2.wide (by decide))).tr (I3.1.wide (by decide)), I3.2.1, I3.2.2.2.2⟩
  unfold qM_push
  rw [e1, qob_bind, e2, qob_bind]
  exact e3
theorem qM_pushing_s (hok : qv_ok n f w) (hsh : qv_sh n sh) (h : qr_M n f w sh τ) (hP : qr_P n f w τ) : qM_pushing τ = some (nI (qp_cnt n (fun p => (qp_str n f w sh p).isSome))) := by
  have hn := hok.1
  rw [← qp_sum_cnt]
  refine ql_acc0 (L := qM_pushing_L4 τ) (fin := id) (by omega) (fun k x => ?_) (fun k x q hq => ?_)
  · rw [qM_pushing_L4, h.1, if_pos (nI_le (Nat.le_refl _) (by omega))]; rfl
  · rw [qM_pushing_L4, h.1, if_neg (nI_ge hq (by omega)), qM_strongest_s hok hsh h hP hq, qob_bind, nI_1]
    cases hs : qp_str n f w sh q with
    | none => dsimp only; rw [if_pos rfl]; rfl
    | some s =>
      have := (qp_str_some hs).1
      dsimp only
      rw [if_neg (nI_nm1 (by omega))]
      rfl
theorem qM_labelAt_L (hok : qv_ok n f w) (hsh : qv_sh n sh) (h : qr_M n f w sh τ) (x y : Int32) : qM_labelAt_L29 τ x y qx_F 0 = some (match qp_find (fun p => !decide (sh p = -1) && qp_cov (qp_lf f p (sh p).toNatClampNeg) (qp_bt f p (sh p).toNatClampNeg) (f 2 p) (f 3 p) x y) n 0 with | some p => nI p | none => -1) := by
  have hn := hok.1
  refine ql_first0 (L := qM_labelAt_L29 τ x y) (r := nI) (by omega) (fun k => ?_) (fun k q hq => ?_)
  · rw [qM_labelAt_L29, h.1, if_pos (nI_le (Nat.le_refl _) (by omega))]
  · have e6 := (h.2.2 q hq).2.2.2.2.2.2
    rw [qM_labelAt_L29, h.1, if_neg (nI_ge hq (by omega)), qn_a120, nI_clamp (by omega), e6, qo_in (by omega) (by decide), qo_in (by omega) (by decide), nI_1]
    by_cases c2 : sh q = -1
    · simp [c2]
    · obtain ⟨ht, e2⟩ := qv_shN hsh hq c2
      have hm := qM_covers_s hok h hq ht x y
      rw [← e2] at hm
      rw [if_neg c2, hm, qob_bind]
      cases qp_cov (qp_lf f q (sh q).toNatClampNeg) (qp_bt f q (sh q).toNatClampNeg) (f 2 q) (f 3 q) x y <;> simp [c2, qb]
/-- the properties of points and places, and the numbers -/
def qp_part (n : Nat) (f : Nat → Nat → Int32) (w sh : Nat → Int32) (p x : Nat) : Int32 := if x = 6 then qb (qp_vis f w p) else if x = 7 then sh p else if x = 8 then nI (qp_cnt 8 (qp_pl n f w p)) else f x p
def qp_ppart (n : Nat) (f : Nat → Nat → Int32) (w sh : Nat → Int32) (p s x : Nat) : Int32 := if x = 0 then qb (qp_pl n f w p s) else if x = 1 then qp_lf f p s else if x = 2 then qp_bt f p s else if qp_pl n f w p s = true then (if x = 3 then qp_sum (8 * n) (fun k => qb (!decide (k / 8 = p) && (qp_pl n f w (k / 8) (k % 8) && qp_mt f p s (k / 8) (k % 8)))) else nI (qp_cnt n (qp_hit f sh p s))) else 0
theorem qM_part_s (hok : qv_ok n f w) (h : qr_M n f w sh τ) (hP : qr_P n f w τ) {p x : Nat} (hp : p < n) (hx : x < 9) : qM_part τ (nI p) (nI x) = some (qp_part n f w sh p x) := by
  have hn := hok.1
  obtain ⟨a0, a1, a2, a3, a4, a5, a6⟩ := h.2.2 p hp
  unfold qM_part
  rw [qM_isVisible_s hok h hp, qob_bind, qM_placesOf_s hn hP hp, qob_bind]
  have hx' : x = 0 ∨ x = 1 ∨ x = 2 ∨ x = 3 ∨ x = 4 ∨ x = 5 ∨ x = 6 ∨ x = 7 ∨ x = 8 := by omega
  have go : ∀ (c : Nat) (v : Int32), c + p < 140 → (20 : Int32) * nI x = nI c → τ.1 1 (c + p) = v → qx_ob (20 * nI x + nI p) 140 (some (τ.1 1 (20 * nI x + nI p).toNatClampNeg)) = some v := by
    intro c v h1 h2 h3
    rw [h2, nI_add, qo_in h1 (by decide), nI_clamp (by omega), h3]
  rcases hx' with rfl | rfl | rfl | rfl | rfl | rfl | rfl | rfl | rfl
  · rw [if_neg (by decide), if_neg (by decide), if_neg (by decide), go 0 _ (by omega) rfl a0]; rfl
  · rw [if_neg (by decide), if_neg (by decide), if_neg (by decide), go 20 _ (by omega) rfl a1]; rfl
  · rw [if_neg (by decide), if_neg (by decide), if_neg (by decide), go 40 _ (by omega) rfl a2]; rfl
  · rw [if_neg (by decide), if_neg (by decide), if_neg (by decide), go 60 _ (by omega) rfl a3]; rfl
  · rw [if_neg (by decide), if_neg (by decide), if_neg (by decide), go 80 _ (by omega) rfl a4]; rfl
  · rw [if_neg (by decide), if_neg (by decide), if_neg (by decide), go 100 _ (by omega) rfl a5]; rfl
  · rw [if_pos (by decide)]
    unfold qp_part
    cases qp_vis f w p <;> rfl
  · rw [if_neg (by decide), if_pos (by decide), qn_a120, qo_in (by omega) (by decide), nI_clamp (by omega), a6]; rfl
  · rw [if_neg (by decide), if_neg (by decide), if_pos (by decide)]; rfl
theorem qM_placePart_s (hok : qv_ok n f w) (hsh : qv_sh n sh) (h : qr_M n f w sh τ) (hP : qr_P n f w τ) {p s x : Nat} (hp : p < n) (hs : s < 8) (hx : x < 5) : qM_placePart τ (nI p) (nI s) (nI x) = some (qp_ppart n f w sh p s x) := by
  have hn := hok.1
  unfold qM_placePart
  rw [qn_8', qo_in (by omega) (by decide), nI_clamp (by omega), hP p hp s hs, qM_left_s hn h hp hs, qob_bind, qM_bottom_s hn h hp hs, qob_bind, qM_meets_s hok h hP hp hs, qob_bind, qM_clashes_s hok hsh h hp hs, qob_bind]
  have hx' : x = 0 ∨ x = 1 ∨ x = 2 ∨ x = 3 ∨ x = 4 := by omega
  unfold qp_ppart
  rcases hx' with rfl | rfl | rfl | rfl | rfl
  · rw [if_pos (by decide)]
    cases qp_pl n f w p s <;> rfl
  · rw [if_neg (by decide), if_pos (by decide)]; rfl
  · rw [if_neg (by decide), if_neg (by decide), if_pos (by decide)]; rfl
  · rw [if_neg (by decide), if_neg (by decide), if_neg (by decide), if_pos (by decide)]
    cases qp_pl n f w p s <;> rfl
  · rw [if_neg (by decide), if_neg (by decide), if_neg (by decide), if_neg (by decide)]
    cases qp_pl n f w p s <;> rfl
end
