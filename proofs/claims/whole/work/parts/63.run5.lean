/-! run side by side, done -/
section
variable {σ τ σ0 τ0 : QS} {u : Nat → Int32} {t : Nat}
/-- both about to read number x; the class at i, the reference past the blanks there -/
def qt_A (u : Nat → Int32) (t : Nat) (σ0 τ0 : QS) (kd : Int32) (x i : Nat) (σ τ : QS) : Prop := qs_only [21, 22] σ0 σ ∧ qt_m τ0 τ ∧ σ.1 21 2 = nI i ∧ σ.1 21 0 = kd ∧ τ.1 0 15 = nI (qt_r qt_bl u t i) ∧ τ.1 0 16 = -1 ∧ 1 ≤ i ∧ i ≤ t ∧ ¬ (qt_dg u t (i - 1) ∧ qt_dg u t i) ∧ ∀ y, y < x → σ.1 22 y = τ.1 10 y
/-- how both end -/
def qt_F (σ0 τ0 : QS) (kd : Int32) (cnt : Nat) (rC rM : Option (Int32 × QS)) : Prop := ∃ φ σ' τ', rC = some (φ, σ') ∧ rM = some (kd, τ') ∧ τ'.1 0 16 = φ ∧ qs_only [21, 22] σ0 σ' ∧ qt_m τ0 τ' ∧ (φ = -1 → σ'.1 21 0 = kd ∧ ∀ y, y < cnt → σ'.1 22 y = τ'.1 10 y)
theorem qt_C.o (h : qt_C u t σ0) (ho : qs_only [21, 22] σ0 σ) : qt_C u t σ := by
  unfold qt_C
  rw [ho.1 19 (by decide), ho.1 20 (by decide)]
  exact h
theorem qM_134_bad (hm : qt_m τ0 τ) (kd : Int32) {q : Nat} (hq : q < 2 ^ 31) (e : τ.1 0 16 = nI q) : ∃ τ', qM_reads_J134 τ kd = some (kd, τ') ∧ τ'.1 0 16 = nI q ∧ qt_m τ0 τ' := by
  unfold qM_reads_J134 qM_fails
  by_cases c : τ.1 0 14 ≤ τ.1 0 15
  · rw [if_pos c]; exact ⟨τ, rfl, e, hm⟩
  · rw [if_neg c, if_neg (by rw [e]; exact nI_nm1 hq), qob_bind]
    exact ⟨_, rfl, by rw [qu_s]; exact e, hm.up0 (by decide)⟩
theorem qt_noblank {i : Nat} (h : qt_dg u t i) : qt_r qt_bl u t i = i := by
  refine qt_r_no ?_
  cases c : qt_bl (qt_ch u t i) with
  | false => rfl
  | true =>
    unfold qt_dg at h
    rw [qt_bl2 c] at h
    cases h
/-- the class ends at i when a fourth digit stands there -/
theorem qCm_four (h0 : qt_C u t σ0) {kd : Int32} {cnt x i q : Nat} (hq : q < 6) (ek : kd = nI q) (hc : qx_tab 2 q = nI cnt) (hcn : cnt ≤ 5) (hxc : x ≤ cnt) (ho : qs_only [21, 22] σ0 σ) (e : σ.1 21 2 = nI i) (e0 : σ.1 21 0 = kd) (hi : 1 ≤ i) (d1 : qt_dg u t (i - 1)) (d2 : qt_dg u t i) (m : Nat) : ∃ σ', qCm_read_L75 (m + 1) σ (nI x) = some (nI i, σ') ∧ qs_only [21, 22] σ0 σ' := by
  have h := h0.o ho
  have h80 := h.1
  have hit := qt_lt qt_di1 d2
  have nb := qt_noblank d2
  rw [qCm_read_L75, e0, ek, qo_in hq (by decide), nI_clamp (by omega), hc]
  rcases Nat.lt_or_ge x cnt with c | c
  · have en : qt_ng kd u t i = false := by
      unfold qt_ng
      rw [nb, show decide (qt_ch u t i = 45) = false from ?_, Bool.and_false]
      refine decide_eq_false (fun q => ?_)
      unfold qt_dg at d2
      rw [q] at d2
      cases d2
    have ej : qt_jp kd u t i = i := by unfold qt_jp; rw [en, if_neg (by decide), nb]
    rw [if_neg (nI_ge c (by omega)), qCm_num_s h (show x < 5 by omega) hi (by omega) e e0, ej, if_neg (fun q => q.2 d1), qob_bind, if_pos rfl, qu_s]
    exact ⟨_, rfl, qs_only.up (by decide) ho⟩
  · have sk := qCm_skip_s h (show i ≤ t by omega)
    rw [qu_own e, nb] at sk
    rw [if_pos (nI_le c (by omega)), sk, qob_bind, (h.up (c := 21) (by decide) (by decide)).2.1, qu_s, if_neg (nI_ge hit (by omega))]
    exact ⟨_, rfl, qs_only.up (by decide) ho⟩
theorem qt_loop (h0 : qt_C u t σ0) (g0 : qt_M u t τ0) {kd : Int32} {cnt q : Nat} (hq : q < 6) (ek : kd = nI q) (hc : qx_tab 2 q = nI cnt) (hcn : cnt ≤ 5) (ML : Nat → QS → Int32 → Option (Int32 × QS))
    (H1 : ∀ m τ, ML (m + 1) τ (nI cnt) = qM_reads_J134 τ kd)
    (H2 : ∀ m τ x, x < cnt → τ.1 0 16 = -1 → ML (m + 1) τ (nI x) = (qt_ms kd τ).bind fun r => qx_ob (nI x) 5 (ML m (qx_up r.2 10 (nI x).toNatClampNeg r.1) (nI x + 1)))
    (H3 : ∀ m τ x, x ≤ cnt → ¬ τ.1 0 16 = -1 → ML (m + 1) τ (nI x) = qM_reads_J134 τ kd) :
    ∀ k m m' x i σ τ, x + k = cnt → k < m → k < m' → qt_A u t σ0 τ0 kd x i σ τ → qt_F σ0 τ0 kd cnt (qCm_read_L75 m σ (nI x)) (ML m' τ (nI x)) := by
  have h80 := h0.1
  intro k
  induction k with
  | zero =>
    intro m m' x i σ τ e hm hm' ⟨ho, hμ, ei, e0, et, ef, i1, i2, nd, hy⟩
    obtain ⟨m, rfl⟩ : ∃ k, m = k + 1 := ⟨m - 1, by omega⟩
    obtain ⟨m', rfl⟩ : ∃ k, m' = k + 1 := ⟨m' - 1, by omega⟩
    have ex : x = cnt := by omega
    subst ex
    have h := h0.o ho
    have g := g0.m hμ
    have sk := qCm_skip_s h i2
    rw [qu_own ei] at sk
    have a2 := qt_r_le (u := u) (t := t) qt_bl1 i i2
    rw [H1, qCm_read_L75, e0, ek, qo_in hq (by decide), nI_clamp (by omega), hc, if_pos (nI_le (Nat.le_refl _) (by omega)), ← ek, sk, qob_bind, (h.up (c := 21) (by decide) (by decide)).2.1, qu_s]
    unfold qM_reads_J134 qM_fails
    rw [g.2.1, et, ef, if_pos rfl, qob_bind]
    by_cases c : nI t ≤ nI (qt_r qt_bl u t i)
    · rw [if_pos c, if_pos c]
      refine ⟨-1, _, _, rfl, rfl, ef, qs_only.up (by decide) ho, hμ, fun _ => ⟨by rw [qu_nj _ (by decide)]; exact e0, fun y hy' => ?_⟩⟩
      rw [qu_ne _ (by decide)]; exact hy y hy'
    · rw [if_neg c, if_neg c]
      refine ⟨nI (qt_r qt_bl u t i), _, _, rfl, rfl, qu_s _ _ _ _, qs_only.up (by decide) ho, hμ.up0 (by decide), fun q => absurd q (nI_nm1 (by omega))⟩
  | succ k ih =>
    intro m m' x i σ τ e hm hm' hA
    obtain ⟨ho, hμ, ei, e0, et, ef, i1, i2, nd, hy⟩ := hA
    obtain ⟨m, rfl⟩ : ∃ k, m = k + 1 := ⟨m - 1, by omega⟩
    obtain ⟨m', rfl⟩ : ∃ k, m' = k + 1 := ⟨m' - 1, by omega⟩
    have h := h0.o ho
    have g := g0.m hμ
    obtain ⟨j1, j2, j3⟩ := qt_jp_f (u := u) (t := t) (kd := kd) i2
    obtain ⟨τ', s1, s2, s3, s4, s5⟩ := qM_num_m g (kd := kd) i2 et ef
    obtain ⟨f1, f2, f3, f4, f5⟩ := qt_dk_f (u := u) (t := t) 3 (qt_jp kd u t i) 0 j2
    have hμ' := hμ.tr s2
    have hu : qt_m τ0 (qx_up τ' 10 x (qt_sg (qt_ng kd u t i) (qt_dk (qt_ch u t) 3 (qt_jp kd u t i) 0).2)) := hμ'.up
    have stop : ∀ {j : Nat}, j ≤ 80 → τ'.1 0 16 = nI j → ∃ τ'', ML m' (qx_up τ' 10 x (qt_sg (qt_ng kd u t i) (qt_dk (qt_ch u t) 3 (qt_jp kd u t i) 0).2)) (nI (x + 1)) = some (kd, τ'') ∧ τ''.1 0 16 = nI j ∧ qt_m τ0 τ'' := by
      intro j hj ej
      obtain ⟨m'', rfl⟩ : ∃ k, m' = k + 1 := ⟨m' - 1, by omega⟩
      rw [H3 _ _ (x + 1) (by omega) (by rw [qu_ne _ (by decide), ej]; exact nI_nm1 (by omega))]
      exact qM_134_bad hu kd (show j < 2 ^ 31 by omega) (by rw [qu_ne _ (by decide)]; exact ej)
    rw [H2 m' τ x (by omega) ef, s1, qob_bind, qo_in (by omega) (by decide), nI_clamp (by omega), nI_1]
    rw [qCm_read_L75, e0, ek, qo_in hq (by decide), nI_clamp (by omega), hc, if_neg (nI_ge (by omega) (by omega)), ← ek, qCm_num_s h (show x < 5 by omega) i1 i2 ei e0]
    by_cases c1 : qt_dg u t (qt_jp kd u t i)
    · -- a number stands there
      have np : ¬ qt_dg u t (qt_jp kd u t i - 1) := by
        rcases Nat.eq_or_lt_of_le j1 with q | q
        · rw [← q]; rw [← q] at c1; exact fun d => nd ⟨d, c1⟩
        · exact j3 q
      have adv : ¬ (qt_dk (qt_ch u t) 3 (qt_jp kd u t i) 0).1 = qt_jp kd u t i := by
        intro q
        have := f4 (by omega)
        rw [q] at this
        exact this c1
      rw [if_pos ⟨c1, np⟩, qob_bind, if_neg (show ¬ (1 : Int32) = 0 by decide), nI_1]
      have ho' : qs_only [21, 22] σ0 (qx_up (qx_up σ 21 2 (nI (qt_dk (qt_ch u t) 3 (qt_jp kd u t i) 0).1)) 22 x (qt_sg (qt_ng kd u t i) (qt_dk (qt_ch u t) 3 (qt_jp kd u t i) 0).2)) := qs_only.up (by decide) (qs_only.up (by decide) ho)
      rcases s5 with ⟨s6, s7⟩ | ⟨s6, s7⟩
      · have d2 := s6.resolve_left adv
        have d1 := f5 ((qt_dk (qt_ch u t) 3 (qt_jp kd u t i) 0).1 - 1) (by omega) (by omega)
        obtain ⟨m2, rfl⟩ : ∃ k, m = k + 1 := ⟨m - 1, by omega⟩
        obtain ⟨σ'', q1, q2⟩ := qCm_four h0 hq ek hc hcn (show x + 1 ≤ cnt by omega) ho' (i := (qt_dk (qt_ch u t) 3 (qt_jp kd u t i) 0).1) (by rw [qu_ne _ (by decide), qu_s]) (by rw [qu_ne _ (by decide), qu_nj _ (by decide)]; exact e0) (by omega) d1 d2 m2
        obtain ⟨τ'', q3, q4, q5⟩ := stop (show (qt_dk (qt_ch u t) 3 (qt_jp kd u t i) 0).1 ≤ 80 by omega) s7
        exact ⟨_, σ'', τ'', q1, q3, q4, q2, q5, fun q => absurd q (nI_nm1 (by omega))⟩
      · refine ih m m' (x + 1) (qt_dk (qt_ch u t) 3 (qt_jp kd u t i) 0).1 _ _ (by omega) (by omega) (by omega) ⟨ho', hu, by rw [qu_ne _ (by decide), qu_s], by rw [qu_ne _ (by decide), qu_nj _ (by decide)]; exact e0, by rw [qu_ne _ (by decide)]; exact s4, by rw [qu_ne _ (by decide)]; exact s7, by omega, f3, fun q => s6.2 q.2, fun y hy' => ?_⟩
        by_cases cy : y = x
        · subst cy; rw [qu_s, qu_s]
        · rw [qu_nj _ cy, qu_nj _ cy, qu_ne _ (by decide), s3]; exact hy y (by omega)
    · -- none
      have e1 : (qt_dk (qt_ch u t) 3 (qt_jp kd u t i) 0).1 = qt_jp kd u t i := by
        rw [qt_dk, if_neg (show ¬ qp_rng 48 57 (qt_ch u t (qt_jp kd u t i)) = true from c1)]
      rw [if_neg (fun q => c1 q.1), qob_bind, if_pos rfl, qu_s]
      rw [e1] at s5
      obtain ⟨τ'', q3, q4, q5⟩ := stop (show qt_jp kd u t i ≤ 80 by omega) (s5.elim (fun q => q.2) (fun q => absurd rfl q.1.1))
      exact ⟨_, _, τ'', rfl, q3, q4, qs_only.up (by decide) ho, q5, fun q => absurd q (nI_nm1 (by omega))⟩
end
