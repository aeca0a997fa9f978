/-! run side by side: which word it is -/
section
variable {σ τ : QS} {u : Nat → Int32} {t : Nat}
theorem nI_subT {a i : Nat} (h : a ≤ i) : nI i - nI a = nI (i - a) := by
  obtain ⟨d, rfl⟩ := Nat.exists_eq_add_of_le h
  rw [show a + d - a = d by omega, Nat.add_comm a d, ← nI_add]
  exact Int32.add_sub_cancel _ _
theorem qstr_len_s (w : Nat) (l : List Int32) (h : qx_slen.getD w 0 = l.length) : qstr_len w = some (nI l.length) := by
  unfold qstr_len
  rw [h]
theorem qTx_word_L (h : qt_C u t σ) {w a : Nat} {l : List Int32} (h1 : qx_slen.getD w 0 = l.length) (h2 : qx_sbyt.getD w [] = l) (hl : l.length ≤ 7) (ha : a ≤ 80) : ∀ k j m, j + k = l.length → k < m → ∃ b, qTx_isWord_L15 σ (nI a) w m (nI j) = some (qb b) ∧ (b = true ↔ ∀ y, j ≤ y → y < l.length → qt_ch u t (a + y) = l.getD y 0) := by
  intro k
  induction k with
  | zero =>
    intro j m e hm
    obtain ⟨m, rfl⟩ : ∃ m', m = m' + 1 := ⟨m - 1, by omega⟩
    rw [qTx_isWord_L15, qstr_len_s w l h1, qob_bind, if_pos (nI_le (by omega) (by omega))]
    exact ⟨true, rfl, fun _ y y1 y2 => by omega, fun _ => rfl⟩
  | succ k ih =>
    intro j m e hm
    obtain ⟨m, rfl⟩ : ∃ m', m = m' + 1 := ⟨m - 1, by omega⟩
    have ec : qstr_chr w (nI j) = some (l.getD j 0) := by
      unfold qstr_chr
      rw [h1, h2, qo_in (by omega) (by omega), nI_clamp (by omega)]
    rw [qTx_isWord_L15, qstr_len_s w l h1, qob_bind, if_neg (nI_ge (by omega) (by omega)), nI_add, qTx_at_s h (by omega), qob_bind, ec, qob_bind, nI_1]
    by_cases c : qt_ch u t (a + j) = l.getD j 0
    · rw [if_pos c]
      obtain ⟨b, e1, e2⟩ := ih (j + 1) m (by omega) (by omega)
      refine ⟨b, e1, e2.trans ⟨fun q y y1 y2 => ?_, fun q y y1 y2 => q y (by omega) y2⟩⟩
      by_cases cy : y = j
      · subst cy; exact c
      · exact q y (by omega) y2
    · rw [if_neg c]
      exact ⟨false, rfl, fun e => (by cases e), fun q => absurd (q j (Nat.le_refl _) (by omega)) c⟩
/-- the word from a to i is l -/
def qt_is (u : Nat → Int32) (t a i : Nat) (l : List Int32) : Prop := i - a = l.length ∧ ∀ y, y < l.length → qt_ch u t (a + y) = l.getD y 0
theorem qTx_isWord_s (h : qt_C u t σ) {w a i : Nat} {l : List Int32} (h1 : qx_slen.getD w 0 = l.length) (h2 : qx_sbyt.getD w [] = l) (hl : l.length ≤ 7) (ha : a ≤ i) (hi : i ≤ 80) : ∃ b, qTx_isWord σ (nI a) (nI i) w = some (qb b) ∧ (b = true ↔ qt_is u t a i l) := by
  unfold qTx_isWord
  rw [qstr_len_s w l h1, qob_bind, nI_subT ha]
  by_cases c : i - a = l.length
  · rw [if_pos (by rw [c])]
    obtain ⟨b, e1, e2⟩ := qTx_word_L h h1 h2 hl (show a ≤ 80 by omega) l.length 0 qx_F (by omega) (by rw [qF_big]; omega)
    exact ⟨b, e1, e2.trans ⟨fun q => ⟨c, fun y hy => q y (Nat.zero_le _) hy⟩, fun q y _ hy => q.2 y hy⟩⟩
  · rw [if_neg (fun e => c ((nI_eq (by omega) (by omega)).mp e))]
    exact ⟨false, rfl, fun e => (by cases e), fun q => absurd q.1 c⟩
theorem qo_c {β : Type} {K : Option β} : qx_ob 0 80 K = K ∧ qx_ob 1 80 K = K ∧ qx_ob 2 80 K = K ∧ qx_ob 3 80 K = K ∧ qx_ob 4 80 K = K ∧ qx_ob 5 80 K = K ∧ qx_ob 6 80 K = K :=
  ⟨qo_in (j := 0) (by decide) (by decide), qo_in (j := 1) (by decide) (by decide), qo_in (j := 2) (by decide) (by decide), qo_in (j := 3) (by decide) (by decide), qo_in (j := 4) (by decide) (by decide), qo_in (j := 5) (by decide) (by decide), qo_in (j := 6) (by decide) (by decide)⟩
theorem qM_w39 {x1 x2 x3 x4 x5 x6 x7 : Int32} {s : Int32} : ∃ b, qM_isWord_J39 τ x1 x2 x3 x4 x5 x6 x7 s = some (qb b) ∧ (b = true ↔ τ.1 0 18 = s ∧ τ.1 9 0 = x1 ∧ τ.1 9 1 = x2 ∧ τ.1 9 2 = x3 ∧ (s < 4 ∨ τ.1 9 3 = x4) ∧ (s < 5 ∨ τ.1 9 4 = x5) ∧ (s < 6 ∨ τ.1 9 5 = x6) ∧ (s < 7 ∨ τ.1 9 6 = x7)) := by
  have z : qM_isWord_J85 τ x4 x5 x6 x7 s 0 = some (qb false) := by
    unfold qM_isWord_J85 qM_isWord_J131
    rw [if_pos rfl, if_pos rfl]; rfl
  have z2 : qM_isWord_J131 τ x6 x7 s 0 = some (qb false) := by
    unfold qM_isWord_J131
    rw [if_pos rfl]; rfl
  have n1 : ¬ (1 : Int32) = 0 := by decide
  unfold qM_isWord_J39
  rw [qo_c.1, qo_c.2.1, qo_c.2.2.1, z, show (0 : Int32).toNatClampNeg = 0 from rfl, show (1 : Int32).toNatClampNeg = 1 from rfl, show (2 : Int32).toNatClampNeg = 2 from rfl]
  by_cases c0 : τ.1 0 18 = s
  · rw [if_pos c0]
    by_cases c1 : τ.1 9 0 = x1
    · rw [if_pos c1]
      by_cases c2 : τ.1 9 1 = x2
      · rw [if_pos c2]
        by_cases c3 : τ.1 9 2 = x3
        · rw [if_pos c3]
          unfold qM_isWord_J85
          rw [if_neg n1, qo_c.2.2.2.1, show (3 : Int32).toNatClampNeg = 3 from rfl]
          have s6 : ∃ b, qM_isWord_J156 τ x7 s = some (qb b) ∧ (b = true ↔ (s < 7 ∨ τ.1 9 6 = x7)) := by
            unfold qM_isWord_J156
            rw [qo_c.2.2.2.2.2.2, show (6 : Int32).toNatClampNeg = 6 from rfl]
            by_cases d : s < 7
            · rw [if_pos d]; exact ⟨true, rfl, fun _ => Or.inl d, fun _ => rfl⟩
            · rw [if_neg d]
              by_cases d2 : τ.1 9 6 = x7
              · rw [if_pos d2]; exact ⟨true, rfl, fun _ => Or.inr d2, fun _ => rfl⟩
              · rw [if_neg d2]; exact ⟨false, rfl, fun e => (by cases e), fun e => (by cases e with | inl q => exact absurd q d | inr q => exact absurd q d2)⟩
          have s5 : ∃ b, qM_isWord_J131 τ x6 x7 s 1 = some (qb b) ∧ (b = true ↔ (s < 6 ∨ τ.1 9 5 = x6) ∧ (s < 7 ∨ τ.1 9 6 = x7)) := by
            obtain ⟨b, e1, e2⟩ := s6
            unfold qM_isWord_J131
            rw [if_neg n1, qo_c.2.2.2.2.2.1, show (5 : Int32).toNatClampNeg = 5 from rfl, e1]
            by_cases d : s < 6
            · rw [if_pos d]; exact ⟨b, rfl, fun q => ⟨Or.inl d, e2.mp q⟩, fun q => e2.mpr q.2⟩
            · rw [if_neg d]
              by_cases d2 : τ.1 9 5 = x6
              · rw [if_pos d2]; exact ⟨b, rfl, fun q => ⟨Or.inr d2, e2.mp q⟩, fun q => e2.mpr q.2⟩
              · rw [if_neg d2]; exact ⟨false, rfl, fun e => (by cases e), fun e => (by cases e.1 with | inl q => exact absurd q d | inr q => exact absurd q d2)⟩
          have s4 : ∃ b, qM_isWord_J109 τ x5 x6 x7 s = some (qb b) ∧ (b = true ↔ (s < 5 ∨ τ.1 9 4 = x5) ∧ (s < 6 ∨ τ.1 9 5 = x6) ∧ (s < 7 ∨ τ.1 9 6 = x7)) := by
            obtain ⟨b, e1, e2⟩ := s5
            unfold qM_isWord_J109
            rw [qo_c.2.2.2.2.1, show (4 : Int32).toNatClampNeg = 4 from rfl, e1, z2]
            by_cases d : s < 5
            · rw [if_pos d]; exact ⟨b, rfl, fun q => ⟨Or.inl d, e2.mp q⟩, fun q => e2.mpr q.2⟩
            · rw [if_neg d]
              by_cases d2 : τ.1 9 4 = x5
              · rw [if_pos d2]; exact ⟨b, rfl, fun q => ⟨Or.inr d2, e2.mp q⟩, fun q => e2.mpr q.2⟩
              · rw [if_neg d2]; exact ⟨false, rfl, fun e => (by cases e), fun e => (by cases e.1 with | inl q => exact absurd q d | inr q => exact absurd q d2)⟩
          obtain ⟨b, e1, e2⟩ := s4
          rw [e1, z2]
          by_cases d : s < 4
          · rw [if_pos d]; exact ⟨b, rfl, fun q => ⟨c0, c1, c2, c3, Or.inl d, e2.mp q⟩, fun q => e2.mpr q.2.2.2.2.2⟩
          · rw [if_neg d]
            by_cases d2 : τ.1 9 3 = x4
            · rw [if_pos d2]; exact ⟨b, rfl, fun q => ⟨c0, c1, c2, c3, Or.inr d2, e2.mp q⟩, fun q => e2.mpr q.2.2.2.2.2⟩
            · rw [if_neg d2]; exact ⟨false, rfl, fun e => (by cases e), fun e => (by cases e.2.2.2.2.1 with | inl q => exact absurd q d | inr q => exact absurd q d2)⟩
        · rw [if_neg c3]; exact ⟨false, rfl, fun e => (by cases e), fun q => absurd q.2.2.2.1 c3⟩
      · rw [if_neg c2]; exact ⟨false, rfl, fun e => (by cases e), fun q => absurd q.2.2.1 c2⟩
    · rw [if_neg c1]; exact ⟨false, rfl, fun e => (by cases e), fun q => absurd q.2.1 c1⟩
  · rw [if_neg c0]; exact ⟨false, rfl, fun e => (by cases e), fun q => absurd q.1 c0⟩
theorem qt_lt_d {a b : Int32} (h : decide (a < b) = false) : (a < b) ↔ False := ⟨fun q => absurd q (of_decide_eq_false h), False.elim⟩
/-- the reference's word from a to i -/
def qt_Wd (u : Nat → Int32) (t a i : Nat) (τ : QS) : Prop := τ.1 0 18 = nI (i - a) ∧ ∀ j, a + j < i → τ.1 9 j = qt_ch u t (a + j)
theorem qM_word_c {a i : Nat} {l : List Int32} {x1 x2 x3 x4 x5 x6 x7 s : Int32} (h : qt_Wd u t a i τ) (hi : i ≤ 80) (h7 : 3 ≤ l.length ∧ l.length ≤ 7) (es : s = nI l.length) (g : ∀ y, y < l.length → l.getD y 0 = (match y with | 0 => x1 | 1 => x2 | 2 => x3 | 3 => x4 | 4 => x5 | 5 => x6 | _ => x7)) :
    ∃ b, qM_isWord_J39 τ x1 x2 x3 x4 x5 x6 x7 s = some (qb b) ∧ (b = true ↔ qt_is u t a i l) := by
  obtain ⟨b, e1, e2⟩ := qM_w39 (τ := τ) (x1 := x1) (x2 := x2) (x3 := x3) (x4 := x4) (x5 := x5) (x6 := x6) (x7 := x7) (s := s)
  refine ⟨b, e1, e2.trans ?_⟩
  subst es
  rw [h.1]
  have lt : ∀ c : Nat, c < 8 → ((nI l.length < nI c) ↔ l.length < c) := by
    intro c hc
    rw [qi_lt, nI_toInt (by omega), nI_toInt (by omega)]
    omega
  have l4 := lt 4 (by omega)
  have l5 := lt 5 (by omega)
  have l6 := lt 6 (by omega)
  have l7 := lt 7 (by omega)
  constructor
  · intro ⟨q0, q1, q2, q3, q4, q5, q6, q7⟩
    have q0 := (nI_eq (by omega) (by omega)).mp q0
    refine ⟨q0, fun y hy => ?_⟩
    rw [← h.2 y (by omega), g y hy]
    have : y = 0 ∨ y = 1 ∨ y = 2 ∨ y = 3 ∨ y = 4 ∨ y = 5 ∨ y = 6 := by omega
    rcases this with rfl | rfl | rfl | rfl | rfl | rfl | rfl
    · exact q1
    · exact q2
    · exact q3
    · exact q4.resolve_left (fun e => by have := l4.mp e; omega)
    · exact q5.resolve_left (fun e => by have := l5.mp e; omega)
    · exact q6.resolve_left (fun e => by have := l6.mp e; omega)
    · exact q7.resolve_left (fun e => by have := l7.mp e; omega)
  · intro ⟨q0, q⟩
    have v : ∀ y, y < l.length → τ.1 9 y = (match y with | 0 => x1 | 1 => x2 | 2 => x3 | 3 => x4 | 4 => x5 | 5 => x6 | _ => x7) := fun y hy => by rw [h.2 y (by omega), q y hy, g y hy]
    refine ⟨by rw [q0], v 0 (by omega), v 1 (by omega), v 2 (by omega), ?_, ?_, ?_, ?_⟩
    · rcases Nat.lt_or_ge l.length 4 with c | c
      · exact Or.inl (l4.mpr c)
      · exact Or.inr (v 3 c)
    · rcases Nat.lt_or_ge l.length 5 with c | c
      · exact Or.inl (l5.mpr c)
      · exact Or.inr (v 4 c)
    · rcases Nat.lt_or_ge l.length 6 with c | c
      · exact Or.inl (l6.mpr c)
      · exact Or.inr (v 5 c)
    · rcases Nat.lt_or_ge l.length 7 with c | c
      · exact Or.inl (l7.mpr c)
      · exact Or.inr (v 6 c)
theorem qt_is_u {a i : Nat} {l l' : List Int32} (h : qt_is u t a i l) (h' : qt_is u t a i l') (hn : l.length = l'.length → l.getD 0 0 = l'.getD 0 0 → False) (hp : 0 < l.length) : False := by
  have e := h.1.symm.trans h'.1
  exact hn e (by rw [← h.2 0 hp, ← h'.2 0 (by omega)])
end
