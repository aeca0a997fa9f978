/-! run side by side: the kind of command, and its numbers -/
section
variable {σ τ σ0 τ0 : QS} {u : Nat → Int32} {t : Nat}
theorem qt_bb {b c : Bool} {p : Prop} (h : b = true ↔ p) (h' : c = true ↔ p) : c = b := by
  cases b <;> cases c <;> simp_all
theorem qt_kind (hC : qt_C u t σ) {a i : Nat} (hW : qt_Wd u t a i τ) (ha : a ≤ i) (hi : i ≤ 80) : ∃ kd, qCm_kindOf σ (nI a) (nI i) = some kd ∧ qM_command τ = some kd ∧ (kd = -1 ∨ (∃ q, q < 6 ∧ kd = nI q) ∧ a < i) := by
  obtain ⟨b0, e0, p0⟩ := qTx_isWord_s hC (w := 0) (l := [112, 111, 105, 110, 116]) rfl rfl (by decide) ha hi
  obtain ⟨b1, e1, p1⟩ := qTx_isWord_s hC (w := 1) (l := [119, 105, 110, 100, 111, 119]) rfl rfl (by decide) ha hi
  obtain ⟨b2, e2, p2⟩ := qTx_isWord_s hC (w := 2) (l := [112, 97, 110]) rfl rfl (by decide) ha hi
  obtain ⟨b3, e3, p3⟩ := qTx_isWord_s hC (w := 3) (l := [108, 97, 98, 101, 108]) rfl rfl (by decide) ha hi
  obtain ⟨b4, e4, p4⟩ := qTx_isWord_s hC (w := 4) (l := [105, 109, 112, 114, 111, 118, 101]) rfl rfl (by decide) ha hi
  obtain ⟨b5, e5, p5⟩ := qTx_isWord_s hC (w := 5) (l := [104, 105, 100, 101]) rfl rfl (by decide) ha hi
  obtain ⟨c0, f0, r0⟩ := qM_word_c (x1 := 112) (x2 := 111) (x3 := 105) (x4 := 110) (x5 := 116) (x6 := 0) (x7 := 0) (s := 5) (l := [112, 111, 105, 110, 116]) hW hi (by decide) rfl (by decide)
  obtain ⟨c1, f1, r1⟩ := qM_word_c (x1 := 119) (x2 := 105) (x3 := 110) (x4 := 100) (x5 := 111) (x6 := 119) (x7 := 0) (s := 6) (l := [119, 105, 110, 100, 111, 119]) hW hi (by decide) rfl (by decide)
  obtain ⟨c2, f2, r2⟩ := qM_word_c (x1 := 112) (x2 := 97) (x3 := 110) (x4 := 0) (x5 := 0) (x6 := 0) (x7 := 0) (s := 3) (l := [112, 97, 110]) hW hi (by decide) rfl (by decide)
  obtain ⟨c3, f3, r3⟩ := qM_word_c (x1 := 108) (x2 := 97) (x3 := 98) (x4 := 101) (x5 := 108) (x6 := 0) (x7 := 0) (s := 5) (l := [108, 97, 98, 101, 108]) hW hi (by decide) rfl (by decide)
  obtain ⟨c4, f4, r4⟩ := qM_word_c (x1 := 105) (x2 := 109) (x3 := 112) (x4 := 114) (x5 := 111) (x6 := 118) (x7 := 101) (s := 7) (l := [105, 109, 112, 114, 111, 118, 101]) hW hi (by decide) rfl (by decide)
  obtain ⟨c5, f5, r5⟩ := qM_word_c (x1 := 104) (x2 := 105) (x3 := 100) (x4 := 101) (x5 := 0) (x6 := 0) (x7 := 0) (s := 4) (l := [104, 105, 100, 101]) hW hi (by decide) rfl (by decide)
  have g0 : qM_isWord τ 112 111 105 110 116 0 0 = some (qb b0) := by
    unfold qM_isWord
    rw [if_pos (by decide), if_pos (by decide), if_neg (by decide), f0, qt_bb p0 r0]
  have g1 : qM_isWord τ 119 105 110 100 111 119 0 = some (qb b1) := by
    unfold qM_isWord
    rw [if_pos (by decide), if_neg (by decide), f1, qt_bb p1 r1]
  have g2 : qM_isWord τ 112 97 110 0 0 0 0 = some (qb b2) := by
    unfold qM_isWord
    rw [if_pos (by decide), if_pos (by decide), if_pos (by decide), if_pos (by decide), f2, qt_bb p2 r2]
  have g3 : qM_isWord τ 108 97 98 101 108 0 0 = some (qb b3) := by
    unfold qM_isWord
    rw [if_pos (by decide), if_pos (by decide), if_neg (by decide), f3, qt_bb p3 r3]
  have g4 : qM_isWord τ 105 109 112 114 111 118 101 = some (qb b4) := by
    unfold qM_isWord
    rw [if_neg (by decide), f4, qt_bb p4 r4]
  have g5 : qM_isWord τ 104 105 100 101 0 0 0 = some (qb b5) := by
    unfold qM_isWord
    rw [if_pos (by decide), if_pos (by decide), if_pos (by decide), if_neg (by decide), f5, qt_bb p5 r5]
  have lt : ∀ l : List Int32, 0 < l.length → qt_is u t a i l → a < i := by
    intro l hl q
    have := q.1
    omega
  have pos : ¬ (b0 = false ∧ b1 = false ∧ b2 = false ∧ b3 = false ∧ b4 = false ∧ b5 = false) → a < i := by
    intro q
    cases hb0 : b0 with
    | true => exact lt _ (by decide) (p0.mp hb0)
    | false => cases hb1 : b1 with
      | true => exact lt _ (by decide) (p1.mp hb1)
      | false => cases hb2 : b2 with
        | true => exact lt _ (by decide) (p2.mp hb2)
        | false => cases hb3 : b3 with
          | true => exact lt _ (by decide) (p3.mp hb3)
          | false => cases hb4 : b4 with
            | true => exact lt _ (by decide) (p4.mp hb4)
            | false => cases hb5 : b5 with
              | true => exact lt _ (by decide) (p5.mp hb5)
              | false => exact absurd ⟨hb0, hb1, hb2, hb3, hb4, hb5⟩ q
  have x02 : ¬ (b0 = true ∧ b2 = true) := fun q => qt_is_u (p0.mp q.1) (p2.mp q.2) (by decide) (by decide)
  have x03 : ¬ (b0 = true ∧ b3 = true) := fun q => qt_is_u (p0.mp q.1) (p3.mp q.2) (by decide) (by decide)
  have x04 : ¬ (b0 = true ∧ b4 = true) := fun q => qt_is_u (p0.mp q.1) (p4.mp q.2) (by decide) (by decide)
  have x05 : ¬ (b0 = true ∧ b5 = true) := fun q => qt_is_u (p0.mp q.1) (p5.mp q.2) (by decide) (by decide)
  have x12 : ¬ (b1 = true ∧ b2 = true) := fun q => qt_is_u (p1.mp q.1) (p2.mp q.2) (by decide) (by decide)
  have x13 : ¬ (b1 = true ∧ b3 = true) := fun q => qt_is_u (p1.mp q.1) (p3.mp q.2) (by decide) (by decide)
  have x14 : ¬ (b1 = true ∧ b4 = true) := fun q => qt_is_u (p1.mp q.1) (p4.mp q.2) (by decide) (by decide)
  have x15 : ¬ (b1 = true ∧ b5 = true) := fun q => qt_is_u (p1.mp q.1) (p5.mp q.2) (by decide) (by decide)
  have x24 : ¬ (b2 = true ∧ b4 = true) := fun q => qt_is_u (p2.mp q.1) (p4.mp q.2) (by decide) (by decide)
  have x25 : ¬ (b2 = true ∧ b5 = true) := fun q => qt_is_u (p2.mp q.1) (p5.mp q.2) (by decide) (by decide)
  have x34 : ¬ (b3 = true ∧ b4 = true) := fun q => qt_is_u (p3.mp q.1) (p4.mp q.2) (by decide) (by decide)
  have x35 : ¬ (b3 = true ∧ b5 = true) := fun q => qt_is_u (p3.mp q.1) (p5.mp q.2) (by decide) (by decide)
  unfold qCm_kindOf qM_command qM_command_J48 qM_command_J94
  rw [e0, e1, e2, e3, e4, e5, g0, g1, g2, g3, g4, g5]
  simp only [qob_bind]
  clear e0 e1 e2 e3 e4 e5 g0 g1 g2 g3 g4 g5 f0 f1 f2 f3 f4 f5 p0 p1 p2 p3 p4 p5 r0 r1 r2 r3 r4 r5
  have T : ∀ {α : Type} (x y : α), (if qb true = 0 then x else y) = y := fun x y => if_neg qb_ne
  have Fa : ∀ {α : Type} (x y : α), (if qb false = 0 then x else y) = x := fun x y => if_pos qb_f
  cases b0 with
  | true =>
    cases b2 with
    | true => exact absurd ⟨rfl, rfl⟩ x02
    | false => cases b3 with
      | true => exact absurd ⟨rfl, rfl⟩ x03
      | false => cases b4 with
        | true => exact absurd ⟨rfl, rfl⟩ x04
        | false => cases b5 with
          | true => exact absurd ⟨rfl, rfl⟩ x05
          | false =>
            simp only [T, Fa]
            exact ⟨0, rfl, rfl, Or.inr ⟨⟨0, by decide, rfl⟩, pos (by simp)⟩⟩
  | false => cases b1 with
    | true => cases b2 with
      | true => exact absurd ⟨rfl, rfl⟩ x12
      | false => cases b3 with
        | true => exact absurd ⟨rfl, rfl⟩ x13
        | false => cases b4 with
          | true => exact absurd ⟨rfl, rfl⟩ x14
          | false => cases b5 with
            | true => exact absurd ⟨rfl, rfl⟩ x15
            | false =>
              simp only [T, Fa]
              exact ⟨1, rfl, rfl, Or.inr ⟨⟨1, by decide, rfl⟩, pos (by simp)⟩⟩
    | false => cases b2 with
      | true => cases b4 with
        | true => exact absurd ⟨rfl, rfl⟩ x24
        | false => cases b5 with
          | true => exact absurd ⟨rfl, rfl⟩ x25
          | false =>
            simp only [T, Fa]
            exact ⟨2, rfl, rfl, Or.inr ⟨⟨2, by decide, rfl⟩, pos (by simp)⟩⟩
      | false => cases b3 with
        | true => cases b4 with
          | true => exact absurd ⟨rfl, rfl⟩ x34
          | false => cases b5 with
            | true => exact absurd ⟨rfl, rfl⟩ x35
            | false =>
              simp only [T, Fa]
              exact ⟨3, rfl, rfl, Or.inr ⟨⟨3, by decide, rfl⟩, pos (by simp)⟩⟩
        | false => cases b4 with
          | true =>
            simp only [T, Fa]
            exact ⟨4, rfl, rfl, Or.inr ⟨⟨4, by decide, rfl⟩, pos (by simp)⟩⟩
          | false => cases b5 with
            | true =>
              simp only [T, Fa]
              exact ⟨5, rfl, rfl, Or.inr ⟨⟨5, by decide, rfl⟩, pos (by simp)⟩⟩
            | false =>
              simp only [T, Fa]
              exact ⟨-1, rfl, rfl, Or.inl rfl⟩
end
