/-! greatest: the greatest sum of priorities, over lists of points -/
section
variable {n : Nat} {f : Nat → Nat → Int32}
theorem qp_oo_perm (h : 1 ≤ (f 4 n).toInt ∧ (f 4 n).toInt ≤ 9) : ∀ j, j ≤ 9 → (qp_oo (n + 1) f j).Perm (qp_oo n f j ++ (if 9 - (j : Int) < (f 4 n).toInt then [n] else [])) := by
  intro j
  induction j with
  | zero => intro _; show List.Perm [] ([] ++ _); rw [if_neg (by omega)]; exact List.Perm.refl _
  | succ j ih =>
    intro hj
    show (qp_oo (n + 1) f j ++ (qp_oi f (9 - j) n ++ (if f 4 n = nI (9 - j) then [n] else []))).Perm ((qp_oo n f j ++ qp_oi f (9 - j) n) ++ _)
    have ih := ih (by omega)
    have key : (if 9 - (j : Int) < (f 4 n).toInt then [n] else []) ++ (if f 4 n = nI (9 - j) then [n] else []) = (if 9 - ((j + 1 : Nat) : Int) < (f 4 n).toInt then [n] else [] : List Nat) := by
      by_cases c : f 4 n = nI (9 - j)
      · have e : (f 4 n).toInt = 9 - j := by rw [c, nI_toInt (by omega)]; omega
        rw [if_pos c, if_neg (by omega), if_pos (by omega)]; rfl
      · have e : ¬ (f 4 n).toInt = 9 - j := fun e => c (by rw [qi_eq, nI_toInt (by omega)]; omega)
        rw [if_neg c, List.append_nil]
        by_cases c2 : 9 - (j : Int) < (f 4 n).toInt
        · rw [if_pos c2, if_pos (by omega)]
        · rw [if_neg c2, if_neg (by omega)]
    rw [← key]
    refine (List.Perm.append_right _ ih).trans ?_
    rw [List.append_assoc, List.append_assoc]
    refine List.Perm.append_left _ ?_
    rw [← List.append_assoc, ← List.append_assoc]
    exact List.Perm.append_right _ List.perm_append_comm
theorem qp_ords_perm : ∀ n, (∀ p, p < n → 1 ≤ (f 4 p).toInt ∧ (f 4 p).toInt ≤ 9) → (qp_ords n f).Perm (List.range n) := by
  intro n
  induction n with
  | zero =>
    intro _
    have : ∀ j, qp_oo 0 f j = [] := by
      intro j
      induction j with
      | zero => rfl
      | succ j ih => show qp_oo 0 f j ++ [] = []; rw [List.append_nil]; exact ih
    unfold qp_ords
    rw [this 9]
    exact List.Perm.refl _
  | succ n ih =>
    intro h
    have h1 := qp_oo_perm (h n (by omega)) 9 (by omega)
    have h2 := ih (fun p hp => h p (by omega))
    rw [if_pos (by have := (h n (by omega)).1; omega)] at h1
    rw [List.range_succ]
    exact h1.trans (List.Perm.append_right _ h2)
end
section
variable {pl : Nat → Nat → Bool} {mt : Nat → Nat → Nat → Nat → Bool} {pr : Nat → Nat}
/-- place s of p is left when those of ch are taken -/
def qg_fr (pl : Nat → Nat → Bool) (mt : Nat → Nat → Nat → Nat → Bool) (ch : List (Nat × Nat)) (p s : Nat) : Bool := pl p s && ch.all (fun c => !mt c.1 c.2 p s)
def qg_mx : Nat → (Nat → Nat) → Nat
  | 0, _ => 0
  | k + 1, g => max (qg_mx k g) (g k)
/-- the greatest sum that the points of a list give, when those of ch are taken -/
def qg_G (pl : Nat → Nat → Bool) (mt : Nat → Nat → Nat → Nat → Bool) (pr : Nat → Nat) : List Nat → List (Nat × Nat) → Nat
  | [], _ => 0
  | p :: l, ch => max (qg_G pl mt pr l ch) (qg_mx 8 (fun s => if qg_fr pl mt ch p s = true then pr p + qg_G pl mt pr l ((p, s) :: ch) else 0))
def qg_val (pr : Nat → Nat) (a : Nat → Nat) : List Nat → Nat
  | [] => 0
  | p :: l => (if a p < 8 then pr p else 0) + qg_val pr a l
def qg_ok (pl : Nat → Nat → Bool) (mt : Nat → Nat → Nat → Nat → Bool) (l : List Nat) (ch : List (Nat × Nat)) (a : Nat → Nat) : Prop := (∀ p, p ∈ l → a p < 8 → qg_fr pl mt ch p (a p) = true) ∧ ∀ p, p ∈ l → ∀ q, q ∈ l → ¬ p = q → a p < 8 → a q < 8 → mt p (a p) q (a q) = false
theorem qg_mx_ge {g : Nat → Nat} : ∀ k s, s < k → g s ≤ qg_mx k g := by
  intro k
  induction k with
  | zero => intro s h; omega
  | succ k ih =>
    intro s h
    show g s ≤ max (qg_mx k g) (g k)
    by_cases c : s = k
    · subst c; omega
    · have := ih s (by omega); omega
theorem qg_mx_at {g : Nat → Nat} : ∀ k, qg_mx k g = 0 ∨ ∃ s, s < k ∧ qg_mx k g = g s := by
  intro k
  induction k with
  | zero => exact Or.inl rfl
  | succ k ih =>
    show max (qg_mx k g) (g k) = 0 ∨ ∃ s, s < k + 1 ∧ max (qg_mx k g) (g k) = g s
    rcases Nat.le_total (qg_mx k g) (g k) with c | c
    · exact Or.inr ⟨k, by omega, by omega⟩
    · rcases ih with e | ⟨s, h1, h2⟩
      · exact Or.inl (by omega)
      · exact Or.inr ⟨s, by omega, by omega⟩
theorem qg_up {a : Nat → Nat} : ∀ (l : List Nat) (ch : List (Nat × Nat)), l.Nodup → qg_ok pl mt l ch a → qg_val pr a l ≤ qg_G pl mt pr l ch := by
  intro l
  induction l with
  | nil => intro ch _ _; exact Nat.le_refl _
  | cons p l ih =>
    intro ch hn ⟨h1, h2⟩
    rw [List.nodup_cons] at hn
    show (if a p < 8 then pr p else 0) + qg_val pr a l ≤ max (qg_G pl mt pr l ch) _
    by_cases c : a p < 8
    · rw [if_pos c]
      have fr := h1 p List.mem_cons_self c
      have hok : qg_ok pl mt l ((p, a p) :: ch) a := by
        refine ⟨fun q hq hq8 => ?_, fun q hq r hr => h2 q (List.mem_cons_of_mem _ hq) r (List.mem_cons_of_mem _ hr)⟩
        have g1 := h1 q (List.mem_cons_of_mem _ hq) hq8
        have g2 := h2 p List.mem_cons_self q (List.mem_cons_of_mem _ hq) (fun e => hn.1 (e ▸ hq)) c hq8
        unfold qg_fr at g1 ⊢
        rw [List.all_cons]
        show (pl q (a q) && ((!mt p (a p) q (a q)) && _)) = true
        rw [g2]
        exact g1
      have := ih ((p, a p) :: ch) hn.2 hok
      have m := qg_mx_ge (g := fun s => if qg_fr pl mt ch p s = true then pr p + qg_G pl mt pr l ((p, s) :: ch) else 0) 8 (a p) c
      simp only [fr, if_true] at m
      omega
    · rw [if_neg c]
      have := ih ch hn.2 ⟨fun q hq => h1 q (List.mem_cons_of_mem _ hq), fun q hq r hr => h2 q (List.mem_cons_of_mem _ hq) r (List.mem_cons_of_mem _ hr)⟩
      omega
theorem qg_val_cg {a b : Nat → Nat} : ∀ (l : List Nat), (∀ p, p ∈ l → a p = b p) → qg_val pr a l = qg_val pr b l := by
  intro l
  induction l with
  | nil => intro _; rfl
  | cons p l ih =>
    intro h
    show (if a p < 8 then pr p else 0) + _ = (if b p < 8 then pr p else 0) + _
    rw [h p List.mem_cons_self, ih (fun q hq => h q (List.mem_cons_of_mem _ hq))]
theorem qg_ex (sy : ∀ p s q t, mt p s q t = mt q t p s) : ∀ (l : List Nat) (ch : List (Nat × Nat)), l.Nodup → ∃ a, qg_ok pl mt l ch a ∧ qg_val pr a l = qg_G pl mt pr l ch := by
  intro l
  induction l with
  | nil => intro ch _; exact ⟨fun _ => 8, ⟨fun p hp => (by cases hp), fun p hp => (by cases hp)⟩, rfl⟩
  | cons p l ih =>
    intro ch hn
    rw [List.nodup_cons] at hn
    have ne : ∀ q, q ∈ l → ¬ q = p := fun q hq e => hn.1 (e ▸ hq)
    have G : qg_G pl mt pr (p :: l) ch = max (qg_G pl mt pr l ch) (qg_mx 8 (fun s => if qg_fr pl mt ch p s = true then pr p + qg_G pl mt pr l ((p, s) :: ch) else 0)) := rfl
    have non : qg_G pl mt pr (p :: l) ch = qg_G pl mt pr l ch → ∃ a, qg_ok pl mt (p :: l) ch a ∧ qg_val pr a (p :: l) = qg_G pl mt pr (p :: l) ch := by
      intro e
      obtain ⟨a, ⟨h1, h2⟩, h3⟩ := ih ch hn.2
      have e8 : ∀ q, q ∈ l → (fun q => if q = p then 8 else a q) q = a q := fun q hq => if_neg (ne q hq)
      refine ⟨fun q => if q = p then 8 else a q, ⟨fun q hq hq8 => ?_, fun q hq r hr hqr hq8 hr8 => ?_⟩, ?_⟩
      · by_cases c : q = p
        · simp [c] at hq8
        · simp only [if_neg c] at hq8 ⊢
          exact h1 q ((List.mem_cons.mp hq).resolve_left c) hq8
      · by_cases c : q = p
        · simp [c] at hq8
        · by_cases d : r = p
          · simp [d] at hr8
          · simp only [if_neg c] at hq8 ⊢
            simp only [if_neg d] at hr8 ⊢
            exact h2 q ((List.mem_cons.mp hq).resolve_left c) r ((List.mem_cons.mp hr).resolve_left d) hqr hq8 hr8
      · show (if (if p = p then 8 else a p) < 8 then pr p else 0) + _ = _
        rw [if_pos rfl, if_neg (by decide), qg_val_cg l e8, h3, e, Nat.zero_add]
    rcases Nat.le_total (qg_mx 8 (fun s => if qg_fr pl mt ch p s = true then pr p + qg_G pl mt pr l ((p, s) :: ch) else 0)) (qg_G pl mt pr l ch) with c | c
    · exact non (by rw [G]; exact Nat.max_eq_left c)
    · rcases qg_mx_at (g := fun s => if qg_fr pl mt ch p s = true then pr p + qg_G pl mt pr l ((p, s) :: ch) else 0) 8 with e | ⟨s, hs, e⟩
      · exact non (by rw [G, e]; exact Nat.max_eq_left (Nat.zero_le _))
      · by_cases fr : qg_fr pl mt ch p s = true
        · simp only [if_pos fr] at e
          obtain ⟨a, ⟨h1, h2⟩, h3⟩ := ih ((p, s) :: ch) hn.2
          have es : ∀ q, q ∈ l → (fun q => if q = p then s else a q) q = a q := fun q hq => if_neg (ne q hq)
          have frl : ∀ q, q ∈ l → a q < 8 → qg_fr pl mt ch q (a q) = true ∧ mt p s q (a q) = false := by
            intro q hq hq8
            have g := h1 q hq hq8
            unfold qg_fr at g ⊢
            rw [List.all_cons] at g
            have g : (pl q (a q) && ((!mt p s q (a q)) && ch.all (fun c => !mt c.1 c.2 q (a q)))) = true := g
            simp only [Bool.and_eq_true, Bool.not_eq_true'] at g
            refine ⟨?_, g.2.1⟩
            rw [Bool.and_eq_true]
            exact ⟨g.1, g.2.2⟩
          refine ⟨fun q => if q = p then s else a q, ⟨fun q hq hq8 => ?_, fun q hq r hr hqr hq8 hr8 => ?_⟩, ?_⟩
          · by_cases d : q = p
            · simp only [d, if_true]; exact fr
            · simp only [if_neg d] at hq8 ⊢
              exact (frl q ((List.mem_cons.mp hq).resolve_left d) hq8).1
          · by_cases d : q = p
            · by_cases d' : r = p
              · exact absurd (d.trans d'.symm) hqr
              · simp only [if_neg d'] at hr8 ⊢
                simp only [d, if_true]
                exact (frl r ((List.mem_cons.mp hr).resolve_left d') hr8).2
            · simp only [if_neg d] at hq8 ⊢
              by_cases d' : r = p
              · simp only [d', if_true]
                rw [sy]
                exact (frl q ((List.mem_cons.mp hq).resolve_left d) hq8).2
              · simp only [if_neg d'] at hr8 ⊢
                exact h2 q ((List.mem_cons.mp hq).resolve_left d) r ((List.mem_cons.mp hr).resolve_left d') hqr hq8 hr8
          · show (if (if p = p then s else a p) < 8 then pr p else 0) + _ = _
            rw [if_pos rfl, if_pos hs, qg_val_cg l es, h3, G]
            rw [Nat.max_eq_right c, e]
        · simp only [if_neg fr] at e
          exact non (by rw [G, e]; exact Nat.max_eq_left (Nat.zero_le _))
theorem qg_val_perm {a : Nat → Nat} {l l' : List Nat} (h : l.Perm l') : qg_val pr a l = qg_val pr a l' := by
  induction h with
  | nil => rfl
  | cons x _ ih => show _ + _ = _ + _; rw [ih]
  | swap x y l => show (if a y < 8 then pr y else 0) + ((if a x < 8 then pr x else 0) + qg_val pr a l) = (if a x < 8 then pr x else 0) + ((if a y < 8 then pr y else 0) + qg_val pr a l); omega
  | trans _ _ i1 i2 => exact i1.trans i2
theorem qg_le (sy : ∀ p s q t, mt p s q t = mt q t p s) {l l' : List Nat} (h : l.Perm l') (hn : l.Nodup) : qg_G pl mt pr l [] ≤ qg_G pl mt pr l' [] := by
  obtain ⟨a, ⟨h1, h2⟩, h3⟩ := qg_ex (pl := pl) (pr := pr) sy l [] hn
  rw [← h3, qg_val_perm h]
  exact qg_up l' [] (h.nodup_iff.mp hn) ⟨fun p hp => h1 p (h.mem_iff.mpr hp), fun p hp q hq => h2 p (h.mem_iff.mpr hp) q (h.mem_iff.mpr hq)⟩
/-- the order of the points does not matter -/
theorem qg_perm (sy : ∀ p s q t, mt p s q t = mt q t p s) {l l' : List Nat} (h : l.Perm l') (hn : l.Nodup) : qg_G pl mt pr l [] = qg_G pl mt pr l' [] := Nat.le_antisymm (qg_le sy h hn) (qg_le sy h.symm (h.nodup_iff.mp hn))
end
