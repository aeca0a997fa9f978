/-! greatest: the class's search finds the same sum -/
section
variable {pl : Nat → Nat → Bool} {mt : Nat → Nat → Nat → Nat → Bool} {pr : Nat → Nat}
def qg_re (pl : Nat → Nat → Bool) (mt : Nat → Nat → Nat → Nat → Bool) (pr : Nat → Nat) (ch : List (Nat × Nat)) : List Nat → Nat
  | [] => 0
  | p :: l => (if qp_cnt 8 (qg_fr pl mt ch p) = 0 then 0 else pr p) + qg_re pl mt pr ch l
theorem qg_re_mono (c : Nat × Nat) (ch : List (Nat × Nat)) : ∀ l, qg_re pl mt pr (c :: ch) l ≤ qg_re pl mt pr ch l := by
  intro l
  induction l with
  | nil => exact Nat.le_refl _
  | cons p l ih =>
    show (if qp_cnt 8 (qg_fr pl mt (c :: ch) p) = 0 then 0 else pr p) + qg_re pl mt pr (c :: ch) l ≤ (if qp_cnt 8 (qg_fr pl mt ch p) = 0 then 0 else pr p) + qg_re pl mt pr ch l
    by_cases q : qp_cnt 8 (qg_fr pl mt ch p) = 0
    · have : qp_cnt 8 (qg_fr pl mt (c :: ch) p) = 0 := by
        refine qp_cnt_zero' (fun s hs => ?_)
        have h := qp_cnt_zero q s hs
        unfold qg_fr at h ⊢
        rw [List.all_cons]
        cases h1 : pl p s with
        | false => rfl
        | true =>
          rw [h1, Bool.true_and] at h
          rw [h, Bool.and_false, Bool.true_and]
      rw [if_pos q, if_pos this]
      omega
    · rw [if_neg q]
      split <;> omega
theorem qg_G_re : ∀ (l : List Nat) (ch : List (Nat × Nat)), qg_G pl mt pr l ch ≤ qg_re pl mt pr ch l := by
  intro l
  induction l with
  | nil => intro _; exact Nat.le_refl _
  | cons p l ih =>
    intro ch
    have i0 := ih ch
    rw [qg_G_c]
    show _ ≤ (if qp_cnt 8 (qg_fr pl mt ch p) = 0 then 0 else pr p) + qg_re pl mt pr ch l
    rcases qg_mx_at (g := qg_h pl mt pr l ch p) 8 with e | ⟨s, hs, e⟩
    · omega
    · have i1 := ih ((p, s) :: ch)
      have i2 := qg_re_mono (pl := pl) (mt := mt) (pr := pr) (p, s) ch l
      by_cases c : qg_fr pl mt ch p s = true
      · have : ¬ qp_cnt 8 (qg_fr pl mt ch p) = 0 := fun q => by rw [qp_cnt_zero q s hs] at c; cases c
        have e2 : qg_h pl mt pr l ch p s = pr p + qg_G pl mt pr l ((p, s) :: ch) := if_pos c
        rw [if_neg this]
        omega
      · have e2 : qg_h pl mt pr l ch p s = 0 := if_neg c
        omega
end
section
variable {n : Nat} {f : Nat → Nat → Int32} {w sh : Nat → Int32} {σ : QS} {L : List Nat}
/-- the free places of those from i on -/
def qg_F (n : Nat) (f : Nat → Nat → Int32) (w : Nat → Int32) (L : List Nat) (i : Nat) (ch : List (Nat × Nat)) (x : Int64) : Prop := ∀ j, i ≤ j → j < L.length → ∀ s, s < 8 → x.toBitVec.getLsbD (8 * j + s) = qg_fr (qp_pl n f w) (qp_mt f) ch (L.getD j 0) s
theorem qSe_priorityOf_s (hok : qv_ok n f w) (hL : qg_L n L) (hS : qg_S n f w sh L σ) {i : Nat} (hi : i < L.length) : qSe_priorityOf σ (nI i) = some (nI (qg_pr f (L.getD i 0))) := by
  have h6 := hL.1
  unfold qSe_priorityOf
  rw [qo_in (by omega) (by decide), nI_clamp (by omega), hS.2.2.2 i hi, qPt_get4 hok.1 hS.1 (hL.2 i hi), qob_bind, (qg_pr_e (hok.2.1 _ (hL.2 i hi))).1]
theorem qSe_reach_s (hok : qv_ok n f w) (hL : qg_L n L) (hS : qg_S n f w sh L σ) {ch : List (Nat × Nat)} {x : Int64} : ∀ (F j a : Nat), j ≤ L.length → L.length < F + j → qg_F n f w L j ch x → qSe_sumInReach_L6 σ x F (nI a) (nI j) = some (nI (a + qg_re (qp_pl n f w) (qp_mt f) (qg_pr f) ch (L.drop j))) := by
  have h6 := hL.1
  intro F
  induction F with
  | zero => intro j a h1 h2; omega
  | succ F ih =>
    intro j a h1 h2 hF
    rw [qSe_sumInReach_L6, hS.2.2.1]
    by_cases c : j = L.length
    · rw [c, if_pos (nI_le (Nat.le_refl _) (by omega)), List.drop_length]
      rfl
    · have hj : j < L.length := by omega
      rw [if_neg (nI_ge hj (by omega)), show nI j * 8 = nI (8 * j) by rw [show (8 : Int32) = nI 8 from rfl, pk_mul, Nat.mul_comm], qSe_priorityOf_s hok hL hS hj, qob_bind, nI_1, nI_add, qg_dr hj]
      show _ = some (nI (a + ((if qp_cnt 8 (qg_fr (qp_pl n f w) (qp_mt f) ch (L.getD j 0)) = 0 then 0 else qg_pr f (L.getD j 0)) + qg_re (qp_pl n f w) (qp_mt f) (qg_pr f) ch (L.drop (j + 1)))))
      have hF1 : qg_F n f w L (j + 1) ch x := fun i hi => hF i (by omega)
      by_cases q : qp_cnt 8 (qg_fr (qp_pl n f w) (qp_mt f) ch (L.getD j 0)) = 0
      · rw [if_pos ((qz_byte x (by omega)).mpr (fun s hs => by rw [hF j (Nat.le_refl _) hj s hs]; exact qp_cnt_zero q s hs)), if_pos q, ih (j + 1) a (by omega) (by omega) hF1, Nat.zero_add]
      · rw [if_neg (fun e => q (qp_cnt_zero' (fun s hs => by rw [← hF j (Nat.le_refl _) hj s hs]; exact (qz_byte x (by omega)).mp e s hs))), if_neg q, ih (j + 1) _ (by omega) (by omega) hF1, Nat.add_assoc]
theorem qSe_best_s (hok : qv_ok n f w) (hL : qg_L n L) (hS : qg_S n f w sh L σ) (hT : qg_T n f w L (8 * L.length) σ) (hd : ∀ i j, i < j → j < L.length → ¬ L.getD i 0 = L.getD j 0) : ∀ (F i : Nat) (ch : List (Nat × Nat)) (x : Int64) (S B : Nat), i ≤ L.length → L.length < F + i → qg_F n f w L i ch x → S ≤ 9 * i → B ≤ 54 →
    qSe_bestFrom F σ (nI i) x (nI S) (nI B) = some (nI (max B (S + qg_G (qp_pl n f w) (qp_mt f) (qg_pr f) (L.drop i) ch))) := by
  have h6 := hL.1
  intro F
  induction F with
  | zero => intro i ch x S B h1 h2; omega
  | succ F ih =>
    intro i ch x S B h1 h2 hF hS9 hB
    have emax : (if nI B < nI S then nI S else nI B) = nI (max B S) := by
      by_cases q : B < S
      · rw [if_pos (nI_lt q (by omega)), Nat.max_eq_right (by omega)]
      · rw [if_neg (nI_nlt (by omega) (by omega)), Nat.max_eq_left (by omega)]
    rw [qSe_bestFrom]
    unfold qSe_bestFrom_B
    rw [hS.2.2.1, emax]
    by_cases c : i = L.length
    · rw [if_pos (by rw [c]; exact nI_le (Nat.le_refl _) (by omega)), c, List.drop_length]
      rfl
    · have hi : i < L.length := by omega
      have hle := qg_G_le (pl := qp_pl n f w) (mt := qp_mt f) (pr := qg_pr f) (L.drop i) ch (fun p hp => (qg_pr_e (hok.2.1 _ (hL.mem (List.mem_of_mem_drop hp)))).2)
      have hre := qg_G_re (pl := qp_pl n f w) (mt := qp_mt f) (pr := qg_pr f) (L.drop i) ch
      rw [List.length_drop] at hle
      have hreb : ∀ l : List Nat, (∀ p, p ∈ l → qg_pr f p ≤ 9) → qg_re (qp_pl n f w) (qp_mt f) (qg_pr f) ch l ≤ 9 * l.length := by
        intro l
        induction l with
        | nil => intro _; exact Nat.le_refl _
        | cons p l ih =>
          intro h
          have a1 := ih (fun q hq => h q (List.mem_cons_of_mem _ hq))
          have a2 := h p List.mem_cons_self
          show (if qp_cnt 8 (qg_fr (qp_pl n f w) (qp_mt f) ch p) = 0 then 0 else qg_pr f p) + qg_re (qp_pl n f w) (qp_mt f) (qg_pr f) ch l ≤ 9 * (l.length + 1)
          split <;> omega
      have hrl := hreb (L.drop i) (fun p hp => (qg_pr_e (hok.2.1 _ (hL.mem (List.mem_of_mem_drop hp)))).2)
      rw [List.length_drop] at hrl
      have er : qSe_sumInReach σ (nI i) x = some (nI (0 + qg_re (qp_pl n f w) (qp_mt f) (qg_pr f) ch (L.drop i))) := qSe_reach_s hok hL hS qx_F i 0 h1 (by rw [qF_big]; omega) hF
      rw [if_neg (nI_ge hi (by omega)), er, qob_bind, Nat.zero_add, nI_add]
      by_cases q : max B S < S + qg_re (qp_pl n f w) (qp_mt f) (qg_pr f) ch (L.drop i)
      · rw [if_pos (nI_lt q (by omega)), qSe_priorityOf_s hok hL hS hi, qob_bind, nI_add]
        have hp9 := (qg_pr_e (hok.2.1 _ (hL.2 i hi))).2
        have hle1 : ∀ ch', qg_G (qp_pl n f w) (qp_mt f) (qg_pr f) (L.drop (i + 1)) ch' ≤ 9 * (L.length - (i + 1)) := fun ch' => by
          have := qg_G_le (pl := qp_pl n f w) (mt := qp_mt f) (pr := qg_pr f) (L.drop (i + 1)) ch' (fun p hp => (qg_pr_e (hok.2.1 _ (hL.mem (List.mem_of_mem_drop hp)))).2)
          rw [List.length_drop] at this
          exact this
        have e9 := qg_it_9 (pl := qp_pl n f w) (mt := qp_mt f) (pr := qg_pr f) (S := S) (l := L.drop (i + 1)) (ch := ch) (p := L.getD i 0) (b := max B S)
        rw [← qg_dr hi] at e9
        have efin : max B (S + qg_G (qp_pl n f w) (qp_mt f) (qg_pr f) (L.drop i) ch) = qg_it (qg_go (qp_pl n f w) (qp_mt f) (qg_pr f) S (L.drop (i + 1)) ch (L.getD i 0)) 9 (max B S) := by rw [e9]; omega
        have hit : ∀ u, u ≤ 9 → qg_it (qg_go (qp_pl n f w) (qp_mt f) (qg_pr f) S (L.drop (i + 1)) ch (L.getD i 0)) u (max B S) ≤ 54 := by
          refine fun u hu => qg_it_le9 (by omega) (fun v y hv hy => ?_) u hu
          unfold qg_go at hy
          have b1 := hle1 ch
          have b2 := hle1 ((L.getD i 0, v) :: ch)
          split at hy
          · cases hy; omega
          · split at hy
            · cases hy; omega
            · cases hy
        rw [efin]
        have key : ∀ (G u : Nat), u ≤ 8 → 8 < G + u → qSe_bestFrom_L47 σ (qSe_bestFrom F σ) (nI i) x (nI S) (nI (S + qg_pr f (L.getD i 0))) G (nI (qg_it (qg_go (qp_pl n f w) (qp_mt f) (qg_pr f) S (L.drop (i + 1)) ch (L.getD i 0)) u (max B S))) (nI u) = some (nI (qg_it (qg_go (qp_pl n f w) (qp_mt f) (qg_pr f) S (L.drop (i + 1)) ch (L.getD i 0)) 9 (max B S))) := by
          intro G
          induction G with
          | zero => intro u h1 h2; omega
          | succ G ihG =>
            intro u h1 h2
            rw [qSe_bestFrom_L47]
            by_cases c8 : u = 8
            · subst c8
              have eg : qg_go (qp_pl n f w) (qp_mt f) (qg_pr f) S (L.drop (i + 1)) ch (L.getD i 0) 8 = some (S + qg_G (qp_pl n f w) (qp_mt f) (qg_pr f) (L.drop (i + 1)) ch) := if_pos rfl
              rw [if_pos (by decide), nI_1, ih (i + 1) ch x S _ (by omega) (by omega) (fun j hj => hF j (by omega)) (by omega) (hit 8 (by omega)), qob_bind, qg_it_s eg]
            · have hu : u < 8 := by omega
              have ihG := ihG (u + 1) (by omega) (by omega)
              rw [if_neg (qn_lt8 hu), qn_8, nI_1, nI_1]
              have hb := hF i (Nat.le_refl _) hi u hu
              by_cases fr : qg_fr (qp_pl n f w) (qp_mt f) ch (L.getD i 0) u = true
              · have eg : qg_go (qp_pl n f w) (qp_mt f) (qg_pr f) S (L.drop (i + 1)) ch (L.getD i 0) u = some (S + qg_pr f (L.getD i 0) + qg_G (qp_pl n f w) (qp_mt f) (qg_pr f) (L.drop (i + 1)) ((L.getD i 0, u) :: ch)) := by
                  unfold qg_go
                  rw [if_neg c8, if_pos fr]
                rw [fr] at hb
                have hF1 : qg_F n f w L (i + 1) ((L.getD i 0, u) :: ch) (x &&& (σ.2 15 (8 * i + u) ^^^ (-1))) := by
                  intro j hj hjL s hs
                  have hm := hT (8 * i + u) (by omega) (8 * j + s) (by omega)
                  rw [qz_nand _ _ (by omega), hF j (by omega) hjL s hs, hm, show decide (8 * j + s < 8 * L.length) = true from decide_eq_true (by omega), Bool.true_and]
                  unfold qg_B qg_cl
                  rw [show (8 * i + u) / 8 = i by omega, show (8 * i + u) % 8 = u by omega, show (8 * j + s) / 8 = j by omega, show (8 * j + s) % 8 = s by omega, show decide (L.getD i 0 = L.getD j 0) = false from decide_eq_false (hd i j (by omega) hjL)]
                  have hpl : qp_pl n f w (L.getD i 0) u = true := by
                    unfold qg_fr at fr
                    rw [Bool.and_eq_true] at fr
                    exact fr.1
                  rw [hpl]
                  unfold qg_fr
                  rw [List.all_cons]
                  cases qp_pl n f w (L.getD j 0) s <;> cases qp_mt f (L.getD i 0) u (L.getD j 0) s <;> simp
                rw [if_pos ((qz_bit x (by omega)).mpr hb), qo_in (by omega) (by decide), nI_clamp (by omega), ih (i + 1) _ _ _ _ (by omega) (by omega) hF1 (by omega) (hit u (by omega)), qob_bind, ← ihG, qg_it_s eg]
              · have eg : qg_go (qp_pl n f w) (qp_mt f) (qg_pr f) S (L.drop (i + 1)) ch (L.getD i 0) u = none := by
                  unfold qg_go
                  rw [if_neg c8, if_neg fr]
                rw [if_neg (fun e => fr (by rw [← hb]; exact (qz_bit x (by omega)).mp e)), ← ihG, qg_it_n eg]
        exact key qx_F 0 (by omega) (by rw [qF_big]; omega)
      · rw [if_neg (nI_nlt (by omega) (by omega))]
        congr 2
        omega
/-- the class's list of points that have places -/
theorem qSe_gather_L (hok : qv_ok n f w) : ∀ (F i : Nat) (σ : QS), i ≤ n → n < F + i → (qg_fk (qg_c n f w) (qp_ords n f) i).length ≤ 6 → qg_S n f w sh (qg_fk (qg_c n f w) (qp_ords n f) i) σ →
    (6 < (qg_fk (qg_c n f w) (qp_ords n f) n).length → ∃ σ', qs_only [13, 14] σ σ' ∧ qSe_gatherCandidates_L7 F σ (nI i) = some (0, σ')) ∧
    ((qg_fk (qg_c n f w) (qp_ords n f) n).length ≤ 6 → ∃ σ', qs_only [13, 14] σ σ' ∧ qg_S n f w sh (qg_fk (qg_c n f w) (qp_ords n f) n) σ' ∧ qSe_gatherCandidates_L7 F σ (nI i) = some (1, σ')) := by
  have hn := hok.1
  have hlen := qp_ords_len n (fun p hp => (hok.2.1 p hp).2.2.2.2.1)
  intro F
  induction F with
  | zero => intro i σ h1 h2; omega
  | succ F ih =>
    intro i σ h1 h2 h6 hS
    obtain ⟨hC, hK, h13, h14⟩ := hS
    rw [qSe_gatherCandidates_L7, hC.1]
    by_cases cq : i = n
    · subst cq
      rw [if_pos (nI_le (Nat.le_refl _) (by omega))]
      exact ⟨fun h => by omega, fun _ => ⟨σ, qs_only.rf, ⟨hC, hK, h13, h14⟩, rfl⟩⟩
    · have hi : i < n := by omega
      obtain ⟨p, hp⟩ : ∃ p, (qp_ords n f)[i]? = some p := ⟨_, List.getElem?_eq_getElem (by omega)⟩
      have hpn := qp_ords_lt hp
      have es := qg_fk_s (c := qg_c n f w) hp
      have hmo := qg_fk_mono (qg_c n f w) (qp_ords n f) (i + 1) (n - (i + 1))
      rw [show i + 1 + (n - (i + 1)) = n by omega] at hmo
      have c8 := qp_cnt_le 8 (qp_pl n f w p)
      rw [if_neg (nI_ge hi (by omega)), qPt_inOrder_s hn hK hi hp, qob_bind, qPl_manyOf_s hn hK hpn, qob_bind, nI_1]
      by_cases c : qp_cnt 8 (qp_pl n f w p) = 0
      · rw [if_pos (by rw [c]; decide)]
        have hc : qg_c n f w p = false := by simp [qg_c, c]
        rw [hc, if_neg (by decide)] at es
        have := ih (i + 1) σ hi (by omega) (by rw [es]; exact h6) (by rw [es]; exact ⟨hC, hK, h13, h14⟩)
        exact this
      · rw [if_neg (nI_nle (by omega) (by omega)), h13]
        have hc : qg_c n f w p = true := by simp [qg_c, c]
        rw [hc, if_pos rfl] at es
        by_cases e6 : (qg_fk (qg_c n f w) (qp_ords n f) i).length = 6
        · rw [if_neg (by rw [e6]; decide)]
          rw [es, List.length_append, e6] at hmo
          have hmo : 6 + 1 ≤ _ := hmo
          exact ⟨fun _ => ⟨σ, qs_only.rf, rfl⟩, fun h => by omega⟩
        · rw [if_pos (show nI (qg_fk (qg_c n f w) (qp_ords n f) i).length < (6 : Int32) from nI_lt (b := 6) (by omega) (by omega)), qo_in (by omega) (by decide), nI_clamp (by omega)]
          have e13 : (qx_up σ 14 (qg_fk (qg_c n f w) (qp_ords n f) i).length (nI p)).1 13 4 = nI (qg_fk (qg_c n f w) (qp_ords n f) i).length := by
            rw [qu_1, if_neg (by omega)]; exact h13
          rw [e13, nI_1]
          obtain ⟨σ1, hσ1⟩ : ∃ σ1, σ1 = qx_up (qx_up σ 14 (qg_fk (qg_c n f w) (qp_ords n f) i).length (nI p)) 13 4 (nI ((qg_fk (qg_c n f w) (qp_ords n f) i).length + 1)) := ⟨_, rfl⟩
          rw [← hσ1]
          have ho : qs_only [13, 14] σ σ1 := by rw [hσ1]; exact qs_only.up (S := [13, 14]) (by decide) (qs_only.up (S := [13, 14]) (by decide) qs_only.rf)
          have hS1 : qg_S n f w sh (qg_fk (qg_c n f w) (qp_ords n f) i ++ [p]) σ1 := by
            refine ⟨hC.off ho (by decide) (by decide) (by decide) (by decide), hK.off ho (by decide) (by decide) (by decide) (by decide) (by decide) (by decide), ?_, fun j hj => ?_⟩
            · rw [hσ1, qu_s, List.length_append]; rfl
            · rw [hσ1, qu_1, if_neg (by omega)]
              exact qg_pushL h14 p j hj
          have := ih (i + 1) σ1 hi (by omega) (by rw [es, List.length_append]; show _ + 1 ≤ 6; omega) (by rw [es]; exact hS1)
          exact ⟨fun h => by
            obtain ⟨σ', g1, g2⟩ := this.1 h
            exact ⟨σ', ho.tr g1, g2⟩, fun h => by
            obtain ⟨σ', g1, g2, g3⟩ := this.2 h
            exact ⟨σ', ho.tr g1, g2, g3⟩⟩
end
