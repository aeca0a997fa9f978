/-! greatest: the class's sets of bits -/
theorem qz_sh : ∀ k, k < 64 → ((1 : Int64) <<< ((nI k).toInt64 &&& 63)).toBitVec = BitVec.twoPow 64 k := by decide +kernel
theorem qz_cu : ∀ k, k < 64 → ((nI k).toInt64.toUInt64 &&& Int64.toUInt64 63).toNat = k := by decide +kernel
theorem qz_m1 : ∀ k, k < 64 → (-1 : Int64).toBitVec.getLsbD k = true := by decide +kernel
theorem qz_255 : ∀ k, k < 64 → (255#64).getLsbD k = decide (k < 8) := by decide +kernel
theorem qz_shr (x : Int64) {k : Nat} (hk : k < 64) : ((x.toUInt64 >>> ((nI k).toInt64.toUInt64 &&& Int64.toUInt64 63)).toInt64).toBitVec = x.toBitVec >>> k := by
  apply BitVec.eq_of_toNat_eq
  show (x.toUInt64 >>> ((nI k).toInt64.toUInt64 &&& Int64.toUInt64 63)).toNat = _
  rw [UInt64.toNat_shiftRight, qz_cu k hk, Nat.mod_eq_of_lt hk, BitVec.toNat_ushiftRight]
  rfl
theorem qz_bit (x : Int64) {k : Nat} (hk : k < 64) : (((x.toUInt64 >>> ((nI k).toInt64.toUInt64 &&& Int64.toUInt64 63)).toInt64) &&& 1) = 1 ↔ x.toBitVec.getLsbD k = true := by
  rw [← Int64.toBitVec_inj, Int64.toBitVec_and, qz_shr x hk]
  show x.toBitVec >>> k &&& 1#64 = 1#64 ↔ _
  constructor
  · intro h
    have t := congrArg (fun x => x.getLsbD 0) h
    simpa using t
  · intro h
    apply BitVec.eq_of_getLsbD_eq
    intro i hi
    cases i with
    | zero => simp [h]
    | succ i => simp
theorem qz_byte (x : Int64) {k : Nat} (hk : k + 8 ≤ 64) : (((x.toUInt64 >>> ((nI k).toInt64.toUInt64 &&& Int64.toUInt64 63)).toInt64) &&& 255) = 0 ↔ ∀ s, s < 8 → x.toBitVec.getLsbD (k + s) = false := by
  rw [← Int64.toBitVec_inj, Int64.toBitVec_and, qz_shr x (by omega)]
  show x.toBitVec >>> k &&& 255#64 = 0#64 ↔ _
  constructor
  · intro h s hs
    have t := congrArg (fun x => x.getLsbD s) h
    simp only [BitVec.getLsbD_and, BitVec.getLsbD_ushiftRight, qz_255 s (by omega), hs, decide_true, Bool.and_true] at t
    rw [t]
    simp
  · intro h
    apply BitVec.eq_of_getLsbD_eq
    intro i hi
    rw [BitVec.getLsbD_and, BitVec.getLsbD_ushiftRight, qz_255 i hi]
    by_cases c : i < 8
    · rw [h i c]; simp
    · simp [c]
theorem qz_or (x : Int64) {k e : Nat} (hk : k < 64) : (x ||| (1 <<< ((nI k).toInt64 &&& 63))).toBitVec.getLsbD e = (x.toBitVec.getLsbD e || decide (e = k)) := by
  rw [Int64.toBitVec_or, qz_sh k hk, BitVec.getLsbD_or, BitVec.getLsbD_twoPow]
  simp [hk, eq_comm]
theorem qz_nand (x m : Int64) {e : Nat} (he : e < 64) : (x &&& (m ^^^ (-1))).toBitVec.getLsbD e = (x.toBitVec.getLsbD e && !m.toBitVec.getLsbD e) := by
  rw [Int64.toBitVec_and, Int64.toBitVec_xor, BitVec.getLsbD_and, BitVec.getLsbD_xor, qz_m1 e he]
  simp
/-- the bits below K are B's, the others not set -/
def qz_I (B : Nat → Bool) (K : Nat) (x : Int64) : Prop := ∀ e, e < 64 → x.toBitVec.getLsbD e = (decide (e < K) && B e)
theorem qz_0 (B : Nat → Bool) : qz_I B 0 0 := fun e _ => by
  show (0#64).getLsbD e = _
  simp
theorem qz_s {B : Nat → Bool} {K : Nat} {x : Int64} (hK : K < 64) (h : qz_I B K x) : qz_I B (K + 1) (if B K = true then x ||| (1 <<< ((nI K).toInt64 &&& 63)) else x) := by
  intro e he
  by_cases c : B K = true
  · rw [if_pos c, qz_or x hK, h e he]
    by_cases q : e = K
    · subst q; simp [c]
    · rw [show decide (e = K) = false by simp [q], Bool.or_false, show decide (e < K) = decide (e < K + 1) from decide_eq_decide.mpr (by omega)]
  · rw [if_neg c, h e he]
    have c : B K = false := by simpa using c
    by_cases q : e = K
    · subst q; simp [c]
    · rw [show decide (e < K) = decide (e < K + 1) from decide_eq_decide.mpr (by omega)]
section
variable {n : Nat} {f : Nat → Nat → Int32} {w sh : Nat → Int32} {σ : QS} {L : List Nat}
/-- what the class's search reads: the map, and those points of its list -/
def qg_S (n : Nat) (f : Nat → Nat → Int32) (w sh : Nat → Int32) (L : List Nat) (σ : QS) : Prop := qr_C n f w sh σ ∧ qr_K n f w σ ∧ σ.1 13 4 = nI L.length ∧ ∀ i, i < L.length → σ.1 14 i = nI (L.getD i 0)
theorem qg_S.upl {e : Nat} {v : Int64} (h : qg_S n f w sh L σ) : qg_S n f w sh L (qx_upl σ 15 e v) := h
def qg_cl (n : Nat) (f : Nat → Nat → Int32) (w : Nat → Int32) (p s q t : Nat) : Bool := !decide (p = q) && (qp_pl n f w p s && (qp_pl n f w q t && qp_mt f p s q t))
/-- the mask of a place -/
def qg_B (n : Nat) (f : Nat → Nat → Int32) (w : Nat → Int32) (L : List Nat) (p s e : Nat) : Bool := qg_cl n f w p s (L.getD (e / 8) 0) (e % 8)
def qg_P (n : Nat) (f : Nat → Nat → Int32) (w : Nat → Int32) (L : List Nat) (e : Nat) : Bool := qp_pl n f w (L.getD (e / 8) 0) (e % 8)
theorem qSe_mask_1 (hn : n ≤ 20) (hL : qg_L n L) (h : qg_S n f w sh L σ) {p s i : Nat} (hp : p < n) (hs : s < 8) (hi : i < L.length) (K : Int64 → Int32 → Option Int64) : ∀ (F t : Nat) (x : Int64), t ≤ 8 → 8 < F + t → qz_I (qg_B n f w L p s) (8 * i + t) x →
    ∃ x', qz_I (qg_B n f w L p s) (8 * (i + 1)) x' ∧ qSe_maskOfClashes_L17 σ (nI p) (nI s) (nI i) K F x (nI t) = K x' (nI (i + 1)) := by
  obtain ⟨hC, hK, h13, h14⟩ := h
  have h6 := hL.1
  intro F
  induction F with
  | zero => intro t x h1 h2; omega
  | succ F ih =>
    intro t x h1 h2 hz
    rw [qSe_maskOfClashes_L17]
    by_cases c : t = 8
    · subst c
      rw [if_pos (by decide), nI_1]
      exact ⟨x, hz, rfl⟩
    · have ht : t < 8 := by omega
      rw [if_neg (qn_lt8 ht), qo_in (by omega) (by decide), nI_clamp (by omega), h14 i hi, qPl_doClash_s hn hK hp hs (hL.2 i hi) ht, qob_bind, nI_1, qn_8]
      have eB : qg_B n f w L p s (8 * i + t) = (!decide (p = L.getD i 0) && (qp_pl n f w p s && (qp_pl n f w (L.getD i 0) t && qp_mt f p s (L.getD i 0) t))) := by
        unfold qg_B qg_cl
        rw [show (8 * i + t) / 8 = i by omega, show (8 * i + t) % 8 = t by omega]
      have hz1 := qz_s (by omega) hz
      obtain ⟨x', g1, g2⟩ := ih (t + 1) _ (by omega) (by omega) hz1
      refine ⟨x', g1, ?_⟩
      rw [← g2, eB]
      cases (!decide (p = L.getD i 0) && (qp_pl n f w p s && (qp_pl n f w (L.getD i 0) t && qp_mt f p s (L.getD i 0) t))) with
      | false => rw [if_pos qb_f, if_neg (by decide)]
      | true => rw [if_neg qb_ne, if_pos rfl]
theorem qSe_mask_s (hn : n ≤ 20) (hL : qg_L n L) (h : qg_S n f w sh L σ) {p s : Nat} (hp : p < n) (hs : s < 8) : ∃ x, qz_I (qg_B n f w L p s) (8 * L.length) x ∧ qSe_maskOfClashes σ (nI p) (nI s) = some x := by
  have h6 := hL.1
  have key : ∀ (F i : Nat) (x : Int64), i ≤ L.length → L.length < F + i → qz_I (qg_B n f w L p s) (8 * i) x → ∃ x', qz_I (qg_B n f w L p s) (8 * L.length) x' ∧ qSe_maskOfClashes_L5 σ (nI p) (nI s) F x (nI i) = some x' := by
    intro F
    induction F with
    | zero => intro i x h1 h2; omega
    | succ F ih =>
      intro i x h1 h2 hz
      rw [qSe_maskOfClashes_L5, h.2.2.1]
      by_cases c : i = L.length
      · rw [c] at hz ⊢
        rw [if_pos (nI_le (Nat.le_refl _) (by omega))]
        exact ⟨x, hz, rfl⟩
      · rw [if_neg (nI_ge (by omega) (by omega))]
        obtain ⟨x1, g1, g2⟩ := qSe_mask_1 hn hL h hp hs (show i < L.length by omega) (qSe_maskOfClashes_L5 σ (nI p) (nI s) F) qx_F 0 x (by omega) (by rw [qF_big]; omega) hz
        obtain ⟨x2, g3, g4⟩ := ih (i + 1) x1 (by omega) (by omega) g1
        exact ⟨x2, g3, by rw [← g4, ← g2]; rfl⟩
  exact key qx_F 0 0 (Nat.zero_le _) (by rw [qF_big]; omega) (qz_0 _)
/-- places and masks are there -/
def qg_T (n : Nat) (f : Nat → Nat → Int32) (w : Nat → Int32) (L : List Nat) (K : Nat) (σ : QS) : Prop := ∀ e, e < K → qz_I (qg_B n f w L (L.getD (e / 8) 0) (e % 8)) (8 * L.length) (σ.2 15 e)
theorem qg_T.next {K : Nat} {v : Int64} (h : qg_T n f w L K σ) (hv : qz_I (qg_B n f w L (L.getD (K / 8) 0) (K % 8)) (8 * L.length) v) : qg_T n f w L (K + 1) (qx_upl σ 15 K v) := by
  intro e he
  rw [qul_2]
  by_cases c : e = K
  · subst c; rw [if_pos ⟨rfl, rfl⟩]; exact hv
  · rw [if_neg (by omega)]; exact h e (by omega)
theorem qSe_gs_1 (hn : n ≤ 20) (hL : qg_L n L) {i : Nat} (hi : i < L.length) (K : QS → Int64 → Int32 → Option (Int32 × QS)) : ∀ (F t : Nat) (σ : QS) (x : Int64), t ≤ 8 → 8 < F + t → qg_S n f w sh L σ → qg_T n f w L (8 * i + t) σ → qz_I (qg_P n f w L) (8 * i + t) x →
    ∃ σ' x', σ'.1 = σ.1 ∧ qg_T n f w L (8 * (i + 1)) σ' ∧ qz_I (qg_P n f w L) (8 * (i + 1)) x' ∧ qSe_greatestSum_L25 (nI i) K F σ x (nI t) = K σ' x' (nI (i + 1)) := by
  have h6 := hL.1
  intro F
  induction F with
  | zero => intro t σ x h1 h2; omega
  | succ F ih =>
    intro t σ x h1 h2 hS hT hz
    rw [qSe_greatestSum_L25]
    by_cases c : t = 8
    · subst c
      rw [if_pos (by decide), nI_1]
      exact ⟨σ, x, rfl, hT, hz, rfl⟩
    · have ht : t < 8 := by omega
      have hp := hL.2 i hi
      rw [if_neg (qn_lt8 ht), qo_in (by omega) (by decide), nI_clamp (by omega), hS.2.2.2 i hi, qPl_isPlace_s hn hS.2.1 hp ht, qob_bind, qn_8]
      obtain ⟨m, hm1, hm2⟩ := qSe_mask_s hn hL hS hp ht
      have eJ : ∀ y, qSe_greatestSum_J66 σ (qSe_greatestSum_L25 (nI i) K F) y (nI i) (nI t) (nI (8 * i + t)) = qSe_greatestSum_L25 (nI i) K F (qx_upl σ 15 (8 * i + t) m) y (nI (t + 1)) := by
        intro y
        unfold qSe_greatestSum_J66
        rw [qo_in (by omega) (by decide), nI_clamp (by omega), hS.2.2.2 i hi, hm2, qob_bind, qo_in (by omega) (by decide), nI_clamp (by omega), nI_1]
      rw [eJ, eJ]
      have eP : qg_P n f w L (8 * i + t) = qp_pl n f w (L.getD i 0) t := by
        unfold qg_P
        rw [show (8 * i + t) / 8 = i by omega, show (8 * i + t) % 8 = t by omega]
      have hz1 := qz_s (by omega) hz
      have hT1 := hT.next (v := m) (by
        rw [show (8 * i + t) / 8 = i by omega, show (8 * i + t) % 8 = t by omega]
        exact hm1)
      obtain ⟨σ', x', g1, g2, g3, g4⟩ := ih (t + 1) _ _ (by omega) (by omega) hS.upl hT1 hz1
      refine ⟨σ', x', g1, g2, g3, ?_⟩
      rw [← g4, eP]
      cases qp_pl n f w (L.getD i 0) t with
      | false => rw [if_pos qb_f, if_neg (by decide)]
      | true => rw [if_neg qb_ne, if_pos rfl]
theorem qSe_gs_2 (hn : n ≤ 20) (hL : qg_L n L) : ∀ (F i : Nat) (σ : QS) (x : Int64), i ≤ L.length → L.length < F + i → qg_S n f w sh L σ → qg_T n f w L (8 * i) σ → qz_I (qg_P n f w L) (8 * i) x →
    ∃ σ' x', σ'.1 = σ.1 ∧ qg_T n f w L (8 * L.length) σ' ∧ qz_I (qg_P n f w L) (8 * L.length) x' ∧ qSe_greatestSum_L14 F σ x (nI i) = (qSe_bestFrom 8 σ' 0 x' 0 0).bind fun r3 => some (r3, σ') := by
  have h6 := hL.1
  intro F
  induction F with
  | zero => intro i σ x h1 h2; omega
  | succ F ih =>
    intro i σ x h1 h2 hS hT hz
    rw [qSe_greatestSum_L14, hS.2.2.1]
    by_cases c : i = L.length
    · rw [c] at hT hz ⊢
      rw [if_pos (nI_le (Nat.le_refl _) (by omega))]
      exact ⟨σ, x, rfl, hT, hz, rfl⟩
    · rw [if_neg (nI_ge (by omega) (by omega))]
      obtain ⟨σ1, x1, g1, g2, g3, g4⟩ := qSe_gs_1 hn hL (show i < L.length by omega) (qSe_greatestSum_L14 F) qx_F 0 σ x (by omega) (by rw [qF_big]; omega) hS hT hz
      have hS1 : qg_S n f w sh L σ1 := by
        unfold qg_S qr_C qr_K qr_L at hS ⊢
        rw [g1]
        exact hS
      obtain ⟨σ2, x2, k1, k2, k3, k4⟩ := ih (i + 1) σ1 x1 (by omega) (by omega) hS1 g2 g3
      exact ⟨σ2, x2, k1.trans g1, k2, k3, by rw [← k4, ← g4]; rfl⟩
end
