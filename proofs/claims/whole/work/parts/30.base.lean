/-! numbers: small naturals as ints, yes and no as ints -/
def qb (b : Bool) : Int32 := if b = true then 1 else 0
theorem qb_t : qb true = 1 := rfl
theorem qb_f : qb false = 0 := rfl
theorem qb_0 (b : Bool) : (qb b = 0) ↔ b = false := by cases b <;> simp [qb]
theorem qb_1 (b : Bool) : (qb b = 1) ↔ b = true := by cases b <;> simp [qb]
theorem qb_and1 (b : Bool) : qb b &&& 1 = qb b := by cases b <;> decide
theorem qb_some (c : Prop) [Decidable c] : (if c then some (1 : Int32) else some 0) = some (qb (decide c)) := by by_cases h : c <;> simp [qb, h]
theorem qb_some' (c : Prop) [Decidable c] : (if c then some (0 : Int32) else some 1) = some (qb (!decide c)) := by by_cases h : c <;> simp [qb, h]
theorem qo_in {β : Type} {j n : Nat} {K : Option β} (h : j < n) (hn : n < 2 ^ 31) : qx_ob (nI j) n K = K := by
  unfold qx_ob
  exact if_neg (vp_in_nI h hn)
theorem qo_k {β : Type} {i : Int32} {n : Nat} {K : Option β} (j : Nat) (e : i = nI j) (h : j < n) (hn : n < 2 ^ 31) : qx_ob i n K = K := by rw [e]; exact qo_in h hn
theorem qn_8 (p s : Nat) : nI p * 8 + nI s = nI (8 * p + s) := by
  rw [show (8 : Int32) = nI 8 from rfl, pk_mul, nI_add, Nat.mul_comm]
theorem qn_8' (p s : Nat) : 8 * nI p + nI s = nI (8 * p + s) := by
  rw [show (8 : Int32) = nI 8 from rfl, pk_mul, nI_add]
theorem qn_6 (p w : Nat) : nI p * 6 + nI w = nI (6 * p + w) := by
  rw [show (6 : Int32) = nI 6 from rfl, pk_mul, nI_add, Nat.mul_comm]
theorem qn_60 (p : Nat) : nI p * 6 + 0 = nI (6 * p + 0) := qn_6 p 0
theorem qn_61 (p : Nat) : nI p * 6 + 1 = nI (6 * p + 1) := qn_6 p 1
theorem qn_62 (p : Nat) : nI p * 6 + 2 = nI (6 * p + 2) := qn_6 p 2
theorem qn_63 (p : Nat) : nI p * 6 + 3 = nI (6 * p + 3) := qn_6 p 3
theorem qn_64 (p : Nat) : nI p * 6 + 4 = nI (6 * p + 4) := qn_6 p 4
theorem qn_65 (p : Nat) : nI p * 6 + 5 = nI (6 * p + 5) := qn_6 p 5
theorem qn_a0 (p : Nat) : 0 + nI p = nI (0 + p) := nI_add 0 p
theorem qn_a20 (p : Nat) : 20 + nI p = nI (20 + p) := nI_add 20 p
theorem qn_a40 (p : Nat) : 40 + nI p = nI (40 + p) := nI_add 40 p
theorem qn_a60 (p : Nat) : 60 + nI p = nI (60 + p) := nI_add 60 p
theorem qn_a80 (p : Nat) : 80 + nI p = nI (80 + p) := nI_add 80 p
theorem qn_a100 (p : Nat) : 100 + nI p = nI (100 + p) := nI_add 100 p
theorem qn_a120 (p : Nat) : 120 + nI p = nI (120 + p) := nI_add 120 p
theorem qn_p0 (p : Nat) : nI p + 0 = nI p := nI_add p 0
theorem qn_m8 (n : Nat) : 8 * nI n = nI (8 * n) := by
  rw [show (8 : Int32) = nI 8 from rfl, pk_mul]
theorem qn_d8 {k : Nat} (h : k < 2 ^ 31) : nI k / 8 = nI (k / 8) := pk_div h (by decide) (by decide)
theorem qn_r8 {k : Nat} (h : k < 2 ^ 31) : nI k - nI k / 8 * 8 = nI (k % 8) := pk_rem h (by decide) (by decide)
theorem qn_r8' (k : Nat) (h : k < 2 ^ 31) : nI k - nI (k / 8) * 8 = nI (k % 8) := by rw [← qn_d8 h]; exact qn_r8 h
theorem qn_neg (p : Nat) (h : p < 2 ^ 31) : (nI p = -1) ↔ False := by
  constructor
  · intro e
    have h1 := nI_toInt h
    rw [e] at h1
    have h2 : (-1 : Int32).toInt = -1 := by decide
    omega
  · exact False.elim
/-- sums and differences that stay small -/
theorem qi_add {a b : Int32} (h1 : -2147483648 ≤ a.toInt + b.toInt) (h2 : a.toInt + b.toInt < 2147483648) : (a + b).toInt = a.toInt + b.toInt := by
  rw [Int32.toInt_add]
  exact Int.bmod_eq_of_le (by omega) (by omega)
theorem qi_sub {a b : Int32} (h1 : -2147483648 ≤ a.toInt - b.toInt) (h2 : a.toInt - b.toInt < 2147483648) : (a - b).toInt = a.toInt - b.toInt := by
  rw [Int32.toInt_sub]
  exact Int.bmod_eq_of_le (by omega) (by omega)
theorem qi_lt (a b : Int32) : a < b ↔ a.toInt < b.toInt := Int32.lt_iff_toInt_lt
theorem qi_le (a b : Int32) : a ≤ b ↔ a.toInt ≤ b.toInt := Int32.le_iff_toInt_le
theorem qi_eq (a b : Int32) : a = b ↔ a.toInt = b.toInt := Int32.toInt_inj.symm
theorem qi_l (a : Int32) : a.toInt64.toInt = a.toInt := by simp
theorem ql_lt (a b : Int64) : a < b ↔ a.toInt < b.toInt := Int64.lt_iff_toInt_lt
theorem ql_le (a b : Int64) : a ≤ b ↔ a.toInt ≤ b.toInt := Int64.le_iff_toInt_le
theorem qi_rng (a : Int32) : -2147483648 ≤ a.toInt ∧ a.toInt < 2147483648 := ⟨by have := Int32.le_toInt a; omega, by have := Int32.toInt_lt a; omega⟩
/-- the cells of numbers, changed and read -/
theorem qu_s (σ : QS) (c i : Nat) (v : Int32) : (qx_up σ c i v).1 c i = v := by simp [qx_up, upd]
theorem qu_1 (σ : QS) (c i : Nat) (v : Int32) (k j : Nat) : (qx_up σ c i v).1 k j = if k = c ∧ j = i then v else σ.1 k j := by
  unfold qx_up
  by_cases h : k = c
  · subst h
    by_cases h2 : j = i <;> simp [upd, h2]
  · simp [h]
theorem qu_2 (σ : QS) (c i : Nat) (v : Int32) : (qx_up σ c i v).2 = σ.2 := rfl
theorem qul_1 (σ : QS) (c i : Nat) (v : Int64) : (qx_upl σ c i v).1 = σ.1 := rfl
theorem qul_2 (σ : QS) (c i : Nat) (v : Int64) (k j : Nat) : (qx_upl σ c i v).2 k j = if k = c ∧ j = i then v else σ.2 k j := by
  unfold qx_upl
  by_cases h : k = c
  · subst h
    by_cases h2 : j = i <;> simp [vp_updL, h2]
  · simp [h]
theorem qob_bind {α β : Type} (x : α) (f : α → Option β) : (some x).bind f = f x := rfl
/-- how many of the first n -/
def qp_cnt : Nat → (Nat → Bool) → Nat
  | 0, _ => 0
  | n + 1, f => qp_cnt n f + (if f n = true then 1 else 0)
theorem qp_cnt_le (n : Nat) (f : Nat → Bool) : qp_cnt n f ≤ n := by
  induction n with
  | zero => exact Nat.le_refl _
  | succ n ih => unfold qp_cnt; split <;> omega
theorem qp_cnt_mono {i n : Nat} (f : Nat → Bool) (h : i ≤ n) : qp_cnt i f ≤ qp_cnt n f := by
  induction n with
  | zero => rw [Nat.le_zero.mp h]; exact Nat.le_refl _
  | succ n ih =>
    rcases Nat.lt_or_ge i (n + 1) with h1 | h1
    · exact Nat.le_trans (ih (by omega)) (by show qp_cnt n f ≤ qp_cnt n f + _; omega)
    · rw [show i = n + 1 by omega]; exact Nat.le_refl _
theorem qp_cnt_congr {n : Nat} {f g : Nat → Bool} (h : ∀ i, i < n → f i = g i) : qp_cnt n f = qp_cnt n g := by
  induction n with
  | zero => rfl
  | succ n ih =>
    show qp_cnt n f + _ = qp_cnt n g + _
    rw [ih (fun i hi => h i (by omega)), h n (by omega)]
