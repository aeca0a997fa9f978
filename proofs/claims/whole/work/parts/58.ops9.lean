/-! digest side by side -/
section
variable {n : Nat} {f : Nat → Nat → Int32} {w sh : Nat → Int32} {τ σ σ0 : QS}
theorem nI_nneg {a : Nat} (h : a < 2 ^ 31) : ¬ nI a < 0 := by
  intro c
  have e := Int32.lt_iff_toInt_lt.mp c
  rw [nI_toInt h, show (0 : Int32).toInt = 0 from by decide] at e
  omega
/-- k entries from i on mixed into h -/
def qp_mix (g : Nat → Int32) : Nat → Nat → Int64 → Int64
  | 0, _, h => h
  | k + 1, i, h => qp_mix g k (i + 1) (31 * h + (g i).toInt64)
theorem qp_mix_add (g : Nat → Int32) : ∀ (a b i : Nat) (h : Int64), qp_mix g (a + b) i h = qp_mix g b (i + a) (qp_mix g a i h) := by
  intro a
  induction a with
  | zero => intro b i h; rw [Nat.zero_add]; rfl
  | succ a ih =>
    intro b i h
    rw [show a + 1 + b = (a + b) + 1 by omega]
    show qp_mix g (a + b) (i + 1) _ = _
    rw [ih]
    show _ = qp_mix g b (i + (a + 1)) (qp_mix g a (i + 1) _)
    rw [show i + 1 + a = i + (a + 1) by omega]
def qp_pp (n : Nat) (f : Nat → Nat → Int32) (w sh : Nat → Int32) (p k : Nat) : Int32 := qp_ppart n f w sh p (k / 5) (k % 5)
def qp_one (n : Nat) (f : Nat → Nat → Int32) (w sh : Nat → Int32) (p : Nat) (h : Int64) : Int64 := qp_mix (qp_pp n f w sh p) 40 0 (qp_mix (qp_part n f w sh p) 9 0 h)
def qp_each (n : Nat) (f : Nat → Nat → Int32) (w sh : Nat → Int32) : Nat → Nat → Int64 → Int64
  | 0, _, h => h
  | k + 1, p, h => qp_each n f w sh k (p + 1) (qp_one n f w sh p h)
theorem qLP_wp49 (hok : qv_ok n f w) (hat : qv_at n f w sh) (hC : qr_C n f w sh σ) (hK : qr_K n f w σ) {p s : Nat} (hp : p < n) (hs : s < 8) (K : Int64 → Int32 → Option Int64) : ∀ (k m x : Nat) (h : Int64), x + k = 5 → k < m → qLP_withPoint_L49 σ (nI p) (nI s) K m h (nI x) = K (qp_mix (qp_pp n f w sh p) k (5 * s + x) h) (nI (s + 1)) := by
  intro k
  induction k with
  | zero =>
    intro m x h e hm
    obtain ⟨m, rfl⟩ : ∃ m', m = m' + 1 := ⟨m - 1, by omega⟩
    rw [qLP_withPoint_L49, if_pos (show (5 : Int32) ≤ nI x from nI_le (a := 5) (by omega) (by omega)), nI_1]
    rfl
  | succ k ih =>
    intro m x h e hm
    obtain ⟨m, rfl⟩ : ∃ m', m = m' + 1 := ⟨m - 1, by omega⟩
    rw [qLP_withPoint_L49, if_neg (show ¬ (5 : Int32) ≤ nI x from nI_ge (b := 5) (by omega) (by omega)), qLP_place_s hok hat hC hK hp hs (show x < 5 by omega), qob_bind, nI_1, ih m (x + 1) _ (by omega) (by omega)]
    show _ = K (qp_mix (qp_pp n f w sh p) k (5 * s + x + 1) (31 * h + (qp_ppart n f w sh p ((5 * s + x) / 5) ((5 * s + x) % 5)).toInt64)) _
    rw [show (5 * s + x) / 5 = s by omega, show (5 * s + x) % 5 = x by omega]
    rfl
theorem qLP_wp39 (hok : qv_ok n f w) (hat : qv_at n f w sh) (hC : qr_C n f w sh σ) (hK : qr_K n f w σ) {p : Nat} (hp : p < n) : ∀ (k m s : Nat) (h : Int64), s + k = 8 → k < m → qLP_withPoint_L39 σ (nI p) m h (nI s) = some (qp_mix (qp_pp n f w sh p) (5 * k) (5 * s) h) := by
  intro k
  induction k with
  | zero =>
    intro m s h e hm
    obtain ⟨m, rfl⟩ : ∃ m', m = m' + 1 := ⟨m - 1, by omega⟩
    rw [qLP_withPoint_L39, if_pos (show (8 : Int32) ≤ nI s from nI_le (a := 8) (by omega) (by omega))]
    rfl
  | succ k ih =>
    intro m s h e hm
    obtain ⟨m, rfl⟩ : ∃ m', m = m' + 1 := ⟨m - 1, by omega⟩
    rw [qLP_withPoint_L39, if_neg (show ¬ (8 : Int32) ≤ nI s from nI_ge (b := 8) (by omega) (by omega)), show (0 : Int32) = nI 0 from rfl, qLP_wp49 hok hat hC hK hp (show s < 8 by omega) (qLP_withPoint_L39 σ (nI p) m) 5 qx_F 0 h rfl (by rw [qF_big]; omega), ih m (s + 1) _ (by omega) (by omega), show 5 * (k + 1) = 5 + 5 * k by omega, qp_mix_add]
    rfl
theorem qLP_wp6 (hok : qv_ok n f w) (hat : qv_at n f w sh) (hC : qr_C n f w sh σ) (hK : qr_K n f w σ) {p : Nat} (hp : p < n) : ∀ (k m x : Nat) (h : Int64), x + k = 9 → k < m → qLP_withPoint_L6 σ (nI p) m h (nI x) = some (qp_mix (qp_pp n f w sh p) 40 0 (qp_mix (qp_part n f w sh p) k x h)) := by
  intro k
  induction k with
  | zero =>
    intro m x h e hm
    obtain ⟨m, rfl⟩ : ∃ m', m = m' + 1 := ⟨m - 1, by omega⟩
    rw [qLP_withPoint_L6, if_pos (show (9 : Int32) ≤ nI x from nI_le (a := 9) (by omega) (by omega)), show (0 : Int32) = nI 0 from rfl, qLP_wp39 hok hat hC hK hp 8 qx_F 0 h rfl (by rw [qF_big]; omega)]
    rfl
  | succ k ih =>
    intro m x h e hm
    obtain ⟨m, rfl⟩ : ∃ m', m = m' + 1 := ⟨m - 1, by omega⟩
    rw [qLP_withPoint_L6, if_neg (show ¬ (9 : Int32) ≤ nI x from nI_ge (b := 9) (by omega) (by omega)), qLP_point_s hok hC hK hp (show x < 9 by omega), qob_bind, nI_1, ih m (x + 1) _ (by omega) (by omega)]
    rfl
theorem qLP_withPoint_s (hok : qv_ok n f w) (hat : qv_at n f w sh) (hC : qr_C n f w sh σ) (hK : qr_K n f w σ) {p : Nat} (hp : p < n) (h : Int64) : qLP_withPoint σ h (nI p) = some (qp_one n f w sh p h) := by
  unfold qLP_withPoint
  rw [show (0 : Int32) = nI 0 from rfl, qLP_wp6 hok hat hC hK hp 9 qx_F 0 h rfl (by rw [qF_big]; omega)]
  rfl
theorem qLP_dg108 {t : Nat} (ht : t ≤ 80) (h19 : σ.1 19 0 = nI t) : ∀ (k m x : Nat) (h : Int64), x + k = t → k < m → qLP_digest_L108 σ m h (nI x) = some (qp_mix (fun i => σ.1 20 i) k x h) := by
  intro k
  induction k with
  | zero =>
    intro m x h e hm
    obtain ⟨m, rfl⟩ : ∃ m', m = m' + 1 := ⟨m - 1, by omega⟩
    rw [qLP_digest_L108, h19, if_pos (nI_le (by omega) (by omega))]
    rfl
  | succ k ih =>
    intro m x h e hm
    obtain ⟨m, rfl⟩ : ∃ m', m = m' + 1 := ⟨m - 1, by omega⟩
    have hx : ¬ nI t ≤ nI x := nI_ge (by omega) (by omega)
    rw [qLP_digest_L108, h19, if_neg hx]
    unfold qTx_at
    rw [h19, if_neg (nI_nneg (by omega)), if_neg hx, qo_in (by omega) (by decide), qob_bind, nI_clamp (by omega), nI_1, ih m (x + 1) _ (by omega) (by omega)]
    rfl
theorem qLP_leader_s {k i x : Nat} (hk : k ≤ 20) (h16 : σ.1 16 0 = nI k) (hi : i < k) (hx : x < 4) : qLP_leader σ (nI i) (nI x) = some (σ.1 17 (4 * i + x)) := by
  unfold qLP_leader qLn_get
  have e : nI i * 4 + nI x = nI (4 * i + x) := by rw [show (4 : Int32) = nI 4 from rfl, pk_mul, nI_add, Nat.mul_comm]
  rw [h16, if_neg (nI_nneg (by omega)), if_neg (nI_nneg (by omega)), if_pos (show nI x < (4 : Int32) from nI_lt (b := 4) hx (by omega)), if_neg (nI_ge hi (by omega)), e, qo_in (by omega) (by decide), nI_clamp (by omega)]
  rfl
theorem qLP_dg73 {j i : Nat} (hj : j ≤ 20) (h16 : σ.1 16 0 = nI j) (hi : i < j) (K : Int64 → Int32 → Option Int64) : ∀ (k m x : Nat) (h : Int64), x + k = 4 → k < m → qLP_digest_L73 σ (nI i) K m h (nI x) = K (qp_mix (fun y => σ.1 17 y) k (4 * i + x) h) (nI (i + 1)) := by
  intro k
  induction k with
  | zero =>
    intro m x h e hm
    obtain ⟨m, rfl⟩ : ∃ m', m = m' + 1 := ⟨m - 1, by omega⟩
    rw [qLP_digest_L73, if_pos (show (4 : Int32) ≤ nI x from nI_le (a := 4) (by omega) (by omega)), nI_1]
    rfl
  | succ k ih =>
    intro m x h e hm
    obtain ⟨m, rfl⟩ : ∃ m', m = m' + 1 := ⟨m - 1, by omega⟩
    rw [qLP_digest_L73, if_neg (show ¬ (4 : Int32) ≤ nI x from nI_ge (b := 4) (by omega) (by omega)), qLP_leader_s hj h16 hi (show x < 4 by omega), qob_bind, nI_1, ih m (x + 1) _ (by omega) (by omega)]
    rfl
theorem qLP_dg59 {j t : Nat} (hj : j ≤ 20) (h16 : σ.1 16 0 = nI j) (ht : t ≤ 80) (h19 : σ.1 19 0 = nI t) : ∀ (k m i : Nat) (h : Int64), i + k = j → k < m → qLP_digest_L59 σ m h (nI i) = some (qp_mix (fun y => σ.1 20 y) t 0 (qp_mix (fun y => σ.1 17 y) (4 * k) (4 * i) h)) := by
  intro k
  induction k with
  | zero =>
    intro m i h e hm
    obtain ⟨m, rfl⟩ : ∃ m', m = m' + 1 := ⟨m - 1, by omega⟩
    rw [qLP_digest_L59, h16, if_pos (nI_le (by omega) (by omega)), show (0 : Int32) = nI 0 from rfl, qLP_dg108 ht h19 t qx_F 0 h (by omega) (by rw [qF_big]; omega)]
    rfl
  | succ k ih =>
    intro m i h e hm
    obtain ⟨m, rfl⟩ : ∃ m', m = m' + 1 := ⟨m - 1, by omega⟩
    rw [qLP_digest_L59, h16, if_neg (nI_ge (by omega) (by omega)), show (0 : Int32) = nI 0 from rfl, qLP_dg73 hj h16 (show i < j by omega) (qLP_digest_L59 σ m) 4 qx_F 0 h rfl (by rw [qF_big]; omega), ih m (i + 1) _ (by omega) (by omega), show 4 * (k + 1) = 4 + 4 * k by omega, qp_mix_add]
    rfl
theorem qLP_dg33 (hok : qv_ok n f w) (hat : qv_at n f w sh) (hC : qr_C n f w sh σ) (hK : qr_K n f w σ) {j t : Nat} (hj : j ≤ 20) (h16 : σ.1 16 0 = nI j) (ht : t ≤ 80) (h19 : σ.1 19 0 = nI t) : ∀ (k m p : Nat) (h : Int64), p + k = n → k < m → qLP_digest_L33 σ m h (nI p) = some (qp_mix (fun y => σ.1 20 y) t 0 (qp_mix (fun y => σ.1 17 y) (4 * j) 0 (qp_each n f w sh k p h))) := by
  have hn := hok.1
  intro k
  induction k with
  | zero =>
    intro m p h e hm
    obtain ⟨m, rfl⟩ : ∃ m', m = m' + 1 := ⟨m - 1, by omega⟩
    rw [qLP_digest_L33, hC.1, if_pos (nI_le (by omega) (by omega)), show (0 : Int32) = nI 0 from rfl, qLP_dg59 hj h16 ht h19 j qx_F 0 h (by omega) (by rw [qF_big]; omega)]
    rfl
  | succ k ih =>
    intro m p h e hm
    obtain ⟨m, rfl⟩ : ∃ m', m = m' + 1 := ⟨m - 1, by omega⟩
    rw [qLP_digest_L33, hC.1, if_neg (nI_ge (by omega) (by omega)), qLP_withPoint_s hok hat hC hK (show p < n by omega), qob_bind, nI_1, ih m (p + 1) _ (by omega) (by omega)]
    rfl
theorem qLP_dg6 (hok : qv_ok n f w) (hat : qv_at n f w sh) (hC : qr_C n f w sh σ) (hK : qr_K n f w σ) {j t : Nat} (hj : j ≤ 20) (h16 : σ.1 16 0 = nI j) (ht : t ≤ 80) (h19 : σ.1 19 0 = nI t) : ∀ (k m x : Nat) (h : Int64), x + k = 13 → k < m → qLP_digest_L6 σ m h (nI x) = some (qp_mix (fun y => σ.1 20 y) t 0 (qp_mix (fun y => σ.1 17 y) (4 * j) 0 (qp_each n f w sh n 0 (qp_mix (qp_num n f w sh j t) k x h)))) := by
  have hn := hok.1
  intro k
  induction k with
  | zero =>
    intro m x h e hm
    obtain ⟨m, rfl⟩ : ∃ m', m = m' + 1 := ⟨m - 1, by omega⟩
    rw [qLP_digest_L6, if_pos (show (13 : Int32) ≤ nI x from nI_le (a := 13) (by omega) (by omega)), show (0 : Int32) = nI 0 from rfl, qLP_dg33 hok hat hC hK hj h16 ht h19 n qx_F 0 h (by omega) (by rw [qF_big]; omega)]
    rfl
  | succ k ih =>
    intro m x h e hm
    obtain ⟨m, rfl⟩ : ∃ m', m = m' + 1 := ⟨m - 1, by omega⟩
    rw [qLP_digest_L6, if_neg (show ¬ (13 : Int32) ≤ nI x from nI_ge (b := 13) (by omega) (by omega)), qLP_count_s hok hat hC hK h16 h19 (show x < 13 by omega), qob_bind, nI_1, ih m (x + 1) _ (by omega) (by omega)]
    rfl
/-! the reference's side: its numbers with h in the long cell -/
theorem q_upl2 (τ : QS) (h v : Int64) : qM_mixes (qx_upl τ 0 20 h) v = some (qx_upl τ 0 20 (31 * h + v)) := by
  unfold qM_mixes
  refine congrArg some ?_
  unfold qx_upl
  refine Prod.ext rfl ?_
  funext k i
  simp only [if_true]
  by_cases c : k = 0
  · simp only [if_pos c]
    unfold vp_updL
    by_cases c2 : i = 20
    · subst c2; simp
    · simp [c2]
  · simp only [if_neg c]
theorem q_uplg (τ : QS) (h : Int64) : (qx_upl τ 0 20 h).2 0 20 = h := by simp [qx_upl, vp_updL]
theorem qM_dg137 {t : Nat} (ht : t ≤ 80) (h14 : τ.1 0 14 = nI t) : ∀ (k m x : Nat) (h : Int64), x + k = t → k < m → qM_digest_L137 m (qx_upl τ 0 20 h) (nI x) = some (qp_mix (fun y => τ.1 8 y) k x h, qx_upl τ 0 20 (qp_mix (fun y => τ.1 8 y) k x h)) := by
  intro k
  induction k with
  | zero =>
    intro m x h e hm
    obtain ⟨m, rfl⟩ : ∃ m', m = m' + 1 := ⟨m - 1, by omega⟩
    rw [qM_digest_L137, if_pos (show (qx_upl τ 0 20 h).1 0 14 ≤ nI x by show τ.1 0 14 ≤ nI x; rw [h14]; exact nI_le (by omega) (by omega)), q_uplg]
    rfl
  | succ k ih =>
    intro m x h e hm
    obtain ⟨m, rfl⟩ : ∃ m', m = m' + 1 := ⟨m - 1, by omega⟩
    rw [qM_digest_L137, if_neg (show ¬ (qx_upl τ 0 20 h).1 0 14 ≤ nI x by show ¬ τ.1 0 14 ≤ nI x; rw [h14]; exact nI_ge (by omega) (by omega)), qo_in (by omega) (by decide), nI_clamp (by omega), q_upl2, qob_bind, nI_1, ih m (x + 1) _ (by omega) (by omega)]
    rfl
theorem qM_dg108 {j t : Nat} (hj : j ≤ 20) (h11 : τ.1 0 11 = nI j) (ht : t ≤ 80) (h14 : τ.1 0 14 = nI t) : ∀ (k m x : Nat) (h : Int64), x + k = 4 * j → k < m → qM_digest_L108 m (qx_upl τ 0 20 h) (nI x) = some (qp_mix (fun y => τ.1 8 y) t 0 (qp_mix (fun y => τ.1 6 y) k x h), qx_upl τ 0 20 (qp_mix (fun y => τ.1 8 y) t 0 (qp_mix (fun y => τ.1 6 y) k x h))) := by
  have e4 : ∀ h, 4 * (qx_upl τ 0 20 h).1 0 11 = nI (4 * j) := by
    intro h
    show 4 * τ.1 0 11 = _
    rw [h11, show (4 : Int32) = nI 4 from rfl, pk_mul]
  intro k
  induction k with
  | zero =>
    intro m x h e hm
    obtain ⟨m, rfl⟩ : ∃ m', m = m' + 1 := ⟨m - 1, by omega⟩
    rw [qM_digest_L108, e4, if_pos (nI_le (by omega) (by omega)), show (0 : Int32) = nI 0 from rfl, qM_dg137 ht h14 t qx_F 0 h (by omega) (by rw [qF_big]; omega)]
    rfl
  | succ k ih =>
    intro m x h e hm
    obtain ⟨m, rfl⟩ : ∃ m', m = m' + 1 := ⟨m - 1, by omega⟩
    rw [qM_digest_L108, e4, if_neg (nI_ge (by omega) (by omega)), qo_in (by omega) (by decide), nI_clamp (by omega), q_upl2, qob_bind, nI_1, ih m (x + 1) _ (by omega) (by omega)]
    rfl
theorem qM_dg72 (hok : qv_ok n f w) (hsh : qv_sh n sh) (hM : qr_M n f w sh τ) (hP : qr_P n f w τ) {p : Nat} (hp : p < n) (K : QS → Int32 → Option (Int64 × QS)) : ∀ (k m x : Nat) (h : Int64), x + k = 40 → k < m → qM_digest_L72 (nI p) K m (qx_upl τ 0 20 h) (nI x) = K (qx_upl τ 0 20 (qp_mix (qp_pp n f w sh p) k x h)) (nI (p + 1)) := by
  intro k
  induction k with
  | zero =>
    intro m x h e hm
    obtain ⟨m, rfl⟩ : ∃ m', m = m' + 1 := ⟨m - 1, by omega⟩
    rw [qM_digest_L72, if_pos (show (40 : Int32) ≤ nI x from nI_le (a := 40) (by omega) (by omega)), nI_1]
    rfl
  | succ k ih =>
    intro m x h e hm
    obtain ⟨m, rfl⟩ : ∃ m', m = m' + 1 := ⟨m - 1, by omega⟩
    have d1 : nI x / 5 = nI (x / 5) := pk_div (by omega) (by decide) (by decide)
    have d2 : nI x - nI x / 5 * 5 = nI (x % 5) := pk_rem (by omega) (by decide) (by decide)
    rw [qM_digest_L72, if_neg (show ¬ (40 : Int32) ≤ nI x from nI_ge (b := 40) (by omega) (by omega)), d2, d1, qM_placePart_s hok hsh (show qr_M n f w sh (qx_upl τ 0 20 h) from hM) (show qr_P n f w (qx_upl τ 0 20 h) from hP) hp (show x / 5 < 8 by omega) (show x % 5 < 5 by omega), qob_bind, q_upl2, qob_bind, nI_1, ih m (x + 1) _ (by omega) (by omega)]
    rfl
theorem qM_dg47 (hok : qv_ok n f w) (hsh : qv_sh n sh) (hM : qr_M n f w sh τ) (hP : qr_P n f w τ) {p : Nat} (hp : p < n) (K : QS → Int32 → Option (Int64 × QS)) : ∀ (k m x : Nat) (h : Int64), x + k = 9 → k < m → qM_digest_L47 (nI p) K m (qx_upl τ 0 20 h) (nI x) = K (qx_upl τ 0 20 (qp_mix (qp_pp n f w sh p) 40 0 (qp_mix (qp_part n f w sh p) k x h))) (nI (p + 1)) := by
  intro k
  induction k with
  | zero =>
    intro m x h e hm
    obtain ⟨m, rfl⟩ : ∃ m', m = m' + 1 := ⟨m - 1, by omega⟩
    rw [qM_digest_L47, if_pos (show (9 : Int32) ≤ nI x from nI_le (a := 9) (by omega) (by omega)), show (0 : Int32) = nI 0 from rfl, qM_dg72 hok hsh hM hP hp K 40 qx_F 0 h rfl (by rw [qF_big]; omega)]
    rfl
  | succ k ih =>
    intro m x h e hm
    obtain ⟨m, rfl⟩ : ∃ m', m = m' + 1 := ⟨m - 1, by omega⟩
    rw [qM_digest_L47, if_neg (show ¬ (9 : Int32) ≤ nI x from nI_ge (b := 9) (by omega) (by omega)), qM_part_s hok (show qr_M n f w sh (qx_upl τ 0 20 h) from hM) (show qr_P n f w (qx_upl τ 0 20 h) from hP) hp (show x < 9 by omega), qob_bind, q_upl2, qob_bind, nI_1, ih m (x + 1) _ (by omega) (by omega)]
    rfl
theorem qM_dg37 (hok : qv_ok n f w) (hsh : qv_sh n sh) (hM : qr_M n f w sh τ) (hP : qr_P n f w τ) {j t : Nat} (hj : j ≤ 20) (h11 : τ.1 0 11 = nI j) (ht : t ≤ 80) (h14 : τ.1 0 14 = nI t) : ∀ (k m p : Nat) (h : Int64), p + k = n → k < m → ∃ τ', qM_digest_L37 m (qx_upl τ 0 20 h) (nI p) = some (qp_mix (fun y => τ.1 8 y) t 0 (qp_mix (fun y => τ.1 6 y) (4 * j) 0 (qp_each n f w sh k p h)), τ') ∧ τ'.1 = τ.1 := by
  have hn := hok.1
  intro k
  induction k with
  | zero =>
    intro m p h e hm
    obtain ⟨m, rfl⟩ : ∃ m', m = m' + 1 := ⟨m - 1, by omega⟩
    rw [qM_digest_L37, if_pos (show (qx_upl τ 0 20 h).1 0 1 ≤ nI p by show τ.1 0 1 ≤ nI p; rw [hM.1]; exact nI_le (by omega) (by omega)), show (0 : Int32) = nI 0 from rfl, qM_dg108 hj h11 ht h14 (4 * j) qx_F 0 h (by omega) (by rw [qF_big]; omega)]
    exact ⟨_, rfl, rfl⟩
  | succ k ih =>
    intro m p h e hm
    obtain ⟨m, rfl⟩ : ∃ m', m = m' + 1 := ⟨m - 1, by omega⟩
    rw [qM_digest_L37, if_neg (show ¬ (qx_upl τ 0 20 h).1 0 1 ≤ nI p by show ¬ τ.1 0 1 ≤ nI p; rw [hM.1]; exact nI_ge (by omega) (by omega)), show (0 : Int32) = nI 0 from rfl, qM_dg47 hok hsh hM hP (show p < n by omega) (qM_digest_L37 m) 9 qx_F 0 h rfl (by rw [qF_big]; omega)]
    exact ih m (p + 1) _ (by omega) (by omega)
theorem qM_dg13 (hok : qv_ok n f w) (hat : qv_at n f w sh) (hM : qr_M n f w sh τ) (hP : qr_P n f w τ) {j t : Nat} (hj : j ≤ 20) (h11 : τ.1 0 11 = nI j) (ht : t ≤ 80) (h14 : τ.1 0 14 = nI t) : ∀ (k m x : Nat) (h : Int64), x + k = 13 → k < m → ∃ τ', qM_digest_L13 m (qx_upl τ 0 20 h) (nI x) = some (qp_mix (fun y => τ.1 8 y) t 0 (qp_mix (fun y => τ.1 6 y) (4 * j) 0 (qp_each n f w sh n 0 (qp_mix (qp_num n f w sh j t) k x h))), τ') ∧ τ'.1 = τ.1 := by
  have hn := hok.1
  intro k
  induction k with
  | zero =>
    intro m x h e hm
    obtain ⟨m, rfl⟩ : ∃ m', m = m' + 1 := ⟨m - 1, by omega⟩
    rw [qM_digest_L13, if_pos (show (13 : Int32) ≤ nI x from nI_le (a := 13) (by omega) (by omega)), show (0 : Int32) = nI 0 from rfl]
    exact qM_dg37 hok hat.sh hM hP hj h11 ht h14 n qx_F 0 h (by omega) (by rw [qF_big]; omega)
  | succ k ih =>
    intro m x h e hm
    obtain ⟨m, rfl⟩ : ∃ m', m = m' + 1 := ⟨m - 1, by omega⟩
    rw [qM_digest_L13, if_neg (show ¬ (13 : Int32) ≤ nI x from nI_ge (b := 13) (by omega) (by omega)), qM_number_s hok hat (show qr_M n f w sh (qx_upl τ 0 20 h) from hM) (show qr_P n f w (qx_upl τ 0 20 h) from hP) (show (qx_upl τ 0 20 h).1 0 11 = nI j from h11) (show (qx_upl τ 0 20 h).1 0 14 = nI t from h14) (show x < 13 by omega), qob_bind, q_upl2, qob_bind, nI_1]
    exact ih m (x + 1) _ (by omega) (by omega)
theorem qp_mix_cg {g g' : Nat → Int32} : ∀ (k i : Nat) (h : Int64), (∀ y, y < i + k → g y = g' y) → qp_mix g k i h = qp_mix g' k i h := by
  intro k
  induction k with
  | zero => intro i h _; rfl
  | succ k ih =>
    intro i h hg
    show qp_mix g k (i + 1) (31 * h + (g i).toInt64) = qp_mix g' k (i + 1) (31 * h + (g' i).toInt64)
    rw [hg i (by omega), ih (i + 1) _ (fun y hy => hg y (by omega))]
theorem qR_1 {τ' : QS} (h : qR σ τ) (e : τ'.1 = τ.1) : qR σ τ' := by
  obtain ⟨a, b⟩ := τ
  obtain ⟨a', b'⟩ := τ'
  cases (show a' = a from e)
  exact h
theorem qO_digest (h : qR σ τ) : ∃ r τ', qLP_digest σ = some r ∧ qM_digest τ = some (r, τ') ∧ qR σ τ' := by
  obtain ⟨n, f, w, sh, hok, hat, ⟨hC, hK⟩, hM, hx⟩ := h
  obtain ⟨τ1, e1, M1, P1, o1, R1⟩ := qR_finds hok hat hC hK hM hx
  obtain ⟨⟨k, k1, k2, k3, k4⟩, t, t1, t2, t3, t4⟩ := hx
  unfold qM_digest qLP_digest
  rw [e1, qob_bind, show (0 : Int32) = nI 0 from rfl, qLP_dg6 hok hat hC hK k1 k2 t1 t2 13 qx_F 0 325 rfl (by rw [qF_big]; omega)]
  obtain ⟨τ2, g2, g3⟩ := qM_dg13 hok hat M1 P1 k1 (by rw [o1.1 0 (by decide)]; exact k3) t1 (by rw [o1.1 0 (by decide)]; exact t3) 13 qx_F 0 325 rfl (by rw [qF_big]; omega)
  rw [g2]
  refine ⟨_, τ2, rfl, ?_, qR_1 R1 g3⟩
  rw [o1.1 8 (by decide), o1.1 6 (by decide), qp_mix_cg (g := fun y => σ.1 20 y) (g' := fun y => τ.1 8 y) t 0 _ (fun y hy => (t4 y (by omega)).1), qp_mix_cg (g := fun y => σ.1 17 y) (g' := fun y => τ.1 6 y) (4 * k) 0 _ (fun y hy => k4 y (by omega))]
end
