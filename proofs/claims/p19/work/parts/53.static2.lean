/-! ===== division, greatest common divisors, roots ===== -/
theorem tdiv_mul_le (a b : Int) : (a.tdiv b * b).natAbs ≤ a.natAbs := by
  rw [Int.natAbs_mul, Int.natAbs_tdiv]
  exact Nat.div_mul_le_self _ _
theorem tdiv_sub_le (a b : Int) : (a - a.tdiv b * b).natAbs ≤ a.natAbs := by
  have h := Int.mul_tdiv_add_tmod a b
  have h2 : a - a.tdiv b * b = a.tmod b := by rw [Int.mul_comm]; omega
  rw [h2, Int.natAbs_tmod]
  exact Nat.mod_le _ _
theorem J_ge0 (x : Int64) : (J 0 ≤ x) ↔ ¬ x < J 0 := by
  rw [Int64.not_lt]
theorem tdiv_abs_le (a b : Int) : (a.tdiv b).natAbs ≤ a.natAbs := by
  rw [Int.natAbs_tdiv]
  exact Nat.div_le_self _ _
theorem q_floorDiv {a b : Int} (h1 : -9223372036854775807 ≤ a) (h2 : a ≤ 9223372036854775807) (h3 : -9223372036854775807 ≤ b) (h4 : b ≤ 9223372036854775807) (hb : b ≠ 0) (h : AH) : fJ9_floorDiv_f86c9 (J a) (J b) h = some (J (a.fdiv b), h) := by
  unfold fJ9_floorDiv_f86c9
  have hb0 : ¬ J b = J 0 := by rw [J_eq (by omega) (by omega) (by omega) (by omega)]; exact hb
  have e := fdiv_of (a := a) hb
  have t1 := tdiv_mul_le a b
  have t2 := tdiv_abs_le a b
  simp only [jk, wh_eq]
  rw [ck_t hb0, J_div h1 h2 (by omega) h4, J_mul, J_sub]
  generalize a.tdiv b * b = t at t1 e ⊢
  generalize a.tdiv b = d at t2 e ⊢
  simp (disch := omega) only [J_ge0, J_xor_neg, J_eq]
  by_cases c1 : (a < 0) ↔ (b < 0)
  · simp only [c1, not_true_eq_false, not_false_eq_true, if_true, false_and, if_false] at e ⊢
    rw [e]
  · simp only [c1, not_false_eq_true, not_true_eq_false, if_false, true_and] at e ⊢
    by_cases c2 : t = a
    · simp only [c2, ne_eq, not_true_eq_false, if_false, if_true] at e ⊢
      rw [e]
    · simp only [c2, ne_eq, not_false_eq_true, if_true, if_false] at e ⊢
      rw [e]
theorem q_floorOf {a b : Int} (h1 : -9223372036854775807 ≤ a) (h2 : a ≤ 9223372036854775807) (h3 : -9223372036854775807 ≤ b) (h4 : b ≤ 9223372036854775807) (h : AH) : fX8_floorOf (J a) (J b) h = some (J (a.fdiv b), h) := by
  unfold fX8_floorOf
  simp (disch := omega) only [jk, J_eq]
  by_cases c : b = 0
  · subst c
    rw [if_pos rfl, Int.fdiv_zero]
  · rw [if_neg c, q_floorDiv h1 h2 h3 h4 c, bnd_some]
theorem q_floor {a b : Int} (h1 : -9223372036854775807 ≤ a) (h2 : a ≤ 9223372036854775807) (h3 : -9223372036854775807 ≤ b) (h4 : b ≤ 9223372036854775807) (hb : b ≠ 0) (h : AH) : fX9_floor (J a) (J b) h = some (J (a.fdiv b), h) := by
  unfold fX9_floor fX9_floor_24
  have hb0 : ¬ J b = J 0 := by rw [J_eq (by omega) (by omega) (by omega) (by omega)]; exact hb
  have e := fdiv_of (a := a) hb
  have t1 := tdiv_mul_le a b
  have t2 := tdiv_abs_le a b
  have t3 := tdiv_sub_le a b
  simp only [jk, wh_eq]
  rw [ck_t hb0, ck_t hb0, J_div h1 h2 (by omega) h4, J_mul, J_sub, J_sub]
  generalize a.tdiv b * b = t at t1 t3 e ⊢
  generalize a.tdiv b = d at t2 e ⊢
  simp (disch := omega) only [J_le, J_eq]
  have n01 : ¬ ((0 : Int32) = 1) := by decide
  have n10 : ¬ ((1 : Int32) = 0) := by decide
  by_cases c2 : t = a
  · have c3 : a - t = 0 := by omega
    simp only [c2, ne_eq, not_true_eq_false, and_false, if_false, Int.sub_self, if_true] at e ⊢
    rw [e]
  · have c3 : ¬ (a - t = 0) := by omega
    simp only [c2, c3, ne_eq, not_false_eq_true, and_true, if_false] at e ⊢
    by_cases ca : 0 ≤ a <;> by_cases cb : 0 ≤ b
    · have : (a < 0 ↔ b < 0) := by omega
      simp only [this, not_true_eq_false, if_false, ca, cb, if_true] at e ⊢
      rw [e]
    · have : ¬ (a < 0 ↔ b < 0) := by omega
      simp only [this, not_false_eq_true, if_true, ca, cb, if_false, n01] at e ⊢
      rw [e]
    · have : ¬ (a < 0 ↔ b < 0) := by omega
      simp only [this, not_false_eq_true, if_true, ca, cb, if_false, n10] at e ⊢
      rw [e]
    · have : (a < 0 ↔ b < 0) := by omega
      simp only [this, not_true_eq_false, if_false, ca, cb, if_true] at e ⊢
      rw [e]
theorem q_size {a : Int} (h1 : -9223372036854775807 ≤ a) (h2 : a ≤ 9223372036854775807) (h : AH) : fX9_size (J a) h = some (J a.natAbs, h) := by
  unfold fX9_size
  simp (disch := omega) only [jk, J_le]
  by_cases c : 0 ≤ a
  · rw [if_pos c]
    congr 3
    omega
  · rw [if_neg c, J_neg]
    congr 3
    omega
theorem J_rem (x y : Nat) (hx : x ≤ 9000000000000000000) (hy : y ≤ 9000000000000000000) : J (x : Int) - J (x : Int) / J (y : Int) * J (y : Int) = J ((x % y : Nat) : Int) := by
  rw [J_div (by omega) (by omega) (by omega) (by omega), J_mul, J_sub]
  congr 1
  rw [← Int.ofNat_tdiv]
  have := Nat.div_add_mod x y
  rw [Nat.mul_comm] at this
  have h2 : ((x / y : Nat) : Int) * (y : Int) = ((x / y * y : Nat) : Int) := by simp
  rw [h2]
  omega
theorem q_gcd1 (h : AH) (n x y i : Nat) (hx : x ≤ 1000000000000000) (hy : y ≤ 1000000000000000) (hi : i < 100) (h0 : 0 < y) : fX8_greatestCommonDivisor_31L (n + 1) (J x) (J y) (N i) h = fX8_greatestCommonDivisor_31L n (J y) (J ((x % y : Nat) : Int)) (N ((i + 1 : Nat) : Int)) h := by
  show fX8_greatestCommonDivisor_31 (fX8_greatestCommonDivisor_31L n) (J x) (J y) (N i) h = _
  unfold fX8_greatestCommonDivisor_31
  rw [J_rem x y (by omega) (by omega)]
  simp (disch := omega) only [jk, nk, N_le, J_eq, N_add, wh_eq]
  rw [if_neg (by omega), if_neg (by omega), ck_t (by omega)]
  rfl
theorem q_gcd0 (h : AH) (n x i : Nat) (hi : i ≤ 100) : fX8_greatestCommonDivisor_31L (n + 1) (J x) (J ((0 : Nat) : Int)) (N i) h = some (J x, h) := by
  show fX8_greatestCommonDivisor_31 (fX8_greatestCommonDivisor_31L n) (J x) (J ((0 : Nat) : Int)) (N i) h = _
  unfold fX8_greatestCommonDivisor_31
  simp (disch := omega) only [jk, nk, N_le, J_eq]
  by_cases c : (100 : Int) ≤ i
  · rw [if_pos c]
  · rw [if_neg c, if_pos (by omega)]
theorem mod_half {x y : Nat} (h0 : 0 < y) (h : x < y) (hx : 0 < x) : 2 * (y % x) < y := by
  have h1 := Nat.mod_lt y hx
  have h2 := Nat.div_add_mod y x
  have h3 : 1 ≤ y / x := (Nat.le_div_iff_mul_le hx).mpr (by omega)
  have h4 : x * 1 ≤ x * (y / x) := Nat.mul_le_mul_left x h3
  omega
theorem q_gcdL (h : AH) : ∀ (k x y i n : Nat), y < 2 ^ k → i + 2 * k ≤ 100 → 2 * k + 1 ≤ n → x ≤ 1000000000000000 → y ≤ 1000000000000000 → fX8_greatestCommonDivisor_31L n (J x) (J y) (N i) h = some (J ((Nat.gcd x y : Nat) : Int), h) := by
  intro k
  induction k with
  | zero =>
    intro x y i n h1 h2 h3 h4 h5
    obtain rfl : y = 0 := by omega
    obtain ⟨m, rfl⟩ : ∃ m, n = m + 1 := ⟨n - 1, by omega⟩
    rw [q_gcd0 h m x i (by omega), Nat.gcd_zero_right]
  | succ k ih =>
    intro x y i n h1 h2 h3 h4 h5
    obtain ⟨m, rfl⟩ : ∃ m, n = m + 1 + 1 := ⟨n - 2, by omega⟩
    by_cases hy : y = 0
    · subst hy
      rw [q_gcd0 h _ x i (by omega), Nat.gcd_zero_right]
    · have hlt := Nat.mod_lt x (show 0 < y by omega)
      rw [q_gcd1 h _ x y i h4 h5 (by omega) (by omega)]
      by_cases hz : x % y = 0
      · rw [hz, q_gcd0 h _ y (i + 1) (by omega)]
        rw [Nat.gcd_comm, Nat.gcd_rec, hz, Nat.gcd_zero_left]
      · have hh := mod_half (show 0 < y by omega) hlt (by omega)
        rw [q_gcd1 h _ y (x % y) (i + 1) (by omega) (by omega) (by omega) (by omega)]
        rw [ih (x % y) (y % (x % y)) (i + 1 + 1) m (by rw [Nat.pow_succ] at h1; omega) (by omega) (by omega) (by omega) (by omega)]
        congr 4
        rw [Nat.gcd_comm x y, Nat.gcd_rec y x, Nat.gcd_rec (x % y) y, Nat.gcd_comm]
theorem q_gcd {a b : Int} (ha : ¬ far a) (hb : ¬ far b) (h : AH) : fX8_greatestCommonDivisor (J a) (J b) h = some (J ((Int.gcd a b : Nat) : Int), h) := by
  have key : ∀ x y : Nat, x ≤ 1000000000000000 → y ≤ 1000000000000000 → fX8_greatestCommonDivisor_31L 1000 (J x) (J y) (N 0) h = some (J ((Nat.gcd x y : Nat) : Int), h) := fun x y hx hy => q_gcdL h 50 x y 0 1000 (by omega) (by omega) (by omega) hx hy
  unfold fX8_greatestCommonDivisor fX8_greatestCommonDivisor_12
  simp (disch := omega) only [jk, nk, J_neg, J_le, wh_eq]
  unfold Int.gcd
  rw [← key a.natAbs b.natAbs (by omega) (by omega)]
  by_cases c1 : 0 ≤ a <;> by_cases c2 : 0 ≤ b
  · rw [if_pos c1, if_pos c2, show ((a.natAbs : Int)) = a by omega, show ((b.natAbs : Int)) = b by omega]
  · rw [if_pos c1, if_neg c2, show ((a.natAbs : Int)) = a by omega, show ((b.natAbs : Int)) = -b by omega]
  · rw [if_neg c1, if_pos c2, show ((a.natAbs : Int)) = -a by omega, show ((b.natAbs : Int)) = b by omega]
  · rw [if_neg c1, if_neg c2, show ((a.natAbs : Int)) = -a by omega, show ((b.natAbs : Int)) = -b by omega]
theorem q_div1 (h : AH) (n x y : Nat) (hx : x ≤ 1000000000000000) (hy : y ≤ 1000000000000000) (h0 : 0 < y) : fX9_divisor_12L (n + 1) (J x) (J y) h = fX9_divisor_12L n (J y) (J ((x % y : Nat) : Int)) h := by
  show fX9_divisor_12 (fX9_divisor_12L n) (J x) (J y) h = _
  unfold fX9_divisor_12
  rw [J_rem x y (by omega) (by omega)]
  simp (disch := omega) only [jk, J_eq, wh_eq]
  rw [if_neg (by omega), ck_t (by omega)]
theorem q_div0 (h : AH) (n x : Nat) : fX9_divisor_12L (n + 1) (J x) (J ((0 : Nat) : Int)) h = some (J x, h) := by
  show fX9_divisor_12 (fX9_divisor_12L n) (J x) (J ((0 : Nat) : Int)) h = _
  unfold fX9_divisor_12
  simp (disch := omega) only [jk, J_eq]
  rw [if_pos (by omega)]
theorem q_divL (h : AH) : ∀ (k x y n : Nat), y < 2 ^ k → 2 * k + 1 ≤ n → x ≤ 1000000000000000 → y ≤ 1000000000000000 → fX9_divisor_12L n (J x) (J y) h = some (J ((Nat.gcd x y : Nat) : Int), h) := by
  intro k
  induction k with
  | zero =>
    intro x y n h1 h3 h4 h5
    obtain rfl : y = 0 := by omega
    obtain ⟨m, rfl⟩ : ∃ m, n = m + 1 := ⟨n - 1, by omega⟩
    rw [q_div0 h m x, Nat.gcd_zero_right]
  | succ k ih =>
    intro x y n h1 h3 h4 h5
    obtain ⟨m, rfl⟩ : ∃ m, n = m + 1 + 1 := ⟨n - 2, by omega⟩
    by_cases hy : y = 0
    · subst hy
      rw [q_div0 h _ x, Nat.gcd_zero_right]
    · have hlt := Nat.mod_lt x (show 0 < y by omega)
      rw [q_div1 h _ x y h4 h5 (by omega)]
      by_cases hz : x % y = 0
      · rw [hz, q_div0 h _ y]
        rw [Nat.gcd_comm, Nat.gcd_rec, hz, Nat.gcd_zero_left]
      · have hh := mod_half (show 0 < y by omega) hlt (by omega)
        rw [q_div1 h _ y (x % y) (by omega) (by omega) (by omega)]
        rw [ih (x % y) (y % (x % y)) m (by rw [Nat.pow_succ] at h1; omega) (by omega) (by omega) (by omega)]
        congr 4
        rw [Nat.gcd_comm x y, Nat.gcd_rec y x, Nat.gcd_rec (x % y) y, Nat.gcd_comm]
theorem q_divisor {a b : Int} (ha : ¬ far a) (hb : ¬ far b) (h : AH) : fX9_divisor (J a) (J b) h = some (J ((Int.gcd a b : Nat) : Int), h) := by
  unfold fX9_divisor
  rw [q_size (by omega) (by omega), bnd_some, q_size (by omega) (by omega), bnd_some]
  exact q_divL h 50 a.natAbs b.natAbs 1000 (by omega) (by omega) (by omega) (by omega)
