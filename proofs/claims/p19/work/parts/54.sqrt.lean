/-! ===== the whole root of a number ===== -/
def isqL : Nat → Nat → Nat → Nat
  | 0, _, s => s
  | k + 1, v, s => if (s + 2 ^ k) * (s + 2 ^ k) ≤ v then isqL k v (s + 2 ^ k) else isqL k v s
theorem isqL_ok : ∀ (k v s : Nat), s * s ≤ v → v < (s + 2 ^ k) * (s + 2 ^ k) → isqL k v s * isqL k v s ≤ v ∧ v < (isqL k v s + 1) * (isqL k v s + 1) := by
  intro k
  induction k with
  | zero =>
    intro v s h1 h2
    exact ⟨h1, h2⟩
  | succ k ih =>
    intro v s h1 h2
    unfold isqL
    by_cases c : (s + 2 ^ k) * (s + 2 ^ k) ≤ v
    · rw [if_pos c]
      refine ih v _ c ?_
      rw [Nat.pow_succ] at h2
      rw [show s + 2 ^ k + 2 ^ k = s + 2 ^ k * 2 by omega]
      exact h2
    · rw [if_neg c]
      exact ih v s h1 (by omega)
theorem sq_lt {a b : Nat} (h : a * a < b * b) : a < b := by
  rcases Nat.lt_or_ge a b with z | z
  · exact z
  · have := Nat.mul_le_mul z z
    omega
theorem sq_uniq {r q v : Nat} (h1 : r * r ≤ v) (h2 : v < (r + 1) * (r + 1)) (h3 : q * q ≤ v) (h4 : v < (q + 1) * (q + 1)) : r = q := by
  have a := sq_lt (Nat.lt_of_le_of_lt h1 h4)
  have b := sq_lt (Nat.lt_of_le_of_lt h3 h2)
  omega
def isq (v : Nat) : Nat := isqL 31 v 0
theorem isq_ok {v : Nat} (h : v < 4503599627370496) : isq v * isq v ≤ v ∧ v < (isq v + 1) * (isq v + 1) := isqL_ok 31 v 0 (by omega) (by omega)
theorem isq_le {v : Nat} (h : v < 4503599627370496) : isq v < 67108864 := by
  have h1 := (isq_ok h).1
  exact sq_lt (by omega)
theorem isq26 {v : Nat} (h : v < 4503599627370496) : isqL 26 v 0 = isq v := by
  have h1 := isqL_ok 26 v 0 (by omega) (by omega)
  have h2 := isq_ok h
  exact sq_uniq h1.1 h1.2 h2.1 h2.2
def bt (k : Nat) : Nat := 2 ^ k / 2
theorem bt_shr : ∀ k, k < 26 → J ((2 ^ k : Nat) : Int) >>> (Int32.toInt64 1 &&& 63) = J ((bt k : Nat) : Int) := by decide +kernel
theorem bt_s (k : Nat) : bt (k + 1) = 2 ^ k := by unfold bt; rw [Nat.pow_succ]; omega
theorem pow_le26 {k : Nat} (h : k ≤ 31) : 2 ^ k ≤ 2147483648 := Nat.pow_le_pow_right (by omega) h
theorem q_sideL (h : AH) (v : Nat) (hv : v < 4503599627370496) : ∀ (k s n : Nat), k ≤ 26 → k + 1 ≤ n → s + 2 ^ k ≤ 67108864 → fX8_sideBelow_7L n (J v) (J s) (J ((bt k : Nat) : Int)) h = some (J ((isqL k v s : Nat) : Int), h) := by
  intro k
  induction k with
  | zero =>
    intro s n _ hn hs
    obtain ⟨m, rfl⟩ : ∃ m, n = m + 1 := ⟨n - 1, by omega⟩
    show fX8_sideBelow_7 (fX8_sideBelow_7L m) (J v) (J s) (J ((0 : Nat) : Int)) h = _
    unfold fX8_sideBelow_7
    simp (disch := omega) only [jk, J_le]
    rw [if_pos (by omega)]
    rfl
  | succ k ih =>
    intro s n hk hn hs
    obtain ⟨m, rfl⟩ : ∃ m, n = m + 1 := ⟨n - 1, by omega⟩
    show fX8_sideBelow_7 (fX8_sideBelow_7L m) (J v) (J s) (J ((bt (k + 1) : Nat) : Int)) h = _
    rw [bt_s]
    rw [Nat.pow_succ] at hs
    have hp : 0 < 2 ^ k := Nat.pow_pos (by omega)
    unfold fX8_sideBelow_7
    rw [bt_shr k (by omega)]
    have ha : J (s : Int) + J ((2 ^ k : Nat) : Int) = J ((s + 2 ^ k : Nat) : Int) := by rw [J_add]; rfl
    have hm : J ((s + 2 ^ k : Nat) : Int) * J ((s + 2 ^ k : Nat) : Int) = J (((s + 2 ^ k) * (s + 2 ^ k) : Nat) : Int) := by rw [J_mul]; simp
    have hb : (s + 2 ^ k) * (s + 2 ^ k) ≤ 67108864 * 67108864 := Nat.mul_le_mul (by omega) (by omega)
    simp only [wh_eq]
    rw [ha, hm]
    unfold isqL
    have i1 := ih (s + 2 ^ k) m (by omega) (by omega) (by omega)
    have i2 := ih s m (by omega) (by omega) (by omega)
    generalize (s + 2 ^ k) * (s + 2 ^ k) = q at hb ⊢
    generalize 2 ^ k = w at hp hs i1 i2 ⊢
    simp (disch := omega) only [jk, J_le, J_lt]
    rw [if_neg (by omega)]
    by_cases c : q ≤ v
    · rw [if_neg (by omega), if_pos c, i1]
    · rw [if_pos (by omega), if_neg c, i2]
theorem q_sideBelow (h : AH) {v : Nat} (hv : v < 4503599627370496) : fX8_sideBelow (J v) h = some (J ((isq v : Nat) : Int), h) := by
  rw [← isq26 hv]
  exact q_sideL h v hv 26 0 1000 (by omega) (by omega) (by omega)
theorem q_rootL (h : AH) (v : Nat) (hv : v < 4503599627370496) : ∀ (k s n : Nat), k ≤ 31 → k + 1 ≤ n → s + 2 ^ k ≤ 2147483648 → fX9_rootOf_7L n (J v) (J s) (J ((bt k : Nat) : Int)) h = some (J ((isqL k v s : Nat) : Int), h) := by
  intro k
  induction k with
  | zero =>
    intro s n _ hn hs
    obtain ⟨m, rfl⟩ : ∃ m, n = m + 1 := ⟨n - 1, by omega⟩
    show fX9_rootOf_7 (fX9_rootOf_7L m) (J v) (J s) (J ((0 : Nat) : Int)) h = _
    unfold fX9_rootOf_7
    simp (disch := omega) only [jk, J_le]
    rw [if_pos (by omega)]
    rfl
  | succ k ih =>
    intro s n hk hn hs
    obtain ⟨m, rfl⟩ : ∃ m, n = m + 1 := ⟨n - 1, by omega⟩
    show fX9_rootOf_7 (fX9_rootOf_7L m) (J v) (J s) (J ((bt (k + 1) : Nat) : Int)) h = _
    rw [bt_s]
    rw [Nat.pow_succ] at hs
    have hp : 0 < 2 ^ k := Nat.pow_pos (by omega)
    unfold fX9_rootOf_7
    have ha : J (s : Int) + J ((2 ^ k : Nat) : Int) = J ((s + 2 ^ k : Nat) : Int) := by rw [J_add]; rfl
    have hm : J ((s + 2 ^ k : Nat) : Int) * J ((s + 2 ^ k : Nat) : Int) = J (((s + 2 ^ k) * (s + 2 ^ k) : Nat) : Int) := by rw [J_mul]; simp
    have hb : (s + 2 ^ k) * (s + 2 ^ k) ≤ 2147483648 * 2147483648 := Nat.mul_le_mul (by omega) (by omega)
    have hd : J ((2 ^ k : Nat) : Int) / J 2 = J ((bt k : Nat) : Int) := by
      rw [J_div (by omega) (by omega) (by omega) (by omega)]
      rfl
    simp only [wh_eq, jk]
    rw [ha, hm, hd]
    unfold isqL
    have i1 := ih (s + 2 ^ k) m (by omega) (by omega) (by omega)
    have i2 := ih s m (by omega) (by omega) (by omega)
    generalize (s + 2 ^ k) * (s + 2 ^ k) = q at hb ⊢
    generalize 2 ^ k = w at hp hs i1 i2 ⊢
    have hn2 : ¬ (J 2 = J 0) := by decide
    rw [ck_t hn2, ck_t hn2]
    simp (disch := omega) only [J_le, J_lt]
    rw [if_neg (by omega), if_neg (by omega)]
    by_cases c : q ≤ v
    · rw [if_neg (by omega), if_pos c, i1]
    · rw [if_pos (by omega), if_neg c, i2]
theorem q_rootOf (h : AH) {v : Nat} (hv : v < 4503599627370496) : fX9_rootOf (J v) h = some (J ((isq v : Nat) : Int), h) := q_rootL h v hv 31 0 1000 (by omega) (by omega) (by omega)
