/-! ===== whole numbers of the machine as Int ===== -/
def J (a : Int) : Int64 := Int64.ofInt a
def N (a : Int) : Int32 := Int32.ofInt a
theorem J_add (a b : Int) : J a + J b = J (a + b) := (Int64.ofInt_add a b).symm
theorem J_sub (a b : Int) : J a - J b = J (a - b) := (Int64.ofInt_sub a b).symm
theorem J_mul (a b : Int) : J a * J b = J (a * b) := (Int64.ofInt_mul a b).symm
theorem J_neg (a : Int) : -J a = J (-a) := (Int64.ofInt_neg a).symm
theorem N_add (a b : Int) : N a + N b = N (a + b) := (Int32.ofInt_add a b).symm
theorem N_sub (a b : Int) : N a - N b = N (a - b) := (Int32.ofInt_sub a b).symm
theorem N_mul (a b : Int) : N a * N b = N (a * b) := (Int32.ofInt_mul a b).symm
theorem N_neg (a : Int) : -N a = N (-a) := (Int32.ofInt_neg a).symm
theorem J_of (x : Int64) : x = J x.toInt := (Int64.ofInt_toInt x).symm
theorem N_of (x : Int32) : x = N x.toInt := (Int32.ofInt_toInt x).symm
theorem J_to {a : Int} (h1 : -9223372036854775808 ≤ a) (h2 : a ≤ 9223372036854775807) : (J a).toInt = a := Int64.toInt_ofInt_of_le (by omega) (by omega)
theorem N_to {a : Int} (h1 : -2147483648 ≤ a) (h2 : a ≤ 2147483647) : (N a).toInt = a := Int32.toInt_ofInt_of_le (by omega) (by omega)
theorem J_rng (x : Int64) : -9223372036854775808 ≤ x.toInt ∧ x.toInt ≤ 9223372036854775807 := by
  have h1 := Int64.le_toInt x
  have h2 := Int64.toInt_lt x
  constructor <;> omega
theorem N_rng (x : Int32) : -2147483648 ≤ x.toInt ∧ x.toInt ≤ 2147483647 := by
  have h1 := Int32.le_toInt x
  have h2 := Int32.toInt_lt x
  constructor <;> omega
theorem J_lt {a b : Int} (h1 : -9223372036854775808 ≤ a) (h2 : a ≤ 9223372036854775807) (h3 : -9223372036854775808 ≤ b) (h4 : b ≤ 9223372036854775807) : J a < J b ↔ a < b := by
  rw [Int64.lt_iff_toInt_lt, J_to h1 h2, J_to h3 h4]
theorem J_le {a b : Int} (h1 : -9223372036854775808 ≤ a) (h2 : a ≤ 9223372036854775807) (h3 : -9223372036854775808 ≤ b) (h4 : b ≤ 9223372036854775807) : J a ≤ J b ↔ a ≤ b := by
  rw [Int64.le_iff_toInt_le, J_to h1 h2, J_to h3 h4]
theorem J_eq {a b : Int} (h1 : -9223372036854775808 ≤ a) (h2 : a ≤ 9223372036854775807) (h3 : -9223372036854775808 ≤ b) (h4 : b ≤ 9223372036854775807) : J a = J b ↔ a = b := by
  rw [← Int64.toInt_inj, J_to h1 h2, J_to h3 h4]
theorem N_lt {a b : Int} (h1 : -2147483648 ≤ a) (h2 : a ≤ 2147483647) (h3 : -2147483648 ≤ b) (h4 : b ≤ 2147483647) : N a < N b ↔ a < b := by
  rw [Int32.lt_iff_toInt_lt, N_to h1 h2, N_to h3 h4]
theorem N_le {a b : Int} (h1 : -2147483648 ≤ a) (h2 : a ≤ 2147483647) (h3 : -2147483648 ≤ b) (h4 : b ≤ 2147483647) : N a ≤ N b ↔ a ≤ b := by
  rw [Int32.le_iff_toInt_le, N_to h1 h2, N_to h3 h4]
theorem N_eq {a b : Int} (h1 : -2147483648 ≤ a) (h2 : a ≤ 2147483647) (h3 : -2147483648 ≤ b) (h4 : b ≤ 2147483647) : N a = N b ↔ a = b := by
  rw [← Int32.toInt_inj, N_to h1 h2, N_to h3 h4]
theorem J_div {a b : Int} (h1 : -9223372036854775807 ≤ a) (h2 : a ≤ 9223372036854775807) (h3 : -9223372036854775808 ≤ b) (h4 : b ≤ 9223372036854775807) : J a / J b = J (a.tdiv b) := by
  have hne : J a ≠ Int64.minValue := by
    intro z
    have := congrArg Int64.toInt z
    rw [J_to (by omega) h2] at this
    simp at this
    omega
  rw [J_of (J a / J b), Int64.toInt_div_of_ne_left _ _ hne, J_to (by omega) h2, J_to h3 h4]
theorem N_div {a b : Int} (h1 : -2147483647 ≤ a) (h2 : a ≤ 2147483647) (h3 : -2147483648 ≤ b) (h4 : b ≤ 2147483647) : N a / N b = N (a.tdiv b) := by
  have hne : N a ≠ Int32.minValue := by
    intro z
    have := congrArg Int32.toInt z
    rw [N_to (by omega) h2] at this
    simp at this
    omega
  rw [N_of (N a / N b), Int32.toInt_div_of_ne_left _ _ hne, N_to (by omega) h2, N_to h3 h4]
theorem N_cl {a : Int} (h1 : 0 ≤ a) (h2 : a ≤ 2147483647) : (N a).toNatClampNeg = a.toNat := by
  rw [Int32.toNatClampNeg, N_to (by omega) h2]
theorem N_J {a : Int} (h1 : -2147483648 ≤ a) (h2 : a ≤ 2147483647) : Int32.toInt64 (N a) = J a := by
  rw [J_of (Int32.toInt64 (N a)), Int32.toInt_toInt64, N_to h1 h2]
/-- numerals -/
theorem jk : (0 : Int64) = J 0 ∧ (1 : Int64) = J 1 ∧ (2 : Int64) = J 2 ∧ (36 : Int64) = J 36 ∧ (3163 : Int64) = J 3163 ∧ (100 : Int64) = J 100 ∧ (1000 : Int64) = J 1000 ∧ (10000 : Int64) = J 10000 ∧ (1000000 : Int64) = J 1000000 ∧ (10000000 : Int64) = J 10000000 ∧ (1000000000 : Int64) = J 1000000000 ∧ (10000000000000 : Int64) = J 10000000000000 ∧ (1000000000000000 : Int64) = J 1000000000000000 ∧ (4000000000000000000 : Int64) = J 4000000000000000000 ∧ (9223372036854775807 : Int64) = J 9223372036854775807 ∧ (1073741824 : Int64) = J 1073741824 ∧ (3037000499 : Int64) = J 3037000499 ∧ (4294967295 : Int64) = J 4294967295 ∧ (33554432 : Int64) = J 33554432 ∧ (3 : Int64) = J 3 ∧ (7 : Int64) = J 7 ∧ (9 : Int64) = J 9 ∧ (59 : Int64) = J 59 ∧ (60 : Int64) = J 60 ∧ (39 : Int64) = J 39 ∧ (40 : Int64) = J 40 ∧ (8 : Int64) = J 8 := by decide +kernel
theorem nk : (0 : Int32) = N 0 ∧ (1 : Int32) = N 1 ∧ (2 : Int32) = N 2 ∧ (3 : Int32) = N 3 ∧ (4 : Int32) = N 4 ∧ (5 : Int32) = N 5 ∧ (6 : Int32) = N 6 ∧ (7 : Int32) = N 7 ∧ (8 : Int32) = N 8 ∧ (9 : Int32) = N 9 ∧ (10 : Int32) = N 10 ∧ (31 : Int32) = N 31 ∧ (32 : Int32) = N 32 ∧ (36 : Int32) = N 36 ∧ (40 : Int32) = N 40 ∧ (60 : Int32) = N 60 ∧ (61 : Int32) = N 61 ∧ (100 : Int32) = N 100 ∧ (182 : Int32) = N 182 ∧ (1000 : Int32) = N 1000 ∧ (10000 : Int32) = N 10000 ∧ (1000000 : Int32) = N 1000000 ∧ (25 : Int32) = N 25 := by decide +kernel
theorem jl (a : Int) : Int64.ofInt a = J a := rfl
theorem nl (a : Int) : Int32.ofInt a = N a := rfl
theorem nN (n : Nat) : Int32.ofNat n = N n := (Int32.ofInt_eq_ofNat (n := n)).symm
/-! ===== the combinators over known shapes ===== -/
theorem bnd_some {α ρ : Type} (v : α) (h : AH) (F : α → AH → Fn ρ) : bnd (some (v, h)) F = F v h := rfl
theorem wh_eq {α β : Type} (e : α) (F : α → β) : wh e F = F e := rfl
theorem ck_t {ρ : Type} {p : Prop} [Decidable p] (h : p) (F : Fn ρ) : ck p F = F := by unfold ck; rw [if_pos h]
