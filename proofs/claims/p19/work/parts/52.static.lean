/-! ===== static methods ===== -/
abbrev far (a : Int) : Prop := 1000000000000000 < a ∨ a < -1000000000000000
theorem bif0 {ρ : Type} (p : Prop) [Decidable p] (A B : Fn ρ) : (if (if p then (1 : Int32) else 0) = 0 then A else B) = if p then B else A := by
  by_cases h : p
  · simp [h]
  · simp [h]
theorem some_ite {α : Type} (p : Prop) [Decidable p] (a b : α) (h : AH) : (if p then (some (a, h) : Fn α) else some (b, h)) = some ((if p then a else b), h) := by split <;> rfl
theorem q_isFar {a : Int} (h1 : -9223372036854775808 ≤ a) (h2 : a ≤ 9223372036854775807) (h : AH) : fX8_isFar (J a) h = some (if far a then 1 else 0, h) := by
  unfold fX8_isFar
  simp (disch := omega) only [jk, J_neg, J_lt, J_le]
  by_cases c1 : 1000000000000000 < a
  · rw [if_pos c1, if_pos (Or.inl c1)]
  · rw [if_neg c1]
    by_cases c2 : -1000000000000000 ≤ a
    · rw [if_pos c2, if_neg (by omega)]
    · rw [if_neg c2, if_pos (by omega)]
def pl (x y : Int) : Int := if far x ∨ far y ∨ far (x + y) then 4000000000000000000 else x + y
def mi (x y : Int) : Int := if far x ∨ far y ∨ far (x - y) then 4000000000000000000 else x - y
def tm (x y : Int) : Int := if far x ∨ far y ∨ far (x * y) then 4000000000000000000 else x * y
abbrev ok64 (a : Int) : Prop := -4000000000000000000 ≤ a ∧ a ≤ 4000000000000000000
theorem pl_ok (x y : Int) : ok64 (pl x y) := by unfold pl; split <;> constructor <;> omega
theorem mi_ok (x y : Int) : ok64 (mi x y) := by unfold mi; split <;> constructor <;> omega
theorem tm_ok (x y : Int) : ok64 (tm x y) := by unfold tm; split <;> constructor <;> omega
theorem q_plus {x y : Int} (hx : ok64 x) (hy : ok64 y) (h : AH) : fX8_plus (J x) (J y) h = some (J (pl x y), h) := by
  unfold fX8_plus pl
  rw [q_isFar (by omega) (by omega), bnd_some, bif0]
  by_cases c1 : far x
  · rw [if_pos c1, if_pos (Or.inl c1), jk.2.2.2.2.2.2.2.2.2.2.2.2.2.1]
  · rw [if_neg c1, q_isFar (by omega) (by omega), bnd_some, bif0]
    by_cases c2 : far y
    · rw [if_pos c2, if_pos (Or.inr (Or.inl c2)), jk.2.2.2.2.2.2.2.2.2.2.2.2.2.1]
    · rw [if_neg c2, J_add, q_isFar (by omega) (by omega), bnd_some, bif0]
      by_cases c3 : far (x + y)
      · rw [if_pos c3, if_pos (Or.inr (Or.inr c3)), jk.2.2.2.2.2.2.2.2.2.2.2.2.2.1]
      · rw [if_neg c3, if_neg (by rintro (z | z | z) <;> contradiction)]
theorem q_minus {x y : Int} (hx : ok64 x) (hy : ok64 y) (h : AH) : fX8_minus (J x) (J y) h = some (J (mi x y), h) := by
  unfold fX8_minus mi
  rw [q_isFar (by omega) (by omega), bnd_some, bif0]
  by_cases c1 : far y
  · rw [if_pos c1, if_pos (Or.inr (Or.inl c1)), jk.2.2.2.2.2.2.2.2.2.2.2.2.2.1]
  · rw [if_neg c1, J_neg, q_plus hx (by constructor <;> omega), bnd_some]
    unfold pl
    rw [show x + -y = x - y by omega]
    by_cases c2 : far x
    · rw [if_pos (Or.inl c2), if_pos (Or.inl c2)]
    · by_cases c3 : far (x - y)
      · rw [if_pos (Or.inr (Or.inr c3)), if_pos (Or.inr (Or.inr c3))]
      · rw [if_neg (by rintro (z | z | z) <;> omega), if_neg (by rintro (z | z | z) <;> omega)]
theorem q_abs {a : Int} (h1 : -9223372036854775807 ≤ a) (h2 : a ≤ 9223372036854775807) (h : AH) : fJ9_abs_067f4 (J a) h = some (J a.natAbs, h) := by
  unfold fJ9_abs_067f4
  simp (disch := omega) only [jk, J_le]
  by_cases c : 0 ≤ a
  · rw [if_pos c]
    congr 3
    omega
  · rw [if_neg c, J_neg]
    congr 3
    omega
theorem far_abs (a : Int) : far a ↔ 1000000000000000 < a.natAbs := by constructor <;> intro z <;> omega
theorem q_times {x y : Int} (hx : ok64 x) (hy : ok64 y) (h : AH) : fX8_times (J x) (J y) h = some (J (tm x y), h) := by
  unfold fX8_times tm
  rw [q_isFar (by omega) (by omega), bnd_some, bif0]
  by_cases c1 : far x
  · rw [if_pos c1, if_pos (Or.inl c1), jk.2.2.2.2.2.2.2.2.2.2.2.2.2.1]
  · rw [if_neg c1, q_isFar (by omega) (by omega), bnd_some, bif0]
    by_cases c2 : far y
    · rw [if_pos c2, if_pos (Or.inr (Or.inl c2)), jk.2.2.2.2.2.2.2.2.2.2.2.2.2.1]
    · rw [if_neg c2]
      simp (disch := omega) only [jk, J_eq]
      by_cases c3 : x = 0
      · subst c3
        rw [if_pos rfl, if_neg (by rw [Int.zero_mul]; omega), Int.zero_mul]
      · by_cases c4 : y = 0
        · subst c4
          rw [if_neg c3, if_pos rfl, if_neg (by rw [Int.mul_zero]; omega), Int.mul_zero]
        · rw [if_neg c3, if_neg c4, q_abs (by omega) (by omega), bnd_some, q_abs (by omega) (by omega), bnd_some]
          have hn : ¬ (J (y.natAbs : Int) = J 0) := by rw [J_eq (by omega) (by omega) (by omega) (by omega)]; omega
          rw [ck_t hn, J_div (by omega) (by omega) (by omega) (by omega)]
          have hd : (1000000000000000 : Int).tdiv (y.natAbs : Int) = ((1000000000000000 / y.natAbs : Nat) : Int) := by
            rw [Int.tdiv_eq_ediv_of_nonneg (by omega)]
            rfl
          have hle : 1000000000000000 / y.natAbs ≤ 1000000000000000 := Nat.div_le_self _ _
          rw [hd, J_mul]
          have hle2 : x.natAbs ≤ 1000000000000000 / y.natAbs ↔ x.natAbs * y.natAbs ≤ 1000000000000000 := Nat.le_div_iff_mul_le (by omega)
          generalize 1000000000000000 / y.natAbs = d at hle hle2 ⊢
          simp (disch := omega) only [J_le]
          have key : ((x.natAbs : Int) ≤ (d : Int)) ↔ ¬ far (x * y) := by
            rw [far_abs, Int.natAbs_mul]
            constructor
            · intro z
              have z2 := hle2.mp (by omega)
              omega
            · intro z
              have z2 := hle2.mpr (by omega)
              omega
          by_cases c5 : far (x * y)
          · rw [if_neg (fun z => (key.mp z) c5), if_pos (Or.inr (Or.inr c5))]
          · rw [if_pos (key.mpr c5), if_neg (by rintro (z | z | z) <;> contradiction)]
theorem J_xor_neg {a b : Int} (ha : -9223372036854775808 ≤ a) (ha2 : a ≤ 9223372036854775807) (hb : -9223372036854775808 ≤ b) (hb2 : b ≤ 9223372036854775807) : (J a ^^^ J b) < J 0 ↔ ¬ ((a < 0) ↔ (b < 0)) := by
  have key : ∀ x : Int64, x < J 0 ↔ x.toBitVec.msb = true := by
    intro x
    rw [Int64.lt_iff_toInt_lt, J_to (by omega) (by omega)]
    rw [BitVec.msb_eq_toInt, Int64.toInt_toBitVec]
    simp only [decide_eq_true_eq]
  have ka := key (J a)
  have kb := key (J b)
  rw [J_lt ha ha2 (by omega) (by omega)] at ka
  rw [J_lt hb hb2 (by omega) (by omega)] at kb
  rw [key, Int64.toBitVec_xor, BitVec.msb_xor, ka, kb]
  cases (J a).toBitVec.msb <;> cases (J b).toBitVec.msb <;> simp
theorem fdiv_of {a b : Int} (hb : b ≠ 0) : (if ¬ ((a < 0) ↔ (b < 0)) ∧ a.tdiv b * b ≠ a then a.tdiv b - 1 else a.tdiv b) = a.fdiv b := by
  rw [Int.fdiv_eq_tdiv]
  have hm := Int.mul_tdiv_add_tmod a b
  have hd : b ∣ a ↔ a.tdiv b * b = a := by
    constructor
    · intro z
      exact Int.tdiv_mul_cancel z
    · intro z
      exact ⟨a.tdiv b, by rw [Int.mul_comm]; exact z.symm⟩
  by_cases h1 : b ∣ a
  · have := hd.mp h1
    simp [h1, this]
  · have h2 : ¬ a.tdiv b * b = a := fun z => h1 (hd.mpr z)
    have ha0 : a ≠ 0 := fun z => h1 (by rw [z]; exact Int.dvd_zero b)
    simp only [h1, h2, ne_eq, not_false_eq_true, and_true, if_false]
    by_cases ha : a < 0 <;> by_cases hb' : b < 0
    · rw [Int.sign_eq_neg_one_of_neg hb']
      simp [ha, hb', show ¬ 0 ≤ a by omega, show ¬ 0 ≤ b by omega]
    · rw [Int.sign_eq_one_of_pos (by omega)]
      simp [ha, hb', show ¬ 0 ≤ a by omega, show 0 ≤ b by omega]
    · simp [ha, hb', show 0 ≤ a by omega, show ¬ 0 ≤ b by omega]
    · simp [ha, hb', show 0 ≤ a by omega, show 0 ≤ b by omega]
