/-! ===== the reference's whole numbers that know when they are FAR ===== -/
def mu (x y : Int) : Int := if far (x * y) then 0 else x * y
def ad (P : Prop) [Decidable P] (x y : Int) : Int := if P ∨ far (x + y) then 0 else x + y
theorem mu_far (x y : Int) : ¬ far (mu x y) := by unfold mu; split <;> omega
theorem ad_far (P : Prop) [Decidable P] (x y : Int) : ¬ far (ad P x y) := by unfold ad; split <;> omega
theorem mu_ok {x y : Int} (h : ¬ far (x * y)) : mu x y = x * y := if_neg h
theorem ad_ok {P : Prop} [Decidable P] {x y : Int} (h : ¬ (P ∨ far (x + y))) : ad P x y = x + y := if_neg h
theorem ibT {P : Prop} [Decidable P] (h : P) : ib P = 1 := if_pos h
theorem ibF {P : Prop} [Decidable P] (h : ¬ P) : ib P = 0 := if_neg h
theorem iIb {ρ : Type} {P : Prop} [Decidable P] {d : Decidable (N (ib P) = N 0)} {A B : ρ} : (if N (ib P) = N 0 then A else B) = if P then B else A := by
  by_cases h : P
  · rw [if_pos h, if_neg (show ¬ N (ib P) = N 0 by rw [ibT h]; decide)]
  · rw [if_neg h, if_pos (show N (ib P) = N 0 by rw [ibF h])]
theorem ib_congr {P Q : Prop} [Decidable P] [Decidable Q] (h : P ↔ Q) : ib P = ib Q := by
  by_cases c : P
  · rw [ibT c, ibT (h.mp c)]
  · rw [ibF c, ibF (fun z => c (h.mpr z))]
section RFA
variable {ρ : Type} {i l : Nat → Nat → Int} {x y : Option Nat}
theorem pZ9 (F : AH → Fn ρ) : pZ (hq i l x y) 108 9 0 (N 0) F = F (hq (w1 i 108 0 (ib False)) l x y) := pZ_q s9T (Or.inl rfl)
theorem pZ91 (F : AH → Fn ρ) : pZ (hq i l x y) 108 9 0 (N 1) F = F (hq (w1 i 108 0 1) l x y) := pZ_q s9T (Or.inr rfl)
theorem pZ90 (F : AH → Fn ρ) : pZ (hq i l x y) 108 9 0 (N 0) F = F (hq (w1 i 108 0 0) l x y) := pZ_q s9T (Or.inl rfl)
theorem g90 (P : Prop) [Decidable P] (F : Int32 → Fn ρ) : gI (hq (w1 i 108 0 (ib P)) l x y) 108 9 0 F = F (N (ib P)) := by rw [gI_q s9T, w1_s]
theorem q_mul {P : Prop} [Decidable P] {a b : Int} (ha : ¬ far a) (hb : ¬ far b) : fX9_mul 108 (J a) (J b) (hq (w1 i 108 0 (ib P)) l x y) = some (J (mu a b), hq (w1 i 108 0 (ib (P ∨ far (a * b)))) l x y) := by
  unfold fX9_mul
  simp only [jk, nk]
  by_cases c3 : a = 0
  · subst c3
    have h0 : ¬ far (0 * b) := by rw [Int.zero_mul]; omega
    rw [if_pos rfl, mu_ok h0, Int.zero_mul, ib_congr (show P ∨ far 0 ↔ P from ⟨fun z => z.resolve_right (by omega), Or.inl⟩)]
  · by_cases c4 : b = 0
    · subst c4
      have h0 : ¬ far (a * 0) := by rw [Int.mul_zero]; omega
      rw [if_neg (by rw [J_eq (by omega) (by omega) (by omega) (by omega)]; exact c3), if_pos rfl, mu_ok h0, Int.mul_zero, ib_congr (show P ∨ far 0 ↔ P from ⟨fun z => z.resolve_right (by omega), Or.inl⟩)]
    · rw [if_neg (by rw [J_eq (by omega) (by omega) (by omega) (by omega)]; exact c3), if_neg (by rw [J_eq (by omega) (by omega) (by omega) (by omega)]; exact c4)]
      rw [q_size (by omega) (by omega), bnd_some, if_neg (by rw [J_lt (by omega) (by omega) (by omega) (by omega)]; omega), q_size (by omega) (by omega), bnd_some, if_neg (by rw [J_lt (by omega) (by omega) (by omega) (by omega)]; omega), q_size (by omega) (by omega), bnd_some, q_size (by omega) (by omega), bnd_some]
      have hn : ¬ (J (b.natAbs : Int) = J 0) := by rw [J_eq (by omega) (by omega) (by omega) (by omega)]; omega
      rw [ck_t hn, J_div (by omega) (by omega) (by omega) (by omega)]
      have hd : (1000000000000000 : Int).tdiv (b.natAbs : Int) = ((1000000000000000 / b.natAbs : Nat) : Int) := by
        rw [Int.tdiv_eq_ediv_of_nonneg (by omega)]
        rfl
      have hle : 1000000000000000 / b.natAbs ≤ 1000000000000000 := Nat.div_le_self _ _
      rw [hd, J_mul]
      have hle2 : a.natAbs ≤ 1000000000000000 / b.natAbs ↔ a.natAbs * b.natAbs ≤ 1000000000000000 := Nat.le_div_iff_mul_le (by omega)
      generalize 1000000000000000 / b.natAbs = d at hle hle2 ⊢
      have key : ((a.natAbs : Int) ≤ (d : Int)) ↔ ¬ far (a * b) := by
        rw [far_abs, Int.natAbs_mul]
        constructor
        · intro z
          have z2 := hle2.mp (by omega)
          omega
        · intro z
          have z2 := hle2.mpr (by omega)
          omega
      by_cases c5 : far (a * b)
      · rw [if_neg (by rw [J_le (by omega) (by omega) (by omega) (by omega)]; exact fun z => (key.mp z) c5), pZ91, w1_w1]
        unfold mu
        rw [if_pos c5, ibT (show P ∨ far (a * b) from Or.inr c5)]
      · rw [if_pos (by rw [J_le (by omega) (by omega) (by omega) (by omega)]; exact key.mpr c5), mu_ok c5, ib_congr (show P ∨ far (a * b) ↔ P from ⟨fun z => z.resolve_right c5, Or.inl⟩)]
theorem q_add {P : Prop} [Decidable P] {a b : Int} (ha : ¬ far a) (hb : ¬ far b) : fX9_add 108 (J a) (J b) (hq (w1 i 108 0 (ib P)) l x y) = some (J (ad P a b), hq (w1 i 108 0 (ib (P ∨ far (a + b)))) l x y) := by
  unfold fX9_add ad
  simp only [jk, nk]
  rw [J_add, wh_eq, gI_q s9T, w1_s]
  by_cases c : P
  · rw [ibT c, if_neg (by decide), if_pos (Or.inl c), pZ91, gI_q s9T, w1_s, if_neg (by decide), w1_w1, ibT (show P ∨ far (a + b) from Or.inl c)]
  · rw [ibF c, if_pos rfl, q_size (by omega) (by omega), bnd_some]
    by_cases c5 : far (a + b)
    · rw [if_neg (by rw [J_le (by omega) (by omega) (by omega) (by omega)]; omega), if_pos (Or.inr c5), pZ91, gI_q s9T, w1_s, if_neg (by decide), w1_w1, ibT (show P ∨ far (a + b) from Or.inr c5)]
    · rw [if_pos (by rw [J_le (by omega) (by omega) (by omega) (by omega)]; omega), if_neg (by rintro (z | z) <;> contradiction), pZ90, gI_q s9T, w1_s, if_pos rfl, w1_w1, ibF (show ¬ (P ∨ far (a + b)) by rintro (z | z) <;> contradiction)]
theorem b_mul {P : Prop} [Decidable P] {a b : Int} (F : Int64 → AH → Fn ρ) (ha : ¬ far a) (hb : ¬ far b) : bnd (fX9_mul 108 (J a) (J b) (hq (w1 i 108 0 (ib P)) l x y)) F = F (J (mu a b)) (hq (w1 i 108 0 (ib (P ∨ far (a * b)))) l x y) := bq (q_mul ha hb) F
theorem b_add {P : Prop} [Decidable P] {a b : Int} (F : Int64 → AH → Fn ρ) (ha : ¬ far a) (hb : ¬ far b) : bnd (fX9_add 108 (J a) (J b) (hq (w1 i 108 0 (ib P)) l x y)) F = F (J (ad P a b)) (hq (w1 i 108 0 (ib (P ∨ far (a + b)))) l x y) := bq (q_add ha hb) F
theorem b_plus {a b : Int} {h : AH} (F : Int64 → AH → Fn ρ) (ha : ok64 a) (hb : ok64 b) : bnd (fX8_plus (J a) (J b) h) F = F (J (pl a b)) h := bq (q_plus ha hb h) F
theorem b_minus {a b : Int} {h : AH} (F : Int64 → AH → Fn ρ) (ha : ok64 a) (hb : ok64 b) : bnd (fX8_minus (J a) (J b) h) F = F (J (mi a b)) h := bq (q_minus ha hb h) F
theorem b_times {a b : Int} {h : AH} (F : Int64 → AH → Fn ρ) (ha : ok64 a) (hb : ok64 b) : bnd (fX8_times (J a) (J b) h) F = F (J (tm a b)) h := bq (q_times ha hb h) F
theorem b_isFar {a : Int} {h : AH} (F : Int32 → AH → Fn ρ) (h1 : -9223372036854775808 ≤ a ∧ a ≤ 9223372036854775807) : bnd (fX8_isFar (J a) h) F = F (N (ib (far a))) h := by
  rw [bq (q_isFar h1.1 h1.2 h)]
  congr 1
  unfold ib
  split <;> rfl
theorem b_floorOf {a b : Int} {h : AH} (F : Int64 → AH → Fn ρ) (h1 : (-9223372036854775807 ≤ a ∧ a ≤ 9223372036854775807) ∧ -9223372036854775807 ≤ b ∧ b ≤ 9223372036854775807) : bnd (fX8_floorOf (J a) (J b) h) F = F (J (a.fdiv b)) h := bq (q_floorOf h1.1.1 h1.1.2 h1.2.1 h1.2.2 h) F
theorem b_floor {a b : Int} {h : AH} (F : Int64 → AH → Fn ρ) (h1 : (-9223372036854775807 ≤ a ∧ a ≤ 9223372036854775807) ∧ -9223372036854775807 ≤ b ∧ b ≤ 9223372036854775807) (hb : b ≠ 0) : bnd (fX9_floor (J a) (J b) h) F = F (J (a.fdiv b)) h := bq (q_floor h1.1.1 h1.1.2 h1.2.1 h1.2.2 hb h) F
theorem b_size {a : Int} {h : AH} (F : Int64 → AH → Fn ρ) (h1 : -9223372036854775807 ≤ a ∧ a ≤ 9223372036854775807) : bnd (fX9_size (J a) h) F = F (J a.natAbs) h := bq (q_size h1.1 h1.2 h) F
theorem b_in {a lo hi : Int} {h : AH} (F : Int32 → AH → Fn ρ) (h1 : (-9223372036854775808 ≤ a ∧ a ≤ 9223372036854775807) ∧ (-9223372036854775808 ≤ lo ∧ lo ≤ 9223372036854775807) ∧ -9223372036854775808 ≤ hi ∧ hi ≤ 9223372036854775807) : bnd (fX9_in (J a) (J lo) (J hi) h) F = F (N (ib (lo ≤ a ∧ a ≤ hi))) h := by
  rw [bq (q_in h1.1.1 h1.1.2 h1.2.1.1 h1.2.1.2 h1.2.2.1 h1.2.2.2 h)]
  congr 1
  unfold ib
  split <;> rfl
end RFA
/-! ===== NEAR numbers ===== -/
/-- s k-1, t k-1, s k-2, t k-2 ahead of step k -/
def ne (p : Nat → Int) : Nat → (Int × Int) × (Int × Int)
  | 0 => ((1, 0), (0, 1))
  | k + 1 => ((p k * (ne p k).1.1 + (ne p k).2.1, p k * (ne p k).1.2 + (ne p k).2.2), (ne p k).1)
abbrev neF (p : Nat → Int) (k : Nat) : Prop := (far (p k * (ne p k).1.1) ∨ far (p k * (ne p k).1.1 + (ne p k).2.1)) ∨ far (p k * (ne p k).1.2) ∨ far (p k * (ne p k).1.2 + (ne p k).2.2)
/-- how many from k on, of m, are not FAR -/
def nK (p : Nat → Int) : Nat → Nat → Nat
  | 0, k => k
  | m + 1, k => if neF p k then k else nK p m (k + 1)
theorem nK_le (p : Nat → Int) : ∀ m k, k ≤ nK p m k ∧ nK p m k ≤ k + m := by
  intro m
  induction m with
  | zero => intro k; exact ⟨Nat.le_refl _, Nat.le_refl _⟩
  | succ m ih =>
    intro k
    unfold nK
    split
    · omega
    · have := ih (k + 1)
      omega
theorem nK_no (p : Nat → Int) : ∀ m k j, k ≤ j → j < nK p m k → ¬ neF p j := by
  intro m
  induction m with
  | zero => intro k j h1 h2; unfold nK at h2; omega
  | succ m ih =>
    intro k j h1 h2
    unfold nK at h2
    split at h2
    · omega
    · rename_i c
      by_cases e : j = k
      · rw [e]; exact c
      · exact ih (k + 1) j (by omega) h2
theorem nK_at (p : Nat → Int) : ∀ m k, nK p m k < k + m → neF p (nK p m k) := by
  intro m
  induction m with
  | zero => intro k h; unfold nK at h; omega
  | succ m ih =>
    intro k h
    unfold nK at h ⊢
    split
    · assumption
    · rename_i c
      rw [if_neg c] at h
      exact ih (k + 1) (by omega)
theorem ne_far (p : Nat → Int) (k : Nat) (h : ∀ j, j < k → ¬ neF p j) : (¬ far (ne p k).1.1 ∧ ¬ far (ne p k).1.2) ∧ ¬ far (ne p k).2.1 ∧ ¬ far (ne p k).2.2 := by
  induction k with
  | zero => unfold ne; dsimp only; omega
  | succ k ih =>
    have h1 := h k (by omega)
    have ih := ih (fun j hj => h j (by omega))
    unfold ne
    dsimp only
    exact ⟨⟨fun z => h1 (Or.inl (Or.inr z)), fun z => h1 (Or.inr (Or.inr z))⟩, ih.1⟩
/-- the lower numbers grow -/
theorem ne_pos (p : Nat → Int) (k : Nat) (h : ∀ j, 0 < j → j < k → 1 ≤ p j) : 0 ≤ (ne p k).1.2 ∧ 0 ≤ (ne p k).2.2 ∧ 1 ≤ (ne p k).1.2 + (ne p k).2.2 ∧ (0 < k → 1 ≤ (ne p k).1.2) := by
  induction k with
  | zero => unfold ne; dsimp only; omega
  | succ k ih =>
    obtain ⟨i1, i2, i3, i4⟩ := ih (fun j h1 h2 => h j h1 (by omega))
    unfold ne
    dsimp only
    by_cases e : k = 0
    · subst e
      unfold ne
      dsimp only
      omega
    · have hp := h k (by omega) (by omega)
      have i4 := i4 (by omega)
      have e2 : 1 * (ne p k).1.2 ≤ p k * (ne p k).1.2 := Int.mul_le_mul_of_nonneg_right hp i1
      omega
