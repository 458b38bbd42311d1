/-! ===== calls: root ===== -/
def inn : Nat → Nat → Nat → Nat → Nat × Nat
  | 0, m, f, _ => (m, f)
  | k + 1, m, f, q => if m % (q * q) = 0 ∧ 0 < m then inn k (m / (q * q)) (f * q) q else (m, f)
def ouq : Nat → Nat → Nat → Nat → Nat × Nat
  | 0, m, f, _ => (m, f)
  | k + 1, m, f, q => if q * q ≤ m then ouq k (inn 10 m f q).1 (inn 10 m f q).2 (q + 1) else (m, f)
def sd : Nat → Nat → Nat
  | 0, _ => 1
  | k + 1, n => if k = 0 then 1 else if n % ((k + 1) * (k + 1)) = 0 then k + 1 else sd k n
theorem sq_all : ∀ n, n < 1001 → 0 < n → (ouq 31 n 1 2 = (n / (sd 31 n * sd 31 n), sd 31 n)) ∧ (1 ≤ sd 31 n ∧ sd 31 n ≤ 31 ∧ n % (sd 31 n * sd 31 n) = 0 ∧ 1 ≤ n / (sd 31 n * sd 31 n)) := by decide +kernel
theorem sq_non : ∀ n, n < 1001 → 0 < n → n / (sd 31 n * sd 31 n) = 1 ∨ ∀ m, m < 33 → m * m ≠ n / (sd 31 n * sd 31 n) := by decide +kernel
theorem nonsq_of {r : Nat} (hr : r ≤ 1000) (h : ∀ m, m < 33 → m * m ≠ r) : ∀ m : Int, m * m ≠ (r : Int) := by
  intro m hm
  have e : (m.natAbs * m.natAbs : Nat) = r := by
    have : ((m.natAbs * m.natAbs : Nat) : Int) = (r : Int) := by rw [← hm, Int.natAbs_mul_self]
    omega
  have hlt : m.natAbs < 33 := sq_lt (by omega)
  exact h _ hlt e
theorem inn_ok : ∀ (k m f q : Nat), 2 ≤ q → m < 2 ^ k → (inn k m f q).1 ≤ m ∧ (inn k m f q).2 ≤ f * m + f ∧ True := by
  intro k
  induction k with
  | zero => intro m f q _ hm; unfold inn; exact ⟨Nat.le_refl _, by rw [show m = 0 by simpa using hm]; simp, trivial⟩
  | succ k ih =>
    intro m f q hq hm
    unfold inn
    split
    · rename_i c
      have hqq : 4 ≤ q * q := Nat.mul_le_mul hq hq
      have h1 : m / (q * q) ≤ m / 4 := Nat.div_le_div_left hqq (by omega)
      have h2 : m / 4 < 2 ^ k := by rw [Nat.pow_succ] at hm; omega
      obtain ⟨a, b, -⟩ := ih (m / (q * q)) (f * q) q hq (by omega)
      refine ⟨by omega, ?_, trivial⟩
      have h3 : q * (m / (q * q)) + q ≤ m := by
        have e1 : q * q * (m / (q * q)) ≤ m := Nat.mul_div_le m (q * q)
        have e2 : 1 ≤ m / (q * q) := by
          have : q * q ≤ m := Nat.le_of_dvd c.2 (Nat.dvd_of_mod_eq_zero c.1)
          exact (Nat.le_div_iff_mul_le (by omega)).mpr (by omega)
        have e3 : q * 2 * (m / (q * q)) ≤ q * q * (m / (q * q)) := Nat.mul_le_mul_right _ (Nat.mul_le_mul_left _ hq)
        have e4 : q * 1 ≤ q * (m / (q * q)) := Nat.mul_le_mul_left _ e2
        have e5 : q * 2 * (m / (q * q)) = q * (m / (q * q)) + q * (m / (q * q)) := by grind
        omega
      have h4 : f * (q * (m / (q * q)) + q) ≤ f * m := Nat.mul_le_mul_left _ h3
      have h5 : f * (q * (m / (q * q)) + q) = f * q * (m / (q * q)) + f * q := by grind
      omega
    · exact ⟨Nat.le_refl _, by omega, trivial⟩
theorem N_rem (x y : Nat) (hx : x ≤ 1000000000) (hy : y ≤ 1000000000) : N (x : Int) - N (x : Int) / N (y : Int) * N (y : Int) = N ((x % y : Nat) : Int) := by
  rw [N_div (by omega) (by omega) (by omega) (by omega), N_mul, N_sub]
  congr 1
  rw [← Int.ofNat_tdiv]
  have := Nat.div_add_mod x y
  rw [Nat.mul_comm] at this
  have h2 : ((x / y : Nat) : Int) * (y : Int) = ((x / y * y : Nat) : Int) := by simp
  rw [h2]
  omega
theorem q_sideOf (h : AH) {n : Nat} (hn : n ≤ 1000) : fX8_sideOfGreatestSquareIn (N n) h = some (N (if n = 0 then 0 else (sd 31 n : Int)), h) := by
  have key : ∀ (k f : Nat), 1 ≤ k → k ≤ 31 → k + 1 ≤ f → fX8_sideOfGreatestSquareIn_9L f (N n) (N k) h = some (N (sd k n : Int), h) := by
    intro k
    induction k with
    | zero => intro f h1; omega
    | succ k ih =>
      intro f h1 h2 h3
      obtain ⟨q, rfl⟩ : ∃ q, f = q + 1 := ⟨f - 1, by omega⟩
      show fX8_sideOfGreatestSquareIn_9 (fX8_sideOfGreatestSquareIn_9L q) _ _ _ = _
      unfold fX8_sideOfGreatestSquareIn_9 sd
      have hkk : (k + 1) * (k + 1) ≤ 31 * 31 := Nat.mul_le_mul h2 h2
      have hk1 : 1 ≤ (k + 1) * (k + 1) := Nat.mul_le_mul (show 1 ≤ k + 1 by omega) (show 1 ≤ k + 1 by omega)
      have e : N ((k + 1 : Nat) : Int) * N ((k + 1 : Nat) : Int) = N (((k + 1) * (k + 1) : Nat) : Int) := by rw [N_mul]; simp
      rw [e, N_rem n _ (by omega) (by omega)]
      have hm : n % ((k + 1) * (k + 1)) ≤ n := Nat.mod_le _ _
      generalize (k + 1) * (k + 1) = w at *
      generalize n % w = z at *
      simp (disch := omega) only [nk, N_le, N_eq, N_neg, N_add, wh_eq]
      by_cases c : k = 0
      · rw [if_pos (by omega), if_pos c]
        rfl
      · rw [if_neg (by omega), if_neg c, ck_t (by omega)]
        by_cases c2 : z = 0
        · rw [if_pos (by omega), if_pos c2]
        · rw [if_neg (by omega), if_neg c2, show ((k + 1 : Nat) : Int) + -1 = (k : Int) by omega]
          exact ih q (by omega) (by omega) (by omega)
  unfold fX8_sideOfGreatestSquareIn
  simp (disch := omega) only [nk, N_lt]
  by_cases c : n = 0
  · rw [if_neg (by omega), if_pos c]
  · rw [if_pos (by omega), if_neg c]
    exact key 31 1000 (by omega) (by omega) (by omega)
section RT3
variable {i l : Nat → Nat → Int} {x y : Option Nat}
theorem q_r101 (K : Nat → Int32 → Int32 → Int64 → Int64 → Int64 → AH → Fn Int64) (A D : Int32) (b : Int) (h : AH) : ∀ (k m f q n : Nat), 2 ≤ q → q ≤ 31 → m < 2 ^ k → k ≤ 10 → k + 1 ≤ n → fX9_root_101L K n 108 A D (J m) (J (b * f)) (J q) h = K 108 A D (J ((inn k m f q).1 : Int)) (J (b * (inn k m f q).2)) (J ((q + 1 : Nat) : Int)) h := by
  intro k
  induction k with
  | zero =>
    intro m f q n hq hq2 hm hk hn
    obtain ⟨p, rfl⟩ : ∃ p, n = p + 1 := ⟨n - 1, by omega⟩
    obtain rfl : m = 0 := by simpa using hm
    show fX9_root_101 K (fX9_root_101L K p) 108 _ _ _ _ _ _ = _
    unfold fX9_root_101 fX9_root_141
    have hqq : q * q ≤ 31 * 31 := Nat.mul_le_mul hq2 hq2
    have h4 : 4 ≤ q * q := Nat.mul_le_mul hq hq
    have e : J (q : Int) * J (q : Int) = J ((q * q : Nat) : Int) := by rw [J_mul]; simp
    rw [e, J_rem 0 _ (by omega) (by omega)]
    simp only [wh_eq, jk, J_add]
    generalize q * q = w at *
    have hw : ¬ (J (w : Int) = J 0) := by rw [J_eq (by omega) (by omega) (by omega) (by omega)]; omega
    rw [ck_t hw, Nat.zero_mod]
    simp (disch := omega) only [J_eq, J_le]
    rw [if_pos (by omega), if_pos (by omega)]
    rfl
  | succ k ih =>
    intro m f q n hq hq2 hm hk hn
    obtain ⟨p, rfl⟩ : ∃ p, n = p + 1 := ⟨n - 1, by omega⟩
    have hm1 : m ≤ 1024 := by have := Nat.pow_le_pow_right (n := 2) (by omega) hk; omega
    show fX9_root_101 K (fX9_root_101L K p) 108 _ _ _ _ _ _ = _
    unfold fX9_root_101 fX9_root_141 inn
    have hqq : q * q ≤ 31 * 31 := Nat.mul_le_mul hq2 hq2
    have h4 : 4 ≤ q * q := Nat.mul_le_mul hq hq
    have e : J (q : Int) * J (q : Int) = J ((q * q : Nat) : Int) := by rw [J_mul]; simp
    have hdv : m / (q * q) < 2 ^ k := by
      have h1 : m / (q * q) ≤ m / 4 := Nat.div_le_div_left h4 (by omega)
      rw [Nat.pow_succ] at hm
      omega
    have ih := ih (m / (q * q)) (f * q) q p hq hq2 hdv (by omega) (by omega)
    rw [e, J_rem m _ (by omega) (by omega), J_div (by omega) (by omega) (by omega) (by omega), ← Int.ofNat_tdiv]
    have hml : m % (q * q) ≤ m := Nat.mod_le _ _
    have hbf : J (b * f) * J (q : Int) = J (b * ((f * q : Nat) : Int)) := by rw [J_mul]; congr 1; rw [Int.natCast_mul]; grind
    rw [hbf]
    simp only [wh_eq, jk, J_add]
    generalize q * q = w at *
    have hw : ¬ (J (w : Int) = J 0) := by rw [J_eq (by omega) (by omega) (by omega) (by omega)]; omega
    rw [ck_t hw, ck_t hw]
    generalize m % w = z at *
    simp (disch := omega) only [J_eq, J_le]
    by_cases c1 : z = 0
    · rw [if_pos (by omega)]
      by_cases c2 : 0 < m
      · rw [if_neg (by omega), if_pos ⟨c1, c2⟩]
        exact ih
      · rw [if_pos (by omega), if_neg (by omega)]
        rfl
    · rw [if_neg (by omega), if_neg (by omega)]
      rfl
theorem q_r90 (A D : Int32) (b : Int) (h : AH) : ∀ (k m f q n : Nat), k + q = 33 → 2 ≤ q → m ≤ 1000 → k + 1 ≤ n → fX9_root_90L n 108 A D (J m) (J (b * f)) (J q) h = fX9_root_150 108 A D (J ((ouq k m f q).1 : Int)) (J (b * (ouq k m f q).2)) h := by
  intro k
  induction k with
  | zero =>
    intro m f q n hk hq hm hn
    obtain ⟨p, rfl⟩ : ∃ p, n = p + 1 := ⟨n - 1, by omega⟩
    obtain rfl : q = 33 := by omega
    show fX9_root_90 (fX9_root_90L p) 108 _ _ _ _ _ _ = _
    unfold fX9_root_90
    rw [J_mul]
    simp (disch := omega) only [J_lt]
    rw [if_pos (by omega)]
    rfl
  | succ k ih =>
    intro m f q n hk hq hm hn
    obtain ⟨p, rfl⟩ : ∃ p, n = p + 1 := ⟨n - 1, by omega⟩
    show fX9_root_90 (fX9_root_90L p) 108 _ _ _ _ _ _ = _
    unfold fX9_root_90 ouq
    have e : J (q : Int) * J (q : Int) = J ((q * q : Nat) : Int) := by rw [J_mul]; simp
    have hqq : q * q ≤ 33 * 33 := Nat.mul_le_mul (by omega) (by omega)
    rw [e]
    by_cases c : q * q ≤ m
    · have hq3 : q ≤ 31 := by
        have := sq_lt (a := q) (b := 32) (by omega)
        omega
      rw [if_pos c, q_r101 _ A D b h 10 m f q 1000 hq hq3 (by omega) (by omega) (by omega)]
      have hin := (inn_ok 10 m f q hq (by omega)).1
      rw [if_neg (by rw [J_lt (by omega) (by omega) (by omega) (by omega)]; omega)]
      exact ih _ _ (q + 1) p (by omega) (by omega) (by omega) (by omega)
    · rw [if_neg c, if_pos (by rw [J_lt (by omega) (by omega) (by omega) (by omega)]; omega)]
theorem lg_alt (a b d : Int) : lg a b d = ((Int.gcd ((Int.gcd a b : Nat) : Int) d : Nat) : Int) := by
  unfold lg Int.gcd
  simp only [Int.natAbs_natCast]
  congr 1
  rw [Nat.gcd_comm d.natAbs a.natAbs, Nat.gcd_assoc, Nat.gcd_comm d.natAbs b.natAbs, ← Nat.gcd_assoc]
theorem q_put {a b n d : Int} (ha : ¬ far a) (hb : ¬ far b) (hd : ¬ far d) (h0 : d ≠ 0) (hb0 : b ≠ 0) (h : AH) : fX9_put 108 (J a) (J b) (J n) (J d) h = ck (S0 108 = S0 108) (cv h 108 9 (bnd (fX9_newRoot 108 (J (a.tdiv (lsg a b d))) (J (b.tdiv (lsg a b d))) (J n) (J (d.tdiv (lsg a b d))) h) (fun x102 h101 => some (x102, h101)))) := by
  have hg1 : ((Int.gcd a b : Nat) : Int) ≤ 1000000000000000 := by
    have := Nat.le_of_dvd (show 0 < b.natAbs by omega) (Int.gcd_dvd_natAbs_right a b)
    omega
  have hg := lg_pos (a := a) (b := b) h0
  have hg2 : lg a b d ≤ 1000000000000000 := by
    have h1 := (lg_dvd a b d).2.2
    have := Int.le_of_dvd (show 0 < (d.natAbs : Int) by omega) (Int.dvd_natAbs.mpr h1)
    omega
  have hl := lsg_ne (a := a) (b := b) h0
  rw [ck_t rfl]
  unfold fX9_put
  rw [q_divisor ha hb, bnd_some, q_divisor (by omega) hd, bnd_some, ← lg_alt, J_neg]
  have key : fX9_put_27 108 (J a) (J b) (J n) (J d) (J (lsg a b d)) h = cv h 108 9 (bnd (fX9_newRoot 108 (J (a.tdiv (lsg a b d))) (J (b.tdiv (lsg a b d))) (J n) (J (d.tdiv (lsg a b d))) h) (fun x102 h101 => some (x102, h101))) := by
    have hr : (lsg a b d).natAbs ≤ 1000000000000000 := by unfold lsg; split <;> omega
    have hs0 : ¬ (J (lsg a b d) = J 0) := by rw [J_eq (by omega) (by omega) (by omega) (by omega)]; exact hl
    unfold fX9_put_27
    simp only [jk]
    rw [if_neg (by rw [J_eq (by omega) (by omega) (by omega) (by omega)]; exact hb0), ck_t hs0, ck_t hs0, ck_t hs0, J_div (by omega) (by omega) (by omega) (by omega), J_div (by omega) (by omega) (by omega) (by omega), J_div (by omega) (by omega) (by omega) (by omega)]
  simp (disch := omega) only [jk, J_le]
  by_cases c : 0 ≤ d
  · have e : lsg a b d = lg a b d := if_pos c
    rw [if_pos c, ← e]
    exact key
  · have e : lsg a b d = -(lg a b d) := if_neg c
    rw [if_neg c, ← e]
    exact key
end RT3
