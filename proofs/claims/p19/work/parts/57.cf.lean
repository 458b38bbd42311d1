/-! ===== parts of a ratio ===== -/
def cs (u v : Int) : Nat → Int × Int
  | 0 => (u, v)
  | k + 1 => ((cs u v k).2, (cs u v k).1 - (cs u v k).1.fdiv (cs u v k).2 * (cs u v k).2)
def cp (u v : Int) (k : Nat) : Int := (cs u v k).1.fdiv (cs u v k).2
/-- from place k on, m places at most: where they end -/
def cK (u v : Int) : Nat → Nat → Nat
  | 0, k => k
  | m + 1, k => if (cs u v k).2 = 0 then k else cK u v m (k + 1)
theorem cK_le (u v : Int) : ∀ m k, k ≤ cK u v m k ∧ cK u v m k ≤ k + m := by
  intro m
  induction m with
  | zero => intro k; exact ⟨Nat.le_refl _, Nat.le_refl _⟩
  | succ m ih =>
    intro k
    unfold cK
    split
    · omega
    · have := ih (k + 1)
      omega
theorem cK_nz (u v : Int) : ∀ m k j, k ≤ j → j < cK u v m k → (cs u v j).2 ≠ 0 := by
  intro m
  induction m with
  | zero => intro k j h1 h2; unfold cK at h2; omega
  | succ m ih =>
    intro k j h1 h2
    unfold cK at h2
    by_cases c : (cs u v k).2 = 0
    · rw [if_pos c] at h2; omega
    · rw [if_neg c] at h2
      by_cases e : j = k
      · rw [e]; exact c
      · exact ih (k + 1) j (by omega) h2
theorem cK_end (u v : Int) : ∀ m k, (cs u v (cK u v m k)).2 = 0 ∨ cK u v m k = k + m := by
  intro m
  induction m with
  | zero => intro k; right; rfl
  | succ m ih =>
    intro k
    unfold cK
    by_cases c : (cs u v k).2 = 0
    · rw [if_pos c]; left; exact c
    · rw [if_neg c]
      rcases ih (k + 1) with z | z
      · left; exact z
      · right; omega
/-- what holds as long as nothing has ended -/
theorem cs_rng {u v : Int} (hu : ¬ far u) (hv : 0 < v) (hv2 : v ≤ 1000000000000000) : ∀ k, (∀ j, j < k → (cs u v j).2 ≠ 0) → (0 ≤ (cs u v k).2 ∧ (cs u v k).2 ≤ 1000000000000000 ∧ ¬ far (cs u v k).1) ∧ (0 < k → 0 < (cs u v k).1 ∧ (cs u v k).2 < (cs u v k).1) := by
  intro k
  induction k with
  | zero => intro _; exact ⟨⟨Int.le_of_lt hv, hv2, hu⟩, fun h => by omega⟩
  | succ k ih =>
    intro h
    obtain ⟨⟨a, b, c⟩, d⟩ := ih (fun j hj => h j (by omega))
    have hn := h k (by omega)
    have hr := fdiv_rng (a := (cs u v k).1) (b := (cs u v k).2) (by omega)
    show (0 ≤ (cs u v k).1 - (cs u v k).1.fdiv (cs u v k).2 * (cs u v k).2 ∧ (cs u v k).1 - (cs u v k).1.fdiv (cs u v k).2 * (cs u v k).2 ≤ 1000000000000000 ∧ ¬ far (cs u v k).2) ∧ (0 < k + 1 → 0 < (cs u v k).2 ∧ (cs u v k).1 - (cs u v k).1.fdiv (cs u v k).2 * (cs u v k).2 < (cs u v k).2)
    omega
theorem fdiv_abs {a b : Int} (hb : 0 < b) : -(a.natAbs : Int) ≤ a.fdiv b ∧ a.fdiv b ≤ a.natAbs := by
  have h := fdiv_rng (a := a) hb
  constructor
  · rcases Int.lt_or_le (a.fdiv b) (-(a.natAbs : Int)) with z | z
    · exfalso
      have e : (a.fdiv b + 1) * b ≤ (-(a.natAbs : Int)) * b := Int.mul_le_mul_of_nonneg_right (by omega) (by omega)
      rw [Int.add_mul, Int.one_mul] at e
      have e2 : (-(a.natAbs : Int)) * b ≤ (-(a.natAbs : Int)) * 1 := by
        have := Int.mul_le_mul_of_nonneg_left (a := 1) (b := b) (c := (a.natAbs : Int)) (by omega) (by omega)
        grind
      omega
    · exact z
  · rcases Int.lt_or_le (a.natAbs : Int) (a.fdiv b) with z | z
    · exfalso
      have e : ((a.natAbs : Int) + 1) * 1 ≤ ((a.natAbs : Int) + 1) * b := Int.mul_le_mul_of_nonneg_left (by omega) (by omega)
      have e2 : ((a.natAbs : Int) + 1) * b ≤ a.fdiv b * b := Int.mul_le_mul_of_nonneg_right (by omega) (by omega)
      omega
    · exact z
theorem cp_rng {u v : Int} (hu : ¬ far u) (hv : 0 < v) (hv2 : v ≤ 1000000000000000) {k : Nat} (h : ∀ j, j ≤ k → (cs u v j).2 ≠ 0) : ¬ far (cp u v k) ∧ (0 < k → 1 ≤ cp u v k) := by
  obtain ⟨⟨a, b, c⟩, d⟩ := cs_rng hu hv hv2 k (fun j hj => h j (by omega))
  have hn := h k (Nat.le_refl _)
  have hr := fdiv_rng (a := (cs u v k).1) (b := (cs u v k).2) (by omega)
  have hb := fdiv_abs (a := (cs u v k).1) (b := (cs u v k).2) (by omega)
  unfold cp
  refine ⟨by omega, fun hk => ?_⟩
  have hd := d hk
  rcases Int.lt_or_le ((cs u v k).1.fdiv (cs u v k).2) 1 with z | z
  · exfalso
    have e : (cs u v k).1.fdiv (cs u v k).2 * (cs u v k).2 ≤ 0 * (cs u v k).2 := Int.mul_le_mul_of_nonneg_right (by omega) (by omega)
    omega
  · exact z
def ib (p : Prop) [Decidable p] : Int := if p then 1 else 0
theorem ib_01 (p : Prop) [Decidable p] : ib p = 0 ∨ ib p = 1 := by unfold ib; split <;> simp
section CF1
variable {i l : Nat → Nat → Int} {x y : Option Nat}
theorem q_bR77 {a : Nat} (ha : St a) {kd kn en tk v : Int} (h1 : -9223372036854775808 ≤ v) (h2 : v ≤ 9223372036854775807) : fX7_becomeRatio_77 a (J v) (hq (stI i a kd kn en tk) l x y) = some ((), hq (stI i a kd kn (ib (v = 0)) tk) l x y) := by
  unfold fX7_becomeRatio_77
  simp (disch := omega) only [jk, nk, J_eq]
  by_cases c : v = 0
  · rw [if_pos c, pZ_q ha.1.1 (Or.inr rfl), stI_w4]
    simp [ib, c]
  · rw [if_neg c, pZ_q ha.1.1 (Or.inl rfl), stI_w4]
    simp [ib, c]
theorem q_bRL {a : Nat} (ha : St a) {u v : Int} (hu : ¬ far u) (hv : 0 < v) (hv2 : v ≤ 1000000000000000) (g : Nat → Int) : ∀ (m k n : Nat), k + m = 60 → m + 1 ≤ n → (∀ j, j < k → (cs u v j).2 ≠ 0) →
    fX7_becomeRatio_24L n a (J (cs u v k).1) (J (cs u v k).2) (N k) (hq (stI i a 0 k 0 0) (wr l (a + 1) (fl (cp u v) g k)) x y) = some ((), hq (stI i a 0 (cK u v m k : Nat) (ib ((cs u v (cK u v m k)).2 = 0)) 0) (wr l (a + 1) (fl (cp u v) g (cK u v m k))) x y) := by
  intro m
  induction m with
  | zero =>
    intro k n hk hn hz
    obtain ⟨q, rfl⟩ : ∃ q, n = q + 1 := ⟨n - 1, by omega⟩
    obtain ⟨⟨c1, c2, c3⟩, -⟩ := cs_rng hu hv hv2 k hz
    show fX7_becomeRatio_24 (fX7_becomeRatio_24L q) a _ _ _ _ = _
    unfold fX7_becomeRatio_24
    simp (disch := omega) only [nk, N_le]
    rw [if_pos (by omega), q_bR77 ha (by omega) (by omega)]
    rfl
  | succ m ih =>
    intro k n hk hn hz
    obtain ⟨q, rfl⟩ : ∃ q, n = q + 1 := ⟨n - 1, by omega⟩
    obtain ⟨⟨c1, c2, c3⟩, -⟩ := cs_rng hu hv hv2 k hz
    show fX7_becomeRatio_24 (fX7_becomeRatio_24L q) a _ _ _ _ = _
    unfold fX7_becomeRatio_24 cK
    simp (disch := omega) only [nk, jk, N_le, J_eq]
    rw [if_neg (by omega)]
    by_cases c : (cs u v k).2 = 0
    · rw [if_pos c, if_pos c, q_bR77 ha (by omega) (by omega)]
    · rw [if_neg c, if_neg c, q_floorDiv (by omega) (by omega) (by omega) (by omega) c, bnd_some, cv_q ha.1.1]
      rw [q_addPart ha (k := k) (stI_3 _ _ _ _ _ _) (by omega), bnd_some, stI_w3]
      have hcp : (cs u v k).1.fdiv (cs u v k).2 = cp u v k := rfl
      rw [hcp, w1_fl, wh_eq, wh_eq, J_mul, J_sub, N_add]
      have e1 : (cs u v k).1 - cp u v k * (cs u v k).2 = (cs u v (k + 1)).2 := rfl
      have e2 : (cs u v k).2 = (cs u v (k + 1)).1 := rfl
      rw [e1, e2]
      have := ih (k + 1) q (by omega) (by omega) (fun j hj => by
        by_cases e : j = k
        · rw [e]; exact c
        · exact hz j (by omega))
      exact this
theorem q_becomeRatio {a : Nat} (ha : St a) {u v : Int} (hu : ¬ far u) (hv : 0 < v) (hv2 : v ≤ 1000000000000000) : fX7_becomeRatio a (J u) (J v) (hq i l x y) = some ((), hq (stI i a 0 (cK u v 60 0 : Nat) (ib ((cs u v (cK u v 60 0)).2 = 0)) 0) (wr (stL l a u 0 0 v) (a + 1) (fl (cp u v) (l (a + 1)) (cK u v 60 0))) x y) := by
  unfold fX7_becomeRatio
  rw [cv_q ha.1.1, nk.1, q_start ha 0, bnd_some, pL_q ha.1.1, stL_w6, pL_q ha.1.1, stL_w9]
  have h := q_bRL (i := i) (l := stL l a u 0 0 v) (x := x) (y := y) ha hu hv hv2 (l (a + 1)) 60 0 1000 (by omega) (by omega) (fun j hj => by omega)
  rw [fl_0] at h
  rw [show wr (stL l a u 0 0 v) (a + 1) (l (a + 1)) = stL l a u 0 0 v by
    have e : l (a + 1) = stL l a u 0 0 v (a + 1) := (stL_n l u 0 0 v (by omega)).symm
    rw [e, wr_id]] at h
  exact h
end CF1
