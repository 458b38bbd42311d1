/-! ===== the walk along a root's parts ===== -/
theorem ring_a (r x : Int) : (r - x + 1) * (x + r + 1) = (r + 1) * (r + 1) - x * x := by grind
theorem ring_b (r u : Int) : (u - r) * (u + r) = u * u - r * r := by grind
theorem ring_c (D x y p : Int) : D - (p * y - x) * (p * y - x) = (D - x * x) + y * (2 * p * x - p * p * y) := by grind
theorem sq_le_abs {x r : Int} (h1 : -r ≤ x) (h2 : x ≤ r) : x * x ≤ r * r := by
  have a : 0 ≤ (r - x) * (r + x) := Int.mul_nonneg (by omega) (by omega)
  have b := ring_b r x
  grind
theorem sq_ge_abs {x r : Int} (hr : 0 ≤ r) (h : x ≤ -r ∨ r ≤ x) : r * r ≤ x * x := by
  rcases h with h | h
  · have a : 0 ≤ (-x - r) * (-x + r) := Int.mul_nonneg (by omega) (by omega)
    grind
  · have a : 0 ≤ (x - r) * (x + r) := Int.mul_nonneg (by omega) (by omega)
    grind
def pq (r x y : Int) : Int := if 0 < y then (x + r).fdiv y else -((x + r).fdiv (-y)) - 1
theorem fdiv_rng {a b : Int} (hb : 0 < b) : a.fdiv b * b ≤ a ∧ a < a.fdiv b * b + b := by
  rw [Int.fdiv_eq_ediv_of_nonneg a (by omega)]
  have h1 := Int.ediv_mul_le a (b := b) (by omega)
  have h2 := Int.lt_ediv_add_one_mul_self a hb
  rw [Int.add_mul, Int.one_mul] at h2
  exact ⟨h1, h2⟩
/-- what a step leaves: of a number of the walk behind its first step -/
def wP (r x y : Int) : Prop := (0 < y → y ≤ x + r) ∧ (y < 0 → x + r + 1 ≤ y)
theorem walk_x {r x y : Int} (hy : y ≠ 0) : (0 < y → r - y + 1 ≤ pq r x y * y - x ∧ pq r x y * y - x ≤ r) ∧ (y < 0 → r + 1 ≤ pq r x y * y - x ∧ pq r x y * y - x ≤ r - y) := by
  unfold pq
  constructor
  · intro h
    rw [if_pos h]
    have := fdiv_rng (a := x + r) h
    omega
  · intro h
    rw [if_neg (by omega)]
    have := fdiv_rng (a := x + r) (b := -y) (by omega)
    have e : (-((x + r).fdiv (-y)) - 1) * y = (x + r).fdiv (-y) * (-y) - y := by grind
    rw [e]
    omega
theorem walk_step {D r x y : Int} (hr : 0 ≤ r) (h1 : r * r < D) (h2 : D < (r + 1) * (r + 1)) (hy : y ≠ 0) (hdv : y ∣ D - x * x) :
    ∃ y' : Int, (D - (pq r x y * y - x) * (pq r x y * y - x)).tdiv y = y' ∧ y * y' = D - (pq r x y * y - x) * (pq r x y * y - x) ∧ y' ≠ 0 ∧ wP r (pq r x y * y - x) y' := by
  obtain ⟨w1, w2⟩ := walk_x (r := r) (x := x) hy
  have hd : y ∣ D - (pq r x y * y - x) * (pq r x y * y - x) := by
    rw [ring_c]
    exact Int.dvd_add hdv (Int.dvd_mul_right _ _)
  have he := Int.mul_tdiv_cancel' hd
  generalize hx : pq r x y * y - x = z at *
  generalize (D - z * z).tdiv y = y' at *
  refine ⟨y', rfl, he, ?_, ?_⟩
  · intro h0
    rw [h0, Int.mul_zero] at he
    rcases Int.le_total (-r) z with a | a
    · rcases Int.le_total z r with b | b
      · have := sq_le_abs a b
        omega
      · by_cases c : z = r
        · subst c; omega
        · have := sq_ge_abs (r := r + 1) (x := z) (by omega) (Or.inr (by omega))
          omega
    · by_cases c : z = -r
      · subst c
        have : -r * -r = r * r := by grind
        omega
      · have := sq_ge_abs (r := r + 1) (x := z) (by omega) (Or.inl (by omega))
        omega
  · rcases Int.lt_or_gt_of_ne hy with hneg | hpos
    · obtain ⟨a, b⟩ := w2 hneg
      have hs := sq_ge_abs (r := r + 1) (x := z) (by omega) (Or.inr a)
      have hyy : (-y) * y' = z * z - D := by grind
      have hp : 0 < y' := by
        rcases Int.lt_or_le 0 y' with c | c
        · exact c
        · have := Int.mul_nonneg (a := -y) (b := -y') (by omega) (by omega)
          grind
      refine ⟨fun _ => ?_, fun h => by omega⟩
      rcases Int.lt_or_le (z + r) y' with c | c
      · exfalso
        have e1 : (-y) * (z + r) ≤ (-y) * y' := Int.mul_le_mul_of_nonneg_left (by omega) (by omega)
        have e2 : (z - r) * (z + r) ≤ (-y) * (z + r) := Int.mul_le_mul_of_nonneg_right (by omega) (by omega)
        have e3 := ring_b r z
        omega
      · exact c
    · obtain ⟨a, b⟩ := w1 hpos
      rcases Int.lt_or_le z (-r) with hz | hz
      · have hs := sq_ge_abs (r := r + 1) (x := z) (by omega) (Or.inl (by omega))
        have hp : y' < 0 := by
          rcases Int.lt_or_le y' 0 with c | c
          · exact c
          · have := Int.mul_nonneg (a := y) (b := y') (by omega) (by omega)
            omega
        refine ⟨fun h => by omega, fun _ => ?_⟩
        rcases Int.lt_or_le y' (z + r + 1) with c | c
        · exfalso
          have e1 : y * y' ≤ y * (z + r) := Int.mul_le_mul_of_nonneg_left (by omega) (by omega)
          have e2 : (-z - r) * (-z + r) ≤ (-z - r) * y := Int.mul_le_mul_of_nonneg_left (by omega) (by omega)
          have e3 : (-z - r) * (-z + r) = z * z - r * r := by grind
          have e4 : (-z - r) * y = -(y * (z + r)) := by grind
          omega
        · exact c
      · have hs := sq_le_abs hz b
        have hp : 0 < y' := by
          rcases Int.lt_or_le 0 y' with c | c
          · exact c
          · have := Int.mul_nonneg (a := y) (b := -y') (by omega) (by omega)
            grind
        refine ⟨fun _ => ?_, fun h => by omega⟩
        rcases Int.lt_or_le (z + r) y' with c | c
        · exfalso
          have e1 : y * (z + r + 1) ≤ y * y' := Int.mul_le_mul_of_nonneg_left (by omega) (by omega)
          have e2 : (r - z + 1) * (z + r + 1) ≤ y * (z + r + 1) := Int.mul_le_mul_of_nonneg_right (by omega) (by omega)
          have e3 := ring_a r z
          omega
        · exact c
theorem pq_pos {r x y : Int} (hy : y ≠ 0) (h : wP r x y) : 1 ≤ pq r x y := by
  unfold pq
  rcases Int.lt_or_gt_of_ne hy with hneg | hpos
  · rw [if_neg (by omega)]
    have h1 := h.2 hneg
    have := fdiv_rng (a := x + r) (b := -y) (by omega)
    rcases Int.lt_or_le ((x + r).fdiv (-y)) (-1) with c | c
    · omega
    · exfalso
      have e : (-1) * (-y) ≤ (x + r).fdiv (-y) * (-y) := Int.mul_le_mul_of_nonneg_right c (by omega)
      omega
  · rw [if_pos hpos]
    have h1 := h.1 hpos
    have := fdiv_rng (a := x + r) hpos
    rcases Int.lt_or_le ((x + r).fdiv y) 1 with c | c
    · exfalso
      have e : (x + r).fdiv y * y ≤ 0 * y := Int.mul_le_mul_of_nonneg_right (by omega) (by omega)
      omega
    · exact c
