/-! ===== parts of a root ===== -/
def stp (D r : Int) (q : Int × Int) : Int × Int := (pq r q.1 q.2 * q.2 - q.1, (D - (pq r q.1 q.2 * q.2 - q.1) * (pq r q.1 q.2 * q.2 - q.1)).tdiv q.2)
def ws (D r x0 y0 : Int) : Nat → Int × Int
  | 0 => (x0, y0)
  | k + 1 => stp D r (ws D r x0 y0 k)
def wpt (D r x0 y0 : Int) (k : Nat) : Int := pq r (ws D r x0 y0 k).1 (ws D r x0 y0 k).2
/-- where a walk may begin -/
def WB (D r x0 y0 : Int) : Prop := (0 ≤ r ∧ r * r < D ∧ D < (r + 1) * (r + 1) ∧ r ≤ 67108864) ∧ (y0 ≠ 0 ∧ y0 ∣ D - x0 * x0) ∧ (x0.natAbs ≤ 10000000000000 ∧ y0.natAbs ≤ 100000000)
theorem ws_inv {D r x0 y0 : Int} (h : WB D r x0 y0) : ∀ k, ((ws D r x0 y0 k).2 ≠ 0 ∧ (ws D r x0 y0 k).2 ∣ D - (ws D r x0 y0 k).1 * (ws D r x0 y0 k).1) ∧ (0 < k → wP r (ws D r x0 y0 k).1 (ws D r x0 y0 k).2 ∧ (ws D r x0 y0 k).1.natAbs ≤ 167108864) := by
  obtain ⟨⟨h1, h2, h3, h4⟩, h5, h6, h7⟩ := h
  intro k
  induction k with
  | zero => exact ⟨h5, fun z => by omega⟩
  | succ k ih =>
    obtain ⟨⟨a, b⟩, c⟩ := ih
    obtain ⟨w1, w2⟩ := walk_x (r := r) (x := (ws D r x0 y0 k).1) a
    obtain ⟨y', e1, e2, e3, e4⟩ := walk_step h1 h2 h3 a b
    show ((stp D r (ws D r x0 y0 k)).2 ≠ 0 ∧ (stp D r (ws D r x0 y0 k)).2 ∣ D - (stp D r (ws D r x0 y0 k)).1 * (stp D r (ws D r x0 y0 k)).1) ∧ (0 < k + 1 → wP r (stp D r (ws D r x0 y0 k)).1 (stp D r (ws D r x0 y0 k)).2 ∧ (stp D r (ws D r x0 y0 k)).1.natAbs ≤ 167108864)
    unfold stp
    dsimp only
    rw [e1]
    refine ⟨⟨e3, ⟨(ws D r x0 y0 k).2, by rw [← e2, Int.mul_comm]⟩⟩, fun _ => ⟨e4, ?_⟩⟩
    have hq : (k = 0 ∧ (ws D r x0 y0 k).2.natAbs ≤ 100000000) ∨ (0 < k) := by
      rcases Nat.eq_zero_or_pos k with z | z
      · left
        subst z
        exact ⟨rfl, h7⟩
      · exact Or.inr z
    rcases Int.lt_or_gt_of_ne a with hn | hp
    · obtain ⟨u1, u2⟩ := w2 hn
      rcases hq with ⟨_, hq⟩ | hq
      · omega
      · have := (c hq).1.2 hn
        have := (c hq).2
        omega
    · obtain ⟨u1, u2⟩ := w1 hp
      rcases hq with ⟨_, hq⟩ | hq
      · omega
      · have := (c hq).1.1 hp
        have := (c hq).2
        omega
/-- bounds of all that the walk works out -/
theorem ws_rng {D r x0 y0 : Int} (h : WB D r x0 y0) (k : Nat) : (ws D r x0 y0 k).1.natAbs ≤ 10000000000000 ∧ (ws D r x0 y0 k).2.natAbs ≤ 300000000 ∧ (ws D r x0 y0 k).2 ≠ 0 ∧ (0 < k → 1 ≤ wpt D r x0 y0 k) := by
  obtain ⟨⟨a, b⟩, c⟩ := ws_inv h k
  have h' := h
  obtain ⟨⟨h1, h2, h3, h4⟩, h5, h6, h7⟩ := h
  rcases Nat.eq_zero_or_pos k with z | z
  · subst z
    exact ⟨h6, by show y0.natAbs ≤ _; omega, h5.1, fun z => by omega⟩
  · obtain ⟨p, q⟩ := c z
    refine ⟨by omega, ?_, a, fun _ => pq_pos a p⟩
    rcases Int.lt_or_gt_of_ne a with hn | hp
    · have := p.2 hn
      omega
    · have := p.1 hp
      omega
theorem pq_rng {r x y : Int} (hr : 0 ≤ r) (hr2 : r ≤ 67108864) (hx : x.natAbs ≤ 10000000000000) (hy : y ≠ 0) : (pq r x y).natAbs ≤ 10000067108865 := by
  unfold pq
  rcases Int.lt_or_gt_of_ne hy with hn | hp
  · rw [if_neg (by omega)]
    have := fdiv_abs (a := x + r) (b := -y) (by omega)
    omega
  · rw [if_pos hp]
    have := fdiv_abs (a := x + r) (b := y) hp
    omega
section RT1
variable {i l : Nat → Nat → Int} {x y : Option Nat}
theorem q_wholeBelow {r a b : Int} (hr : 0 ≤ r) (hr2 : r ≤ 67108864) (ha : a.natAbs ≤ 10000000000000) (hb : b.natAbs ≤ 300000000) (h : AH) : fX4_wholeBelow (J (a + r)) (J b) h = some (J (pq r a b), h) := by
  unfold fX4_wholeBelow pq
  simp (disch := omega) only [jk, J_le, J_neg]
  by_cases c : b ≤ 0
  · rw [if_pos c, if_neg (by omega), q_floorOf (by omega) (by omega) (by omega) (by omega), bnd_some, J_neg, J_sub]
  · rw [if_neg c, if_pos (by omega), q_floorOf (by omega) (by omega) (by omega) (by omega), bnd_some]
/-- the three rows of the walk, filled up to k -/
def goL (l : Nat → Nat → Int) (D r x0 y0 : Int) (k : Nat) : Nat → Nat → Int := wr (wr (wr l 9 (fl (fun j => (ws D r x0 y0 j).1) (l 9) k)) 10 (fl (fun j => (ws D r x0 y0 j).2) (l 10) k)) 11 (fl (wpt D r x0 y0) (l 11) k)
theorem goL_0 (D r x0 y0 : Int) : goL l D r x0 y0 0 = l := by
  unfold goL
  rw [fl_0, fl_0, fl_0, wr_id, wr_id, wr_id]
theorem goL_s (D r x0 y0 : Int) (k : Nat) : w1 (w1 (w1 (goL l D r x0 y0 k) 9 k (ws D r x0 y0 k).1) 10 k (ws D r x0 y0 k).2) 11 k (wpt D r x0 y0 k) = goL l D r x0 y0 (k + 1) := by
  unfold goL
  rw [w1_wr_n _ _ _ _ (by decide : 9 ≠ 11), w1_wr_n _ _ _ _ (by decide : 9 ≠ 10), w1_fl _ 9 k (fun j => (ws D r x0 y0 j).1)]
  rw [w1_wr_n _ _ _ _ (by decide : 10 ≠ 11), w1_fl _ 10 k (fun j => (ws D r x0 y0 j).2)]
  rw [w1_fl _ 11 k (wpt D r x0 y0)]
theorem goL_n (D r x0 y0 : Int) (k : Nat) {b : Nat} (h1 : b ≠ 9) (h2 : b ≠ 10) (h3 : b ≠ 11) : goL l D r x0 y0 k b = l b := by
  unfold goL
  rw [wr_n _ _ h3, wr_n _ _ h2, wr_n _ _ h1]
theorem goL_9 (D r x0 y0 : Int) (k : Nat) : goL l D r x0 y0 k 9 = fl (fun j => (ws D r x0 y0 j).1) (l 9) k := by
  unfold goL
  rw [wr_n _ _ (by decide), wr_n _ _ (by decide), wr_s]
theorem goL_10 (D r x0 y0 : Int) (k : Nat) : goL l D r x0 y0 k 10 = fl (fun j => (ws D r x0 y0 j).2) (l 10) k := by
  unfold goL
  rw [wr_n _ _ (by decide), wr_s]
theorem goL_11 (D r x0 y0 : Int) (k : Nat) : goL l D r x0 y0 k 11 = fl (wpt D r x0 y0) (l 11) k := by
  unfold goL
  rw [wr_s]
theorem q_goL {D r x0 y0 : Int} (h : WB D r x0 y0) : ∀ (m k n : Nat), k + m = 61 → m + 1 ≤ n →
    fX4_go_75L n 8 (J D) (J r) (J (ws D r x0 y0 k).1) (J (ws D r x0 y0 k).2) (N k) (hq i (goL l D r x0 y0 k) x y) = some ((), hq i (goL l D r x0 y0 61) x y) := by
  intro m
  induction m with
  | zero =>
    intro k n hk hn
    obtain ⟨q, rfl⟩ : ∃ q, n = q + 1 := ⟨n - 1, by omega⟩
    show fX4_go_75 (fX4_go_75L q) 8 _ _ _ _ _ _ = _
    unfold fX4_go_75
    simp (disch := omega) only [nk, N_lt]
    rw [if_pos (by omega), show k = 61 by omega]
  | succ m ih =>
    intro k n hk hn
    obtain ⟨q, rfl⟩ : ∃ q, n = q + 1 := ⟨n - 1, by omega⟩
    obtain ⟨b1, b2, b3, -⟩ := ws_rng h k
    obtain ⟨⟨h1, h2, h3, h4⟩, h5, h6, h7⟩ := id h
    have ih := ih (k + 1) q (by omega) (by omega)
    have hD : D ≤ 4503599761588225 := by
      have := Int.mul_le_mul (a := r + 1) (b := r + 1) (c := 67108865) (d := 67108865) (by omega) (by omega) (by omega) (by omega)
      omega
    show fX4_go_75 (fX4_go_75L q) 8 _ _ _ _ _ _ = _
    unfold fX4_go_75
    rw [J_add, q_wholeBelow h1 h4 b1 b2, bnd_some]
    simp (disch := omega) only [nk, jk, N_lt, J_eq]
    rw [if_neg (by omega), if_neg b3]
    have s4 : S0 8 = some (4, 0) := by simp only [shT]
    rw [gR_q s4, show rr x y 8 0 = some 9 by simp only [srT], nn_some, zL_q (n := 61) (by simp only [shT]) (by omega) (by omega) (by omega)]
    rw [gR_q s4, show rr x y 8 1 = some 10 by simp only [srT], nn_some, zL_q (n := 61) (by simp only [shT]) (by omega) (by omega) (by omega)]
    rw [gR_q s4, show rr x y 8 2 = some 11 by simp only [srT], nn_some, zL_q (n := 61) (by simp only [shT]) (by omega) (by omega) (by omega)]
    rw [show pq r (ws D r x0 y0 k).1 (ws D r x0 y0 k).2 = wpt D r x0 y0 k from rfl]
    rw [show ((k : Int)).toNat = k by omega, goL_s]
    rw [wh_eq, wh_eq, wh_eq, ck_t b3, J_mul, J_sub, J_mul, J_sub, N_add]
    obtain ⟨b4, b5, b6, -⟩ := ws_rng h (k + 1)
    have e1 : wpt D r x0 y0 k * (ws D r x0 y0 k).2 - (ws D r x0 y0 k).1 = (ws D r x0 y0 (k + 1)).1 := rfl
    have hx1 : (ws D r x0 y0 (k + 1)).1.natAbs ≤ 167108864 := ((ws_inv h (k + 1)).2 (by omega)).2
    have hsq : ((ws D r x0 y0 (k + 1)).1 * (ws D r x0 y0 (k + 1)).1).natAbs ≤ 167108864 * 167108864 := by
      rw [Int.natAbs_mul]
      exact Nat.mul_le_mul hx1 hx1
    have hD0 : 0 ≤ D := by have := Int.mul_nonneg h1 h1; omega
    rw [e1, J_div (by omega) (by omega) (by omega) (by omega)]
    exact ih
end RT1
