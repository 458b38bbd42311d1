/-! ===== calls: roll ===== -/
theorem n10 : (10 : Int32) = N 10 := by simp only [nk]
theorem c_roll (a b : Int32) : Agree (fX8_roll 0 a b) (fX9_roll_ 108 a b) := by
  intro i l x y r
  obtain ⟨⟨a6, a7, a8⟩, hr⟩ := r.2.2.2.2.1
  have s12 : S0 12 = some (1, 0) := by simp only [shT]
  have g8 : rr x y 0 8 = some 12 := by simp only [srT]
  have ha := N_rng a
  have hb := N_rng b
  rw [N_of a, N_of b]
  generalize a.toInt = u at *
  generalize b.toInt = w at *
  by_cases c : u = -1
  · subst c
    refine agree_of (J (i 108 22)) r ?_ ?_
    · unfold fX8_roll
      rw [if_pos (by decide), gR_q s0T, g8, nn_some, gI_q s12, a6, N_J (by omega) (by omega)]
    · unfold fX9_roll_
      rw [if_pos (by decide), gI_q s9T, N_J (by omega) (by omega)]
  have hc : ¬ (N u = -1) := by
    rw [show (-1 : Int32) = N (-1) from rfl, N_eq (by omega) (by omega) (by omega) (by omega)]
    exact c
  have C : fX8_roll 0 (N u) (N w) (hq i l x y) = if (0 ≤ u ∧ u < i 108 22) ∧ 0 ≤ w ∧ w ≤ 9 then fX1_stepTold 12 (N u) (N w) (hq i l x y) else some (-2000000000000000002, hq i l x y) := by
    unfold fX8_roll
    rw [if_neg hc, gR_q s0T, g8, nn_some, gI_q s12, a6, gR_q s0T, g8, nn_some, cv_q s12]
    simp only [nk]
    simp (disch := omega) only [N_lt, N_le]
    by_cases d1 : u < 0
    · rw [if_pos d1, if_neg (by omega)]
    by_cases d2 : i 108 22 ≤ u
    · rw [if_neg d1, if_pos d2, if_neg (by omega)]
    by_cases d3 : w < 0
    · rw [if_neg d1, if_neg d2, if_pos d3, if_neg (by omega)]
    by_cases d4 : w < 10
    · rw [if_neg d1, if_neg d2, if_neg d3, if_pos d4, if_pos (by omega)]
      generalize fX1_stepTold 12 (N u) (N w) (hq i l x y) = z
      cases z <;> rfl
    · rw [if_neg d1, if_neg d2, if_neg d3, if_neg d4, if_neg (by omega)]
  have M : fX9_roll_ 108 (N u) (N w) (hq i l x y) = if (0 ≤ u ∧ u < i 108 22) ∧ 0 ≤ w ∧ w ≤ 9 then aL (hq i l x y) 1 123 (10 * N u + N w) (fun x107 => some (x107, hq i l x y)) else some (-2000000000000000002, hq i l x y) := by
    unfold fX9_roll_
    rw [if_neg hc, gI_q s9T, nk.2.1, N_sub, N_J ha.1 ha.2, N_J (by omega) (by omega), jk.1, q_in (by omega) (by omega) (by omega) (by omega) (by omega) (by omega), bnd_some, bif0]
    by_cases d1 : 0 ≤ u ∧ u ≤ i 108 22 - 1
    · rw [if_pos d1, N_J hb.1 hb.2, show (9 : Int64) = J 9 by simp only [jk], q_in (by omega) (by omega) (by omega) (by omega) (by omega) (by omega), bnd_some, bif0]
      by_cases d2 : 0 ≤ w ∧ w ≤ 9
      · rw [if_pos d2, if_pos (by omega), gR_q s9T, show rr x y 108 21 = some 123 by simp only [srT], nn_some]
      · rw [if_neg d2, if_neg (by omega)]
    · rw [if_neg d1, if_neg (by omega)]
  by_cases d : (0 ≤ u ∧ u < i 108 22) ∧ 0 ≤ w ∧ w ≤ 9
  · have e := hr (10 * u + w).toNat (by omega)
    refine agree_of (J (l 123 (10 * u + w).toNat)) r ?_ ?_
    · rw [C, if_pos d]
      unfold fX1_stepTold
      rw [n10, N_mul, N_add, wh_eq, nk.1, if_neg (by rw [N_lt (by omega) (by omega) (by omega) (by omega)]; omega), gR_q s12, show rr x y 12 7 = some 19 by simp only [srT], nn_some, aN_q (t := 1) (n := 1820) (by simp only [shT]), if_neg (by rw [N_le (by omega) (by omega) (by omega) (by omega)]; omega), gR_q s12, show rr x y 12 7 = some 19 by simp only [srT], nn_some, aL_q (n := 1820) (by simp only [shT]) (by omega) (by omega) (by omega), Int.mul_comm u 10, e]
    · rw [M, if_pos d, n10, N_mul, N_add, aL_q (n := 2200) (by simp only [shT]) (by omega) (by omega) (by omega)]
  · refine agree_of (-2000000000000000002) r ?_ ?_
    · rw [C, if_neg d]
    · rw [M, if_neg d]
