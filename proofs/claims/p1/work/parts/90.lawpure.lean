/-! ===== the law over one call on a new object ===== -/
theorem u_row (a b : Int32) : Alk0 (fX8_row 0 a b) (fX9_row 108 a b) := by
  obtain ⟨-, -, a3, a4, a5, a6, a7, -⟩ := inT
  have ha := N_rng a
  have hb := N_rng b
  rw [N_of a, N_of b]
  generalize a.toInt = u at *
  generalize b.toInt = w at *
  have M : ∀ i l x y, fX9_row 108 (N u) (N w) (hq i l x y) = if (1 ≤ u ∧ u ≤ 1000000) ∧ 0 ≤ w ∧ w ≤ 1000000 then (if N (i 108 11) = N 8 then some (-2000000000000000004, hq i l x y) else gR (hq i l x y) 108 9 12 (fun b106 => gI (hq i l x y) 108 9 11 (fun x107 => zI (hq i l x y) 0 b106 x107 (N u) (fun h108 => gR h108 108 9 13 (fun b109 => gI h108 108 9 11 (fun x110 => zI h108 0 b109 x110 (N w) (fun h111 => gI h111 108 9 11 (fun x112 => pI h111 108 9 11 (x112 + 1) (fun h113 => gI h113 108 9 11 (fun x114 => some ((Int32.toInt64 x114), h113)))))))))))  else some (-2000000000000000002, hq i l x y) := by
    intro i l x y
    unfold fX9_row
    simp only [jk, N_J ha.1 ha.2, N_J hb.1 hb.2]
    rw [q_in (by omega) (by omega) (by omega) (by omega) (by omega) (by omega), bnd_some, bif0]
    by_cases c1 : 1 ≤ u ∧ u ≤ 1000000
    · rw [if_pos c1, q_in (by omega) (by omega) (by omega) (by omega) (by omega) (by omega), bnd_some, bif0]
      by_cases c2 : 0 ≤ w ∧ w ≤ 1000000
      · rw [if_pos c2, if_pos ⟨c1, c2⟩, gI_q s9T]
        rfl
      · rw [if_neg c2, if_neg (fun z => c2 z.2)]
    · rw [if_neg c1, if_neg (fun z => c1 z.1)]
  intro x y
  by_cases c : (1 ≤ u ∧ u ≤ 1000000) ∧ 0 ≤ w ∧ w ≤ 1000000
  · obtain ⟨⟨c1, c2⟩, c3, c4⟩ := c
    refine ⟨J 1, w1 i0 0 4 1, w1 (w1 l0 4 0 u) 5 0 w, x, y, hq (w1 (w1 (w1 (w1 i0 0 4 1) 118 0 u) 119 0 w) 108 11 1) (w1 (w1 l0 4 0 u) 5 0 w) x y, ?_, ?_⟩
    · unfold fX8_row
      simp only [nk, N_J ha.1 ha.2, N_J hb.1 hb.2]
      simp (disch := omega) only [N_lt, N_le]
      rw [if_neg (by omega), if_neg (by omega), if_neg (by omega), if_pos (by omega), gI_q s0T, a4, if_pos (by rw [N_lt (by omega) (by omega) (by omega) (by omega)]; omega)]
      rw [gR_q s0T, show rr x y 0 2 = some 4 by simp only [srT], nn_some, gI_q s0T, a4, zL_q (n := 8) (by simp only [shT]) (by omega) (by omega) (by omega)]
      rw [gR_q s0T, show rr x y 0 3 = some 5 by simp only [srT], nn_some, gI_q s0T, a4]
      rw [zL_q (n := 8) (by simp only [shT]) (by omega) (by omega) (by omega), gI_q s0T, a4]
      rw [N_add, pI_q s0T, gI_q s0T, w1_s, N_J (by omega) (by omega)]
      rfl
    · have e1 : w1 i0 0 4 1 108 11 = 0 := by rw [w1_n _ _ (by omega), a5]
      rw [M, if_pos ⟨⟨c1, c2⟩, c3, c4⟩, e1, if_neg (by rw [N_eq (by omega) (by omega) (by omega) (by omega)]; omega)]
      rw [gR_q s9T, show rr x y 108 12 = some 118 by simp only [srT], nn_some, gI_q s9T, e1, zI_q (n := 8) (by simp only [shT]) (by omega) (by omega) (by omega)]
      have e2 : w1 (w1 i0 0 4 1) 118 (0 : Int).toNat u 108 11 = 0 := by rw [w1_n _ _ (by omega), e1]
      rw [gR_q s9T, show rr x y 108 13 = some 119 by simp only [srT], nn_some, gI_q s9T, e2, zI_q (n := 8) (by simp only [shT]) (by omega) (by omega) (by omega)]
      have e3 : w1 (w1 (w1 i0 0 4 1) 118 (0 : Int).toNat u) 119 (0 : Int).toNat w 108 11 = 0 := by rw [w1_n _ _ (by omega), e2]
      rw [gI_q s9T, e3, nk.2.1, N_add, pI_q s9T, gI_q s9T, w1_s, N_J (by omega) (by omega)]
      rfl
  · refine ⟨-2000000000000000002, i0, l0, x, y, hq i0 l0 x y, ?_, ?_⟩
    · unfold fX8_row
      simp only [nk]
      simp (disch := omega) only [N_lt, N_le]
      by_cases d1 : u < 1
      · rw [if_pos d1]
      by_cases d2 : 1000000 < u
      · rw [if_neg d1, if_pos d2]
      by_cases d3 : w < 0
      · rw [if_neg d1, if_neg d2, if_pos d3]
      · rw [if_neg d1, if_neg d2, if_neg d3, if_neg (by omega)]
    · rw [M, if_neg c]
theorem u_rule (a : Int32) : Alk0 (fX8_rule 0 a) (fX9_rule 108 a) := by
  obtain ⟨-, -, a3, a4, a5, a6, a7, -⟩ := inT
  have ha := N_rng a
  rw [N_of a]
  generalize a.toInt = u at *
  by_cases c : -1000000 ≤ u ∧ u ≤ 1000000
  · refine alk0_of (-2000000000000000003) (fun x y => ?_) (fun x y => ?_)
    · unfold fX8_rule
      rw [show (1000000 : Int32) = N 1000000 by simp only [nk], q_beyond ha.1 ha.2 (by omega) (by omega), bnd_some, bif0, if_neg (by omega), gI_q s0T, a4, if_pos (by decide)]
    · unfold fX9_rule
      simp only [jk, J_neg, N_J ha.1 ha.2]
      rw [q_in (by omega) (by omega) (by omega) (by omega) (by omega) (by omega), bnd_some, bif0, if_pos c, gI_q s9T, a5, if_pos (by decide)]
  · refine alk0_of (-2000000000000000002) (fun x y => ?_) (fun x y => ?_)
    · unfold fX8_rule
      rw [show (1000000 : Int32) = N 1000000 by simp only [nk], q_beyond ha.1 ha.2 (by omega) (by omega), bnd_some, bif0, if_pos (by omega)]
    · unfold fX9_rule
      simp only [jk, J_neg, N_J ha.1 ha.2]
      rw [q_in (by omega) (by omega) (by omega) (by omega) (by omega) (by omega), bnd_some, bif0, if_neg c]
theorem u_factor (a b : Int32) : Alk0 (fX8_factor 0 a b) (fX9_factor 108 a b) := by
  obtain ⟨-, a2, -⟩ := inT
  have ha := N_rng a
  have hb := N_rng b
  rw [N_of a, N_of b]
  generalize a.toInt = u at *
  generalize b.toInt = w at *
  intro x y
  by_cases c : (0 ≤ u ∧ u ≤ 7) ∧ -1000000 ≤ w ∧ w ≤ 1000000
  · obtain ⟨⟨c1, c2⟩, c3, c4⟩ := c
    obtain ⟨b1, b2⟩ := a2 u.toNat (by omega)
    refine ⟨J 0, i0, w1 l0 6 u.toNat w, x, y, hq i0 (w1 (w1 l0 6 u.toNat w) 120 u.toNat w) x y, ?_, ?_⟩
    · unfold fX8_factor
      simp only [nk, N_J hb.1 hb.2]
      simp (disch := omega) only [N_lt]
      rw [if_neg (by omega), gR_q s0T, show rr x y 0 5 = some 6 by simp only [srT], nn_some, aN_q (t := 1) (n := 8) (by simp only [shT])]
      rw [if_neg (by rw [N_le (by omega) (by omega) (by omega) (by omega)]; omega)]
      rw [q_beyond hb.1 hb.2 (by omega) (by omega), bnd_some, ← nk.1, bif0, if_neg (by omega), gR_q s0T, show rr x y 0 5 = some 6 by simp only [srT], nn_some]
      rw [aL_q (n := 8) (by simp only [shT]) (by omega) (by omega) (by omega), gR_q s0T, show rr x y 0 5 = some 6 by simp only [srT], nn_some, zL_q (n := 8) (by simp only [shT]) (by omega) (by omega) (by omega), b1]
    · have e1 : w1 l0 6 u.toNat w 120 u.toNat = 0 := by rw [w1_n _ _ (by omega), b2]
      unfold fX9_factor
      simp only [jk, J_neg, N_J ha.1 ha.2, N_J hb.1 hb.2]
      rw [q_in (by omega) (by omega) (by omega) (by omega) (by omega) (by omega), bnd_some, bif0, if_pos (by omega), q_in (by omega) (by omega) (by omega) (by omega) (by omega) (by omega), bnd_some, bif0, if_pos (by omega)]
      rw [gR_q s9T, show rr x y 108 14 = some 120 by simp only [srT], nn_some]
      rw [aL_q (n := 8) (by simp only [shT]) (by omega) (by omega) (by omega), gR_q s9T, show rr x y 108 14 = some 120 by simp only [srT], nn_some, zL_q (n := 8) (by simp only [shT]) (by omega) (by omega) (by omega), e1]
  · refine ⟨-2000000000000000002, i0, l0, x, y, hq i0 l0 x y, ?_, ?_⟩
    · unfold fX8_factor
      simp only [nk]
      simp (disch := omega) only [N_lt]
      by_cases d1 : u < 0
      · rw [if_pos d1]
      rw [if_neg d1, gR_q s0T, show rr x y 0 5 = some 6 by simp only [srT], nn_some, aN_q (t := 1) (n := 8) (by simp only [shT])]
      by_cases d2 : 8 ≤ u
      · rw [if_pos (by rw [N_le (by omega) (by omega) (by omega) (by omega)]; omega)]
      rw [if_neg (by rw [N_le (by omega) (by omega) (by omega) (by omega)]; omega)]
      rw [q_beyond hb.1 hb.2 (by omega) (by omega), bnd_some, ← nk.1, bif0, if_pos (by omega)]
    · unfold fX9_factor
      simp only [jk, J_neg, N_J ha.1 ha.2, N_J hb.1 hb.2]
      rw [q_in (by omega) (by omega) (by omega) (by omega) (by omega) (by omega), bnd_some, bif0]
      by_cases d1 : 0 ≤ u ∧ u ≤ 7
      · rw [if_pos d1, q_in (by omega) (by omega) (by omega) (by omega) (by omega) (by omega), bnd_some, bif0, if_neg (by omega)]
      · rw [if_neg d1]
theorem u_roll (a b : Int32) : Alk0 (fX8_roll 0 a b) (fX9_roll_ 108 a b) := by
  obtain ⟨-, -, a3, a4, a5, a6, a7, -⟩ := inT
  have s12 : S0 12 = some (1, 0) := by simp only [shT]
  have ha := N_rng a
  rw [N_of a]
  generalize a.toInt = u at *
  by_cases c : u = -1
  · subst c
    refine alk0_of (J 0) (fun x y => ?_) (fun x y => ?_)
    · unfold fX8_roll
      rw [if_pos (by decide), gR_q s0T, show rr x y 0 8 = some 12 by simp only [srT], nn_some, gI_q s12, a6, N_J (by omega) (by omega)]
    · unfold fX9_roll_
      rw [if_pos (by decide), gI_q s9T, a7, N_J (by omega) (by omega)]
  · have hc : ¬ (N u = -1) := by
      rw [show (-1 : Int32) = N (-1) from rfl, N_eq (by omega) (by omega) (by omega) (by omega)]
      exact c
    refine alk0_of (-2000000000000000002) (fun x y => ?_) (fun x y => ?_)
    · unfold fX8_roll
      rw [if_neg hc, gR_q s0T, show rr x y 0 8 = some 12 by simp only [srT], nn_some, gI_q s12, a6, nk.1]
      by_cases d : u < 0
      · rw [if_pos (by rw [N_lt (by omega) (by omega) (by omega) (by omega)]; exact d)]
      · rw [if_neg (by rw [N_lt (by omega) (by omega) (by omega) (by omega)]; exact d), if_pos (by rw [N_le (by omega) (by omega) (by omega) (by omega)]; omega)]
    · unfold fX9_roll_
      rw [if_neg hc, gI_q s9T, a7, nk.2.1, N_sub, N_J ha.1 ha.2, N_J (by omega) (by omega), jk.1, q_in (by omega) (by omega) (by omega) (by omega) (by omega) (by omega), bnd_some, bif0, if_neg (by omega)]
theorem hm0 {x y : Option Nat} : fX8_howManyStreams 0 (hq i0 l0 x y) = some (N 0, hq i0 l0 x y) := by
  have key : ∀ (m k n : Nat), k + m = 40 → m + 1 ≤ n → fX8_howManyStreams_4L n 0 (N 0) (N k) (hq i0 l0 x y) = some (N 0, hq i0 l0 x y) := by
    intro m
    induction m with
    | zero =>
      intro k n hk hn
      obtain ⟨q, rfl⟩ : ∃ q, n = q + 1 := ⟨n - 1, by omega⟩
      show fX8_howManyStreams_4 (fX8_howManyStreams_4L q) 0 _ _ _ = _
      unfold fX8_howManyStreams_4
      simp (disch := omega) only [nk, N_le]
      rw [if_pos (by omega)]
    | succ m ih =>
      intro k n hk hn
      obtain ⟨q, rfl⟩ : ∃ q, n = q + 1 := ⟨n - 1, by omega⟩
      have h1 := (inT.1 k (by omega)).1
      show fX8_howManyStreams_4 (fX8_howManyStreams_4L q) 0 _ _ _ = _
      unfold fX8_howManyStreams_4
      rw [gR_q s0T, show rr x y 0 0 = some 1 by simp only [srT], nn_some, aR_1 (by omega) (by omega)]
      rw [show ((k : Int)).toNat = k by omega, gI_q (St_s (show k < 40 by omega)).1.1, h1]
      simp (disch := omega) only [nk, N_le, N_eq, N_add, wh_eq]
      rw [if_neg (by omega), if_pos trivial]
      exact ih (k + 1) q (by omega) (by omega)
  exact key 40 0 1000 (by omega) (by omega)
theorem ho0 {x y : Option Nat} : fX8_howManyOpen 0 (hq i0 l0 x y) = some (N 0, hq i0 l0 x y) := by
  have key : ∀ (m k n : Nat), k + m = 40 → m + 1 ≤ n → fX8_howManyOpen_4L n 0 (N 0) (N k) (hq i0 l0 x y) = some (N 0, hq i0 l0 x y) := by
    intro m
    induction m with
    | zero =>
      intro k n hk hn
      obtain ⟨q, rfl⟩ : ∃ q, n = q + 1 := ⟨n - 1, by omega⟩
      show fX8_howManyOpen_4 (fX8_howManyOpen_4L q) 0 _ _ _ = _
      unfold fX8_howManyOpen_4
      simp (disch := omega) only [nk, N_le]
      rw [if_pos (by omega)]
    | succ m ih =>
      intro k n hk hn
      obtain ⟨q, rfl⟩ : ∃ q, n = q + 1 := ⟨n - 1, by omega⟩
      have h1 := (inT.1 k (by omega)).1
      show fX8_howManyOpen_4 (fX8_howManyOpen_4L q) 0 _ _ _ = _
      unfold fX8_howManyOpen_4
      rw [gR_q s0T, show rr x y 0 0 = some 1 by simp only [srT], nn_some, aR_1 (by omega) (by omega)]
      rw [show ((k : Int)).toNat = k by omega, gI_q (St_s (show k < 40 by omega)).1.1, h1]
      rw [if_neg (by rw [show (40 : Int32) = N 40 by simp only [nk], N_le (by omega) (by omega) (by omega) (by omega)]; omega), if_pos (by decide), wh_eq, nk.2.1, N_add]
      exact ih (k + 1) q (by omega) (by omega)
  exact key 40 0 1000 (by omega) (by omega)
theorem co0 {x y : Option Nat} : fX9_count_35L 1000 108 0 0 (hq i0 l0 x y) = some (J 0, hq i0 l0 x y) := by
  have key : ∀ (m k n : Nat), k + m = 40 → m + 1 ≤ n → fX9_count_35L n 108 (J 0) (N k) (hq i0 l0 x y) = some (J 0, hq i0 l0 x y) := by
    intro m
    induction m with
    | zero =>
      intro k n hk hn
      obtain ⟨q, rfl⟩ : ∃ q, n = q + 1 := ⟨n - 1, by omega⟩
      show fX9_count_35 (fX9_count_35L q) 108 _ _ _ = _
      unfold fX9_count_35
      simp (disch := omega) only [nk, N_le]
      rw [if_pos (by omega)]
    | succ m ih =>
      intro k n hk hn
      obtain ⟨q, rfl⟩ : ∃ q, n = q + 1 := ⟨n - 1, by omega⟩
      have h1 := (inT.1 k (by omega)).2
      show fX9_count_35 (fX9_count_35L q) 108 _ _ _ = _
      unfold fX9_count_35
      rw [gR_q s9T, show rr x y 108 1 = some 109 by simp only [srT], nn_some, aI_q (t := 2) (n := 40) (by simp only [shT]) (by omega) (by omega) (by omega)]
      rw [show ((k : Int)).toNat = k by omega, h1]
      rw [if_neg (by rw [show (40 : Int32) = N 40 by simp only [nk], N_le (by omega) (by omega) (by omega) (by omega)]; omega), if_pos (by decide), wh_eq, wh_eq, nk.2.1, N_add, jk.1, J_add]
      exact ih (k + 1) q (by omega) (by omega)
  exact key 40 0 1000 (by omega) (by omega)
theorem u_count (a : Int32) : Alk0 (fX8_count 0 a) (fX9_count 108 a) := by
  obtain ⟨-, -, a3, a4, a5, a6, a7, -⟩ := inT
  by_cases c0 : a = 0
  · refine alk0_of (J 0) (fun x y => ?_) (fun x y => ?_)
    · unfold fX8_count
      rw [if_pos c0, cv_q s0T, hm0, bnd_some, N_J (by omega) (by omega)]
    · unfold fX9_count
      rw [if_pos c0, gI_q s9T, a3, N_J (by omega) (by omega)]
  by_cases c1 : a = 1
  · refine alk0_of (J 0) (fun x y => ?_) (fun x y => ?_)
    · unfold fX8_count
      rw [if_neg c0, if_pos c1, gI_q s0T, a4, N_J (by omega) (by omega)]
    · unfold fX9_count
      rw [if_neg c0, if_pos c1, gI_q s9T, a5, N_J (by omega) (by omega)]
  by_cases c2 : a = 2
  · refine alk0_of (J 0) (fun x y => ?_) (fun x y => ?_)
    · unfold fX8_count
      rw [if_neg c0, if_neg c1, if_pos c2, cv_q s0T, ho0, bnd_some, N_J (by omega) (by omega)]
    · unfold fX9_count
      rw [if_neg c0, if_neg c1, if_pos c2, co0]
  · refine alk0_of (-2000000000000000002) (fun x y => ?_) (fun x y => ?_)
    · unfold fX8_count
      rw [if_neg c0, if_neg c1, if_neg c2]
    · unfold fX9_count
      rw [if_neg c0, if_neg c1, if_neg c2]
theorem u_ratio (a b : Int64) : Alk0 (fX8_ratio 0 a b) (fX9_ratio 108 a b) := by
  have := c_ratio (J_rng a).1 (J_rng a).2 (J_rng b).1 (J_rng b).2
  rw [← J_of, ← J_of] at this
  exact this.alk0
theorem u_root (a b c d : Int32) : Alk0 (fX8_root 0 a b c d) (fX9_root 108 a b c d) := by
  have := c_root (N_rng a).1 (N_rng a).2 (N_rng b).1 (N_rng b).2 (N_rng c).1 (N_rng c).2 (N_rng d).1 (N_rng d).2
  rw [← N_of, ← N_of, ← N_of, ← N_of] at this
  exact this.alk0
theorem call0 {F G : AH → Fn Int64} (A : Alk0 F G) (K : AH → Fn Int32) (hK : ∀ h, K h = some (1, h)) (x y : Option Nat) : ∃ h1, cv (hq i0 l0 x y) 0 8 (bnd (F (hq i0 l0 x y)) (fun v h => cv h 108 9 (bnd (G h) (fun w h' => if v = w then K h' else some (0, h'))))) = some (1, h1) := by
  obtain ⟨v, i1, l1, x1, y1, h2, a, b⟩ := A x y
  refine ⟨h2, ?_⟩
  rw [cv_q s0T, a, bnd_some, cv_q s9T, b, bnd_some, if_pos rfl, hK]
theorem xI0 {ρ : Type} (xs : Nat → Int32) (F : Int32 → Fn ρ) : xI 5 xs 0 F = F (xs 0) ∧ xI 5 xs (0 + 1) F = F (xs 1) ∧ xI 5 xs (0 + 2) F = F (xs 2) ∧ xI 5 xs (0 + 3) F = F (xs 3) ∧ xI 5 xs (0 + 4) F = F (xs 4) := ⟨ck_t (by decide) _, ck_t (by decide) _, ck_t (by decide) _, ck_t (by decide) _, ck_t (by decide) _⟩
theorem law18_s (L : Nat) (xs : Nat → Int32) (n : Nat) : fL_law_18L L xs (n + 1) = fL_law_18 L xs (fL_law_18L L xs n) := rfl
theorem law_end {L : Nat} {xs : Nat → Int32} {K : Nat → Nat → Int32 → AH → Fn Int32} {l1 l2 : Nat} {l3 : Int32} {h : AH} (c : (Int32.ofNat L) - 5 < l3) : fL_law_18 L xs K l1 l2 l3 h = some (1, h) := by
  unfold fL_law_18
  rw [if_pos c]
theorem fin0 (xs : Nat → Int32) (h : AH) : fL_law_18L 5 xs 999 0 108 (0 + 5) h = some (1, h) := by
  rw [show (999 : Nat) = 998 + 1 from rfl, law18_s]
  exact law_end (by decide)
theorem law_one (xs : Nat → Int32) (x y : Option Nat) : ∃ h1, fL_law_18 5 xs (fL_law_18L 5 xs 999) 0 108 0 (hq i0 l0 x y) = some (1, h1) := by
  unfold fL_law_18
  rw [if_neg (by decide)]
  simp only [xI0, wh_eq, fin0]
  have k1 : ∀ h : AH, (fun h' : AH => (some (1, h') : Fn Int32)) h = some (1, h) := fun h => rfl
  by_cases c0 : xs 0 &&& 31 = 0
  · rw [if_pos c0]; exact call0 (u_ratio _ _) _ k1 x y
  rw [if_neg c0]
  by_cases c1 : xs 0 &&& 31 = 1
  · rw [if_pos c1]; exact call0 (u_root _ _ _ _) _ k1 x y
  rw [if_neg c1]
  by_cases c2 : xs 0 &&& 31 = 2
  · rw [if_pos c2]; exact call0 (u_row _ _) _ k1 x y
  rw [if_neg c2]
  by_cases c3 : xs 0 &&& 31 = 3
  · rw [if_pos c3]; exact call0 (u_rule _) _ k1 x y
  rw [if_neg c3]
  by_cases c4 : xs 0 &&& 31 = 4
  · rw [if_pos c4]; exact call0 (u_act _ _ _) _ k1 x y
  rw [if_neg c4]
  by_cases c5 : xs 0 &&& 31 = 5
  · rw [if_pos c5]; exact call0 (u_turn _) _ k1 x y
  rw [if_neg c5]
  by_cases c6 : xs 0 &&& 31 = 6
  · rw [if_pos c6]; exact call0 (u_factor _ _) _ k1 x y
  rw [if_neg c6]
  by_cases c7 : xs 0 &&& 31 = 7
  · rw [if_pos c7]; exact call0 (u_mix _ _) _ k1 x y
  rw [if_neg c7]
  by_cases c8 : xs 0 &&& 31 = 8
  · rw [if_pos c8]; exact call0 (u_drop _) _ k1 x y
  rw [if_neg c8]
  by_cases c9 : xs 0 &&& 31 = 9
  · rw [if_pos c9]; exact call0 (u_told _ _) _ k1 x y
  rw [if_neg c9]
  by_cases c10 : xs 0 &&& 31 = 10
  · rw [if_pos c10]; exact call0 (u_part _ _) _ k1 x y
  rw [if_neg c10]
  by_cases c11 : xs 0 &&& 31 = 11
  · rw [if_pos c11]; exact call0 (u_exact _ _) _ k1 x y
  rw [if_neg c11]
  by_cases c12 : xs 0 &&& 31 = 12
  · rw [if_pos c12]; exact call0 (u_round _ _) _ k1 x y
  rw [if_neg c12]
  by_cases c13 : xs 0 &&& 31 = 13
  · rw [if_pos c13]; exact call0 (u_sign _) _ k1 x y
  rw [if_neg c13]
  by_cases c14 : xs 0 &&& 31 = 14
  · rw [if_pos c14]; exact call0 (u_compare _ _) _ k1 x y
  rw [if_neg c14]
  by_cases c15 : xs 0 &&& 31 = 15
  · rw [if_pos c15]; exact call0 (u_near _ _ _) _ k1 x y
  rw [if_neg c15]
  by_cases c16 : xs 0 &&& 31 = 16
  · rw [if_pos c16]; exact call0 (u_best _ _ _ _) _ k1 x y
  rw [if_neg c16]
  by_cases c17 : xs 0 &&& 31 = 17
  · rw [if_pos c17]; exact call0 (u_figure _ _ _) _ k1 x y
  rw [if_neg c17]
  by_cases c18 : xs 0 &&& 31 = 18
  · rw [if_pos c18]; exact call0 (u_roll _ _) _ k1 x y
  rw [if_neg c18]
  by_cases c19 : xs 0 &&& 31 = 19
  · rw [if_pos c19]; exact call0 (u_count _) _ k1 x y
  rw [if_neg c19]
  exact ⟨_, rfl⟩
theorem nw_eq {ρ : Type} (h : AH) (c N : Nat) (F : Nat → AH → Fn ρ) : nw h c N F = F (Hn h) (HpN h c N) := rfl
theorem h00_eq : h00 = h00x := rfl
theorem h00_n : Hn h00x = 0 := rfl
theorem law_pure : LawPure := by
  intro L xs hL
  have e : fL_law L xs h00 = fL_law_18 L xs (fL_law_18L L xs 999) 0 108 0 hC := by
    unfold fL_law
    rw [h00_eq, nw_eq, h00_n, hC1_ok, bnd_some, nw_eq, hC1_n, hC2_ok, bnd_some, show (1000 : Nat) = 999 + 1 from rfl, law18_s]
  rw [e, hC_q]
  by_cases c : L = 5
  · subst c
    exact law_one xs _ _
  · have hc : (Int32.ofNat L) - 5 < 0 := by
      rw [nN, show (5 : Int32) = N 5 by simp only [nk], N_sub, nk.1, N_lt (by omega) (by omega) (by omega) (by omega)]
      omega
    exact ⟨_, law_end hc⟩
