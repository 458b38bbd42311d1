/-! ===== calls: exact ===== -/
theorem c_exact (a b : Int32) : Agree (fX8_exact 0 a b) (fX9_exact 108 a b) := by
  intro i l x y r
  rcases r.who (x := x) (y := y) a with ⟨f, g⟩ | ⟨s, hs, rfl, h1, sd, f, g⟩
  · refine agree_of (-2000000000000000001) r ?_ ?_
    · unfold fX8_exact
      rw [cv_q s0T, f, bnd_some, on_none]
    · unfold fX9_exact
      rw [cv_q s9T, g, bnd_some, if10]
  · obtain ⟨⟨k1, k2, k3⟩, -, -, -, -, -, hR, hT⟩ := sd
    have hb := N_rng b
    rw [N_of b]
    generalize b.toInt = w at *
    have st := (St_s hs).1.1
    have e : ((s : Int)).toNat = s := by omega
    have A : ∀ (t q : Nat) (F : Int32 → Fn Int64), S0 q = some (100 + t, 40) → aI (hq i l x y) t q (N s) F = F (N (i q s)) := fun t q F hq => by
      rw [aI_q hq (by omega) (by omega) (by omega), e]
    have g2 : rr x y 108 2 = some 110 := by simp only [srT]
    have q110 : S0 110 = some (100 + 0, 40) := by simp only [shT, Nat.add_zero]
    have z : ∀ v c : Int, 0 ≤ v → v ≤ 60 → 0 ≤ c → c ≤ 60 → (N v = N c ↔ v = c) := fun v c h1 h2 h3 h4 => N_eq (by omega) (by omega) (by omega) (by omega)
    have L : 0 ≤ w → w ≤ 3 → aL (hq i l x y) 1 115 (4 * N s + N w) (fun x106 => some (x106, hq i l x y)) = some (J (l 115 (4 * s + w.toNat)), hq i l x y) := fun h1 h2 => by
      rw [show (4 : Int32) = N 4 by simp only [nk], N_mul, N_add, aL_q (n := 160) (by simp only [shT]) (by omega) (by omega) (by omega), show ((4 : Int) * (s : Int) + w).toNat = 4 * s + w.toNat by omega]
    have M : ∀ hi : Int, 0 ≤ hi → hi ≤ 3 → fX9_exact_31 108 (N s) (N w) (J w) (J 0) (J hi) (hq i l x y) = if 0 ≤ w ∧ w ≤ hi then (if i 110 s ≤ 1 then some (J (l 115 (4 * s + w.toNat)), hq i l x y) else some (-2000000000000000003, hq i l x y)) else some (-2000000000000000002, hq i l x y) := fun hi h1 h2 => by
      unfold fX9_exact_31
      rw [q_in (by omega) (by omega) (by omega) (by omega) (by omega) (by omega), bnd_some, bif0]
      by_cases c : 0 ≤ w ∧ w ≤ hi
      · rw [if_pos c, if_pos c, gR_q s9T, g2, nn_some, A 0 110 _ q110, nk.2.1]
        by_cases d : i 110 s ≤ 1
        · rw [if_pos (by rw [N_le (by omega) (by omega) (by omega) (by omega)]; exact d), if_pos d, gR_q s9T, show rr x y 108 7 = some 115 by simp only [srT], nn_some, L (by omega) (by omega)]
        · rw [if_neg (by rw [N_le (by omega) (by omega) (by omega) (by omega)]; exact d), if_neg d]
      · rw [if_neg c, if_neg c]
    have C : ∀ hi : Int, 0 ≤ hi → hi ≤ 3 → (i 110 s = 0 → hi = 1) → 0 ≤ w → fX8_exact_31 (N w) (2 * s + 28) (N w) (N hi) (hq i l x y) = if 0 ≤ w ∧ w ≤ hi then (if i 110 s ≤ 1 then some (J (l 115 (4 * s + w.toNat)), hq i l x y) else some (-2000000000000000003, hq i l x y)) else some (-2000000000000000002, hq i l x y) := fun hi h1 h2 h3 h4 => by
      unfold fX8_exact_31 fX8_numberOfRoot
      rw [gI_q st, k1, gI_q st, k1, gL_q st, gL_q st]
      simp only [nk]
      simp (disch := omega) only [N_le, N_eq]
      by_cases c : w ≤ hi
      · have hc : 0 ≤ w ∧ w ≤ hi := ⟨h4, c⟩
        rw [if_pos c, if_pos hc]
        by_cases d0 : i 110 s = 0
        · obtain ⟨⟨p1, p2⟩, -⟩ := hR d0
          have := h3 d0
          have d2 : i 110 s ≤ 1 := by omega
          rw [if_pos d0, if_pos d2]
          by_cases c0 : w = 0
          · rw [if_pos c0, p1, c0]; rfl
          · have : w = 1 := by omega
            rw [if_neg c0, p2, this]; rfl
        · by_cases d1 : i 110 s = 1
          · obtain ⟨⟨p1, p2, p3, p4⟩, -⟩ := hT d1
            have d2 : i 110 s ≤ 1 := by omega
            rw [if_neg d0, if_pos d1, if_pos d2]
            simp only [gL_q st, p1, p2, p3, p4]
            by_cases c0 : w = 0
            · rw [if_pos c0, c0]; rfl
            by_cases c1 : w = 1
            · rw [if_neg c0, if_pos c1, c1]; rfl
            by_cases c2 : w = 2
            · rw [if_neg c0, if_neg c1, if_pos c2, c2]; rfl
            · have : w = 3 := by omega
              rw [if_neg c0, if_neg c1, if_neg c2, this]; rfl
          · have d2 : ¬ (i 110 s ≤ 1) := by omega
            rw [if_neg d0, if_neg d1, if_neg d2]
      · rw [if_neg c, if_neg (fun z => c z.2)]
    obtain ⟨hi, hi1, hi2, hi3, hi4⟩ : ∃ hi : Int, 0 ≤ hi ∧ hi ≤ 3 ∧ (i 110 s = 0 → hi = 1) ∧ (i 110 s ≠ 0 → hi = 3) := by
      by_cases d : i 110 s = 0
      · exact ⟨1, by omega, by omega, fun _ => rfl, fun z => absurd d z⟩
      · exact ⟨3, by omega, by omega, fun z => absurd z d, fun _ => rfl⟩
    have F : fX8_exact 0 (N s) (N w) (hq i l x y) = if 0 ≤ w ∧ w ≤ hi then (if i 110 s ≤ 1 then some (J (l 115 (4 * s + w.toNat)), hq i l x y) else some (-2000000000000000003, hq i l x y)) else some (-2000000000000000002, hq i l x y) := by
      unfold fX8_exact
      rw [cv_q s0T, f, bnd_some, on_some, gI_q st, k1]
      simp only [nk]
      simp (disch := omega) only [N_lt, N_eq]
      by_cases c : w < 0
      · rw [if_pos c, if_neg (by omega)]
      · rw [if_neg c, ← C hi hi1 hi2 hi3 (by omega)]
        by_cases d : i 110 s = 0
        · rw [if_pos d, hi3 d]
        · rw [if_neg d, hi4 d]
    have G : fX9_exact 108 (N s) (N w) (hq i l x y) = if 0 ≤ w ∧ w ≤ hi then (if i 110 s ≤ 1 then some (J (l 115 (4 * s + w.toNat)), hq i l x y) else some (-2000000000000000003, hq i l x y)) else some (-2000000000000000002, hq i l x y) := by
      unfold fX9_exact
      rw [cv_q s9T, g, bnd_some, if_pos rfl, gR_q s9T, g2, nn_some, A 0 110 _ q110, N_J hb.1 hb.2, ← M hi hi1 hi2]
      simp only [nk, jk]
      simp (disch := omega) only [N_eq]
      by_cases d : i 110 s = 0
      · rw [if_pos d, hi3 d]
      · rw [if_neg d, hi4 d]
    by_cases c : 0 ≤ w ∧ w ≤ hi
    · by_cases d : i 110 s ≤ 1
      · rw [if_pos c, if_pos d] at F G
        exact agree_of _ r F G
      · rw [if_pos c, if_neg d] at F G
        exact agree_of _ r F G
    · rw [if_neg c] at F G
      exact agree_of _ r F G
