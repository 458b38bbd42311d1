/-! ===== calls: ratio, root ===== -/
theorem lsg_rby (u v : Int) : lsg u 0 v = rby u v := by
  unfold lsg rby lg
  rw [Int.gcd_zero_right, Int.gcd_comm v u]
  simp
theorem Rel.lf {i l : Nat → Nat → Int} (h : Rel i l) : lfr (thr i) 40 0 = lfr (i 109) 40 0 := lfr_congr (fun j hj => (h.1 j hj).1) 40 0 (by omega)
/-- full, or the least free place -/
theorem Rel.free {i l : Nat → Nat → Int} (h : Rel i l) : (lfr (thr i) 40 0 = -1 ∧ i 108 10 = 40) ∨ ∃ s : Nat, lfr (thr i) 40 0 = s ∧ lfr (i 109) 40 0 = s ∧ s < 40 ∧ i 109 s = 0 ∧ 0 ≤ i 108 10 ∧ i 108 10 < 40 := by
  have hr := cnt_rng (i 109) 40
  have hf := cnt_full (i 109) 40
  have hc := h.2.1
  rw [h.lf]
  rcases lfr_ok (i 109) 40 0 with ⟨a, b⟩ | ⟨s, a, b, c, d, e⟩
  · left
    refine ⟨a, ?_⟩
    rw [hc]
    exact hf.mpr (fun j hj => b j (by omega) (by omega))
  · right
    refine ⟨s, a, a, by omega, d, by omega, ?_⟩
    rcases Int.lt_or_le (i 108 10) 40 with z | z
    · exact z
    · exfalso
      exact hf.mp (by omega) s (by omega) d
theorem Jc5 : (-2000000000000000005 : Int64) = J (-2000000000000000005) ∧ (-2000000000000000001 : Int64) = J (-2000000000000000001) ∧ (-2000000000000000002 : Int64) = J (-2000000000000000002) ∧ (-2000000000000000003 : Int64) = J (-2000000000000000003) ∧ (-2000000000000000004 : Int64) = J (-2000000000000000004) ∧ (-2000000000000000006 : Int64) = J (-2000000000000000006) := by decide +kernel
theorem q_in {a lo hi : Int} (h1 : -9223372036854775808 ≤ a) (h2 : a ≤ 9223372036854775807) (h3 : -9223372036854775808 ≤ lo) (h4 : lo ≤ 9223372036854775807) (h5 : -9223372036854775808 ≤ hi) (h6 : hi ≤ 9223372036854775807) (h : AH) : fX9_in (J a) (J lo) (J hi) h = some (if lo ≤ a ∧ a ≤ hi then 1 else 0, h) := by
  unfold fX9_in
  simp (disch := omega) only [J_lt]
  by_cases c1 : a < lo
  · rw [if_pos c1, if_neg (by omega)]
  · rw [if_neg c1]
    by_cases c2 : hi < a
    · rw [if_pos c2, if_neg (by omega)]
    · rw [if_neg c2, if_pos (by omega)]
theorem c_ratio {u v : Int} (hu1 : -9223372036854775808 ≤ u) (hu2 : u ≤ 9223372036854775807) (hv1 : -9223372036854775808 ≤ v) (hv2 : v ≤ 9223372036854775807) : Agree (fX8_ratio 0 (J u) (J v)) (fX9_ratio 108 (J u) (J v)) := by
  intro i l x y r
  have s0 : S0 0 = some (8, 0) := by simp only [shT]
  have s7 : S0 7 = some (3, 0) := by simp only [shT]
  have s9 : S0 108 = some (9, 0) := by simp only [shT]
  have g6 : rr x y 0 6 = some 7 := by simp only [srT]
  -- the reference
  have M : ∀ (i1 l1 : Nat → Nat → Int), fX9_ratio 108 (J u) (J v) (hq i1 l1 x y) = if far u ∨ far v ∨ v = 0 then some (-2000000000000000002, hq i1 l1 x y) else if N (i1 108 10) = N 40 then some (-2000000000000000004, hq i1 l1 x y) else bnd (fX9_newRatio 108 (J u) (J v) (hq i1 l1 x y)) (fun x107 h106 => some ((Int32.toInt64 x107), h106)) := by
    intro i1 l1
    unfold fX9_ratio
    simp only [jk, nk, J_neg]
    rw [q_in hu1 hu2 (by omega) (by omega) (by omega) (by omega), bnd_some, ← nk.1, bif0]
    by_cases c1 : far u
    · rw [if_neg (by omega), if_pos (Or.inl c1)]
    rw [if_pos (by omega), q_in hv1 hv2 (by omega) (by omega) (by omega) (by omega), bnd_some, bif0]
    by_cases c2 : far v
    · rw [if_neg (by omega), if_pos (Or.inr (Or.inl c2))]
    rw [if_pos (by omega)]
    simp (disch := omega) only [J_eq]
    by_cases c3 : v = 0
    · rw [if_pos c3, if_pos (Or.inr (Or.inr c3))]
    · rw [if_neg c3, if_neg (by omega), gI_q s9, cv_q s9]
  have C : fX8_ratio 0 (J u) (J v) (hq i l x y) = if far u ∨ far v ∨ v = 0 then some (-2000000000000000002, hq i l x y) else if N (lfr (thr i) 40 0) = N (-1) then some (-2000000000000000004, hq i l x y) else fX8_placeOutcome 0 (N (lfr (thr i) 40 0)) (hq i (oc l 7 u 0 0 v) x y) := by
    unfold fX8_ratio
    rw [q_isFar hu1 hu2, bnd_some, bif0]
    by_cases c1 : far u
    · rw [if_pos c1, if_pos (Or.inl c1)]
    rw [if_neg c1, q_isFar hv1 hv2, bnd_some, bif0]
    by_cases c2 : far v
    · rw [if_pos c2, if_pos (Or.inr (Or.inl c2))]
    rw [if_neg c2]
    simp (disch := omega) only [jk, J_eq]
    by_cases c3 : v = 0
    · rw [if_pos c3, if_pos (Or.inr (Or.inr c3))]
    · rw [if_neg c3, if_neg (by omega), cv_q s0, q_leastFree r.t, bnd_some, gR_q s0, g6, nn_some, cv_q s7, q_become s7, bnd_some, cv_q s0, nk.2.1, N_neg]
      split
      · rfl
      · generalize fX8_placeOutcome 0 (N (lfr (thr i) 40 0)) (hq i (oc l 7 u 0 0 v) x y) = z
        cases z <;> rfl
  by_cases c : far u ∨ far v ∨ v = 0
  · refine agree_of (-2000000000000000002) r ?_ ?_
    · rw [C, if_pos c]
    · rw [M, if_pos c]
  rcases r.free with ⟨f1, f2⟩ | ⟨s, f1, f2, f3, f4, f5, f6⟩
  · refine agree_of (-2000000000000000004) r ?_ ?_
    · rw [C, if_neg c, f1, if_pos rfl]
    · rw [M, if_neg c, f2, if_pos rfl]
  · have hn1 : ¬ (N (s : Int) = N (-1)) := by rw [N_eq (by omega) (by omega) (by omega) (by omega)]; omega
    obtain ⟨r1, r2, r3, r4, r5⟩ := rby_ok (u := u) (v := v) (by omega) (by omega) (by omega)
    have A : fX8_ratio 0 (J u) (J v) (hq i l x y) = some (J s, hq (crI i s (u.tdiv (rby u v)) (v.tdiv (rby u v))) (crL (oc l 7 (u.tdiv (rby u v)) 0 0 (v.tdiv (rby u v))) s (u.tdiv (rby u v)) (v.tdiv (rby u v))) x y) := by
      rw [C, if_neg c, f1, if_neg hn1, q_placeOutcome f3 (oc_0 _ _ _ _ _ _) (oc_1 _ _ _ _ _ _) (oc_2 _ _ _ _ _ _) (oc_3 _ _ _ _ _ _) (by omega) (by omega) (by omega) (by omega) (fun z => absurd rfl z)]
      rw [if_neg (by omega), Int.zero_tdiv, if_pos rfl, lsg_rby, oc_oc]
    have B : fX9_ratio 108 (J u) (J v) (hq (crI i s (u.tdiv (rby u v)) (v.tdiv (rby u v))) (crL (oc l 7 (u.tdiv (rby u v)) 0 0 (v.tdiv (rby u v))) s (u.tdiv (rby u v)) (v.tdiv (rby u v))) x y) = some (J s, hq (mrI (crI i s (u.tdiv (rby u v)) (v.tdiv (rby u v))) s (u.tdiv (rby u v)) (v.tdiv (rby u v))) (mrL (crL (oc l 7 (u.tdiv (rby u v)) 0 0 (v.tdiv (rby u v))) s (u.tdiv (rby u v)) (v.tdiv (rby u v))) s (u.tdiv (rby u v)) (v.tdiv (rby u v))) x y) := by
      have h109 : crI i s (u.tdiv (rby u v)) (v.tdiv (rby u v)) 109 = i 109 := by funext j; rw [crI_n _ _ _ _ (by omega)]
      rw [M, if_neg c, crI_n _ _ _ _ (by omega), if_neg (by rw [N_eq (by omega) (by omega) (by omega) (by omega)]; omega)]
      rw [q_newRatio (s := s) (by rw [h109]; exact r.m) (by rw [h109]; exact f2) f3 (by omega) (by omega) (by omega), bnd_some, N_J (by omega) (by omega)]
    exact ⟨_, _, _, _, _, _, _, _, _, A, B, (r.outc (Or.inl rfl) _ _ _ _).ratio f3 f4 r4 r3 r5⟩
