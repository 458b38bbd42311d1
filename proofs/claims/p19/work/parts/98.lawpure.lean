/-! ===== the law over a whole script ===== -/
theorem law18_s (L : Nat) (xs : Nat → Int32) (n : Nat) : fL_law_18L L xs (n + 1) = fL_law_18 L xs (fL_law_18L L xs n) := rfl
theorem law_one {L : Nat} (hL : L ≤ 2560) (xs : Nat → Int32) {k : Nat} {K : Nat → Nat → Int32 → AH → Fn Int32} (hK : k + 5 ≤ L → LEnd (K 0 108 (N ((k + 5 : Nat) : Int)))) (hk : k ≤ 2565) : LEnd (fL_law_18 L xs K 0 108 (N (k : Int))) := by
  intro i l x y r
  unfold fL_law_18
  by_cases c : (L : Int) - 5 < k
  · rw [if_pos (by rw [nN, show (5 : Int32) = N 5 by simp only [nk], N_sub, N_lt (by omega) (by omega) (by omega) (by omega)]; exact c)]
    exact ⟨_, rfl⟩
  rw [if_neg (by rw [nN, show (5 : Int32) = N 5 by simp only [nk], N_sub, N_lt (by omega) (by omega) (by omega) (by omega)]; exact c)]
  have e5 : N (k : Int) + 5 = N ((k + 5 : Nat) : Int) := by rw [show (5 : Int32) = N 5 by simp only [nk], N_add]; rfl
  have hk5 : k + 5 ≤ L := by omega
  have hF := hK hk5
  simp only [xI_5 hL xs hk5, wh_eq, e5]
  by_cases c0 : xs k &&& 31 = 0
  · rw [if_pos c0]; exact callC (e_ratio _ _).calm hF r
  rw [if_neg c0]
  by_cases c1 : xs k &&& 31 = 1
  · rw [if_pos c1]; exact callC (e_root _ _ _ _).calm hF r
  rw [if_neg c1]
  by_cases c2 : xs k &&& 31 = 2
  · rw [if_pos c2]; exact callC (c_row _ _).calm hF r
  rw [if_neg c2]
  by_cases c3 : xs k &&& 31 = 3
  · rw [if_pos c3]; exact callC (c_rule _).calm hF r
  rw [if_neg c3]
  by_cases c4 : xs k &&& 31 = 4
  · rw [if_pos c4]; exact callC (c_act _ _ _).calm hF r
  rw [if_neg c4]
  by_cases c5 : xs k &&& 31 = 5
  · rw [if_pos c5]; exact callC (c_turn _).calm hF r
  rw [if_neg c5]
  by_cases c6 : xs k &&& 31 = 6
  · rw [if_pos c6]; exact callC (c_factor _ _).calm hF r
  rw [if_neg c6]
  by_cases c7 : xs k &&& 31 = 7
  · rw [if_pos c7]; exact callC (c_mix _ _).calm hF r
  rw [if_neg c7]
  by_cases c8 : xs k &&& 31 = 8
  · rw [if_pos c8]; exact callC (c_drop _).calm hF r
  rw [if_neg c8]
  by_cases c9 : xs k &&& 31 = 9
  · rw [if_pos c9]; exact callC (c_told _ _).calm hF r
  rw [if_neg c9]
  by_cases c10 : xs k &&& 31 = 10
  · rw [if_pos c10]; exact callC (c_part _ _).calm hF r
  rw [if_neg c10]
  by_cases c11 : xs k &&& 31 = 11
  · rw [if_pos c11]; exact callC (c_exact _ _).calm hF r
  rw [if_neg c11]
  by_cases c12 : xs k &&& 31 = 12
  · rw [if_pos c12]; exact callC (c_round _ _).calm hF r
  rw [if_neg c12]
  by_cases c13 : xs k &&& 31 = 13
  · rw [if_pos c13]; exact callC (c_sign _).calm hF r
  rw [if_neg c13]
  by_cases c14 : xs k &&& 31 = 14
  · rw [if_pos c14]; exact callC (c_compare _ _).calm hF r
  rw [if_neg c14]
  by_cases c15 : xs k &&& 31 = 15
  · rw [if_pos c15]; exact callC (c_near _ _ _).calm hF r
  rw [if_neg c15]
  by_cases c16 : xs k &&& 31 = 16
  · rw [if_pos c16]; exact callC (calm_best _ _ _ _) hF r
  rw [if_neg c16]
  by_cases c17 : xs k &&& 31 = 17
  · rw [if_pos c17]; exact callA (c_figure _ _ _) hF r
  rw [if_neg c17]
  by_cases c18 : xs k &&& 31 = 18
  · rw [if_pos c18]; exact callC (c_roll _ _).calm hF r
  rw [if_neg c18]
  by_cases c19 : xs k &&& 31 = 19
  · rw [if_pos c19]; exact callC (c_count _).calm hF r
  rw [if_neg c19]
  exact hF i l x y r
theorem law_run {L : Nat} (hL : L ≤ 2560) (xs : Nat → Int32) : ∀ (z j : Nat), 514 ≤ j + z → j ≤ 513 → LEnd (fL_law_18L L xs z 0 108 (N ((5 * j : Nat) : Int))) := by
  intro z
  induction z with
  | zero => intro j hz hj; exact absurd hz (by omega)
  | succ z ih =>
    intro j hz hj
    rw [law18_s]
    refine law_one hL xs (fun hk => ?_) (by omega)
    have h := ih (j + 1) (by omega) (by omega)
    rw [show 5 * (j + 1) = 5 * j + 5 by omega] at h
    exact h
theorem nw_eq {ρ : Type} (h : AH) (c N : Nat) (F : Nat → AH → Fn ρ) : nw h c N F = F (Hn h) (HpN h c N) := rfl
theorem h00_eq : h00 = h00x := rfl
theorem h00_n : Hn h00x = 0 := rfl
theorem law_pure : LawPure := by
  intro L xs hL
  have e : fL_law L xs h00 = fL_law_18L L xs 1000 0 108 0 hC := by
    unfold fL_law
    rw [h00_eq, nw_eq, h00_n, hC1_ok, bnd_some, nw_eq, hC1_n, hC2_ok, bnd_some]
  have e0 : (0 : Int32) = N ((5 * 0 : Nat) : Int) := by decide
  rw [e, e0, hC_q]
  exact law_run hL xs 1000 0 (by omega) (by omega) _ _ _ _ Rel.start
