/-! ===== calls: root (2) ===== -/
theorem q_beyond {a m : Int} (h1 : -2147483648 ≤ a) (h2 : a ≤ 2147483647) (h3 : 0 ≤ m) (h4 : m ≤ 2147483647) (h : AH) : fX8_beyond (N a) (N m) h = some (if m < a ∨ a < -m then 1 else 0, h) := by
  unfold fX8_beyond
  rw [N_neg]
  simp (disch := omega) only [N_lt, N_le]
  by_cases c1 : m < a
  · rw [if_pos c1, if_pos (Or.inl c1)]
  · rw [if_neg c1]
    by_cases c2 : -m ≤ a
    · rw [if_pos c2, if_neg (by omega)]
    · rw [if_neg c2, if_pos (by omega)]
abbrev rootOut (a b n d : Int) : Prop := (10000 < a ∨ a < -10000) ∨ (100 < b ∨ b < -100) ∨ (1000 < d ∨ d < -1000) ∨ d = 0 ∨ n < 0 ∨ 1000 < n
/-- the square's side in n, and the rest -/
def rsd (n : Int) : Int := if n = 0 then 0 else (sd 31 n.toNat : Int)
def rrs (n : Int) : Int := if n = 0 then 1 else ((n.toNat / (sd 31 n.toNat * sd 31 n.toNat) : Nat) : Int)
theorem rrs_ok {n : Int} (h1 : 0 ≤ n) (h2 : n ≤ 1000) : (0 ≤ rsd n ∧ rsd n ≤ 31) ∧ (1 ≤ rrs n ∧ rrs n ≤ 1000) ∧ (n ≠ 0 → rsd n * rsd n * rrs n = n) ∧ (rrs n = 1 ∨ (2 ≤ rrs n ∧ ∀ m : Int, m * m ≠ rrs n)) := by
  unfold rsd rrs
  by_cases c : n = 0
  · rw [if_pos c, if_pos c]
    exact ⟨by omega, by omega, fun z => absurd c z, Or.inl rfl⟩
  · rw [if_neg c, if_neg c]
    obtain ⟨e1, e2, e3, e4, e5⟩ := sq_all n.toNat (by omega) (by omega)
    have e6 := sq_non n.toNat (by omega) (by omega)
    have hle : n.toNat / (sd 31 n.toNat * sd 31 n.toNat) ≤ n.toNat := Nat.div_le_self _ _
    have hmul : sd 31 n.toNat * sd 31 n.toNat * (n.toNat / (sd 31 n.toNat * sd 31 n.toNat)) = n.toNat := Nat.mul_div_cancel' (Nat.dvd_of_mod_eq_zero e4)
    generalize hq : n.toNat / (sd 31 n.toNat * sd 31 n.toNat) = q at *
    generalize sd 31 n.toNat = w at *
    refine ⟨by omega, by omega, fun _ => ?_, ?_⟩
    · have : ((w * w * q : Nat) : Int) = (n.toNat : Int) := by rw [hmul]
      rw [Int.natCast_mul, Int.natCast_mul] at this
      omega
    · rcases e6 with z | z
      · exact Or.inl (by omega)
      · right
        refine ⟨?_, nonsq_of (by omega) z⟩
        have := z 1 (by omega)
        omega
theorem c_root {a b n d : Int} (ha1 : -2147483648 ≤ a) (ha2 : a ≤ 2147483647) (hb1 : -2147483648 ≤ b) (hb2 : b ≤ 2147483647) (hn1 : -2147483648 ≤ n) (hn2 : n ≤ 2147483647) (hd1 : -2147483648 ≤ d) (hd2 : d ≤ 2147483647) : Agree (fX8_root 0 (N a) (N b) (N n) (N d)) (fX9_root 108 (N a) (N b) (N n) (N d)) := by
  intro i l x y r
  have s0 : S0 0 = some (8, 0) := by simp only [shT]
  have s7 : S0 7 = some (3, 0) := by simp only [shT]
  have s9 : S0 108 = some (9, 0) := by simp only [shT]
  have g6 : rr x y 0 6 = some 7 := by simp only [srT]
  have C : fX8_root 0 (N a) (N b) (N n) (N d) (hq i l x y) = if rootOut a b n d then some (-2000000000000000002, hq i l x y) else if N (lfr (thr i) 40 0) = N (-1) then some (-2000000000000000004, hq i l x y) else fX8_placeOutcome 0 (N (lfr (thr i) 40 0)) (hq i (if rrs n = 1 then oc l 7 (a + b * rsd n) 0 0 d else oc l 7 a (b * rsd n) (rrs n) d) x y) := by
    unfold fX8_root
    simp only [nk]
    rw [q_beyond ha1 ha2 (by omega) (by omega), bnd_some, ← nk.1, bif0]
    by_cases c1 : 10000 < a ∨ a < -10000
    · rw [if_pos c1, if_pos (Or.inl c1)]
    rw [if_neg c1, q_beyond hb1 hb2 (by omega) (by omega), bnd_some, bif0]
    by_cases c2 : 100 < b ∨ b < -100
    · rw [if_pos c2, if_pos (Or.inr (Or.inl c2))]
    rw [if_neg c2, q_beyond hd1 hd2 (by omega) (by omega), bnd_some, bif0]
    by_cases c3 : 1000 < d ∨ d < -1000
    · rw [if_pos c3, if_pos (Or.inr (Or.inr (Or.inl c3)))]
    rw [if_neg c3]
    simp only [nk]
    simp (disch := omega) only [N_eq, N_lt, N_le]
    by_cases c4 : d = 0
    · rw [if_pos c4, if_pos (by omega)]
    by_cases c5 : n < 0
    · rw [if_neg c4, if_pos c5, if_pos (by omega)]
    by_cases c6 : n ≤ 1000
    · rw [if_neg c4, if_neg c5, if_pos c6, if_neg (by omega), cv_q s0, q_leastFree r.t, bnd_some, N_neg]
      by_cases c7 : N (lfr (thr i) 40 0) = N (-1)
      · rw [if_pos c7, if_pos c7]
      rw [if_neg c7, if_neg c7]
      have hnn : N n = N ((n.toNat : Nat) : Int) := by congr 1; omega
      rw [hnn, q_sideOf _ (by omega), bnd_some, ← hnn]
      have hsd : (if n.toNat = 0 then (0 : Int) else (sd 31 n.toNat : Int)) = rsd n := by
        unfold rsd
        by_cases c : n = 0
        · rw [if_pos c, if_pos (by omega)]
        · rw [if_neg c, if_neg (by omega)]
      rw [hsd]
      obtain ⟨⟨k1, k2⟩, ⟨k3, k4⟩, k5, k6⟩ := rrs_ok (n := n) (by omega) c6
      have hbs : (b * rsd n).natAbs ≤ 3100 := by
        rw [Int.natAbs_mul]
        have := Nat.mul_le_mul (show b.natAbs ≤ 100 by omega) (show (rsd n).natAbs ≤ 31 by omega)
        omega
      have key : fX8_root_88 0 (N a) (N b) (N d) (N (lfr (thr i) 40 0)) (N (rsd n)) (N (rrs n)) (hq i l x y) = fX8_placeOutcome 0 (N (lfr (thr i) 40 0)) (hq i (if rrs n = 1 then oc l 7 (a + b * rsd n) 0 0 d else oc l 7 a (b * rsd n) (rrs n) d) x y) := by
        unfold fX8_root_88
        simp only [nk, jk, N_J ha1 ha2, N_J hb1 hb2, N_J hd1 hd2, N_J (show -2147483648 ≤ rsd n by omega) (by omega), N_J (show -2147483648 ≤ rrs n by omega) (by omega), J_mul, J_add]
        rw [gR_q s0, g6, nn_some, cv_q s7, q_become s7, bnd_some, cv_q s0, gR_q s0, g6, nn_some, cv_q s7, q_become s7, bnd_some, cv_q s0]
        simp (disch := omega) only [N_eq]
        by_cases c8 : rrs n = 1
        · rw [if_pos c8, if_pos c8]
          generalize fX8_placeOutcome 0 (N (lfr (thr i) 40 0)) (hq i (oc l 7 (a + b * rsd n) 0 0 d) x y) = z
          cases z <;> rfl
        · rw [if_neg c8, if_neg c8]
          generalize fX8_placeOutcome 0 (N (lfr (thr i) 40 0)) (hq i (oc l 7 a (b * rsd n) (rrs n) d) x y) = z
          cases z <;> rfl
      rw [← key]
      have hss : rsd n * rsd n ≤ 31 * 31 := Int.mul_le_mul k2 k2 k1 (by omega)
      have hss0 : 0 ≤ rsd n * rsd n := Int.mul_nonneg k1 k1
      by_cases c9 : n = 0
      · have e1 : rsd n = 0 := if_pos c9
        have e2 : rrs n = 1 := if_pos c9
        rw [e1, e2, if_pos rfl]
      · have e1 : 1 ≤ rsd n := by
          have : rsd n ≠ 0 := by
            intro z
            have := k5 c9
            rw [z] at this
            simp at this
            omega
          omega
        have e2 : 1 * 1 ≤ rsd n * rsd n := Int.mul_le_mul e1 e1 (by omega) (by omega)
        have e3 : n.tdiv (rsd n * rsd n) = rrs n := by
          have h5 := k5 c9
          generalize rsd n = w at *
          generalize rrs n = q at *
          subst h5
          exact Int.mul_tdiv_cancel_left _ (by omega)
        rw [if_neg (by rw [N_eq (by omega) (by omega) (by omega) (by omega)]; omega), N_mul, ck_t (by rw [N_eq (by omega) (by omega) (by omega) (by omega)]; omega), N_div (by omega) (by omega) (by omega) (by omega), e3]
    · rw [if_neg c4, if_neg c5, if_neg c6, if_pos (by omega)]
  have M : ∀ (i1 l1 : Nat → Nat → Int), fX9_root 108 (N a) (N b) (N n) (N d) (hq i1 l1 x y) = if rootOut a b n d then some (-2000000000000000002, hq i1 l1 x y) else if N (i1 108 10) = N 40 then some (-2000000000000000004, hq i1 l1 x y) else if rrs n = 1 ∨ b * rsd n = 0 then bnd (fX9_newRatio 108 (J (a + (if rrs n = 1 then b * rsd n else 0))) (J d) (hq i1 l1 x y)) (fun x107 h106 => some ((Int32.toInt64 x107), h106)) else bnd (fX9_put 108 (J a) (J (b * rsd n)) (J (rrs n)) (J d) (hq i1 l1 x y)) (fun x107 h106 => some ((Int32.toInt64 x107), h106)) := by
    intro i1 l1
    unfold fX9_root
    simp only [jk, nk, J_neg, N_J ha1 ha2, N_J hb1 hb2, N_J hd1 hd2, N_J hn1 hn2]
    rw [q_in (by omega) (by omega) (by omega) (by omega) (by omega) (by omega), bnd_some, ← nk.1, bif0]
    by_cases c1 : 10000 < a ∨ a < -10000
    · rw [if_neg (by omega), if_pos (Or.inl c1)]
    rw [if_pos (by omega), q_in (by omega) (by omega) (by omega) (by omega) (by omega) (by omega), bnd_some, bif0]
    by_cases c2 : 100 < b ∨ b < -100
    · rw [if_neg (by omega), if_pos (Or.inr (Or.inl c2))]
    rw [if_pos (by omega), q_in (by omega) (by omega) (by omega) (by omega) (by omega) (by omega), bnd_some, bif0]
    by_cases c3 : 1000 < d ∨ d < -1000
    · rw [if_neg (by omega), if_pos (Or.inr (Or.inr (Or.inl c3)))]
    rw [if_pos (by omega), nk.1]
    by_cases c4 : d = 0
    · rw [if_pos (by rw [N_eq (by omega) (by omega) (by omega) (by omega)]; exact c4), if_pos (by omega)]
    rw [if_neg (by rw [N_eq (by omega) (by omega) (by omega) (by omega)]; exact c4), q_in (by omega) (by omega) (by omega) (by omega) (by omega) (by omega), bnd_some, ← nk.1, bif0]
    by_cases c5 : n < 0 ∨ 1000 < n
    · rw [if_neg (by omega), if_pos (by omega)]
    rw [if_pos (by omega), if_neg (by omega), gI_q s9, wh_eq, wh_eq]
    by_cases c6 : N (i1 108 10) = N 40
    · rw [if_pos c6, if_pos c6]
    rw [if_neg c6, if_neg c6]
    obtain ⟨⟨k1, k2⟩, ⟨k3, k4⟩, k5, k6⟩ := rrs_ok (n := n) (by omega) (by omega)
    have hbs : (b * rsd n).natAbs ≤ 3100 := by
      rw [Int.natAbs_mul]
      have := Nat.mul_le_mul (show b.natAbs ≤ 100 by omega) (show (rsd n).natAbs ≤ 31 by omega)
      omega
    have e0 := q_r90 (N a) (N d) b (hq i1 l1 x y) 31 n.toNat 1 2 1000 (by omega) (by omega) (by omega) (by omega)
    rw [show ((n.toNat : Nat) : Int) = n by omega, show b * ((1 : Nat) : Int) = b by simp] at e0
    rw [show J 2 = J ((2 : Nat) : Int) from rfl, e0]
    unfold fX9_root_150 fX9_root_166
    simp only [N_J ha1 ha2, N_J hd1 hd2, jk, J_add, cv_q s9]
    by_cases c9 : n = 0
    · subst c9
      have e1 : rsd 0 = 0 := rfl
      have e2 : rrs 0 = 1 := rfl
      have e3 : ouq 31 (0 : Int).toNat 1 2 = (0, 1) := by decide
      rw [e1, e2, e3]
      simp (disch := omega) only [J_lt, J_eq]
      simp
    · obtain ⟨e1, -⟩ := sq_all n.toNat (by omega) (by omega)
      have e2 : rsd n = (sd 31 n.toNat : Int) := if_neg c9
      have e3 : rrs n = ((n.toNat / (sd 31 n.toNat * sd 31 n.toNat) : Nat) : Int) := if_neg c9
      rw [e1]
      dsimp only
      rw [← e2, ← e3]
      simp (disch := omega) only [J_lt, J_eq]
      rcases k6 with z | ⟨z, -⟩
      · rw [if_pos (by omega), if_pos (by omega), if_pos (Or.inl z), if_pos z]
      · rw [if_neg (by omega)]
        by_cases c10 : b * rsd n = 0
        · rw [if_pos c10, if_neg (by omega), if_pos (Or.inr c10), if_neg (by omega)]
        · rw [if_neg c10, if_neg (by omega)]
  by_cases c : rootOut a b n d
  · refine agree_of (-2000000000000000002) r ?_ ?_
    · rw [C, if_pos c]
    · rw [M, if_pos c]
  obtain ⟨⟨k1, k2⟩, ⟨k3, k4⟩, k5, k6⟩ := rrs_ok (n := n) (by omega) (by omega)
  have hbs : (b * rsd n).natAbs ≤ 3100 := by
    rw [Int.natAbs_mul]
    have := Nat.mul_le_mul (show b.natAbs ≤ 100 by omega) (show (rsd n).natAbs ≤ 31 by omega)
    omega
  rcases r.free with ⟨f1, f2⟩ | ⟨s, f1, f2, f3, f4, f5, f6⟩
  · refine agree_of (-2000000000000000004) r ?_ ?_
    · rw [C, if_neg c, f1, if_pos rfl]
    · rw [M, if_neg c, f2, if_pos rfl]
  have hn1 : ¬ (N (s : Int) = N (-1)) := by rw [N_eq (by omega) (by omega) (by omega) (by omega)]; omega
  have hst : ∀ (i1 : Nat → Nat → Int), i1 108 10 = i 108 10 → ¬ (N (i1 108 10) = N 40) := fun i1 e => by rw [e, N_eq (by omega) (by omega) (by omega) (by omega)]; omega
  by_cases c1 : rrs n = 1 ∨ b * rsd n = 0
  · -- a ratio
    have R : ∀ u : Int, u.natAbs ≤ 20000 → ∃ L1 : Nat → Nat → Int, (L1 = oc l 7 (u.tdiv (rby u d)) 0 0 (d.tdiv (rby u d)) ∨ L1 = oc l 7 (u.tdiv (rby u d)) 0 (rrs n) (d.tdiv (rby u d))) → True := fun u _ => ⟨l, fun _ => trivial⟩
    obtain ⟨u, hu, hu2⟩ : ∃ u : Int, u = a + (if rrs n = 1 then b * rsd n else 0) ∧ u.natAbs ≤ 20000 := ⟨_, rfl, by split <;> omega⟩
    obtain ⟨r1, r2, r3, r4, r5⟩ := rby_ok (u := u) (v := d) (by omega) (by omega) (by omega)
    obtain ⟨n', hn', hn2'⟩ : ∃ n' : Int, (if rrs n = 1 then oc l 7 (a + b * rsd n) 0 0 d else oc l 7 a (b * rsd n) (rrs n) d) = oc l 7 u 0 n' d ∧ (0 ≤ n' ∧ n' ≤ 1000) := by
      by_cases c2 : rrs n = 1
      · rw [if_pos c2] at hu ⊢
        exact ⟨0, by rw [hu], by omega⟩
      · rw [if_neg c2] at hu ⊢
        rcases c1 with z | z
        · exact absurd z c2
        · exact ⟨rrs n, by rw [z, hu, Int.add_zero], by omega⟩
    have A : fX8_root 0 (N a) (N b) (N n) (N d) (hq i l x y) = some (J s, hq (crI i s (u.tdiv (rby u d)) (d.tdiv (rby u d))) (crL (oc l 7 (u.tdiv (rby u d)) 0 n' (d.tdiv (rby u d))) s (u.tdiv (rby u d)) (d.tdiv (rby u d))) x y) := by
      rw [C, if_neg c, f1, if_neg hn1, hn', q_placeOutcome f3 (oc_0 _ _ _ _ _ _) (oc_1 _ _ _ _ _ _) (oc_2 _ _ _ _ _ _) (oc_3 _ _ _ _ _ _) (by omega) (by omega) (by omega) (by omega) (fun z => absurd rfl z)]
      rw [if_neg (by omega), Int.zero_tdiv, if_pos rfl, lsg_rby, oc_oc]
    have B : fX9_root 108 (N a) (N b) (N n) (N d) (hq (crI i s (u.tdiv (rby u d)) (d.tdiv (rby u d))) (crL (oc l 7 (u.tdiv (rby u d)) 0 n' (d.tdiv (rby u d))) s (u.tdiv (rby u d)) (d.tdiv (rby u d))) x y) = some (J s, hq (mrI (crI i s (u.tdiv (rby u d)) (d.tdiv (rby u d))) s (u.tdiv (rby u d)) (d.tdiv (rby u d))) (mrL (crL (oc l 7 (u.tdiv (rby u d)) 0 n' (d.tdiv (rby u d))) s (u.tdiv (rby u d)) (d.tdiv (rby u d))) s (u.tdiv (rby u d)) (d.tdiv (rby u d))) x y) := by
      have h109 : crI i s (u.tdiv (rby u d)) (d.tdiv (rby u d)) 109 = i 109 := by funext j; rw [crI_n _ _ _ _ (by omega)]
      rw [M, if_neg c, if_neg (hst _ (crI_n _ _ _ _ (by omega) _)), if_pos c1, ← hu]
      rw [q_newRatio (s := s) (by rw [h109]; exact r.m) (by rw [h109]; exact f2) f3 (by omega) (by omega) (by omega), bnd_some, N_J (by omega) (by omega)]
    exact ⟨_, _, _, _, _, _, _, _, _, A, B, (r.outc (Or.inl rfl) _ _ _ _).ratio f3 f4 r4 r3 r5⟩
  · have c2 : rrs n ≠ 1 := fun z => c1 (Or.inl z)
    have c3 : b * rsd n ≠ 0 := fun z => c1 (Or.inr z)
    obtain ⟨k7, k8⟩ : 2 ≤ rrs n ∧ ∀ m : Int, m * m ≠ rrs n := by
      rcases k6 with z | z
      · exact absurd z c2
      · exact z
    have hne : n ≠ 0 := fun z => c2 (if_pos z)
    have hsq : b * rsd n * (b * rsd n) * rrs n ≤ 10000000 := by
      have e1 : b * rsd n * (b * rsd n) * rrs n = b * b * n := by
        have := k5 hne
        rw [← this]
        grind
      have e2 : b * b ≤ 100 * 100 := sq_le_abs (by omega) (by omega)
      have e3 : b * b * n ≤ 100 * 100 * 1000 := Int.mul_le_mul e2 (by omega) (by omega) (by omega)
      rw [e1]
      omega
    generalize hB : b * rsd n = B at *
    generalize rrs n = q at *
    obtain ⟨d1, d2⟩ := lsg_ok (a := a) (b := B) (d := d) (by omega) (by omega)
    have ta := tdiv_abs_le a (lsg a B d)
    have tb := tdiv_abs_le B (lsg a B d)
    have td := tdiv_abs_le d (lsg a B d)
    have hBne : B.tdiv (lsg a B d) ≠ 0 := by
      intro z
      have hdv : lsg a B d ∣ B := by
        unfold lsg
        split
        · exact (lg_dvd a B d).2.1
        · exact Int.neg_dvd.mpr (lg_dvd a B d).2.1
      have := Int.mul_tdiv_cancel' hdv
      rw [z, Int.mul_zero] at this
      exact c3 this.symm
    have hsq2 : B.tdiv (lsg a B d) * B.tdiv (lsg a B d) * q ≤ 10000000 := by
      have e1 : B.tdiv (lsg a B d) * B.tdiv (lsg a B d) ≤ B * B := by
        have := Nat.mul_le_mul tb tb
        rw [← Int.natAbs_mul_self, ← Int.natAbs_mul_self (a := B)]
        omega
      have e2 : B.tdiv (lsg a B d) * B.tdiv (lsg a B d) * q ≤ B * B * q := Int.mul_le_mul_of_nonneg_right e1 (by omega)
      omega
    have hr : RootOK (a.tdiv (lsg a B d)) (B.tdiv (lsg a B d)) q (d.tdiv (lsg a B d)) := ⟨⟨d1, by omega⟩, by omega, ⟨hBne, k7⟩, hsq2, k8⟩
    have A : fX8_root 0 (N a) (N b) (N n) (N d) (hq i l x y) = some (J s, hq (ctI i s) (ctL (oc l 7 (a.tdiv (lsg a B d)) (B.tdiv (lsg a B d)) q (d.tdiv (lsg a B d))) s (a.tdiv (lsg a B d)) (B.tdiv (lsg a B d)) q (d.tdiv (lsg a B d))) x y) := by
      rw [C, if_neg c, f1, if_neg hn1, if_neg c2, q_placeOutcome f3 (oc_0 _ _ _ _ _ _) (oc_1 _ _ _ _ _ _) (oc_2 _ _ _ _ _ _) (oc_3 _ _ _ _ _ _) (by omega) (by omega) (by omega) (by omega) (fun _ => ⟨k7, k8⟩)]
      rw [if_neg (by omega), if_neg hBne, if_neg (by omega), oc_oc]
    have Bm : fX9_root 108 (N a) (N b) (N n) (N d) (hq (ctI i s) (ctL (oc l 7 (a.tdiv (lsg a B d)) (B.tdiv (lsg a B d)) q (d.tdiv (lsg a B d))) s (a.tdiv (lsg a B d)) (B.tdiv (lsg a B d)) q (d.tdiv (lsg a B d))) x y) = some (J s, hq (mtI (ctI i s) s) (mtL (mtN (ctL (oc l 7 (a.tdiv (lsg a B d)) (B.tdiv (lsg a B d)) q (d.tdiv (lsg a B d))) s (a.tdiv (lsg a B d)) (B.tdiv (lsg a B d)) q (d.tdiv (lsg a B d))) s (a.tdiv (lsg a B d)) (B.tdiv (lsg a B d)) q (d.tdiv (lsg a B d))) s (rD (B.tdiv (lsg a B d)) q (d.tdiv (lsg a B d))) (rR (B.tdiv (lsg a B d)) q (d.tdiv (lsg a B d))) (rX (a.tdiv (lsg a B d)) (B.tdiv (lsg a B d)) (d.tdiv (lsg a B d))) (rY (B.tdiv (lsg a B d)) (d.tdiv (lsg a B d))) 61 60) x y) := by
      have h109 : ctI i s 109 = i 109 := by funext j; rw [ctI_n _ _ (by omega)]
      rw [M, if_neg c, if_neg (hst _ (ctI_n _ _ (by omega) _)), if_neg c1, q_put (by omega) (by omega) (by omega) (by omega) c3, ck_t rfl, cv_q s9]
      rw [q_newRoot (s := s) (by rw [h109]; exact r.m) (by rw [h109]; exact f2) f3 hr, bnd_some, bnd_some, N_J (by omega) (by omega)]
    exact ⟨_, _, _, _, _, _, _, _, _, A, Bm, (r.outc (Or.inl rfl) _ _ _ _).root f3 f4 hr⟩
