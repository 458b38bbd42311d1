/-! ===== calls: sign, part ===== -/
theorem n60 : (60 : Int32) = N 60 := by simp only [nk]
theorem c_sign (a : Int32) : Agree (fX8_sign 0 a) (fX9_sign 108 a) := by
  intro i l x y r
  rcases r.who (x := x) (y := y) a with ⟨f, g⟩ | ⟨s, hs, rfl, h1, sd, f, g⟩
  · refine agree_of (-2000000000000000001) r ?_ ?_
    · unfold fX8_sign
      rw [cv_q s0T, f, bnd_some, on_none]
    · unfold fX9_sign
      rw [cv_q s9T, g, bnd_some, if10]
  · obtain ⟨-, ⟨n1, n2, n3⟩, ⟨d1, d2⟩, -, hp, -⟩ := sd
    have st := (St_s hs).1.1
    have e : ((s : Int)).toNat = s := by omega
    have A : ∀ (t q : Nat) (F : Int32 → Fn Int64), S0 q = some (100 + t, 40) → aI (hq i l x y) t q (N s) F = F (N (i q s)) := fun t q F hq => by
      rw [aI_q hq (by omega) (by omega) (by omega), e]
    have z0 : ∀ v : Int, 0 ≤ v → v ≤ 60 → (N v = 0 ↔ v = 0) := fun v h1 h2 => by
      rw [nk.1, N_eq (by omega) (by omega) (by omega) (by omega)]
    by_cases c : i 111 s = 0
    · refine agree_of (-2000000000000000006) r ?_ ?_
      · unfold fX8_sign
        rw [cv_q s0T, f, bnd_some, on_some, gI_q st, n1, if_pos ((z0 _ n2 n3).mpr c)]
      · unfold fX9_sign
        rw [cv_q s9T, g, bnd_some, if_pos rfl, gR_q s9T, show rr x y 108 3 = some 111 by simp only [srT], nn_some, A 0 111 _ (by simp only [shT, Nat.add_zero]), if_pos ((z0 _ n2 n3).mpr c)]
    · have c' := fun z => c ((z0 _ n2 n3).mp z)
      have hp0 := (hp 0 (by omega)).1
      have P : fX7_partAt (2 * s + 28) 0 (hq i l x y) = some (J (l 113 (60 * s)), hq i l x y) := by
        rw [nk.1, q_partAt (St_s hs) (by omega) (by omega), if_neg (by omega)]
        rw [show l (2 * s + 28 + 1) (0 : Int).toNat = l 113 (60 * s) from hp0]
      have Q : ∀ F : Int64 → Fn Int64, aL (hq i l x y) 1 113 (60 * N s) F = F (J (l 113 (60 * s))) := fun F => by
        rw [n60, N_mul, aL_q (n := 2400) (by simp only [shT]) (by omega) (by omega) (by omega), show ((60 : Int) * (s : Int)).toNat = 60 * s by omega]
      refine agree_of (if J (l 113 (60 * s)) = 0 then (if N (i 111 s) ≤ 1 then (if N (i 112 s) = 0 then -2000000000000000006 else 0) else 1) else (if 0 ≤ J (l 113 (60 * s)) then 1 else -1)) r ?_ ?_
      · unfold fX8_sign
        rw [cv_q s0T, f, bnd_some, on_some, gI_q st, n1, if_neg c', cv_q st, P, bnd_some, gI_q st, n1, gI_q st, d1]
        split
        · split
          · split <;> rfl
          · rfl
        · split <;> rfl
      · unfold fX9_sign
        rw [cv_q s9T, g, bnd_some, if_pos rfl, gR_q s9T, show rr x y 108 3 = some 111 by simp only [srT], nn_some, A 0 111 _ (by simp only [shT, Nat.add_zero]), if_neg c', gR_q s9T, show rr x y 108 5 = some 113 by simp only [srT], nn_some, Q, gR_q s9T, show rr x y 108 3 = some 111 by simp only [srT], nn_some, A 0 111 _ (by simp only [shT, Nat.add_zero]), gR_q s9T, show rr x y 108 4 = some 112 by simp only [srT], nn_some, A 2 112 _ (by simp only [shT])]
        split
        · split
          · split <;> rfl
          · rfl
        · split <;> rfl
theorem c_part (a b : Int32) : Agree (fX8_part 0 a b) (fX9_part 108 a b) := by
  intro i l x y r
  rcases r.who (x := x) (y := y) a with ⟨f, g⟩ | ⟨s, hs, rfl, h1, sd, f, g⟩
  · refine agree_of (-2000000000000000001) r ?_ ?_
    · unfold fX8_part
      rw [cv_q s0T, f, bnd_some, on_none]
    · unfold fX9_part
      rw [cv_q s9T, g, bnd_some, if10]
  · obtain ⟨-, ⟨n1, n2, n3⟩, ⟨d1, d2⟩, -, hp, -⟩ := sd
    have hb := N_rng b
    rw [N_of b]
    generalize b.toInt = k at *
    have st := (St_s hs).1.1
    have e : ((s : Int)).toNat = s := by omega
    have A : ∀ (t q : Nat) (F : Int32 → Fn Int64), S0 q = some (100 + t, 40) → aI (hq i l x y) t q (N s) F = F (N (i q s)) := fun t q F hq => by
      rw [aI_q hq (by omega) (by omega) (by omega), e]
    have B : ∀ (t q : Nat) (F : Int32 → Fn Int32), S0 q = some (100 + t, 40) → aI (hq i l x y) t q (N s) F = F (N (i q s)) := fun t q F hq => by
      rw [aI_q hq (by omega) (by omega) (by omega), e]
    have o1 : fX7_isBeyond (2 * s + 28) (N k) (hq i l x y) = some (if N k < 0 then 1 else (if N (i 112 s) = 0 then 0 else (if N k < N (i 111 s) then 0 else 1)), hq i l x y) := by
      unfold fX7_isBeyond
      rw [gI_q st, d1, gI_q st, n1]
      split
      · rfl
      · split
        · rfl
        · split <;> rfl
    have o2 : fX9_isBehind 108 (N s) (N k) (hq i l x y) = some (if N k < 0 then 1 else (if N (i 112 s) = 0 then 0 else (if N k < N (i 111 s) then 0 else 1)), hq i l x y) := by
      unfold fX9_isBehind
      rw [gR_q s9T, show rr x y 108 4 = some 112 by simp only [srT], nn_some, B 2 112 _ (by simp only [shT]), gR_q s9T, show rr x y 108 3 = some 111 by simp only [srT], nn_some, B 0 111 _ (by simp only [shT, Nat.add_zero])]
      split
      · rfl
      · split
        · rfl
        · split <;> rfl
    have hk : (if N k < 0 then (1 : Int32) else (if N (i 112 s) = 0 then 0 else (if N k < N (i 111 s) then 0 else 1))) = 0 → 0 ≤ k := fun z => by
      rcases Int.lt_or_le k 0 with q | q
      · rw [if_pos (by rw [nk.1, N_lt (by omega) (by omega) (by omega) (by omega)]; exact q)] at z
        exact absurd z (by decide)
      · exact q
    generalize (if N k < 0 then (1 : Int32) else (if N (i 112 s) = 0 then 0 else (if N k < N (i 111 s) then 0 else 1))) = o at *
    by_cases co : o = 0
    · have k0 := hk co
      by_cases ck : i 111 s ≤ k
      · have ck' : N (i 111 s) ≤ N k := by rw [N_le (by omega) (by omega) (by omega) (by omega)]; exact ck
        refine agree_of (-2000000000000000006) r ?_ ?_
        · unfold fX8_part
          rw [cv_q s0T, f, bnd_some, on_some, cv_q st, o1, bnd_some, if_pos co, gI_q st, n1, if_pos ck']
        · unfold fX9_part
          rw [cv_q s9T, g, bnd_some, if_pos rfl, cv_q s9T, o2, bnd_some, if_pos co, gR_q s9T, show rr x y 108 3 = some 111 by simp only [srT], nn_some, A 0 111 _ (by simp only [shT, Nat.add_zero]), if_pos ck']
      · have ck' : ¬ (N (i 111 s) ≤ N k) := by rw [N_le (by omega) (by omega) (by omega) (by omega)]; exact ck
        have hpk := (hp k.toNat (by omega)).1
        refine agree_of (J (l 113 (60 * s + k.toNat))) r ?_ ?_
        · unfold fX8_part
          rw [cv_q s0T, f, bnd_some, on_some, cv_q st, o1, bnd_some, if_pos co, gI_q st, n1, if_neg ck', cv_q st, q_partAt (St_s hs) hb.1 hb.2, bnd_some, if_neg (by omega)]
          rw [show l (2 * s + 28 + 1) k.toNat = l 113 (60 * s + k.toNat) from hpk]
        · unfold fX9_part
          rw [cv_q s9T, g, bnd_some, if_pos rfl, cv_q s9T, o2, bnd_some, if_pos co, gR_q s9T, show rr x y 108 3 = some 111 by simp only [srT], nn_some, A 0 111 _ (by simp only [shT, Nat.add_zero]), if_neg ck', gR_q s9T, show rr x y 108 5 = some 113 by simp only [srT], nn_some, n60, N_mul, N_add, aL_q (n := 2400) (by simp only [shT]) (by omega) (by omega) (by omega), show ((60 : Int) * (s : Int) + k).toNat = 60 * s + k.toNat by omega]
    · refine agree_of (-2000000000000000002) r ?_ ?_
      · unfold fX8_part
        rw [cv_q s0T, f, bnd_some, on_some, cv_q st, o1, bnd_some, if_neg co]
      · unfold fX9_part
        rw [cv_q s9T, g, bnd_some, if_pos rfl, cv_q s9T, o2, bnd_some, if_neg co]
