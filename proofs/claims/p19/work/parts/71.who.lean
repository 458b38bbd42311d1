/-! ===== which stream a call means ===== -/
section WHO
variable {i l : Nat → Nat → Int} {x y : Option Nat}
theorem Rel.who (r : Rel i l) (a : Int32) : (fX8_find 0 a (hq i l x y) = some (none, hq i l x y) ∧ fX9_noStream 108 a (hq i l x y) = some (1, hq i l x y)) ∨ ∃ s : Nat, s < 40 ∧ a = N s ∧ i 109 s = 1 ∧ SD i l s ∧ fX8_find 0 a (hq i l x y) = some (some (2 * s + 28), hq i l x y) ∧ fX9_noStream 108 a (hq i l x y) = some (0, hq i l x y) := by
  have h := q_find (x := x) (y := y) (l := l) r.t (N_rng a).1 (N_rng a).2
  have g := q_noStream (x := x) (y := y) (l := l) r.m (N_rng a).1 (N_rng a).2
  rw [← N_of] at h g
  by_cases c : 0 ≤ a.toInt ∧ a.toInt < 40 ∧ i 109 a.toInt.toNat ≠ 0
  · obtain ⟨c1, c2, c3⟩ := c
    obtain ⟨e1, e2, e3⟩ := r.1 a.toInt.toNat (by omega)
    right
    have e4 : i 109 a.toInt.toNat = 1 := by
      rcases e2 with z | z
      · exact absurd z c3
      · exact z
    refine ⟨a.toInt.toNat, by omega, ?_, e4, e3 e4, ?_, ?_⟩
    · rw [show ((a.toInt.toNat : Nat) : Int) = a.toInt by omega, ← N_of]
    · rw [h, if_pos ⟨c1, c2, by rw [e1]; exact c3⟩]
    · rw [g, if_pos ⟨c1, c2, c3⟩]
  · left
    refine ⟨?_, by rw [g, if_neg c]⟩
    rw [h, if_neg]
    rintro ⟨z1, z2, z3⟩
    rw [(r.1 a.toInt.toNat (by omega)).1] at z3
    exact c ⟨z1, z2, z3⟩
end WHO
theorem c_told (a b : Int32) : Agree (fX8_told 0 a b) (fX9_told 108 a b) := by
  intro i l x y r
  rcases r.who (x := x) (y := y) a with ⟨f, g⟩ | ⟨s, hs, rfl, h1, sd, f, g⟩
  · refine agree_of (-2000000000000000001) r ?_ ?_
    · unfold fX8_told
      rw [cv_q s0T, f, bnd_some, on_none]
    · unfold fX9_told
      rw [cv_q s9T, g, bnd_some, if10]
  · obtain ⟨⟨k1, k2, k3⟩, ⟨n1, n2, n3⟩, ⟨d1, d2⟩, ⟨t1, t2, t3⟩, -⟩ := sd
    have st := (St_s hs).1.1
    have e : ((s : Int)).toNat = s := by omega
    have A : ∀ (t q : Nat) (F : Int32 → Fn Int64), S0 q = some (100 + t, 40) → aI (hq i l x y) t q (N s) F = F (N (i q s)) := fun t q F hq => by
      rw [aI_q hq (by omega) (by omega) (by omega), e]
    have B : ∀ (t q : Nat) (F : Int32 → Fn Int32), S0 q = some (100 + t, 40) → aI (hq i l x y) t q (N s) F = F (N (i q s)) := fun t q F hq => by
      rw [aI_q hq (by omega) (by omega) (by omega), e]
    by_cases c0 : b = 0
    · refine agree_of (J (i 110 s)) r ?_ ?_
      · unfold fX8_told
        rw [cv_q s0T, f, bnd_some, on_some, if_pos c0, gI_q st, k1, N_J (by omega) (by omega)]
      · unfold fX9_told
        rw [cv_q s9T, g, bnd_some, if_pos rfl, if_pos c0, gR_q s9T, show rr x y 108 2 = some 110 by simp only [srT], nn_some, A 0 110 _ (by simp only [shT, Nat.add_zero]), N_J (by omega) (by omega)]
    by_cases c1 : b = 1
    · refine agree_of (J (i 111 s)) r ?_ ?_
      · unfold fX8_told
        rw [cv_q s0T, f, bnd_some, on_some, if_neg c0, if_pos c1, gI_q st, n1, N_J (by omega) (by omega)]
      · unfold fX9_told
        rw [cv_q s9T, g, bnd_some, if_pos rfl, if_neg c0, if_pos c1, gR_q s9T, show rr x y 108 3 = some 111 by simp only [srT], nn_some, A 0 111 _ (by simp only [shT, Nat.add_zero]), N_J (by omega) (by omega)]
    by_cases c2 : b = 2
    · refine agree_of (if N (i 112 s) = 0 then 0 else 1) r ?_ ?_
      · unfold fX8_told
        rw [cv_q s0T, f, bnd_some, on_some, if_neg c0, if_neg c1, if_pos c2, gI_q st, d1]
        split <;> rfl
      · unfold fX9_told
        rw [cv_q s9T, g, bnd_some, if_pos rfl, if_neg c0, if_neg c1, if_pos c2, gR_q s9T, show rr x y 108 4 = some 112 by simp only [srT], nn_some, A 2 112 _ (by simp only [shT])]
        split <;> rfl
    by_cases c3 : b = 3
    · refine agree_of (J (i 114 s)) r ?_ ?_
      · unfold fX8_told
        rw [cv_q s0T, f, bnd_some, on_some, if_neg c0, if_neg c1, if_neg c2, if_pos c3, gI_q st, t1, N_J (by omega) (by omega)]
      · unfold fX9_told
        rw [cv_q s9T, g, bnd_some, if_pos rfl, if_neg c0, if_neg c1, if_neg c2, if_pos c3, gR_q s9T, show rr x y 108 6 = some 114 by simp only [srT], nn_some, A 0 114 _ (by simp only [shT, Nat.add_zero]), N_J (by omega) (by omega)]
    by_cases c4 : b = 4
    · have o1 : fX7_isOpen (2 * s + 28) (hq i l x y) = some (if N (i 110 s) = 3 then (if N (i 112 s) = 0 then (if 60 ≤ N (i 111 s) then 0 else 1) else 0) else 0, hq i l x y) := by
        unfold fX7_isOpen
        rw [gI_q st, k1, gI_q st, d1, gI_q st, n1]
        split
        · split
          · split <;> rfl
          · rfl
        · rfl
      have o2 : fX9_isOpenMade 108 (N s) (hq i l x y) = some (if N (i 110 s) = 3 then (if N (i 112 s) = 0 then (if 60 ≤ N (i 111 s) then 0 else 1) else 0) else 0, hq i l x y) := by
        unfold fX9_isOpenMade
        rw [gR_q s9T, show rr x y 108 2 = some 110 by simp only [srT], nn_some, B 0 110 _ (by simp only [shT, Nat.add_zero]), gR_q s9T, show rr x y 108 4 = some 112 by simp only [srT], nn_some, B 2 112 _ (by simp only [shT]), gR_q s9T, show rr x y 108 3 = some 111 by simp only [srT], nn_some, B 0 111 _ (by simp only [shT, Nat.add_zero])]
        split
        · split
          · split <;> rfl
          · rfl
        · rfl
      generalize (if N (i 110 s) = 3 then (if N (i 112 s) = 0 then (if 60 ≤ N (i 111 s) then (0 : Int32) else 1) else 0) else 0) = o at o1 o2
      refine agree_of (if o = 0 then 0 else 1) r ?_ ?_
      · unfold fX8_told
        rw [cv_q s0T, f, bnd_some, on_some, if_neg c0, if_neg c1, if_neg c2, if_neg c3, if_pos c4, cv_q st, o1, bnd_some]
        split <;> rfl
      · unfold fX9_told
        rw [cv_q s9T, g, bnd_some, if_pos rfl, if_neg c0, if_neg c1, if_neg c2, if_neg c3, if_pos c4, cv_q s9T, o2, bnd_some]
        split <;> rfl
    · refine agree_of (-2000000000000000002) r ?_ ?_
      · unfold fX8_told
        rw [cv_q s0T, f, bnd_some, on_some, if_neg c0, if_neg c1, if_neg c2, if_neg c3, if_neg c4]
      · unfold fX9_told
        rw [cv_q s9T, g, bnd_some, if_pos rfl, if_neg c0, if_neg c1, if_neg c2, if_neg c3, if_neg c4]
