/-! ===== the reference's ratios and roots ===== -/
/-- a row with f from place o on, k places -/
def sg (f g : Nat → Int) (o k : Nat) : Nat → Int := fun j => if o ≤ j ∧ j < o + k then f (j - o) else g j
theorem sg_0 (f g : Nat → Int) (o : Nat) : sg f g o 0 = g := by
  funext j
  unfold sg
  rw [if_neg (by omega)]
theorem sg_s (f g : Nat → Int) (o k : Nat) : (fun j => if j = o + k then f k else sg f g o k j) = sg f g o (k + 1) := by
  funext j
  unfold sg
  by_cases h1 : j = o + k
  · subst h1
    rw [if_pos rfl, if_pos (by omega), show o + k - o = k by omega]
  · rw [if_neg h1]
    by_cases h2 : o ≤ j ∧ j < o + k
    · rw [if_pos h2, if_pos (by omega)]
    · rw [if_neg h2, if_neg (by omega)]
theorem w1_sg (l : Nat → Nat → Int) (a o k : Nat) (f g : Nat → Int) : w1 (wr l a (sg f g o k)) a (o + k) (f k) = wr l a (sg f g o (k + 1)) := by
  rw [w1_wr_s, sg_s]
theorem w1_w1 (l : Nat → Nat → Int) (a k : Nat) (v w : Int) : w1 (w1 l a k v) a k w = w1 l a k w := by
  funext b j
  unfold w1
  by_cases h : b = a ∧ j = k <;> simp [h]
theorem w1_id (l : Nat → Nat → Int) (a k : Nat) : w1 l a k (l a k) = l := by
  funext b j
  unfold w1
  by_cases h : b = a ∧ j = k
  · rw [if_pos h, h.1, h.2]
  · rw [if_neg h]
theorem nsI_111 (i : Nat → Nat → Int) (s : Nat) (k : Int) : nsI i s k 111 s = 0 := by
  unfold nsI
  simp (disch := decide) only [w1_na, w1_s]
theorem fdiv_uniq {a b q : Int} (hb : 0 < b) (h1 : q * b ≤ a) (h2 : a < q * b + b) : a.fdiv b = q := by
  obtain ⟨h3, h4⟩ := fdiv_rng (a := a) hb
  rcases Int.lt_trichotomy (a.fdiv b) q with z | z | z
  · exfalso
    have e : (a.fdiv b + 1) * b ≤ q * b := Int.mul_le_mul_of_nonneg_right (by omega) (by omega)
    rw [Int.add_mul, Int.one_mul] at e
    omega
  · exact z
  · exfalso
    have e : (q + 1) * b ≤ a.fdiv b * b := Int.mul_le_mul_of_nonneg_right (by omega) (by omega)
    rw [Int.add_mul, Int.one_mul] at e
    omega
theorem fdiv_neg1 {m d : Int} (hd : 0 < d) : (-m - 1).fdiv d = -(m.fdiv d) - 1 := by
  obtain ⟨h3, h4⟩ := fdiv_rng (a := m) hd
  have e : (-(m.fdiv d) - 1) * d = -(m.fdiv d * d) - d := by grind
  apply fdiv_uniq hd
  · rw [e]; omega
  · rw [e]; omega
def rby (u v : Int) : Int := if 0 ≤ v then ((Int.gcd u v : Nat) : Int) else -((Int.gcd u v : Nat) : Int)
theorem rby_ok {u v : Int} (hu : ¬ far u) (hv : ¬ far v) (h0 : v ≠ 0) : rby u v ≠ 0 ∧ (rby u v).natAbs ≤ 1000000000000000 ∧ 0 < v.tdiv (rby u v) ∧ ¬ far (u.tdiv (rby u v)) ∧ v.tdiv (rby u v) ≤ 1000000000000000 := by
  have h1 : 0 < Int.gcd u v := Int.gcd_pos_of_ne_zero_right u h0
  have h2 := Nat.le_of_dvd (show 0 < v.natAbs by omega) (Int.gcd_dvd_natAbs_right u v)
  have h3 := tdiv_abs_le u (rby u v)
  have h4 := tdiv_abs_le v (rby u v)
  have hd : rby u v ∣ v := by
    unfold rby
    split
    · exact Int.gcd_dvd_right ..
    · exact Int.neg_dvd.mpr (Int.gcd_dvd_right ..)
  have hn : rby u v ≠ 0 := by unfold rby; split <;> omega
  refine ⟨hn, by unfold rby; split <;> omega, ?_, by omega, by omega⟩
  have e := Int.mul_tdiv_cancel' hd
  rcases Int.lt_or_le 0 (v.tdiv (rby u v)) with z | z
  · exact z
  · exfalso
    by_cases c : 0 ≤ v
    · have hp : 0 < rby u v := by unfold rby; rw [if_pos c]; omega
      have := Int.mul_nonneg (a := rby u v) (b := -(v.tdiv (rby u v))) (by omega) (by omega)
      grind
    · have hp : rby u v < 0 := by unfold rby; rw [if_neg c]; omega
      have := Int.mul_nonneg (a := -(rby u v)) (b := -(v.tdiv (rby u v))) (by omega) (by omega)
      grind
section MR1
variable {i l : Nat → Nat → Int} {x y : Option Nat}
theorem q_mR127 {s : Nat} (hs : s < 40) {v : Int} (h1 : -9223372036854775808 ≤ v) (h2 : v ≤ 9223372036854775807) : fX9_newRatio_127 108 (N s) (J v) (hq i l x y) = some (N s, hq (w1 i 112 s (ib (v = 0))) l x y) := by
  unfold fX9_newRatio_127
  simp (disch := omega) only [jk, nk, J_eq]
  rw [gR_q (by simp only [shT]), show rr x y 108 4 = some 112 by simp only [srT], nn_some]
  by_cases c : v = 0
  · rw [if_pos c, zZ_q (n := 40) (by simp only [shT]) (by omega) (by omega) (by omega) (Or.inr rfl)]
    simp [ib, c]
  · rw [if_neg c, zZ_q (n := 40) (by simp only [shT]) (by omega) (by omega) (by omega) (Or.inl rfl)]
    simp [ib, c]
theorem q_mRL {s : Nat} (hs : s < 40) {u v : Int} (hu : ¬ far u) (hv : 0 < v) (hv2 : v ≤ 1000000000000000) (g : Nat → Int) : ∀ (m k n : Nat), k + m = 60 → m + 1 ≤ n → (∀ j, j < k → (cs u v j).2 ≠ 0) →
    fX9_newRatio_70L n 108 (N s) (J (cs u v k).1) (J (cs u v k).2) (hq (w1 i 111 s k) (wr l 113 (sg (cp u v) g (60 * s) k)) x y) = some (N s, hq (w1 (w1 i 111 s (cK u v m k : Nat)) 112 s (ib ((cs u v (cK u v m k)).2 = 0))) (wr l 113 (sg (cp u v) g (60 * s) (cK u v m k))) x y) := by
  intro m
  induction m with
  | zero =>
    intro k n hk hn hz
    obtain ⟨q, rfl⟩ : ∃ q, n = q + 1 := ⟨n - 1, by omega⟩
    obtain ⟨⟨c1, c2, c3⟩, -⟩ := cs_rng hu hv hv2 k hz
    show fX9_newRatio_70 (fX9_newRatio_70L q) 108 _ _ _ _ = _
    unfold fX9_newRatio_70
    rw [gR_q (by simp only [shT]), show rr x y 108 3 = some 111 by simp only [srT], nn_some, aI_q (t := 0) (n := 40) (by simp only [shT]) (by omega) (by omega) (by omega), show ((s : Int)).toNat = s by omega, w1_s]
    simp (disch := omega) only [nk, jk, N_le, J_eq]
    rw [if_pos (show (60 : Int) ≤ k by omega), q_mR127 hs (by omega) (by omega)]
    split <;> rfl
  | succ m ih =>
    intro k n hk hn hz
    obtain ⟨q, rfl⟩ : ∃ q, n = q + 1 := ⟨n - 1, by omega⟩
    obtain ⟨⟨c1, c2, c3⟩, -⟩ := cs_rng hu hv hv2 k hz
    show fX9_newRatio_70 (fX9_newRatio_70L q) 108 _ _ _ _ = _
    unfold fX9_newRatio_70 cK
    rw [gR_q (by simp only [shT]), show rr x y 108 3 = some 111 by simp only [srT], nn_some, aI_q (t := 0) (n := 40) (by simp only [shT]) (by omega) (by omega) (by omega), show ((s : Int)).toNat = s by omega, w1_s]
    simp (disch := omega) only [nk, jk, N_le, J_eq]
    rw [if_neg (show ¬ (60 : Int) ≤ k by omega)]
    by_cases c : (cs u v k).2 = 0
    · rw [if_pos c, if_pos c, q_mR127 hs (by omega) (by omega)]
    · rw [if_neg c, if_neg c, q_floor (by omega) (by omega) (by omega) (by omega) c, bnd_some, cv_q (by simp only [shT])]
      rw [q_give hs (k := k) (w1_s _ _ _ _) (by omega), bnd_some, w1_w1]
      have hcp : (cs u v k).1.fdiv (cs u v k).2 = cp u v k := rfl
      rw [hcp, w1_sg, wh_eq, J_mul, J_sub]
      have e1 : (cs u v k).1 - cp u v k * (cs u v k).2 = (cs u v (k + 1)).2 := rfl
      have e2 : (cs u v k).2 = (cs u v (k + 1)).1 := rfl
      rw [e1, e2]
      exact ih (k + 1) q (by omega) (by omega) (fun j hj => by
        by_cases e : j = k
        · rw [e]; exact c
        · exact hz j (by omega))
/-- a ratio u / v in least terms at place s of the reference -/
def mrI (i : Nat → Nat → Int) (s : Nat) (u v : Int) : Nat → Nat → Int := w1 (w1 (nsI i s 0) 111 s (cK u v 60 0 : Nat)) 112 s (ib ((cs u v (cK u v 60 0)).2 = 0))
def mrL (l : Nat → Nat → Int) (s : Nat) (u v : Int) : Nat → Nat → Int := wr (w1 (w1 l 115 (4 * s) u) 115 (4 * s + 1) v) 113 (sg (cp u v) (l 113) (60 * s) (cK u v 60 0))
theorem q_newRatio (ht : ∀ s, s < 40 → a01 (i 109 s)) {s : Nat} (hl : lfr (i 109) 40 0 = s) (hs : s < 40) {u v : Int} (hu : ¬ far u) (hv : ¬ far v) (h0 : v ≠ 0) : fX9_newRatio 108 (J u) (J v) (hq i l x y) = some (N s, hq (mrI i s (u.tdiv (rby u v)) (v.tdiv (rby u v))) (mrL l s (u.tdiv (rby u v)) (v.tdiv (rby u v))) x y) := by
  obtain ⟨r1, r2, r3, r4, r5⟩ := rby_ok hu hv h0
  unfold fX9_newRatio
  rw [cv_q (by simp only [shT]), nk.1, q_newStream ht 0 hl, bnd_some, q_divisor hu hv, bnd_some, J_neg]
  simp (disch := omega) only [jk, J_le]
  have key : fX9_newRatio_28 108 (J u) (J v) (N s) (J (rby u v)) (hq (nsI i s 0) l x y) = some (N s, hq (mrI i s (u.tdiv (rby u v)) (v.tdiv (rby u v))) (mrL l s (u.tdiv (rby u v)) (v.tdiv (rby u v))) x y) := by
    have hs0 : ¬ (J (rby u v) = J 0) := by rw [J_eq (by omega) (by omega) (by omega) (by omega)]; exact r1
    unfold fX9_newRatio_28
    simp only [jk, nk]
    rw [gR_q (by simp only [shT]), show rr x y 108 7 = some 115 by simp only [srT], nn_some, ck_t hs0, J_div (by omega) (by omega) (by omega) (by omega), N_mul, zL_q (n := 160) (by simp only [shT]) (by omega) (by omega) (by omega)]
    rw [gR_q (by simp only [shT]), show rr x y 108 7 = some 115 by simp only [srT], nn_some, ck_t hs0, J_div (by omega) (by omega) (by omega) (by omega), N_add, zL_q (n := 160) (by simp only [shT]) (by omega) (by omega) (by omega)]
    rw [ck_t hs0, wh_eq, ck_t hs0, wh_eq]
    rw [show (4 * (s : Int)).toNat = 4 * s by omega, show (4 * (s : Int) + 1).toNat = 4 * s + 1 by omega]
    generalize u.tdiv (rby u v) = U at *
    generalize v.tdiv (rby u v) = V at *
    have h := q_mRL (i := nsI i s 0) (l := w1 (w1 l 115 (4 * s) U) 115 (4 * s + 1) V) (x := x) (y := y) hs r4 r3 r5 (l 113) 60 0 1000 (by omega) (by omega) (fun j hj => by omega)
    rw [sg_0] at h
    rw [show wr (w1 (w1 l 115 (4 * s) U) 115 (4 * s + 1) V) 113 (l 113) = w1 (w1 l 115 (4 * s) U) 115 (4 * s + 1) V by
      have e : l 113 = w1 (w1 l 115 (4 * s) U) 115 (4 * s + 1) V 113 := by
        funext j
        rw [w1_na _ _ _ _ (by decide), w1_na _ _ _ _ (by decide)]
      rw [e, wr_id]] at h
    rw [show w1 (nsI i s 0) 111 s ((0 : Nat) : Int) = nsI i s 0 by
      have e := nsI_111 i s 0
      rw [show ((0 : Nat) : Int) = nsI i s 0 111 s by rw [e]; rfl, w1_id]] at h
    exact h
  by_cases c : 0 ≤ v
  · have e : rby u v = ((Int.gcd u v : Nat) : Int) := if_pos c
    rw [if_pos c, ← e]
    exact key
  · have e : rby u v = -((Int.gcd u v : Nat) : Int) := if_neg c
    rw [if_neg c, ← e]
    exact key
end MR1
