/-! ===== what comes of an exact act, in least terms; places ===== -/
def oc (l : Nat → Nat → Int) (o : Nat) (a b n d : Int) : Nat → Nat → Int := wr l o (fun j => if j = 0 then a else if j = 1 then b else if j = 2 then n else if j = 3 then d else l o j)
theorem oc_mk (l : Nat → Nat → Int) (o : Nat) (a b n d : Int) : w1 (w1 (w1 (w1 l o 0 a) o 1 b) o 2 n) o 3 d = oc l o a b n d := by
  funext c j
  unfold w1 oc wr
  by_cases h : c = o
  · subst h
    by_cases h0 : j = 0
    · subst h0; simp
    · by_cases h1 : j = 1
      · subst h1; simp
      · by_cases h2 : j = 2
        · subst h2; simp
        · by_cases h3 : j = 3
          · subst h3; simp
          · simp [h0, h1, h2, h3]
  · simp [h]
theorem oc_0 (l : Nat → Nat → Int) (o : Nat) (a b n d : Int) : oc l o a b n d o 0 = a := by simp [oc, wr_s]
theorem oc_1 (l : Nat → Nat → Int) (o : Nat) (a b n d : Int) : oc l o a b n d o 1 = b := by simp [oc, wr_s]
theorem oc_2 (l : Nat → Nat → Int) (o : Nat) (a b n d : Int) : oc l o a b n d o 2 = n := by simp [oc, wr_s]
theorem oc_3 (l : Nat → Nat → Int) (o : Nat) (a b n d : Int) : oc l o a b n d o 3 = d := by simp [oc, wr_s]
theorem oc_n (l : Nat → Nat → Int) {o c : Nat} (a b n d : Int) (h : c ≠ o) : oc l o a b n d c = l c := wr_n _ _ h
theorem oc_oc (l : Nat → Nat → Int) (o : Nat) (a b n d a' b' n' d' : Int) : oc (oc l o a b n d) o a' b' n' d' = oc l o a' b' n' d' := by
  unfold oc
  rw [wr_wr, wr_s]
  congr 1
  funext j
  by_cases h0 : j = 0
  · simp [h0]
  · by_cases h1 : j = 1
    · simp [h1]
    · by_cases h2 : j = 2
      · simp [h2]
      · by_cases h3 : j = 3 <;> simp [h0, h1, h2, h3]
theorem oc_id (l : Nat → Nat → Int) (o : Nat) : oc l o (l o 0) (l o 1) (l o 2) (l o 3) = l := by
  unfold oc
  have : (fun j => if j = 0 then l o 0 else if j = 1 then l o 1 else if j = 2 then l o 2 else if j = 3 then l o 3 else l o j) = l o := by
    funext j
    by_cases h0 : j = 0
    · simp [h0]
    · by_cases h1 : j = 1
      · simp [h1]
      · by_cases h2 : j = 2
        · simp [h2]
        · by_cases h3 : j = 3 <;> simp [h0, h1, h2, h3]
  rw [this, wr_id]
theorem oc_w0 (l : Nat → Nat → Int) (o : Nat) (a b n d v : Int) : w1 (oc l o a b n d) o 0 v = oc l o v b n d := by
  unfold oc
  rw [w1_wr_s]
  congr 1
  funext j
  by_cases h0 : j = 0 <;> simp [h0]
theorem oc_w1 (l : Nat → Nat → Int) (o : Nat) (a b n d v : Int) : w1 (oc l o a b n d) o 1 v = oc l o a v n d := by
  unfold oc
  rw [w1_wr_s]
  congr 1
  funext j
  by_cases h1 : j = 1
  · simp [h1]
  · by_cases h0 : j = 0 <;> simp [h0, h1]
theorem oc_w3 (l : Nat → Nat → Int) (o : Nat) (a b n d v : Int) : w1 (oc l o a b n d) o 3 v = oc l o a b n v := by
  unfold oc
  rw [w1_wr_s]
  congr 1
  funext j
  by_cases h3 : j = 3
  · simp [h3]
  · by_cases h0 : j = 0
    · simp [h0]
    · by_cases h1 : j = 1
      · simp [h1]
      · by_cases h2 : j = 2 <;> simp [h0, h1, h2, h3]
/-- the divisor of all three, with the sign of the lower number -/
def lg (a b d : Int) : Int := ((Int.gcd ((Int.gcd d a : Nat) : Int) b : Nat) : Int)
def lsg (a b d : Int) : Int := if 0 ≤ d then lg a b d else -(lg a b d)
abbrev farRt (a b n d : Int) : Prop := 10000 < d ∨ 1000000000 < a.natAbs ∨ 3163 < b.natAbs ∨ 10000000 < b * b * n
theorem lg_pos {a b d : Int} (hd : d ≠ 0) : 0 < lg a b d := by
  unfold lg
  have h1 : 0 < Int.gcd d a := Int.gcd_pos_of_ne_zero_left a hd
  have : 0 < Int.gcd ((Int.gcd d a : Nat) : Int) b := Int.gcd_pos_of_ne_zero_left b (by omega)
  omega
theorem lg_dvd (a b d : Int) : lg a b d ∣ a ∧ lg a b d ∣ b ∧ lg a b d ∣ d := by
  unfold lg
  have h1 := Int.gcd_dvd_left (a := ((Int.gcd d a : Nat) : Int)) (b := b)
  have h2 := Int.gcd_dvd_right (a := ((Int.gcd d a : Nat) : Int)) (b := b)
  exact ⟨Int.dvd_trans h1 (Int.gcd_dvd_right ..), h2, Int.dvd_trans h1 (Int.gcd_dvd_left ..)⟩
theorem lsg_ne {a b d : Int} (hd : d ≠ 0) : lsg a b d ≠ 0 := by
  have := lg_pos (a := a) (b := b) hd
  unfold lsg
  split <;> omega
section OC1
variable {i l : Nat → Nat → Int} {x y : Option Nat}
theorem q_become {o : Nat} (ho : S0 o = some (3, 0)) (a b n d : Int) : fX3_become o (J a) (J b) (J n) (J d) (hq i l x y) = some ((), hq i (oc l o a b n d) x y) := by
  unfold fX3_become
  rw [pL_q ho, pL_q ho, pL_q ho, pL_q ho, oc_mk]
theorem q_isFarRoot {o : Nat} (ho : S0 o = some (3, 0)) {a b n d : Int} (ha : l o 0 = a) (hb : l o 1 = b) (hn : l o 2 = n) (hd : l o 3 = d) (fa : ¬ far a) (fb : ¬ far b) (fd : ¬ far d) (fn : 0 ≤ n ∧ n ≤ 100000000000) : fX3_isFarRoot o (hq i l x y) = some (if farRt a b n d then 1 else 0, hq i l x y) := by
  unfold fX3_isFarRoot
  simp only [gL_q ho, ha, hb, hn, hd]
  rw [q_abs (by omega) (by omega), bnd_some, gL_q ho, hb, q_abs (by omega) (by omega)]
  simp only [bnd_some, gL_q ho, ha, hb, hn, hd, J_mul]
  simp (disch := omega) only [jk, J_lt]
  by_cases c1 : 10000 < d
  · rw [if_pos c1, if_pos (Or.inl c1)]
  · rw [if_neg c1]
    by_cases c2 : (1000000000 : Int) < a.natAbs
    · rw [if_pos c2, if_pos (Or.inr (Or.inl (by omega)))]
    · rw [if_neg c2]
      by_cases c3 : (3163 : Int) < b.natAbs
      · rw [if_pos c3, if_pos (Or.inr (Or.inr (Or.inl (by omega))))]
      · rw [if_neg c3]
        have hbb : (b * b).natAbs ≤ 3163 * 3163 := by
          rw [Int.natAbs_mul]
          exact Nat.mul_le_mul (by omega) (by omega)
        have hbn : (b * b * n).natAbs ≤ 3163 * 3163 * 100000000000 := by
          rw [Int.natAbs_mul]
          exact Nat.mul_le_mul hbb (by omega)
        simp (disch := omega) only [J_le]
        by_cases c4 : b * b * n ≤ 10000000
        · rw [if_pos c4, if_neg (by omega)]
        · rw [if_neg c4, if_pos (by omega)]
theorem tdiv_far {a s : Int} (h : ¬ far a) : ¬ far (a.tdiv s) := by
  have := tdiv_abs_le a s
  omega
theorem q_bring {o : Nat} (ho : S0 o = some (3, 0)) {a b n d : Int} (ha : l o 0 = a) (hb : l o 1 = b) (hn : l o 2 = n) (hd : l o 3 = d) (oa : ok64 a) (ob : ok64 b) (od : ok64 d) (fn : 0 ≤ n ∧ n ≤ 100000000000) :
    fX3_bringToLeastTerms o (hq i l x y) = if far a ∨ far b ∨ far d ∨ d = 0 then some (0, hq i l x y) else some (if b.tdiv (lsg a b d) = 0 ∨ ¬ farRt (a.tdiv (lsg a b d)) (b.tdiv (lsg a b d)) n (d.tdiv (lsg a b d)) then 1 else 0, hq i (oc l o (a.tdiv (lsg a b d)) (b.tdiv (lsg a b d)) n (d.tdiv (lsg a b d))) x y) := by
  unfold fX3_bringToLeastTerms
  rw [gL_q ho, ha, q_isFar (by omega) (by omega), bnd_some, bif0]
  by_cases c1 : far a
  · rw [if_pos c1, if_pos (Or.inl c1)]
  rw [if_neg c1, gL_q ho, hb, q_isFar (by omega) (by omega), bnd_some, bif0]
  by_cases c2 : far b
  · rw [if_pos c2, if_pos (Or.inr (Or.inl c2))]
  rw [if_neg c2, gL_q ho, hd, q_isFar (by omega) (by omega), bnd_some, bif0]
  by_cases c3 : far d
  · rw [if_pos c3, if_pos (Or.inr (Or.inr (Or.inl c3)))]
  rw [if_neg c3, gL_q ho, hd]
  simp (disch := omega) only [jk, J_eq]
  by_cases c4 : d = 0
  · rw [if_pos c4, if_pos (Or.inr (Or.inr (Or.inr c4)))]
  rw [if_neg c4, if_neg (by rintro (z | z | z | z) <;> contradiction)]
  have hg1 : ((Int.gcd d a : Nat) : Int) ≤ 1000000000000000 := by
    have := Nat.le_of_dvd (show 0 < d.natAbs by omega) (Int.gcd_dvd_natAbs_left d a)
    omega
  have hg := lg_pos (a := a) (b := b) c4
  have hg2 : lg a b d ≤ 1000000000000000 := by
    have h1 := (lg_dvd a b d).2.2
    have := Int.le_of_dvd (show 0 < (d.natAbs : Int) by omega) (Int.dvd_natAbs.mpr h1)
    omega
  rw [gL_q ho, hd, gL_q ho, ha, q_gcd c3 c1, bnd_some, gL_q ho, hb, q_gcd (by omega) c2, bnd_some]
  have hlg : ((Int.gcd ((Int.gcd d a : Nat) : Int) b : Nat) : Int) = lg a b d := rfl
  rw [hlg, gL_q ho, hd, J_neg]
  simp (disch := omega) only [J_eq, J_le]
  rw [if_neg (by omega)]
  have key : ∀ s : Int, s ≠ 0 → s.natAbs ≤ 1000000000000000 → fX3_bringToLeastTerms_83 o (J s) (hq i l x y) = some (if b.tdiv s = 0 ∨ ¬ farRt (a.tdiv s) (b.tdiv s) n (d.tdiv s) then 1 else 0, hq i (oc l o (a.tdiv s) (b.tdiv s) n (d.tdiv s)) x y) := by
    intro s hs hs2
    have hs0 : ¬ (J s = J 0) := by rw [J_eq (by omega) (by omega) (by omega) (by omega)]; exact hs
    have el : l = oc l o a b n d := by rw [← ha, ← hb, ← hn, ← hd, oc_id]
    have ta := tdiv_abs_le a s
    have tb := tdiv_abs_le b s
    have td := tdiv_abs_le d s
    unfold fX3_bringToLeastTerms_83
    simp only [jk]
    rw [el]
    rw [gL_q ho, oc_0, ck_t hs0, J_div (by omega) (by omega) (by omega) (by omega), pL_q ho, oc_w0]
    rw [gL_q ho, oc_1, ck_t hs0, J_div (by omega) (by omega) (by omega) (by omega), pL_q ho, oc_w1]
    rw [gL_q ho, oc_3, ck_t hs0, J_div (by omega) (by omega) (by omega) (by omega), pL_q ho, oc_w3]
    rw [gL_q ho, oc_1, cv_q ho, q_isFarRoot ho (oc_0 _ _ _ _ _ _) (oc_1 _ _ _ _ _ _) (oc_2 _ _ _ _ _ _) (oc_3 _ _ _ _ _ _) (by omega) (by omega) (by omega) fn, bnd_some, bif0, oc_oc]
    generalize a.tdiv s = a' at *
    generalize b.tdiv s = b' at *
    generalize d.tdiv s = d' at *
    simp (disch := omega) only [J_eq]
    by_cases e1 : b' = 0
    · rw [if_pos e1, if_pos (Or.inl e1)]
    · rw [if_neg e1]
      by_cases e2 : farRt a' b' n d'
      · rw [if_pos e2, if_neg (by rintro (z | z) <;> contradiction)]
      · rw [if_neg e2, if_pos (Or.inr e2)]
  unfold lsg
  by_cases c5 : 0 ≤ d
  · rw [if_pos c5, if_pos c5]
    exact key _ (by omega) (by omega)
  · rw [if_neg c5, if_neg c5]
    exact key _ (by omega) (by omega)
end OC1
