/-! ===== roots: where the walk begins; becomeRoot ===== -/
theorem nsq {n c x : Int} (hn : ∀ m : Int, m * m ≠ n) (hc : c ≠ 0) : x * x ≠ c * c * n := by
  intro h
  have hd : c ^ 2 ∣ x ^ 2 := ⟨n, by rw [Int.pow_succ, Int.pow_succ, Int.pow_succ, Int.pow_succ]; simp; exact h⟩
  obtain ⟨m, hm⟩ := (Int.pow_dvd_pow_iff (by decide)).mp hd
  subst hm
  have e : c * c * (m * m) = c * c * n := by rw [← h]; grind
  exact hn m (Int.eq_of_mul_eq_mul_left (Int.mul_ne_zero hc hc) e)
def RootOK (a b n d : Int) : Prop := (1 ≤ d ∧ d ≤ 10000) ∧ a.natAbs ≤ 1000000000 ∧ (b ≠ 0 ∧ 2 ≤ n) ∧ b * b * n ≤ 10000000 ∧ ∀ m : Int, m * m ≠ n
def rD (b n d : Int) : Int := b * b * n * d * d
def rR (b n d : Int) : Int := ((isq (rD b n d).toNat : Nat) : Int)
def rS (b d : Int) : Int := if 0 ≤ b then d else -d
def rX (a b d : Int) : Int := a * rS b d
def rY (b d : Int) : Int := d * rS b d
theorem rD_rng {a b n d : Int} (h : RootOK a b n d) : 0 ≤ rD b n d ∧ rD b n d ≤ 1000000000000000 := by
  obtain ⟨⟨h1, h2⟩, h3, ⟨h4, h5⟩, h6, h7⟩ := h
  unfold rD
  have hb : 0 ≤ b * b := by
    rcases Int.le_total 0 b with z | z
    · exact Int.mul_nonneg z z
    · have := Int.mul_nonneg (a := -b) (b := -b) (by omega) (by omega); grind
  have hn : 0 ≤ b * b * n := Int.mul_nonneg hb (by omega)
  have h8 : b * b * n * d ≤ 10000000 * 10000 := Int.mul_le_mul h6 h2 (by omega) (by omega)
  have h9 : 0 ≤ b * b * n * d := Int.mul_nonneg hn (by omega)
  have h10 : b * b * n * d * d ≤ 10000000 * 10000 * 10000 := Int.mul_le_mul h8 h2 (by omega) (by omega)
  exact ⟨Int.mul_nonneg h9 (by omega), by omega⟩
theorem b_rng {b n : Int} (h5 : 2 ≤ n) (h6 : b * b * n ≤ 10000000) : b.natAbs ≤ 3162 := by
  have hb : ((b.natAbs : Int)) * b.natAbs = b * b := by
    rw [← Int.natAbs_mul_self]
    simp
  rcases Nat.lt_or_ge 3162 b.natAbs with z | z
  · exfalso
    have e : (3163 : Int) * 3163 ≤ (b.natAbs : Int) * b.natAbs := Int.mul_le_mul (by omega) (by omega) (by omega) (by omega)
    rw [hb] at e
    have e2 : b * b * 2 ≤ b * b * n := Int.mul_le_mul_of_nonneg_left h5 (by omega)
    omega
  · exact z
theorem rWB {a b n d : Int} (h : RootOK a b n d) : WB (rD b n d) (rR b n d) (rX a b d) (rY b d) := by
  have hD := rD_rng h
  obtain ⟨⟨h1, h2⟩, h3, ⟨h4, h5⟩, h6, h7⟩ := h
  have hs := isq_ok (v := (rD b n d).toNat) (by omega)
  have hl := isq_le (v := (rD b n d).toNat) (by omega)
  have hS : rS b d * rS b d = d * d := by unfold rS; split <;> grind
  have hSd : rS b d = d ∨ rS b d = -d := by unfold rS; split <;> simp
  refine ⟨⟨by unfold rR; omega, ?_, ?_, by unfold rR; omega⟩, ⟨?_, ?_⟩, ?_, ?_⟩
  · have e1 : rR b n d * rR b n d ≤ rD b n d := by
      have : ((isq (rD b n d).toNat * isq (rD b n d).toNat : Nat) : Int) ≤ rD b n d := by omega
      unfold rR
      simpa using this
    have e2 : rR b n d * rR b n d ≠ rD b n d := by
      intro z
      have := nsq (n := n) (c := b * d) (x := rR b n d) h7 (Int.mul_ne_zero h4 (by omega))
      apply this
      rw [z]
      unfold rD
      grind
    omega
  · have : rD b n d < (((isq (rD b n d).toNat + 1) * (isq (rD b n d).toNat + 1) : Nat) : Int) := by omega
    unfold rR
    simpa using this
  · unfold rY
    exact Int.mul_ne_zero (by omega) (by rcases hSd with z | z <;> omega)
  · refine ⟨(b * b * n - a * a) * (if 0 ≤ b then 1 else -1), ?_⟩
    unfold rD rX rY rS
    split <;> grind
  · unfold rX
    rw [Int.natAbs_mul]
    have : (rS b d).natAbs ≤ 10000 := by rcases hSd with z | z <;> omega
    have := Nat.mul_le_mul h3 this
    omega
  · unfold rY
    rw [Int.natAbs_mul]
    have h8 : (rS b d).natAbs ≤ 10000 := by rcases hSd with z | z <;> omega
    have := Nat.mul_le_mul (show d.natAbs ≤ 10000 by omega) h8
    omega
theorem St.ne {a b c n : Nat} (h : St a) (hb : S0 b = some (c, n)) (hc : c ≠ 7) : a ≠ b := by
  intro z
  subst z
  rw [h.1.1] at hb
  cases hb
  exact hc rfl
theorem St.ne1 {a b c n : Nat} (h : St a) (hb : S0 b = some (c, n)) (hc : n ≠ 60) : a + 1 ≠ b := by
  intro z
  subst z
  rw [h.1.2] at hb
  cases hb
  exact hc rfl
section RT2
variable {i l : Nat → Nat → Int} {x y : Option Nat}
theorem q_go {a : Nat} (ha : St a) {A B n d : Int} (hA : l a 6 = A) (hB : l a 7 = B) (hN : l a 8 = n) (hd : l a 9 = d) (h : RootOK A B n d) : fX4_go 8 a (hq i l x y) = some ((), hq i (goL l (rD B n d) (rR B n d) (rX A B d) (rY B d) 61) x y) := by
  have hW := rWB h
  have hD := rD_rng h
  obtain ⟨⟨h1, h2⟩, h3, ⟨h4, h5⟩, h6, h7⟩ := id h
  have hb := b_rng h5 h6
  have h7s := ha.1.1
  unfold fX4_go fX4_go_52
  simp only [gL_q h7s, hA, hB, hN, hd, J_mul, wh_eq]
  have eD : B * B * n * d * d = rD B n d := rfl
  have hDn : J (rD B n d) = J (((rD B n d).toNat : Nat) : Int) := by congr 1; omega
  rw [eD, hDn, q_sideBelow _ (by omega), bnd_some, ← hDn]
  simp only [gL_q h7s, hA, hB, hd]
  simp (disch := omega) only [jk, J_le, J_neg, J_mul, nk]
  have key := q_goL (i := i) (l := l) (x := x) (y := y) hW 61 0 1000 (by omega) (by omega)
  rw [goL_0] at key
  by_cases c : 0 ≤ B
  · rw [if_pos c]
    have e1 : A * d = rX A B d := by unfold rX rS; rw [if_pos c]
    have e2 : d * d = rY B d := by unfold rY rS; rw [if_pos c]
    rw [e1, e2]
    exact key
  · rw [if_neg c]
    have e1 : A * -d = rX A B d := by unfold rX rS; rw [if_neg c]
    have e2 : d * -d = rY B d := by unfold rY rS; rw [if_neg c]
    rw [e1, e2]
    exact key
theorem q_bRtL {a : Nat} (ha : St a) (f g : Nat → Int) (hf : ∀ k, k < 60 → l 11 k = f k) (h11 : a + 1 ≠ 11) : ∀ (m k n : Nat), k + m = 60 → m + 1 ≤ n →
    fX7_becomeRoot_44L n a 8 (N k) (hq (stI i a 1 k 0 0) (wr l (a + 1) (fl f g k)) x y) = some ((), hq (stI i a 1 60 0 0) (wr l (a + 1) (fl f g 60)) x y) := by
  intro m
  induction m with
  | zero =>
    intro k n hk hn
    obtain ⟨q, rfl⟩ : ∃ q, n = q + 1 := ⟨n - 1, by omega⟩
    show fX7_becomeRoot_44 (fX7_becomeRoot_44L q) a 8 _ _ = _
    unfold fX7_becomeRoot_44
    simp (disch := omega) only [nk, N_le]
    rw [if_pos (by omega), show k = 60 by omega]
    rfl
  | succ m ih =>
    intro k n hk hn
    obtain ⟨q, rfl⟩ : ∃ q, n = q + 1 := ⟨n - 1, by omega⟩
    show fX7_becomeRoot_44 (fX7_becomeRoot_44L q) a 8 _ _ = _
    unfold fX7_becomeRoot_44
    simp (disch := omega) only [nk, N_le]
    rw [if_neg (by omega), gR_q (by simp only [shT]), show rr x y 8 2 = some 11 by simp only [srT], nn_some, aL_q (n := 61) (by simp only [shT]) (by omega) (by omega) (by omega)]
    rw [cv_q ha.1.1, wr_n _ _ (Ne.symm h11), show ((k : Int)).toNat = k by omega, hf k (by omega)]
    rw [q_addPart ha (k := k) (stI_3 _ _ _ _ _ _) (by omega), bnd_some, stI_w3, w1_fl, wh_eq, N_add]
    exact ih (k + 1) q (by omega) (by omega)
theorem q_becomeRoot {a : Nat} (ha : St a) {A B n d : Int} (hA : l 7 0 = A) (hB : l 7 1 = B) (hN : l 7 2 = n) (hd : l 7 3 = d) (h : RootOK A B n d) : fX7_becomeRoot a 7 8 (hq i l x y) = some ((), hq (stI i a 1 60 0 0) (wr (goL (stL l a A B n d) (rD B n d) (rR B n d) (rX A B d) (rY B d) 61) (a + 1) (fl (wpt (rD B n d) (rR B n d) (rX A B d) (rY B d)) (l (a + 1)) 60)) x y) := by
  have n7 : a ≠ 7 := ha.ne (show S0 7 = some (3, 0) by simp only [shT]) (by decide)
  have n9 : a ≠ 9 := ha.ne (show S0 9 = some (101, 61) by simp only [shT]) (by decide)
  have n10 : a ≠ 10 := ha.ne (show S0 10 = some (101, 61) by simp only [shT]) (by decide)
  have n11 : a ≠ 11 := ha.ne (show S0 11 = some (101, 61) by simp only [shT]) (by decide)
  have m9 : a + 1 ≠ 9 := ha.ne1 (show S0 9 = some (101, 61) by simp only [shT]) (by decide)
  have m10 : a + 1 ≠ 10 := ha.ne1 (show S0 10 = some (101, 61) by simp only [shT]) (by decide)
  have m11 : a + 1 ≠ 11 := ha.ne1 (show S0 11 = some (101, 61) by simp only [shT]) (by decide)
  have s7 : S0 7 = some (3, 0) := by simp only [shT]
  have s8 : S0 8 = some (4, 0) := by simp only [shT]
  unfold fX7_becomeRoot
  rw [cv_q ha.1.1, nk.2.1, q_start ha 1, bnd_some]
  rw [gL_q s7, stL_n _ _ _ _ _ (Ne.symm n7), hA, pL_q ha.1.1, stL_w6]
  rw [gL_q s7, stL_n _ _ _ _ _ (Ne.symm n7), hB, pL_q ha.1.1, stL_w7]
  rw [gL_q s7, stL_n _ _ _ _ _ (Ne.symm n7), hN, pL_q ha.1.1, stL_w8]
  rw [gL_q s7, stL_n _ _ _ _ _ (Ne.symm n7), hd, pL_q ha.1.1, stL_w9]
  rw [cv_q s8, q_go ha (stL_6 _ _ _ _ _ _) (stL_7 _ _ _ _ _ _) (stL_8 _ _ _ _ _ _) (stL_9 _ _ _ _ _ _) h, bnd_some]
  have key := q_bRtL (i := i) (l := goL (stL l a A B n d) (rD B n d) (rR B n d) (rX A B d) (rY B d) 61) (x := x) (y := y) ha (wpt (rD B n d) (rR B n d) (rX A B d) (rY B d)) (l (a + 1)) (fun k hk => by rw [goL_11]; simp [fl, show k < 61 by omega]) m11 60 0 1000 (by omega) (by omega)
  rw [fl_0] at key
  rw [show wr (goL (stL l a A B n d) (rD B n d) (rR B n d) (rX A B d) (rY B d) 61) (a + 1) (l (a + 1)) = goL (stL l a A B n d) (rD B n d) (rR B n d) (rX A B d) (rY B d) 61 by
    have e : l (a + 1) = goL (stL l a A B n d) (rD B n d) (rR B n d) (rX A B d) (rY B d) 61 (a + 1) := by
      rw [goL_n _ _ _ _ _ m9 m10 m11, stL_n _ _ _ _ _ (by omega)]
    rw [e, wr_id]] at key
  exact key
end RT2
