/-! ===== the reference's roots ===== -/
section MR2
variable {i l : Nat → Nat → Int} {x y : Option Nat}
/-- the reference's rows of a walk at place s, k tails and j parts -/
def mtL (l : Nat → Nat → Int) (s : Nat) (D r x0 y0 : Int) (k j : Nat) : Nat → Nat → Int := wr (wr (wr l 116 (sg (fun j => (ws D r x0 y0 j).1) (l 116) (61 * s) k)) 117 (sg (fun j => (ws D r x0 y0 j).2) (l 117) (61 * s) k)) 113 (sg (wpt D r x0 y0) (l 113) (60 * s) j)
theorem mtL_0 (s : Nat) (D r x0 y0 : Int) : mtL l s D r x0 y0 0 0 = l := by
  unfold mtL
  rw [sg_0, sg_0, sg_0, wr_id, wr_id, wr_id]
theorem mtL_t (s : Nat) (D r x0 y0 : Int) (k j : Nat) : w1 (w1 (mtL l s D r x0 y0 k j) 116 (61 * s + k) (ws D r x0 y0 k).1) 117 (61 * s + k) (ws D r x0 y0 k).2 = mtL l s D r x0 y0 (k + 1) j := by
  unfold mtL
  rw [w1_wr_n _ _ _ _ (by decide : 116 ≠ 113), w1_wr_n _ _ _ _ (by decide : 116 ≠ 117), w1_sg _ 116 (61 * s) k (fun j => (ws D r x0 y0 j).1)]
  rw [w1_wr_n _ _ _ _ (by decide : 117 ≠ 113), w1_sg _ 117 (61 * s) k (fun j => (ws D r x0 y0 j).2)]
theorem mtL_p (s : Nat) (D r x0 y0 : Int) (k j : Nat) : w1 (mtL l s D r x0 y0 k j) 113 (60 * s + j) (wpt D r x0 y0 j) = mtL l s D r x0 y0 k (j + 1) := by
  unfold mtL
  rw [w1_sg]
theorem pq_model {r a b : Int} (hr : 0 ≤ r) (hr2 : r ≤ 67108864) (ha : a.natAbs ≤ 10000000000000) (hb : b.natAbs ≤ 300000000) (hb0 : b ≠ 0) (h : AH) : (if b ≤ 0 then fX9_floor (J (-a - r - 1)) (J (-b)) h else fX9_floor (J (a + r)) (J b) h) = some (J (pq r a b), h) := by
  unfold pq
  by_cases c : b ≤ 0
  · rw [if_pos c, if_neg (by omega), q_floor (by omega) (by omega) (by omega) (by omega) (by omega)]
    rw [show -a - r - 1 = -(a + r) - 1 by omega, fdiv_neg1 (by omega)]
  · rw [if_neg c, if_pos (by omega), q_floor (by omega) (by omega) (by omega) (by omega) (by omega)]
theorem q_mtL {s : Nat} (hs : s < 40) {D r x0 y0 : Int} (h : WB D r x0 y0) : ∀ (m k n : Nat), k + m = 60 → m + 2 ≤ n →
    fX9_newRoot_121L n 108 (N s) (J D) (J r) (J (ws D r x0 y0 k).1) (J (ws D r x0 y0 k).2) (N k) (hq (w1 i 111 s k) (mtL l s D r x0 y0 k k) x y) = some (N s, hq (w1 i 111 s 60) (mtL l s D r x0 y0 61 60) x y) := by
  intro m
  induction m with
  | zero =>
    intro k n hk hn
    obtain ⟨q, rfl⟩ : ∃ q, n = q + 1 + 1 := ⟨n - 2, by omega⟩
    obtain rfl : k = 60 := by omega
    show fX9_newRoot_121 (fX9_newRoot_121L (q + 1)) 108 _ _ _ _ _ _ _ = _
    unfold fX9_newRoot_121
    simp only [nk, N_mul, N_add, wh_eq]
    simp (disch := omega) only [N_lt, N_le]
    rw [if_neg (by omega), gR_q (by simp only [shT]), show rr x y 108 8 = some 116 by simp only [srT], nn_some, zL_q (n := 2440) (by simp only [shT]) (by omega) (by omega) (by omega)]
    rw [gR_q (by simp only [shT]), show rr x y 108 9 = some 117 by simp only [srT], nn_some, zL_q (n := 2440) (by simp only [shT]) (by omega) (by omega) (by omega)]
    rw [if_pos (by omega), show (61 * (s : Int) + ((60 : Nat) : Int)).toNat = 61 * s + 60 by omega, mtL_t]
    show fX9_newRoot_121 (fX9_newRoot_121L q) 108 _ _ _ _ _ _ _ = _
    unfold fX9_newRoot_121
    simp (disch := omega) only [nk, N_lt]
    rw [if_pos (by omega)]
    rfl
  | succ m ih =>
    intro k n hk hn
    obtain ⟨q, rfl⟩ : ∃ q, n = q + 1 := ⟨n - 1, by omega⟩
    obtain ⟨b1, b2, b3, -⟩ := ws_rng h k
    obtain ⟨⟨h1, h2, h3, h4⟩, h5, h6, h7⟩ := id h
    have ih := ih (k + 1) q (by omega) (by omega)
    have hD : D ≤ 4503599761588225 := by
      have := Int.mul_le_mul (a := r + 1) (b := r + 1) (c := 67108865) (d := 67108865) (by omega) (by omega) (by omega) (by omega)
      omega
    have hD0 : 0 ≤ D := by have := Int.mul_nonneg h1 h1; omega
    show fX9_newRoot_121 (fX9_newRoot_121L q) 108 _ _ _ _ _ _ _ = _
    unfold fX9_newRoot_121
    simp only [nk, jk, N_mul, N_add, J_neg, J_sub, J_add]
    rw [gR_q (by simp only [shT]), show rr x y 108 8 = some 116 by simp only [srT], nn_some, zL_q (n := 2440) (by simp only [shT]) (by omega) (by omega) (by omega)]
    rw [gR_q (by simp only [shT]), show rr x y 108 9 = some 117 by simp only [srT], nn_some, zL_q (n := 2440) (by simp only [shT]) (by omega) (by omega) (by omega)]
    rw [show (61 * (s : Int) + (k : Int)).toNat = 61 * s + k by omega, mtL_t]
    simp (disch := omega) only [N_lt, N_le, J_le]
    rw [if_neg (by omega), if_neg (by omega)]
    have hp := pq_model h1 h4 b1 b2 b3 (hq (w1 i 111 s k) (mtL l s D r x0 y0 (k + 1) k) x y)
    have key : fX9_newRoot_199 (fX9_newRoot_121L q) 108 (N s) (J D) (J r) (J (ws D r x0 y0 k).1) (J (ws D r x0 y0 k).2) (N k) (J (pq r (ws D r x0 y0 k).1 (ws D r x0 y0 k).2)) (hq (w1 i 111 s k) (mtL l s D r x0 y0 (k + 1) k) x y) = some (N s, hq (w1 i 111 s 60) (mtL l s D r x0 y0 61 60) x y) := by
      have hy0 : ¬ (J (ws D r x0 y0 k).2 = J 0) := by rw [J_eq (by omega) (by omega) (by omega) (by omega)]; exact b3
      unfold fX9_newRoot_199
      simp only [nk, jk]
      rw [cv_q (by simp only [shT]), q_give hs (k := k) (w1_s _ _ _ _) (by omega), bnd_some, w1_w1]
      rw [show pq r (ws D r x0 y0 k).1 (ws D r x0 y0 k).2 = wpt D r x0 y0 k from rfl, mtL_p]
      rw [wh_eq, wh_eq, wh_eq, ck_t hy0, J_mul, J_sub, J_mul, J_sub, N_add]
      have e1 : wpt D r x0 y0 k * (ws D r x0 y0 k).2 - (ws D r x0 y0 k).1 = (ws D r x0 y0 (k + 1)).1 := rfl
      have hx1 : (ws D r x0 y0 (k + 1)).1.natAbs ≤ 167108864 := ((ws_inv h (k + 1)).2 (by omega)).2
      have hsq : ((ws D r x0 y0 (k + 1)).1 * (ws D r x0 y0 (k + 1)).1).natAbs ≤ 167108864 * 167108864 := by
        rw [Int.natAbs_mul]
        exact Nat.mul_le_mul hx1 hx1
      rw [e1, J_div (by omega) (by omega) (by omega) (by omega)]
      exact ih
    by_cases c : (ws D r x0 y0 k).2 ≤ 0
    · rw [if_pos c] at hp ⊢
      rw [hp, bnd_some]
      exact key
    · rw [if_neg c] at hp ⊢
      rw [hp, bnd_some]
      exact key
/-- a root at place s of the reference -/
def mtI (i : Nat → Nat → Int) (s : Nat) : Nat → Nat → Int := w1 (nsI i s 1) 111 s 60
def mtN (l : Nat → Nat → Int) (s : Nat) (a b n d : Int) : Nat → Nat → Int := w1 (w1 (w1 (w1 l 115 (4 * s) a) 115 (4 * s + 1) b) 115 (4 * s + 2) n) 115 (4 * s + 3) d
theorem q_newRoot (ht : ∀ s, s < 40 → a01 (i 109 s)) {s : Nat} (hl : lfr (i 109) 40 0 = s) (hs : s < 40) {a b n d : Int} (h : RootOK a b n d) : fX9_newRoot 108 (J a) (J b) (J n) (J d) (hq i l x y) = some (N s, hq (mtI i s) (mtL (mtN l s a b n d) s (rD b n d) (rR b n d) (rX a b d) (rY b d) 61 60) x y) := by
  have hW := rWB h
  have hD := rD_rng h
  obtain ⟨⟨h1, h2⟩, h3, ⟨h4, h5⟩, h6, h7⟩ := id h
  have hb := b_rng h5 h6
  have key := q_mtL (i := nsI i s 1) (l := mtN l s a b n d) (x := x) (y := y) hs hW 60 0 1000 (by omega) (by omega)
  rw [mtL_0] at key
  rw [show w1 (nsI i s 1) 111 s ((0 : Nat) : Int) = nsI i s 1 by
    have e := nsI_111 i s 1
    rw [show ((0 : Nat) : Int) = nsI i s 1 111 s by rw [e]; rfl, w1_id]] at key
  unfold fX9_newRoot
  rw [cv_q (by simp only [shT]), nk.2.1, q_newStream ht 1 hl, bnd_some]
  simp only [nk, N_mul, N_add]
  rw [gR_q (by simp only [shT]), show rr x y 108 7 = some 115 by simp only [srT], nn_some, zL_q (n := 160) (by simp only [shT]) (by omega) (by omega) (by omega)]
  rw [gR_q (by simp only [shT]), show rr x y 108 7 = some 115 by simp only [srT], nn_some, zL_q (n := 160) (by simp only [shT]) (by omega) (by omega) (by omega)]
  rw [gR_q (by simp only [shT]), show rr x y 108 7 = some 115 by simp only [srT], nn_some, zL_q (n := 160) (by simp only [shT]) (by omega) (by omega) (by omega)]
  rw [gR_q (by simp only [shT]), show rr x y 108 7 = some 115 by simp only [srT], nn_some, zL_q (n := 160) (by simp only [shT]) (by omega) (by omega) (by omega)]
  rw [show (4 * (s : Int)).toNat = 4 * s by omega, show (4 * (s : Int) + 1).toNat = 4 * s + 1 by omega, show (4 * (s : Int) + 2).toNat = 4 * s + 2 by omega, show (4 * (s : Int) + 3).toNat = 4 * s + 3 by omega]
  rw [show w1 (w1 (w1 (w1 l 115 (4 * s) a) 115 (4 * s + 1) b) 115 (4 * s + 2) n) 115 (4 * s + 3) d = mtN l s a b n d from rfl]
  simp only [J_mul, wh_eq]
  have eD : b * b * n * d * d = rD b n d := rfl
  have hDn : J (rD b n d) = J (((rD b n d).toNat : Nat) : Int) := by congr 1; omega
  rw [eD, hDn, q_rootOf _ (by omega), bnd_some, ← hDn]
  unfold fX9_newRoot_94
  simp (disch := omega) only [jk, J_le, J_neg, J_mul, nk, wh_eq]
  by_cases c : 0 ≤ b
  · rw [if_pos c, if_pos c]
    have e1 : a * d = rX a b d := by unfold rX rS; rw [if_pos c]
    have e2 : d * d = rY b d := by unfold rY rS; rw [if_pos c]
    rw [e1, e2]
    exact key
  · rw [if_neg c, if_neg c]
    have e1 : -a * d = rX a b d := by unfold rX rS; rw [if_neg c]; grind
    have e2 : -d * d = rY b d := by unfold rY rS; rw [if_neg c]; grind
    rw [e1, e2]
    exact key
end MR2
