/-! ===== act, whole ===== -/
section A2
variable {i l : Nat → Nat → Int} {x y : Option Nat}
/-- the numbers that exactOf hands on -/
theorem q_exactOf {how s t : Nat} (hh : how < 4) (hs : s < 40) (ht : t < 40) {a b d e f g n : Int} (ks : i 110 s = 0 ∨ i 110 s = 1) (kt : i 110 t = 0 ∨ i 110 t = 1) (a1 : l 115 (4 * s) = a) (a2 : (if i 110 s = 1 then l 115 (4 * s + 1) else 0) = b) (a3 : (if i 110 s = 1 then l 115 (4 * s + 3) else l 115 (4 * s + 1)) = d) (b1 : l 115 (4 * t) = e) (b2 : (if i 110 t = 1 then l 115 (4 * t + 1) else 0) = f) (b3 : (if i 110 t = 1 then l 115 (4 * t + 3) else l 115 (4 * t + 1)) = g) (hn : (if i 110 s = 1 then l 115 (4 * s + 2) else if i 110 t = 1 then l 115 (4 * t + 2) else 2) = n) :
    fX9_exactOf 108 (N how) (N s) (N t) (hq i l x y) = bnd (fX9_exactly 108 (N how) (J a) (J b) (J d) (J e) (J f) (J g) (J n) (N (i 110 t)) (hq i l x y)) (fun _ h => rtl h) := by
  unfold fX9_exactOf fX9_exactOf_32 fX9_exactOf_73 fX9_exactOf_121 fX9_exactOf_167 rtl
  simp only [nk, jk, N_mul, N_add]
  rcases ks with k1 | k1
  · rw [if_neg (by omega)] at a2 a3 hn
    rcases kt with k2 | k2
    · rw [if_neg (by omega)] at b2 b3 hn
      subst a2 b2 hn
      simp (disch := omega) only [↓iNlt_t, ↓iNlt_f, ↓iNle_t, ↓iNle_f, ↓iNeq_t, ↓iNeq_f, ↓iJlt_t, ↓iJlt_f, ↓iJle_t, ↓iJle_f, ↓iJeq_t, ↓iJeq_f, ↓iZlt_t, ↓iZlt_f, ↓iZle_t, ↓iZle_f, ↓iZeq_t, ↓iZeq_f, ↓iQlt_t, ↓iQlt_f, ↓iQle_t, ↓iQle_f, ↓iQeq_t, ↓iQeq_f, ↓iAnd_t, ↓iAnd_f, ↓iOr_t, ↓iOr_f, ↓iIff_t, ↓iIff_f, ↓iNot_t, ↓iNot_f, ↓iTrue, ↓iFalse, ↓ckN, ↓ckJ, ↓gIT, ↓gLT, ↓gRT, ↓cvT, ↓pIT, ↓pLT, ↓pZT, ↓asZ, ↓aNT, ↓arL, ↓asL, ↓arI, ↓asI, ↓aR_1, ↓bnd_some, ↓wh_eq, ↓on_some, ↓on_none, asZ, arL, asL, arI, asI, aR_1, bnd_some, wh_eq, on_some, on_none, tnT, tnU, tnL, nk, jk, N_add, N_mul, N_sub, N_neg, J_add, J_mul, J_sub, J_neg, N_J, k1, k2, a1, a3, b1, b3]
    · rw [if_pos k2] at b2 b3 hn
      subst a2
      simp (disch := omega) only [↓iNlt_t, ↓iNlt_f, ↓iNle_t, ↓iNle_f, ↓iNeq_t, ↓iNeq_f, ↓iJlt_t, ↓iJlt_f, ↓iJle_t, ↓iJle_f, ↓iJeq_t, ↓iJeq_f, ↓iZlt_t, ↓iZlt_f, ↓iZle_t, ↓iZle_f, ↓iZeq_t, ↓iZeq_f, ↓iQlt_t, ↓iQlt_f, ↓iQle_t, ↓iQle_f, ↓iQeq_t, ↓iQeq_f, ↓iAnd_t, ↓iAnd_f, ↓iOr_t, ↓iOr_f, ↓iIff_t, ↓iIff_f, ↓iNot_t, ↓iNot_f, ↓iTrue, ↓iFalse, ↓ckN, ↓ckJ, ↓gIT, ↓gLT, ↓gRT, ↓cvT, ↓pIT, ↓pLT, ↓pZT, ↓asZ, ↓aNT, ↓arL, ↓asL, ↓arI, ↓asI, ↓aR_1, ↓bnd_some, ↓wh_eq, ↓on_some, ↓on_none, asZ, arL, asL, arI, asI, aR_1, bnd_some, wh_eq, on_some, on_none, tnT, tnU, tnL, nk, jk, N_add, N_mul, N_sub, N_neg, J_add, J_mul, J_sub, J_neg, N_J, k1, k2, a1, a3, b1, b2, b3, hn]
  · rw [if_pos k1] at a2 a3 hn
    rcases kt with k2 | k2
    · rw [if_neg (by omega)] at b2 b3
      subst b2
      simp (disch := omega) only [↓iNlt_t, ↓iNlt_f, ↓iNle_t, ↓iNle_f, ↓iNeq_t, ↓iNeq_f, ↓iJlt_t, ↓iJlt_f, ↓iJle_t, ↓iJle_f, ↓iJeq_t, ↓iJeq_f, ↓iZlt_t, ↓iZlt_f, ↓iZle_t, ↓iZle_f, ↓iZeq_t, ↓iZeq_f, ↓iQlt_t, ↓iQlt_f, ↓iQle_t, ↓iQle_f, ↓iQeq_t, ↓iQeq_f, ↓iAnd_t, ↓iAnd_f, ↓iOr_t, ↓iOr_f, ↓iIff_t, ↓iIff_f, ↓iNot_t, ↓iNot_f, ↓iTrue, ↓iFalse, ↓ckN, ↓ckJ, ↓gIT, ↓gLT, ↓gRT, ↓cvT, ↓pIT, ↓pLT, ↓pZT, ↓asZ, ↓aNT, ↓arL, ↓asL, ↓arI, ↓asI, ↓aR_1, ↓bnd_some, ↓wh_eq, ↓on_some, ↓on_none, asZ, arL, asL, arI, asI, aR_1, bnd_some, wh_eq, on_some, on_none, tnT, tnU, tnL, nk, jk, N_add, N_mul, N_sub, N_neg, J_add, J_mul, J_sub, J_neg, N_J, k1, k2, a1, a2, a3, b1, b3, hn]
    · rw [if_pos k2] at b2 b3
      simp (disch := omega) only [↓iNlt_t, ↓iNlt_f, ↓iNle_t, ↓iNle_f, ↓iNeq_t, ↓iNeq_f, ↓iJlt_t, ↓iJlt_f, ↓iJle_t, ↓iJle_f, ↓iJeq_t, ↓iJeq_f, ↓iZlt_t, ↓iZlt_f, ↓iZle_t, ↓iZle_f, ↓iZeq_t, ↓iZeq_f, ↓iQlt_t, ↓iQlt_f, ↓iQle_t, ↓iQle_f, ↓iQeq_t, ↓iQeq_f, ↓iAnd_t, ↓iAnd_f, ↓iOr_t, ↓iOr_f, ↓iIff_t, ↓iIff_f, ↓iNot_t, ↓iNot_f, ↓iTrue, ↓iFalse, ↓ckN, ↓ckJ, ↓gIT, ↓gLT, ↓gRT, ↓cvT, ↓pIT, ↓pLT, ↓pZT, ↓asZ, ↓aNT, ↓arL, ↓asL, ↓arI, ↓asI, ↓aR_1, ↓bnd_some, ↓wh_eq, ↓on_some, ↓on_none, asZ, arL, asL, arI, asI, aR_1, bnd_some, wh_eq, on_some, on_none, tnT, tnU, tnL, nk, jk, N_add, N_mul, N_sub, N_neg, J_add, J_mul, J_sub, J_neg, N_J, k1, k2, a1, a2, a3, b1, b2, b3, hn]
end A2
theorem tm_0n {n : Int} (h : ¬ far n) : tm 0 n = 0 ∧ tm n 0 = 0 := by
  unfold tm
  rw [Int.zero_mul, Int.mul_zero, if_neg (by omega), if_neg (by omega)]
  exact ⟨rfl, rfl⟩
/-- exactly, by the class's numbers, whatever is asked -/
theorem rx_all {how a b d e f g nc nr r : Int} (hh : 0 ≤ how ∧ how ≤ 3) (hr : r = 0 ∨ r = 1) (fa : ¬ far a) (fb : ¬ far b) (fd : ¬ far d) (fe : ¬ far e) (ff : ¬ far f) (fg : ¬ far g) (fn : ¬ far nc) (fn2 : ¬ far nr) (hn : nc = nr ∨ ((b = 0 ∨ f = 0) ∧ r = 0)) : RX how a b d e f g nr r (wA how a d b e g f nc r) (wB how a d b e g f r) (wD how d e g f nc r) := by
  rcases (by omega : how = 0 ∨ how = 1 ∨ how = 2 ∨ how = 3) with rfl | rfl | rfl | rfl
  · exact rx01 0 (Or.inl rfl) r fa fb fd fe ff fg
  · exact rx01 1 (Or.inr rfl) r fa fb fd fe ff fg
  · have h2 := rx2 (n := nr) r fa fb fd fe ff fg fn2
    rcases hn with rfl | ⟨h, -⟩
    · exact h2
    · have e1 : tm b f = 0 := by
        rcases h with rfl | rfl
        · exact (tm_0n ff).1
        · exact (tm_0n fb).2
      have e2 : wA 2 a d b e g f nc r = pl (tm a e) (tm (tm b f) nr) := by
        show pl (tm a e) (tm (tm b f) nc) = _
        rw [e1, (tm_0n fn).1, (tm_0n fn2).1]
      rw [e2]
      exact h2
  · rcases hr with rfl | rfl
    · exact rx30 fa fb fd fe ff fg fn2
    · rcases hn with rfl | ⟨-, h⟩
      · exact rx31 fa fb fd fe ff fg fn2
      · omega
/-- what is below is not 0 -/
theorem wD_ne {how d e g f n r : Int} (hh : 0 ≤ how ∧ how ≤ 3) (hd : d ≠ 0) (hg : g ≠ 0) (fd : ¬ far d) (fe : ¬ far e) (fg : ¬ far g) (ff : ¬ far f) (fn : ¬ far n) (h3 : how = 3 → r = 0 → e ≠ 0) (h4 : how = 3 → r ≠ 0 → f ≠ 0 ∧ ∀ m : Int, m * m ≠ n) (hF : ¬ far (wD how d e g f n r)) : wD how d e g f n r ≠ 0 := by
  unfold wD at hF ⊢
  by_cases c : how = 0 ∨ how = 1 ∨ how = 2
  · rw [if_pos c] at hF ⊢
    have K := (CV.lit fd).tms (CV.lit fg)
    rw [(K.2 (fun z => hF (K.fars.mpr z))).1]
    exact Int.mul_ne_zero hd hg
  · rw [if_neg c] at hF ⊢
    by_cases c2 : r = 0
    · rw [if_pos c2] at hF ⊢
      have K := (CV.lit fd).tms (CV.lit fe)
      rw [(K.2 (fun z => hF (K.fars.mpr z))).1]
      exact Int.mul_ne_zero hd (h3 (by omega) c2)
    · rw [if_neg c2] at hF ⊢
      obtain ⟨hf, hsq⟩ := h4 (by omega) c2
      have K := (((CV.lit fe).tms (CV.lit fe)).mis (((CV.lit ff).tms (CV.lit ff)).tms (CV.lit fn))).tms (CV.lit fd)
      rw [(K.2 (fun z => hF (K.fars.mpr z))).1]
      refine Int.mul_ne_zero (fun z => ?_) hd
      -- e e = f f n: n would be a square
      have z1 : e * e = f * f * n := by omega
      have dv : f * f ∣ e * e := ⟨n, z1⟩
      have dv2 : f ∣ e := by
        have h1 : (f.natAbs * f.natAbs) ∣ (e.natAbs * e.natAbs) := by
          have := Int.natAbs_dvd_natAbs.mpr dv
          rw [Int.natAbs_mul, Int.natAbs_mul] at this
          exact this
        have h2 : f.natAbs ^ 2 ∣ e.natAbs ^ 2 := by rw [Nat.pow_two, Nat.pow_two]; exact h1
        exact Int.natAbs_dvd_natAbs.mp ((Nat.pow_dvd_pow_iff (by omega)).mp h2)
      obtain ⟨q, hq⟩ := dv2
      apply hsq q
      have z2 : f * f * (q * q) = f * f * n := by rw [← z1, hq]; grind
      exact Int.eq_of_mul_eq_mul_left (Int.mul_ne_zero hf hf) z2
