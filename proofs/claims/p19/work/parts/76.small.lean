/-! ===== calls: row, factor, drop ===== -/
theorem w1_r (l : Nat → Nat → Int) {a b : Nat} (k : Nat) (v : Int) (h : b ≠ a) : w1 l a k v b = l b := by
  funext j
  exact w1_na l k j v h
/-- streams stand as they were; the rest is told anew -/
theorem Rel.keep2 {i l i' l' : Nat → Nat → Int} (h : Rel i l)
    (h1 : ∀ s, s < 40 → i' (2 * s + 28) = i (2 * s + 28) ∧ l' (2 * s + 28) = l (2 * s + 28) ∧ l' (2 * s + 29) = l (2 * s + 29))
    (h2 : (i' 109 = i 109 ∧ i' 110 = i 110 ∧ i' 111 = i 111 ∧ i' 112 = i 112 ∧ i' 114 = i 114) ∧ (l' 113 = l 113 ∧ l' 115 = l 115 ∧ l' 116 = l 116 ∧ l' 117 = l 117) ∧ i' 108 10 = i 108 10)
    (h3 : (i' 0 4 = i' 108 11 ∧ 0 ≤ i' 108 11 ∧ i' 108 11 ≤ 8) ∧ ∀ j : Nat, (j : Int) < i' 108 11 → l' 4 j = i' 118 j ∧ l' 5 j = i' 119 j ∧ (1 ≤ i' 118 j ∧ i' 118 j ≤ 1000000) ∧ 0 ≤ i' 119 j ∧ i' 119 j ≤ 1000000)
    (h4 : ∀ j, j < 8 → l' 6 j = l' 120 j ∧ (l' 120 j).natAbs ≤ 1000000)
    (h5 : (i' 12 8 = i' 108 22 ∧ 0 ≤ i' 108 22 ∧ i' 108 22 ≤ 182) ∧ ∀ j : Nat, (j : Int) < 10 * i' 108 22 → l' 19 j = l' 123 j)
    (h6 : a01 (i' 108 0) ∧ (i' 2 2 = i 2 2 ∧ l' 2 = l 2) ∧ i' 13 0 = i 13 0 ∧ i' 13 1 = i 13 1 ∧ i' 14 0 = i 14 0 ∧ i' 14 1 = i 14 1) : Rel i' l' := by
  obtain ⟨⟨b1, b2, b3, b4, b5⟩, ⟨c1, c2, c3, c4⟩, e1⟩ := h2
  obtain ⟨h60, ⟨e6, d5⟩, e7, e8, e9, e10⟩ := h6
  obtain ⟨r1, r2, r3, r4, r5, r6, r7⟩ := h
  refine ⟨fun s hs => ?_, by rw [e1, b1]; exact r2, h3, h4, h5, h60, ?_⟩
  · obtain ⟨f1, f2, f3⟩ := h1 s hs
    have := r1 s hs
    unfold thr SD RatAt RtAt at this ⊢
    rw [f1, f2, f3, b1, b2, b3, b4, b5, c1, c2, c3, c4]
    exact this
  · rw [e6, d5, e7, e8, e9, e10]; exact r7
theorem c_row (a b : Int32) : Agree (fX8_row 0 a b) (fX9_row 108 a b) := by
  have ha := N_rng a
  have hb := N_rng b
  rw [N_of a, N_of b]
  generalize a.toInt = u at *
  generalize b.toInt = w at *
  intro i l x y r
  obtain ⟨⟨a4, a5, a6⟩, hr⟩ := r.2.2.1
  by_cases c : (1 ≤ u ∧ u ≤ 1000000) ∧ 0 ≤ w ∧ w ≤ 1000000
  · obtain ⟨⟨c1, c2⟩, c3, c4⟩ := c
    by_cases c8 : i 108 11 < 8
    · refine ⟨J (i 108 11 + 1), w1 i 0 4 (i 108 11 + 1), w1 (w1 l 4 (i 108 11).toNat u) 5 (i 108 11).toNat w, x, y, w1 (w1 (w1 (w1 i 0 4 (i 108 11 + 1)) 118 (i 108 11).toNat u) 119 (i 108 11).toNat w) 108 11 (i 108 11 + 1), w1 (w1 l 4 (i 108 11).toNat u) 5 (i 108 11).toNat w, x, y, ?_, ?_, ?_⟩
      · unfold fX8_row
        simp only [nk, jk, N_add, N_mul, N_sub, N_neg, J_add, J_mul, J_sub, J_neg]
        simp (disch := omega) only [↓iNlt_t, ↓iNlt_f, ↓iNle_t, ↓iNle_f, ↓iNeq_t, ↓iNeq_f, ↓iJlt_t, ↓iJlt_f, ↓iJle_t, ↓iJle_f, ↓iJeq_t, ↓iJeq_f, ↓iZlt_t, ↓iZlt_f, ↓iZle_t, ↓iZle_f, ↓iZeq_t, ↓iZeq_f, ↓iQlt_t, ↓iQlt_f, ↓iQle_t, ↓iQle_f, ↓iQeq_t, ↓iQeq_f, ↓iAnd_t, ↓iAnd_f, ↓iOr_t, ↓iOr_f, ↓iIff_t, ↓iIff_f, ↓iNot_t, ↓iNot_f, ↓iTrue, ↓iFalse, ↓ckN, ↓ckJ, ↓gIT, ↓gLT, ↓gRT, ↓cvT, ↓pIT, ↓pLT, ↓pZT, ↓asZ, ↓aNT, ↓arL, ↓asL, ↓arI, ↓asI, ↓aR_1, ↓bnd_some, ↓wh_eq, ↓on_some, ↓on_none, asZ, arL, asL, arI, asI, aR_1, bnd_some, wh_eq, on_some, on_none, tnT, tnU, tnL, nk, jk, N_add, N_mul, N_sub, N_neg, J_add, J_mul, J_sub, J_neg, N_J, a4, w1_s]
      · unfold fX9_row
        simp only [nk, jk, N_add, N_mul, N_sub, N_neg, J_add, J_mul, J_sub, J_neg]
        have e1 : ∀ v, w1 i 0 4 v 108 11 = i 108 11 := fun v => w1_n _ _ (by omega)
        have e2 : ∀ v k w, w1 (w1 i 0 4 v) 118 k w 108 11 = i 108 11 := fun v k w => by rw [w1_n _ _ (by omega), e1]
        have e3 : ∀ v k w z, w1 (w1 (w1 i 0 4 v) 118 k w) 119 k z 108 11 = i 108 11 := fun v k w z => by rw [w1_n _ _ (by omega), e2]
        simp (disch := omega) only [↓iNlt_t, ↓iNlt_f, ↓iNle_t, ↓iNle_f, ↓iNeq_t, ↓iNeq_f, ↓iJlt_t, ↓iJlt_f, ↓iJle_t, ↓iJle_f, ↓iJeq_t, ↓iJeq_f, ↓iZlt_t, ↓iZlt_f, ↓iZle_t, ↓iZle_f, ↓iZeq_t, ↓iZeq_f, ↓iQlt_t, ↓iQlt_f, ↓iQle_t, ↓iQle_f, ↓iQeq_t, ↓iQeq_f, ↓iAnd_t, ↓iAnd_f, ↓iOr_t, ↓iOr_f, ↓iIff_t, ↓iIff_f, ↓iNot_t, ↓iNot_f, ↓iTrue, ↓iFalse, ↓ckN, ↓ckJ, ↓gIT, ↓gLT, ↓gRT, ↓cvT, ↓pIT, ↓pLT, ↓pZT, ↓asZ, ↓aNT, ↓arL, ↓asL, ↓arI, ↓asI, ↓aR_1, ↓bnd_some, ↓wh_eq, ↓on_some, ↓on_none, asZ, arL, asL, arI, asI, aR_1, bnd_some, wh_eq, on_some, on_none, tnT, tnU, tnL, nk, jk, N_add, N_mul, N_sub, N_neg, J_add, J_mul, J_sub, J_neg, N_J, q_in, e1, e2, e3, w1_s]
      · refine r.keep2 (fun s hs => ⟨by simp (disch := omega) only [w1_r, w1_n, w1_s, true_and, and_true], by simp (disch := omega) only [w1_r, w1_n, w1_s, true_and, and_true], by simp (disch := omega) only [w1_r, w1_n, w1_s, true_and, and_true]⟩) ⟨⟨by simp (disch := omega) only [w1_r, w1_n, w1_s, true_and, and_true], by simp (disch := omega) only [w1_r, w1_n, w1_s, true_and, and_true], by simp (disch := omega) only [w1_r, w1_n, w1_s, true_and, and_true], by simp (disch := omega) only [w1_r, w1_n, w1_s, true_and, and_true], by simp (disch := omega) only [w1_r, w1_n, w1_s, true_and, and_true]⟩, ⟨by simp (disch := omega) only [w1_r, w1_n, w1_s, true_and, and_true], by simp (disch := omega) only [w1_r, w1_n, w1_s, true_and, and_true], by simp (disch := omega) only [w1_r, w1_n, w1_s, true_and, and_true], by simp (disch := omega) only [w1_r, w1_n, w1_s, true_and, and_true]⟩, by simp (disch := omega) only [w1_r, w1_n, w1_s, true_and, and_true]⟩ ⟨⟨by simp (disch := omega) only [w1_r, w1_n, w1_s, true_and, and_true], by simp (disch := omega) only [w1_r, w1_n, w1_s, true_and, and_true]; omega, by simp (disch := omega) only [w1_r, w1_n, w1_s, true_and, and_true]; omega⟩, fun j hj => ?_⟩ (fun j hj => ?_) ⟨⟨?_, ?_, ?_⟩, fun j hj => ?_⟩ ⟨?_, ⟨by simp (disch := omega) only [w1_r, w1_n, w1_s, true_and, and_true], by simp (disch := omega) only [w1_r, w1_n, w1_s, true_and, and_true]⟩, by simp (disch := omega) only [w1_r, w1_n, w1_s, true_and, and_true], by simp (disch := omega) only [w1_r, w1_n, w1_s, true_and, and_true], by simp (disch := omega) only [w1_r, w1_n, w1_s, true_and, and_true], by simp (disch := omega) only [w1_r, w1_n, w1_s, true_and, and_true]⟩
        · rw [w1_s] at hj
          by_cases e : j = (i 108 11).toNat
          · subst e
            simp (disch := omega) only [w1_r, w1_n, w1_s, true_and, and_true]
            omega
          · simp (disch := omega) only [w1_r, w1_n, w1_s, true_and, and_true]
            exact hr j (by omega)
        · simp (disch := omega) only [w1_r, w1_n, w1_s, true_and, and_true]
          exact r.2.2.2.1 j hj
        · simp (disch := omega) only [w1_r, w1_n, w1_s, true_and, and_true]
          exact r.2.2.2.2.1.1.1
        · simp (disch := omega) only [w1_r, w1_n, w1_s, true_and, and_true]
          exact r.2.2.2.2.1.1.2.1
        · simp (disch := omega) only [w1_r, w1_n, w1_s, true_and, and_true]
          exact r.2.2.2.2.1.1.2.2
        · revert hj
          simp (disch := omega) only [w1_r, w1_n, w1_s, true_and, and_true]
          exact r.2.2.2.2.1.2 j
        · simp (disch := omega) only [w1_r, w1_n, w1_s, true_and, and_true]
          exact r.2.2.2.2.2.1
    · refine agree_of (-2000000000000000004) r ?_ ?_
      · unfold fX8_row
        simp only [nk, jk, N_add, N_mul, N_sub, N_neg, J_add, J_mul, J_sub, J_neg]
        simp (disch := omega) only [↓iNlt_t, ↓iNlt_f, ↓iNle_t, ↓iNle_f, ↓iNeq_t, ↓iNeq_f, ↓iJlt_t, ↓iJlt_f, ↓iJle_t, ↓iJle_f, ↓iJeq_t, ↓iJeq_f, ↓iZlt_t, ↓iZlt_f, ↓iZle_t, ↓iZle_f, ↓iZeq_t, ↓iZeq_f, ↓iQlt_t, ↓iQlt_f, ↓iQle_t, ↓iQle_f, ↓iQeq_t, ↓iQeq_f, ↓iAnd_t, ↓iAnd_f, ↓iOr_t, ↓iOr_f, ↓iIff_t, ↓iIff_f, ↓iNot_t, ↓iNot_f, ↓iTrue, ↓iFalse, ↓ckN, ↓ckJ, ↓gIT, ↓gLT, ↓gRT, ↓cvT, ↓pIT, ↓pLT, ↓pZT, ↓asZ, ↓aNT, ↓arL, ↓asL, ↓arI, ↓asI, ↓aR_1, ↓bnd_some, ↓wh_eq, ↓on_some, ↓on_none, asZ, arL, asL, arI, asI, aR_1, bnd_some, wh_eq, on_some, on_none, tnT, tnU, tnL, nk, jk, N_add, N_mul, N_sub, N_neg, J_add, J_mul, J_sub, J_neg, N_J, a4]
      · unfold fX9_row
        simp only [nk, jk, N_add, N_mul, N_sub, N_neg, J_add, J_mul, J_sub, J_neg]
        simp (disch := omega) only [↓iNlt_t, ↓iNlt_f, ↓iNle_t, ↓iNle_f, ↓iNeq_t, ↓iNeq_f, ↓iJlt_t, ↓iJlt_f, ↓iJle_t, ↓iJle_f, ↓iJeq_t, ↓iJeq_f, ↓iZlt_t, ↓iZlt_f, ↓iZle_t, ↓iZle_f, ↓iZeq_t, ↓iZeq_f, ↓iQlt_t, ↓iQlt_f, ↓iQle_t, ↓iQle_f, ↓iQeq_t, ↓iQeq_f, ↓iAnd_t, ↓iAnd_f, ↓iOr_t, ↓iOr_f, ↓iIff_t, ↓iIff_f, ↓iNot_t, ↓iNot_f, ↓iTrue, ↓iFalse, ↓ckN, ↓ckJ, ↓gIT, ↓gLT, ↓gRT, ↓cvT, ↓pIT, ↓pLT, ↓pZT, ↓asZ, ↓aNT, ↓arL, ↓asL, ↓arI, ↓asI, ↓aR_1, ↓bnd_some, ↓wh_eq, ↓on_some, ↓on_none, asZ, arL, asL, arI, asI, aR_1, bnd_some, wh_eq, on_some, on_none, tnT, tnU, tnL, nk, jk, N_add, N_mul, N_sub, N_neg, J_add, J_mul, J_sub, J_neg, N_J, q_in]
  · refine agree_of (-2000000000000000002) r ?_ ?_
    · unfold fX8_row
      simp only [nk, jk, N_add, N_mul, N_sub, N_neg, J_add, J_mul, J_sub, J_neg]
      by_cases d1 : u < 1
      · simp (disch := omega) only [↓iNlt_t, ↓iNlt_f, ↓iNle_t, ↓iNle_f, ↓iNeq_t, ↓iNeq_f, ↓iJlt_t, ↓iJlt_f, ↓iJle_t, ↓iJle_f, ↓iJeq_t, ↓iJeq_f, ↓iZlt_t, ↓iZlt_f, ↓iZle_t, ↓iZle_f, ↓iZeq_t, ↓iZeq_f, ↓iQlt_t, ↓iQlt_f, ↓iQle_t, ↓iQle_f, ↓iQeq_t, ↓iQeq_f, ↓iAnd_t, ↓iAnd_f, ↓iOr_t, ↓iOr_f, ↓iIff_t, ↓iIff_f, ↓iNot_t, ↓iNot_f, ↓iTrue, ↓iFalse, ↓ckN, ↓ckJ, ↓gIT, ↓gLT, ↓gRT, ↓cvT, ↓pIT, ↓pLT, ↓pZT, ↓asZ, ↓aNT, ↓arL, ↓asL, ↓arI, ↓asI, ↓aR_1, ↓bnd_some, ↓wh_eq, ↓on_some, ↓on_none, asZ, arL, asL, arI, asI, aR_1, bnd_some, wh_eq, on_some, on_none, tnT, tnU, tnL, nk, jk, N_add, N_mul, N_sub, N_neg, J_add, J_mul, J_sub, J_neg, N_J]
      by_cases d2 : 1000000 < u
      · simp (disch := omega) only [↓iNlt_t, ↓iNlt_f, ↓iNle_t, ↓iNle_f, ↓iNeq_t, ↓iNeq_f, ↓iJlt_t, ↓iJlt_f, ↓iJle_t, ↓iJle_f, ↓iJeq_t, ↓iJeq_f, ↓iZlt_t, ↓iZlt_f, ↓iZle_t, ↓iZle_f, ↓iZeq_t, ↓iZeq_f, ↓iQlt_t, ↓iQlt_f, ↓iQle_t, ↓iQle_f, ↓iQeq_t, ↓iQeq_f, ↓iAnd_t, ↓iAnd_f, ↓iOr_t, ↓iOr_f, ↓iIff_t, ↓iIff_f, ↓iNot_t, ↓iNot_f, ↓iTrue, ↓iFalse, ↓ckN, ↓ckJ, ↓gIT, ↓gLT, ↓gRT, ↓cvT, ↓pIT, ↓pLT, ↓pZT, ↓asZ, ↓aNT, ↓arL, ↓asL, ↓arI, ↓asI, ↓aR_1, ↓bnd_some, ↓wh_eq, ↓on_some, ↓on_none, asZ, arL, asL, arI, asI, aR_1, bnd_some, wh_eq, on_some, on_none, tnT, tnU, tnL, nk, jk, N_add, N_mul, N_sub, N_neg, J_add, J_mul, J_sub, J_neg, N_J]
      by_cases d3 : w < 0
      · simp (disch := omega) only [↓iNlt_t, ↓iNlt_f, ↓iNle_t, ↓iNle_f, ↓iNeq_t, ↓iNeq_f, ↓iJlt_t, ↓iJlt_f, ↓iJle_t, ↓iJle_f, ↓iJeq_t, ↓iJeq_f, ↓iZlt_t, ↓iZlt_f, ↓iZle_t, ↓iZle_f, ↓iZeq_t, ↓iZeq_f, ↓iQlt_t, ↓iQlt_f, ↓iQle_t, ↓iQle_f, ↓iQeq_t, ↓iQeq_f, ↓iAnd_t, ↓iAnd_f, ↓iOr_t, ↓iOr_f, ↓iIff_t, ↓iIff_f, ↓iNot_t, ↓iNot_f, ↓iTrue, ↓iFalse, ↓ckN, ↓ckJ, ↓gIT, ↓gLT, ↓gRT, ↓cvT, ↓pIT, ↓pLT, ↓pZT, ↓asZ, ↓aNT, ↓arL, ↓asL, ↓arI, ↓asI, ↓aR_1, ↓bnd_some, ↓wh_eq, ↓on_some, ↓on_none, asZ, arL, asL, arI, asI, aR_1, bnd_some, wh_eq, on_some, on_none, tnT, tnU, tnL, nk, jk, N_add, N_mul, N_sub, N_neg, J_add, J_mul, J_sub, J_neg, N_J]
      · simp (disch := omega) only [↓iNlt_t, ↓iNlt_f, ↓iNle_t, ↓iNle_f, ↓iNeq_t, ↓iNeq_f, ↓iJlt_t, ↓iJlt_f, ↓iJle_t, ↓iJle_f, ↓iJeq_t, ↓iJeq_f, ↓iZlt_t, ↓iZlt_f, ↓iZle_t, ↓iZle_f, ↓iZeq_t, ↓iZeq_f, ↓iQlt_t, ↓iQlt_f, ↓iQle_t, ↓iQle_f, ↓iQeq_t, ↓iQeq_f, ↓iAnd_t, ↓iAnd_f, ↓iOr_t, ↓iOr_f, ↓iIff_t, ↓iIff_f, ↓iNot_t, ↓iNot_f, ↓iTrue, ↓iFalse, ↓ckN, ↓ckJ, ↓gIT, ↓gLT, ↓gRT, ↓cvT, ↓pIT, ↓pLT, ↓pZT, ↓asZ, ↓aNT, ↓arL, ↓asL, ↓arI, ↓asI, ↓aR_1, ↓bnd_some, ↓wh_eq, ↓on_some, ↓on_none, asZ, arL, asL, arI, asI, aR_1, bnd_some, wh_eq, on_some, on_none, tnT, tnU, tnL, nk, jk, N_add, N_mul, N_sub, N_neg, J_add, J_mul, J_sub, J_neg, N_J]
    · unfold fX9_row
      simp only [nk, jk, N_add, N_mul, N_sub, N_neg, J_add, J_mul, J_sub, J_neg]
      by_cases d1 : 1 ≤ u ∧ u ≤ 1000000
      · simp (disch := omega) only [↓iNlt_t, ↓iNlt_f, ↓iNle_t, ↓iNle_f, ↓iNeq_t, ↓iNeq_f, ↓iJlt_t, ↓iJlt_f, ↓iJle_t, ↓iJle_f, ↓iJeq_t, ↓iJeq_f, ↓iZlt_t, ↓iZlt_f, ↓iZle_t, ↓iZle_f, ↓iZeq_t, ↓iZeq_f, ↓iQlt_t, ↓iQlt_f, ↓iQle_t, ↓iQle_f, ↓iQeq_t, ↓iQeq_f, ↓iAnd_t, ↓iAnd_f, ↓iOr_t, ↓iOr_f, ↓iIff_t, ↓iIff_f, ↓iNot_t, ↓iNot_f, ↓iTrue, ↓iFalse, ↓ckN, ↓ckJ, ↓gIT, ↓gLT, ↓gRT, ↓cvT, ↓pIT, ↓pLT, ↓pZT, ↓asZ, ↓aNT, ↓arL, ↓asL, ↓arI, ↓asI, ↓aR_1, ↓bnd_some, ↓wh_eq, ↓on_some, ↓on_none, asZ, arL, asL, arI, asI, aR_1, bnd_some, wh_eq, on_some, on_none, tnT, tnU, tnL, nk, jk, N_add, N_mul, N_sub, N_neg, J_add, J_mul, J_sub, J_neg, N_J, q_in]
      · simp (disch := omega) only [↓iNlt_t, ↓iNlt_f, ↓iNle_t, ↓iNle_f, ↓iNeq_t, ↓iNeq_f, ↓iJlt_t, ↓iJlt_f, ↓iJle_t, ↓iJle_f, ↓iJeq_t, ↓iJeq_f, ↓iZlt_t, ↓iZlt_f, ↓iZle_t, ↓iZle_f, ↓iZeq_t, ↓iZeq_f, ↓iQlt_t, ↓iQlt_f, ↓iQle_t, ↓iQle_f, ↓iQeq_t, ↓iQeq_f, ↓iAnd_t, ↓iAnd_f, ↓iOr_t, ↓iOr_f, ↓iIff_t, ↓iIff_f, ↓iNot_t, ↓iNot_f, ↓iTrue, ↓iFalse, ↓ckN, ↓ckJ, ↓gIT, ↓gLT, ↓gRT, ↓cvT, ↓pIT, ↓pLT, ↓pZT, ↓asZ, ↓aNT, ↓arL, ↓asL, ↓arI, ↓asI, ↓aR_1, ↓bnd_some, ↓wh_eq, ↓on_some, ↓on_none, asZ, arL, asL, arI, asI, aR_1, bnd_some, wh_eq, on_some, on_none, tnT, tnU, tnL, nk, jk, N_add, N_mul, N_sub, N_neg, J_add, J_mul, J_sub, J_neg, N_J, q_in]
theorem c_factor (a b : Int32) : Agree (fX8_factor 0 a b) (fX9_factor 108 a b) := by
  have ha := N_rng a
  have hb := N_rng b
  rw [N_of a, N_of b]
  generalize a.toInt = u at *
  generalize b.toInt = w at *
  intro i l x y r
  by_cases c : (0 ≤ u ∧ u ≤ 7) ∧ -1000000 ≤ w ∧ w ≤ 1000000
  · obtain ⟨⟨c1, c2⟩, c3, c4⟩ := c
    obtain ⟨b1, b2⟩ := r.2.2.2.1 u.toNat (by omega)
    refine ⟨J (l 120 u.toNat), i, w1 l 6 u.toNat w, x, y, i, w1 (w1 l 6 u.toNat w) 120 u.toNat w, x, y, ?_, ?_, ?_⟩
    · unfold fX8_factor
      simp only [nk, jk, N_add, N_mul, N_sub, N_neg, J_add, J_mul, J_sub, J_neg]
      simp (disch := omega) only [↓iNlt_t, ↓iNlt_f, ↓iNle_t, ↓iNle_f, ↓iNeq_t, ↓iNeq_f, ↓iJlt_t, ↓iJlt_f, ↓iJle_t, ↓iJle_f, ↓iJeq_t, ↓iJeq_f, ↓iZlt_t, ↓iZlt_f, ↓iZle_t, ↓iZle_f, ↓iZeq_t, ↓iZeq_f, ↓iQlt_t, ↓iQlt_f, ↓iQle_t, ↓iQle_f, ↓iQeq_t, ↓iQeq_f, ↓iAnd_t, ↓iAnd_f, ↓iOr_t, ↓iOr_f, ↓iIff_t, ↓iIff_f, ↓iNot_t, ↓iNot_f, ↓iTrue, ↓iFalse, ↓ckN, ↓ckJ, ↓gIT, ↓gLT, ↓gRT, ↓cvT, ↓pIT, ↓pLT, ↓pZT, ↓asZ, ↓aNT, ↓arL, ↓asL, ↓arI, ↓asI, ↓aR_1, ↓bnd_some, ↓wh_eq, ↓on_some, ↓on_none, asZ, arL, asL, arI, asI, aR_1, bnd_some, wh_eq, on_some, on_none, tnT, tnU, tnL, nk, jk, N_add, N_mul, N_sub, N_neg, J_add, J_mul, J_sub, J_neg, N_J, q_beyond, b1]
    · unfold fX9_factor
      simp only [nk, jk, N_add, N_mul, N_sub, N_neg, J_add, J_mul, J_sub, J_neg]
      simp (disch := omega) only [↓iNlt_t, ↓iNlt_f, ↓iNle_t, ↓iNle_f, ↓iNeq_t, ↓iNeq_f, ↓iJlt_t, ↓iJlt_f, ↓iJle_t, ↓iJle_f, ↓iJeq_t, ↓iJeq_f, ↓iZlt_t, ↓iZlt_f, ↓iZle_t, ↓iZle_f, ↓iZeq_t, ↓iZeq_f, ↓iQlt_t, ↓iQlt_f, ↓iQle_t, ↓iQle_f, ↓iQeq_t, ↓iQeq_f, ↓iAnd_t, ↓iAnd_f, ↓iOr_t, ↓iOr_f, ↓iIff_t, ↓iIff_f, ↓iNot_t, ↓iNot_f, ↓iTrue, ↓iFalse, ↓ckN, ↓ckJ, ↓gIT, ↓gLT, ↓gRT, ↓cvT, ↓pIT, ↓pLT, ↓pZT, ↓asZ, ↓aNT, ↓arL, ↓asL, ↓arI, ↓asI, ↓aR_1, ↓bnd_some, ↓wh_eq, ↓on_some, ↓on_none, asZ, arL, asL, arI, asI, aR_1, bnd_some, wh_eq, on_some, on_none, tnT, tnU, tnL, nk, jk, N_add, N_mul, N_sub, N_neg, J_add, J_mul, J_sub, J_neg, N_J, q_in, w1_r]
    · refine r.keep2 (fun s hs => ⟨rfl, by simp (disch := omega) only [w1_r, w1_n, w1_s, true_and, and_true], by simp (disch := omega) only [w1_r, w1_n, w1_s, true_and, and_true]⟩) ⟨⟨rfl, rfl, rfl, rfl, rfl⟩, ⟨by simp (disch := omega) only [w1_r, w1_n, w1_s, true_and, and_true], by simp (disch := omega) only [w1_r, w1_n, w1_s, true_and, and_true], by simp (disch := omega) only [w1_r, w1_n, w1_s, true_and, and_true], by simp (disch := omega) only [w1_r, w1_n, w1_s, true_and, and_true]⟩, rfl⟩ ⟨r.2.2.1.1, fun j hj => ?_⟩ (fun j hj => ?_) ⟨r.2.2.2.2.1.1, fun j hj => ?_⟩ ⟨r.2.2.2.2.2.1, ⟨rfl, by simp (disch := omega) only [w1_r, w1_n, w1_s, true_and, and_true]⟩, rfl, rfl, rfl, rfl⟩
      · simp (disch := omega) only [w1_r, w1_n, w1_s, true_and, and_true]
        exact r.2.2.1.2 j hj
      · by_cases e : j = u.toNat
        · subst e
          simp (disch := omega) only [w1_r, w1_n, w1_s, true_and, and_true]
          omega
        · simp (disch := omega) only [w1_r, w1_n, w1_s, true_and, and_true]
          exact r.2.2.2.1 j hj
      · simp (disch := omega) only [w1_r, w1_n, w1_s, true_and, and_true]
        exact r.2.2.2.2.1.2 j hj
  · refine agree_of (-2000000000000000002) r ?_ ?_
    · unfold fX8_factor
      simp only [nk, jk, N_add, N_mul, N_sub, N_neg, J_add, J_mul, J_sub, J_neg]
      by_cases d1 : u < 0
      · simp (disch := omega) only [↓iNlt_t, ↓iNlt_f, ↓iNle_t, ↓iNle_f, ↓iNeq_t, ↓iNeq_f, ↓iJlt_t, ↓iJlt_f, ↓iJle_t, ↓iJle_f, ↓iJeq_t, ↓iJeq_f, ↓iZlt_t, ↓iZlt_f, ↓iZle_t, ↓iZle_f, ↓iZeq_t, ↓iZeq_f, ↓iQlt_t, ↓iQlt_f, ↓iQle_t, ↓iQle_f, ↓iQeq_t, ↓iQeq_f, ↓iAnd_t, ↓iAnd_f, ↓iOr_t, ↓iOr_f, ↓iIff_t, ↓iIff_f, ↓iNot_t, ↓iNot_f, ↓iTrue, ↓iFalse, ↓ckN, ↓ckJ, ↓gIT, ↓gLT, ↓gRT, ↓cvT, ↓pIT, ↓pLT, ↓pZT, ↓asZ, ↓aNT, ↓arL, ↓asL, ↓arI, ↓asI, ↓aR_1, ↓bnd_some, ↓wh_eq, ↓on_some, ↓on_none, asZ, arL, asL, arI, asI, aR_1, bnd_some, wh_eq, on_some, on_none, tnT, tnU, tnL, nk, jk, N_add, N_mul, N_sub, N_neg, J_add, J_mul, J_sub, J_neg, N_J]
      by_cases d2 : 8 ≤ u
      · simp (disch := omega) only [↓iNlt_t, ↓iNlt_f, ↓iNle_t, ↓iNle_f, ↓iNeq_t, ↓iNeq_f, ↓iJlt_t, ↓iJlt_f, ↓iJle_t, ↓iJle_f, ↓iJeq_t, ↓iJeq_f, ↓iZlt_t, ↓iZlt_f, ↓iZle_t, ↓iZle_f, ↓iZeq_t, ↓iZeq_f, ↓iQlt_t, ↓iQlt_f, ↓iQle_t, ↓iQle_f, ↓iQeq_t, ↓iQeq_f, ↓iAnd_t, ↓iAnd_f, ↓iOr_t, ↓iOr_f, ↓iIff_t, ↓iIff_f, ↓iNot_t, ↓iNot_f, ↓iTrue, ↓iFalse, ↓ckN, ↓ckJ, ↓gIT, ↓gLT, ↓gRT, ↓cvT, ↓pIT, ↓pLT, ↓pZT, ↓asZ, ↓aNT, ↓arL, ↓asL, ↓arI, ↓asI, ↓aR_1, ↓bnd_some, ↓wh_eq, ↓on_some, ↓on_none, asZ, arL, asL, arI, asI, aR_1, bnd_some, wh_eq, on_some, on_none, tnT, tnU, tnL, nk, jk, N_add, N_mul, N_sub, N_neg, J_add, J_mul, J_sub, J_neg, N_J]
      · simp (disch := omega) only [↓iNlt_t, ↓iNlt_f, ↓iNle_t, ↓iNle_f, ↓iNeq_t, ↓iNeq_f, ↓iJlt_t, ↓iJlt_f, ↓iJle_t, ↓iJle_f, ↓iJeq_t, ↓iJeq_f, ↓iZlt_t, ↓iZlt_f, ↓iZle_t, ↓iZle_f, ↓iZeq_t, ↓iZeq_f, ↓iQlt_t, ↓iQlt_f, ↓iQle_t, ↓iQle_f, ↓iQeq_t, ↓iQeq_f, ↓iAnd_t, ↓iAnd_f, ↓iOr_t, ↓iOr_f, ↓iIff_t, ↓iIff_f, ↓iNot_t, ↓iNot_f, ↓iTrue, ↓iFalse, ↓ckN, ↓ckJ, ↓gIT, ↓gLT, ↓gRT, ↓cvT, ↓pIT, ↓pLT, ↓pZT, ↓asZ, ↓aNT, ↓arL, ↓asL, ↓arI, ↓asI, ↓aR_1, ↓bnd_some, ↓wh_eq, ↓on_some, ↓on_none, asZ, arL, asL, arI, asI, aR_1, bnd_some, wh_eq, on_some, on_none, tnT, tnU, tnL, nk, jk, N_add, N_mul, N_sub, N_neg, J_add, J_mul, J_sub, J_neg, N_J, q_beyond]
    · unfold fX9_factor
      simp only [nk, jk, N_add, N_mul, N_sub, N_neg, J_add, J_mul, J_sub, J_neg]
      by_cases d1 : 0 ≤ u ∧ u ≤ 7
      · simp (disch := omega) only [↓iNlt_t, ↓iNlt_f, ↓iNle_t, ↓iNle_f, ↓iNeq_t, ↓iNeq_f, ↓iJlt_t, ↓iJlt_f, ↓iJle_t, ↓iJle_f, ↓iJeq_t, ↓iJeq_f, ↓iZlt_t, ↓iZlt_f, ↓iZle_t, ↓iZle_f, ↓iZeq_t, ↓iZeq_f, ↓iQlt_t, ↓iQlt_f, ↓iQle_t, ↓iQle_f, ↓iQeq_t, ↓iQeq_f, ↓iAnd_t, ↓iAnd_f, ↓iOr_t, ↓iOr_f, ↓iIff_t, ↓iIff_f, ↓iNot_t, ↓iNot_f, ↓iTrue, ↓iFalse, ↓ckN, ↓ckJ, ↓gIT, ↓gLT, ↓gRT, ↓cvT, ↓pIT, ↓pLT, ↓pZT, ↓asZ, ↓aNT, ↓arL, ↓asL, ↓arI, ↓asI, ↓aR_1, ↓bnd_some, ↓wh_eq, ↓on_some, ↓on_none, asZ, arL, asL, arI, asI, aR_1, bnd_some, wh_eq, on_some, on_none, tnT, tnU, tnL, nk, jk, N_add, N_mul, N_sub, N_neg, J_add, J_mul, J_sub, J_neg, N_J, q_in]
      · simp (disch := omega) only [↓iNlt_t, ↓iNlt_f, ↓iNle_t, ↓iNle_f, ↓iNeq_t, ↓iNeq_f, ↓iJlt_t, ↓iJlt_f, ↓iJle_t, ↓iJle_f, ↓iJeq_t, ↓iJeq_f, ↓iZlt_t, ↓iZlt_f, ↓iZle_t, ↓iZle_f, ↓iZeq_t, ↓iZeq_f, ↓iQlt_t, ↓iQlt_f, ↓iQle_t, ↓iQle_f, ↓iQeq_t, ↓iQeq_f, ↓iAnd_t, ↓iAnd_f, ↓iOr_t, ↓iOr_f, ↓iIff_t, ↓iIff_f, ↓iNot_t, ↓iNot_f, ↓iTrue, ↓iFalse, ↓ckN, ↓ckJ, ↓gIT, ↓gLT, ↓gRT, ↓cvT, ↓pIT, ↓pLT, ↓pZT, ↓asZ, ↓aNT, ↓arL, ↓asL, ↓arI, ↓asI, ↓aR_1, ↓bnd_some, ↓wh_eq, ↓on_some, ↓on_none, asZ, arL, asL, arI, asI, aR_1, bnd_some, wh_eq, on_some, on_none, tnT, tnU, tnL, nk, jk, N_add, N_mul, N_sub, N_neg, J_add, J_mul, J_sub, J_neg, N_J, q_in]
section CNT
variable {i l : Nat → Nat → Int} {x y : Option Nat}
theorem q_howMany (ht : ∀ s, s < 40 → a01 (thr i s)) : fX8_howManyStreams 0 (hq i l x y) = some (N (cnt (thr i) 40), hq i l x y) := by
  have key : ∀ (m k n : Nat), k + m = 40 → m + 1 ≤ n → fX8_howManyStreams_4L n 0 (N (cnt (thr i) k)) (N k) (hq i l x y) = some (N (cnt (thr i) 40), hq i l x y) := by
    intro m
    induction m with
    | zero =>
      intro k n hk hn
      obtain ⟨q, rfl⟩ : ∃ q, n = q + 1 := ⟨n - 1, by omega⟩
      obtain rfl : k = 40 := by omega
      show fX8_howManyStreams_4 (fX8_howManyStreams_4L q) 0 _ _ _ = _
      unfold fX8_howManyStreams_4
      simp only [nk, jk, N_add, N_mul, N_sub, N_neg, J_add, J_mul, J_sub, J_neg]
      simp (disch := omega) only [↓iNlt_t, ↓iNlt_f, ↓iNle_t, ↓iNle_f, ↓iNeq_t, ↓iNeq_f, ↓iJlt_t, ↓iJlt_f, ↓iJle_t, ↓iJle_f, ↓iJeq_t, ↓iJeq_f, ↓iZlt_t, ↓iZlt_f, ↓iZle_t, ↓iZle_f, ↓iZeq_t, ↓iZeq_f, ↓iQlt_t, ↓iQlt_f, ↓iQle_t, ↓iQle_f, ↓iQeq_t, ↓iQeq_f, ↓iAnd_t, ↓iAnd_f, ↓iOr_t, ↓iOr_f, ↓iIff_t, ↓iIff_f, ↓iNot_t, ↓iNot_f, ↓iTrue, ↓iFalse, ↓ckN, ↓ckJ, ↓gIT, ↓gLT, ↓gRT, ↓cvT, ↓pIT, ↓pLT, ↓pZT, ↓asZ, ↓aNT, ↓arL, ↓asL, ↓arI, ↓asI, ↓aR_1, ↓bnd_some, ↓wh_eq, ↓on_some, ↓on_none, asZ, arL, asL, arI, asI, aR_1, bnd_some, wh_eq, on_some, on_none, tnT, tnU, tnL, nk, jk, N_add, N_mul, N_sub, N_neg, J_add, J_mul, J_sub, J_neg, N_J]
    | succ m ih =>
      intro k n hk hn
      obtain ⟨q, rfl⟩ : ∃ q, n = q + 1 := ⟨n - 1, by omega⟩
      have h1 := ht k (by omega)
      have h2 := cnt_rng (thr i) k
      have st := (St_s (show k < 40 by omega)).1.1
      have ih := ih (k + 1) q (by omega) (by omega)
      have e : cnt (thr i) (k + 1) = cnt (thr i) k + (if thr i k = 0 then 0 else 1) := rfl
      have f : i (2 * k + 28) 1 = thr i k := rfl
      show fX8_howManyStreams_4 (fX8_howManyStreams_4L q) 0 _ _ _ = _
      unfold fX8_howManyStreams_4
      simp only [nk, jk, N_add, N_mul, N_sub, N_neg, J_add, J_mul, J_sub, J_neg]
      by_cases c : thr i k = 0
      · rw [if_pos c] at e
        simp (disch := omega) only [↓iNlt_t, ↓iNlt_f, ↓iNle_t, ↓iNle_f, ↓iNeq_t, ↓iNeq_f, ↓iJlt_t, ↓iJlt_f, ↓iJle_t, ↓iJle_f, ↓iJeq_t, ↓iJeq_f, ↓iZlt_t, ↓iZlt_f, ↓iZle_t, ↓iZle_f, ↓iZeq_t, ↓iZeq_f, ↓iQlt_t, ↓iQlt_f, ↓iQle_t, ↓iQle_f, ↓iQeq_t, ↓iQeq_f, ↓iAnd_t, ↓iAnd_f, ↓iOr_t, ↓iOr_f, ↓iIff_t, ↓iIff_f, ↓iNot_t, ↓iNot_f, ↓iTrue, ↓iFalse, ↓ckN, ↓ckJ, ↓gIT, ↓gLT, ↓gRT, ↓cvT, ↓pIT, ↓pLT, ↓pZT, ↓asZ, ↓aNT, ↓arL, ↓asL, ↓arI, ↓asI, ↓aR_1, ↓bnd_some, ↓wh_eq, ↓on_some, ↓on_none, asZ, arL, asL, arI, asI, aR_1, bnd_some, wh_eq, on_some, on_none, tnT, tnU, tnL, nk, jk, N_add, N_mul, N_sub, N_neg, J_add, J_mul, J_sub, J_neg, N_J, ↓gI_q st, f]
        rw [← ih, e, Int.add_zero]
        rfl
      · rw [if_neg c] at e
        simp (disch := omega) only [↓iNlt_t, ↓iNlt_f, ↓iNle_t, ↓iNle_f, ↓iNeq_t, ↓iNeq_f, ↓iJlt_t, ↓iJlt_f, ↓iJle_t, ↓iJle_f, ↓iJeq_t, ↓iJeq_f, ↓iZlt_t, ↓iZlt_f, ↓iZle_t, ↓iZle_f, ↓iZeq_t, ↓iZeq_f, ↓iQlt_t, ↓iQlt_f, ↓iQle_t, ↓iQle_f, ↓iQeq_t, ↓iQeq_f, ↓iAnd_t, ↓iAnd_f, ↓iOr_t, ↓iOr_f, ↓iIff_t, ↓iIff_f, ↓iNot_t, ↓iNot_f, ↓iTrue, ↓iFalse, ↓ckN, ↓ckJ, ↓gIT, ↓gLT, ↓gRT, ↓cvT, ↓pIT, ↓pLT, ↓pZT, ↓asZ, ↓aNT, ↓arL, ↓asL, ↓arI, ↓asI, ↓aR_1, ↓bnd_some, ↓wh_eq, ↓on_some, ↓on_none, asZ, arL, asL, arI, asI, aR_1, bnd_some, wh_eq, on_some, on_none, tnT, tnU, tnL, nk, jk, N_add, N_mul, N_sub, N_neg, J_add, J_mul, J_sub, J_neg, N_J, ↓gI_q st, f]
        rw [← ih, e]
        rfl
  exact key 40 0 1000 (by omega) (by omega)
end CNT
theorem c_drop (a : Int32) : Agree (fX8_drop 0 a) (fX9_drop 108 a) := by
  intro i l x y r
  rcases r.who (x := x) (y := y) a with ⟨f, g⟩ | ⟨s, hs, rfl, h1, sd, f, g⟩
  · refine agree_of (-2000000000000000001) r ?_ ?_
    · unfold fX8_drop
      rw [cv_q s0T, f, bnd_some, on_none]
    · unfold fX9_drop
      rw [cv_q s9T, g, bnd_some, if10]
  · have st := (St_s hs).1.1
    have hc := cnt_rng (i 109) 40
    have e0 : ∀ t, t < 40 → thr (w1 i (2 * s + 28) 1 0) t = (if t = s then 0 else i 109 t) := fun t ht => by
      unfold thr
      by_cases e : t = s
      · subst e
        rw [if_pos rfl, w1_s]
      · rw [if_neg e, w1_n _ _ (by omega)]
        exact (r.1 t ht).1
    have e1 : cnt (thr (w1 i (2 * s + 28) 1 0)) 40 = i 108 10 - 1 := by
      have k1 : cnt (thr (w1 i (2 * s + 28) 1 0)) 40 = cnt (fun t => if t = s then 0 else i 109 t) 40 := cnt_congr 40 (fun t ht => by rw [e0 t ht])
      have k2 := cnt_put (f := fun t => if t = s then 0 else i 109 t) (g := i 109) (s := s) (by simp) (by omega) (fun j hj => by simp [hj]) 40
      rw [if_pos hs] at k2
      rw [k1, r.2.1, k2]
      omega
    have e2 : 1 ≤ i 108 10 ∧ i 108 10 ≤ 40 := by
      have := cnt_rng (thr (w1 i (2 * s + 28) 1 0)) 40
      rw [r.2.1] at e1 ⊢
      omega
    refine ⟨J (i 108 10 - 1), w1 i (2 * s + 28) 1 0, l, x, y, w1 (w1 (w1 i (2 * s + 28) 1 0) 109 s 0) 108 10 (i 108 10 - 1), l, x, y, ?_, ?_, ?_⟩
    · unfold fX8_drop
      rw [cv_q s0T, f, bnd_some, on_some, nk.1, pZ_q st (Or.inl rfl), cv_q s0T, q_howMany (fun t ht => by
        rw [e0 t ht]
        split
        · exact Or.inl rfl
        · exact (r.1 t ht).2.1), bnd_some, e1, N_J (by omega) (by omega)]
    · have g' := q_noStream (i := w1 i (2 * s + 28) 1 0) (l := l) (x := x) (y := y) (s := (s : Int)) (fun t ht => by rw [w1_na _ _ _ _ (by omega)]; exact r.m t ht) (by omega) (by omega)
      rw [w1_na _ _ _ _ (by omega), (tnT s).1, if_pos (by omega)] at g'
      unfold fX9_drop
      rw [cv_q s9T, g', bnd_some, if_pos rfl]
      simp only [nk, jk, N_add, N_mul, N_sub, N_neg, J_add, J_mul, J_sub, J_neg]
      simp (disch := omega) only [↓iNlt_t, ↓iNlt_f, ↓iNle_t, ↓iNle_f, ↓iNeq_t, ↓iNeq_f, ↓iJlt_t, ↓iJlt_f, ↓iJle_t, ↓iJle_f, ↓iJeq_t, ↓iJeq_f, ↓iZlt_t, ↓iZlt_f, ↓iZle_t, ↓iZle_f, ↓iZeq_t, ↓iZeq_f, ↓iQlt_t, ↓iQlt_f, ↓iQle_t, ↓iQle_f, ↓iQeq_t, ↓iQeq_f, ↓iAnd_t, ↓iAnd_f, ↓iOr_t, ↓iOr_f, ↓iIff_t, ↓iIff_f, ↓iNot_t, ↓iNot_f, ↓iTrue, ↓iFalse, ↓ckN, ↓ckJ, ↓gIT, ↓gLT, ↓gRT, ↓cvT, ↓pIT, ↓pLT, ↓pZT, ↓asZ, ↓aNT, ↓arL, ↓asL, ↓arI, ↓asI, ↓aR_1, ↓bnd_some, ↓wh_eq, ↓on_some, ↓on_none, asZ, arL, asL, arI, asI, aR_1, bnd_some, wh_eq, on_some, on_none, tnT, tnU, tnL, nk, jk, N_add, N_mul, N_sub, N_neg, J_add, J_mul, J_sub, J_neg, N_J, w1_r, w1_s]
    · obtain ⟨r1, r2, r3, r4, r5, r6, r7⟩ := r
      refine ⟨fun t ht => ?_, ?_, ?_, r4, ?_, ?_, ?_⟩
      · obtain ⟨q1, q2, q3⟩ := r1 t ht
        by_cases e : t = s
        · subst e
          unfold thr
          simp (disch := omega) only [w1_r, w1_n, w1_s, true_and, and_true]
          exact ⟨Or.inl rfl, fun z => absurd z (by decide)⟩
        · unfold thr at q1 ⊢
          simp (disch := omega) only [w1_r, w1_n, w1_s, true_and, and_true]
          refine ⟨q1, q2, fun z => (q3 z).same ⟨⟨?_, rfl, rfl⟩, ⟨?_, ?_, ?_, ?_⟩, fun k hk => rfl, ⟨rfl, rfl, rfl, rfl⟩, fun k hk => ⟨rfl, rfl⟩⟩⟩ <;> simp (disch := omega) only [w1_r, w1_n, w1_s, true_and, and_true]
      · simp (disch := omega) only [w1_r, w1_n, w1_s, true_and, and_true]
        rw [← e1]
        exact cnt_congr 40 (fun t ht => by
          rw [e0 t ht]
          by_cases e : t = s
          · subst e
            simp (disch := omega) only [w1_r, w1_n, w1_s, true_and, and_true]
            simp
          · simp (disch := omega) only [w1_r, w1_n, w1_s, true_and, and_true]
            simp [e])
      · simp (disch := omega) only [w1_r, w1_n, w1_s, true_and, and_true]
        exact r3
      · simp (disch := omega) only [w1_r, w1_n, w1_s, true_and, and_true]
        exact r5
      · simp (disch := omega) only [w1_r, w1_n, w1_s, true_and, and_true]
        exact r6
      · simp (disch := omega) only [w1_r, w1_n, w1_s, true_and, and_true]
        exact r7
