/-! ===== exact acts: the outcome placed, in both ===== -/
theorem w1_comm (l : Nat → Nat → Int) {a k b j : Nat} (v w : Int) (h : ¬ (a = b ∧ k = j)) : w1 (w1 l a k v) b j w = w1 (w1 l b j w) a k v := by
  funext c q
  unfold w1
  by_cases h1 : c = b ∧ q = j
  · rw [if_pos h1, if_neg (fun z => h ⟨z.1.symm.trans h1.1, z.2.symm.trans h1.2⟩), if_pos h1]
  · rw [if_neg h1, if_neg h1]
theorem nsI_w (i : Nat → Nat → Int) (s : Nat) (k b : Int) : nsI (w1 i 108 0 b) s k = w1 (nsI i s k) 108 0 b := by
  unfold nsI
  rw [w1_n _ _ (show ¬ (108 = 108 ∧ 10 = 0) by omega)]
  rw [w1_comm i b 1 (by omega), w1_comm _ b k (by omega), w1_comm _ b 0 (by omega), w1_comm _ b 0 (by omega), w1_comm _ b 0 (by omega), w1_comm _ b _ (by omega)]
theorem mrI_w (i : Nat → Nat → Int) (s : Nat) (u v b : Int) : mrI (w1 i 108 0 b) s u v = w1 (mrI i s u v) 108 0 b := by
  unfold mrI
  rw [nsI_w, w1_comm _ b _ (by omega), w1_comm _ b _ (by omega)]
theorem mtI_w (i : Nat → Nat → Int) (s : Nat) (b : Int) : mtI (w1 i 108 0 b) s = w1 (mtI i s) 108 0 b := by
  unfold mtI
  rw [nsI_w, w1_comm _ b _ (by omega)]
theorem w1_row (l l' : Nat → Nat → Int) {c : Nat} (a k : Nat) (v : Int) (h : l' c = l c) : w1 l' a k v c = w1 l a k v c := by
  funext j
  unfold w1
  rw [h]
theorem wr_row (l l' : Nat → Nat → Int) {c : Nat} (a : Nat) (f f' : Nat → Int) (h : l' c = l c) (hf : f' = f) : wr l' a f' c = wr l a f c := by
  unfold wr
  rw [h, hf]
theorem mrL_row {l l' : Nat → Nat → Int} (h : ∀ c, c ≠ 108 → l' c = l c) (s : Nat) (u v : Int) {c : Nat} (hc : c ≠ 108) : mrL l' s u v c = mrL l s u v c := by
  unfold mrL
  exact wr_row _ _ _ _ _ (w1_row _ _ _ _ _ (w1_row _ _ _ _ _ (h c hc))) (by rw [h 113 (by omega)])
theorem mtN_row {l l' : Nat → Nat → Int} (h : ∀ c, c ≠ 108 → l' c = l c) (s : Nat) (a b n d : Int) {c : Nat} (hc : c ≠ 108) : mtN l' s a b n d c = mtN l s a b n d c := by
  unfold mtN
  exact w1_row _ _ _ _ _ (w1_row _ _ _ _ _ (w1_row _ _ _ _ _ (w1_row _ _ _ _ _ (h c hc))))
theorem mtL_row {l l' : Nat → Nat → Int} (h : ∀ c, c ≠ 108 → l' c = l c) (s : Nat) (D r x0 y0 : Int) (k j : Nat) {c : Nat} (hc : c ≠ 108) : mtL l' s D r x0 y0 k j c = mtL l s D r x0 y0 k j c := by
  unfold mtL
  exact wr_row _ _ _ _ _ (wr_row _ _ _ _ _ (wr_row _ _ _ _ _ (h c hc) (by rw [h 116 (by omega)])) (by rw [h 117 (by omega)])) (by rw [h 113 (by omega)])
theorem Rel.aside {i l l' : Nat → Nat → Int} (h : Rel i l) {b : Int} (hb : a01 b) (hl : ∀ c, c ≠ 108 → l' c = l c) : Rel (w1 i 108 0 b) l' := by
  refine h.keep (fun s hs => ⟨by simp (disch := omega) only [w1_r, w1_n, w1_s, true_and, and_true], hl _ (by omega), hl _ (by omega)⟩) ⟨⟨by simp (disch := omega) only [w1_r, w1_n, w1_s, true_and, and_true], by simp (disch := omega) only [w1_r, w1_n, w1_s, true_and, and_true], by simp (disch := omega) only [w1_r, w1_n, w1_s, true_and, and_true], by simp (disch := omega) only [w1_r, w1_n, w1_s, true_and, and_true], by simp (disch := omega) only [w1_r, w1_n, w1_s, true_and, and_true], by simp (disch := omega) only [w1_r, w1_n, w1_s, true_and, and_true], by simp (disch := omega) only [w1_r, w1_n, w1_s, true_and, and_true]⟩, ⟨hl _ (by omega), hl _ (by omega), hl _ (by omega), hl _ (by omega), hl _ (by omega), hl _ (by omega)⟩, hl _ (by omega), hl _ (by omega), hl _ (by omega), hl _ (by omega), hl _ (by omega)⟩ ⟨by simp (disch := omega) only [w1_r, w1_n, w1_s, true_and, and_true], by simp (disch := omega) only [w1_r, w1_n, w1_s, true_and, and_true], by simp (disch := omega) only [w1_r, w1_n, w1_s, true_and, and_true], by simp (disch := omega) only [w1_r, w1_n, w1_s, true_and, and_true], by simp (disch := omega) only [w1_r, w1_n, w1_s, true_and, and_true], by simp (disch := omega) only [w1_r, w1_n, w1_s, true_and, and_true], by simp (disch := omega) only [w1_r, w1_n, w1_s, true_and, and_true], by simp (disch := omega) only [w1_r, w1_n, w1_s, true_and, and_true], by simp (disch := omega) only [w1_r, w1_n, w1_s, true_and, and_true], by simp (disch := omega) only [w1_r, w1_n, w1_s, true_and, and_true]⟩ ?_
  rw [w1_s]
  exact hb
section TL
variable {ρ : Type} {i l : Nat → Nat → Int} {x y : Option Nat}
theorem b_divisor {a b : Int} {h : AH} (F : Int64 → AH → Fn ρ) (ha : ¬ far a) (hb : ¬ far b) : bnd (fX9_divisor (J a) (J b) h) F = F (J ((Int.gcd a b : Nat) : Int)) h := bq (q_divisor ha hb h) F
theorem gcd_nf {a b : Int} (ha : ¬ far a) (hb : ¬ far b) : ¬ far ((Int.gcd a b : Nat) : Int) := by
  rcases Nat.eq_zero_or_pos a.natAbs with z | z
  · have : Int.gcd a b = b.natAbs := by
      unfold Int.gcd
      rw [z, Nat.gcd_zero_left]
    rw [this]
    omega
  · have := Nat.le_of_dvd z (Int.gcd_dvd_natAbs_left a b)
    omega
theorem q_checkOut {A B D n : Int} (fA : ¬ far A) (fB : ¬ far B) (fD : ¬ far D) (hD : D ≠ 0) (fn : 0 ≤ n ∧ n ≤ 10000000) : fX9_checkOut 108 (hq (w1 i 108 0 0) (ouL l A B n D) x y) = some ((), hq (w1 i 108 0 (ib (B ≠ 0 ∧ farR2 (A.tdiv (lg A B D)) (B.tdiv (lg A B D)) n (D.tdiv (lg A B D))))) (ouL l (A.tdiv (lg A B D)) (B.tdiv (lg A B D)) n (D.tdiv (lg A B D))) x y) := by
  have hg := lg_pos (a := A) (b := B) hD
  have hg2 : lg A B D ≤ 1000000000000000 := by
    have h1 := (lg_dvd A B D).2.2
    have := Int.le_of_dvd (show 0 < (D.natAbs : Int) by omega) (Int.dvd_natAbs.mpr h1)
    omega
  obtain ⟨t1, t2, t3⟩ := lsg_twice (a := A) (b := B) hD
  have key : fX9_checkOut_41 108 (J (lg A B D)) (hq (w1 i 108 0 0) (ouL l A B n D) x y) = some ((), hq (w1 i 108 0 (ib (B ≠ 0 ∧ farR2 (A.tdiv (lg A B D)) (B.tdiv (lg A B D)) n (D.tdiv (lg A B D))))) (ouL l (A.tdiv (lg A B D)) (B.tdiv (lg A B D)) n (D.tdiv (lg A B D))) x y) := by
    have dA := J_div (a := A) (b := lg A B D) (by omega) (by omega) (by omega) (by omega)
    have dB := J_div (a := B) (b := lg A B D) (by omega) (by omega) (by omega) (by omega)
    have dD := J_div (a := D) (b := lg A B D) (by omega) (by omega) (by omega) (by omega)
    have ta := tdiv_abs_le A (lg A B D)
    have tb := tdiv_abs_le B (lg A B D)
    have td := tdiv_abs_le D (lg A B D)
    unfold fX9_checkOut_41 farR2
    simp only [nk, jk]
    generalize A.tdiv (lg A B D) = A1 at *
    generalize B.tdiv (lg A B D) = B1 at *
    generalize D.tdiv (lg A B D) = D1 at *
    generalize lg A B D = g at *
    by_cases c0 : B1 = 0
    · rw [ibF (fun z => z.1 (t3.mp c0))]
      simp (disch := omega) only [↓iNlt_t, ↓iNlt_f, ↓iNle_t, ↓iNle_f, ↓iNeq_t, ↓iNeq_f, ↓iJlt_t, ↓iJlt_f, ↓iJle_t, ↓iJle_f, ↓iJeq_t, ↓iJeq_f, ↓iZlt_t, ↓iZlt_f, ↓iZle_t, ↓iZle_f, ↓iZeq_t, ↓iZeq_f, ↓iQlt_t, ↓iQlt_f, ↓iQle_t, ↓iQle_f, ↓iQeq_t, ↓iQeq_f, ↓iAnd_t, ↓iAnd_f, ↓iOr_t, ↓iOr_f, ↓iIff_t, ↓iIff_f, ↓iNot_t, ↓iNot_f, ↓iTrue, ↓iFalse, ↓ckN, ↓ckJ, ↓gIT, ↓gLT, ↓gRT, ↓cvT, ↓pIT, ↓pLT, ↓pZT, ↓asZ, ↓aNT, ↓arL, ↓asL, ↓arI, ↓asI, ↓aR_1, ↓bnd_some, ↓wh_eq, ↓on_some, ↓on_none, asZ, arL, asL, arI, asI, aR_1, bnd_some, wh_eq, on_some, on_none, tnT, tnU, tnL, nk, jk, N_add, N_mul, N_sub, N_neg, J_add, J_mul, J_sub, J_neg, N_J, ouL_g, ouL_w, dA, dB, dD]
    · have c0' : B ≠ 0 := fun z => c0 (t3.mpr z)
      by_cases c1 : 10000 < D1.natAbs
      · rw [ibT ⟨c0', Or.inl c1⟩]
        simp (disch := omega) only [↓iNlt_t, ↓iNlt_f, ↓iNle_t, ↓iNle_f, ↓iNeq_t, ↓iNeq_f, ↓iJlt_t, ↓iJlt_f, ↓iJle_t, ↓iJle_f, ↓iJeq_t, ↓iJeq_f, ↓iZlt_t, ↓iZlt_f, ↓iZle_t, ↓iZle_f, ↓iZeq_t, ↓iZeq_f, ↓iQlt_t, ↓iQlt_f, ↓iQle_t, ↓iQle_f, ↓iQeq_t, ↓iQeq_f, ↓iAnd_t, ↓iAnd_f, ↓iOr_t, ↓iOr_f, ↓iIff_t, ↓iIff_f, ↓iNot_t, ↓iNot_f, ↓iTrue, ↓iFalse, ↓ckN, ↓ckJ, ↓gIT, ↓gLT, ↓gRT, ↓cvT, ↓pIT, ↓pLT, ↓pZT, ↓asZ, ↓aNT, ↓arL, ↓asL, ↓arI, ↓asI, ↓aR_1, ↓bnd_some, ↓wh_eq, ↓on_some, ↓on_none, asZ, arL, asL, arI, asI, aR_1, bnd_some, wh_eq, on_some, on_none, tnT, tnU, tnL, nk, jk, N_add, N_mul, N_sub, N_neg, J_add, J_mul, J_sub, J_neg, N_J, ouL_g, ouL_w, dA, dB, dD, ↓b_size, ↓pZ91, w1_w1]
      · by_cases c2 : 1000000000 < A1.natAbs
        · rw [ibT ⟨c0', Or.inr (Or.inl c2)⟩]
          simp (disch := omega) only [↓iNlt_t, ↓iNlt_f, ↓iNle_t, ↓iNle_f, ↓iNeq_t, ↓iNeq_f, ↓iJlt_t, ↓iJlt_f, ↓iJle_t, ↓iJle_f, ↓iJeq_t, ↓iJeq_f, ↓iZlt_t, ↓iZlt_f, ↓iZle_t, ↓iZle_f, ↓iZeq_t, ↓iZeq_f, ↓iQlt_t, ↓iQlt_f, ↓iQle_t, ↓iQle_f, ↓iQeq_t, ↓iQeq_f, ↓iAnd_t, ↓iAnd_f, ↓iOr_t, ↓iOr_f, ↓iIff_t, ↓iIff_f, ↓iNot_t, ↓iNot_f, ↓iTrue, ↓iFalse, ↓ckN, ↓ckJ, ↓gIT, ↓gLT, ↓gRT, ↓cvT, ↓pIT, ↓pLT, ↓pZT, ↓asZ, ↓aNT, ↓arL, ↓asL, ↓arI, ↓asI, ↓aR_1, ↓bnd_some, ↓wh_eq, ↓on_some, ↓on_none, asZ, arL, asL, arI, asI, aR_1, bnd_some, wh_eq, on_some, on_none, tnT, tnU, tnL, nk, jk, N_add, N_mul, N_sub, N_neg, J_add, J_mul, J_sub, J_neg, N_J, ouL_g, ouL_w, dA, dB, dD, ↓b_size, ↓pZ91, w1_w1]
        · by_cases c3 : 10000 < B1.natAbs
          · rw [ibT ⟨c0', Or.inr (Or.inr (Or.inl c3))⟩]
            simp (disch := omega) only [↓iNlt_t, ↓iNlt_f, ↓iNle_t, ↓iNle_f, ↓iNeq_t, ↓iNeq_f, ↓iJlt_t, ↓iJlt_f, ↓iJle_t, ↓iJle_f, ↓iJeq_t, ↓iJeq_f, ↓iZlt_t, ↓iZlt_f, ↓iZle_t, ↓iZle_f, ↓iZeq_t, ↓iZeq_f, ↓iQlt_t, ↓iQlt_f, ↓iQle_t, ↓iQle_f, ↓iQeq_t, ↓iQeq_f, ↓iAnd_t, ↓iAnd_f, ↓iOr_t, ↓iOr_f, ↓iIff_t, ↓iIff_f, ↓iNot_t, ↓iNot_f, ↓iTrue, ↓iFalse, ↓ckN, ↓ckJ, ↓gIT, ↓gLT, ↓gRT, ↓cvT, ↓pIT, ↓pLT, ↓pZT, ↓asZ, ↓aNT, ↓arL, ↓asL, ↓arI, ↓asI, ↓aR_1, ↓bnd_some, ↓wh_eq, ↓on_some, ↓on_none, asZ, arL, asL, arI, asI, aR_1, bnd_some, wh_eq, on_some, on_none, tnT, tnU, tnL, nk, jk, N_add, N_mul, N_sub, N_neg, J_add, J_mul, J_sub, J_neg, N_J, ouL_g, ouL_w, dA, dB, dD, ↓b_size, ↓pZ91, w1_w1]
          · have hbb : (B1 * B1).natAbs ≤ 10000 * 10000 := by
              rw [Int.natAbs_mul]
              exact Nat.mul_le_mul (by omega) (by omega)
            have hbn : (B1 * B1 * n).natAbs ≤ 10000 * 10000 * 10000000 := by
              rw [Int.natAbs_mul]
              exact Nat.mul_le_mul hbb (by omega)
            have e : (B1.natAbs : Int) * (B1.natAbs : Int) = B1 * B1 := by
              rw [← Int.natAbs_mul_self (a := B1)]
              simp
            by_cases c4 : B1 * B1 * n ≤ 10000000
            · rw [ibF (show ¬ (B ≠ 0 ∧ (10000 < D1.natAbs ∨ 1000000000 < A1.natAbs ∨ 10000 < B1.natAbs ∨ 10000000 < B1 * B1 * n)) by omega)]
              simp (disch := omega) only [↓iNlt_t, ↓iNlt_f, ↓iNle_t, ↓iNle_f, ↓iNeq_t, ↓iNeq_f, ↓iJlt_t, ↓iJlt_f, ↓iJle_t, ↓iJle_f, ↓iJeq_t, ↓iJeq_f, ↓iZlt_t, ↓iZlt_f, ↓iZle_t, ↓iZle_f, ↓iZeq_t, ↓iZeq_f, ↓iQlt_t, ↓iQlt_f, ↓iQle_t, ↓iQle_f, ↓iQeq_t, ↓iQeq_f, ↓iAnd_t, ↓iAnd_f, ↓iOr_t, ↓iOr_f, ↓iIff_t, ↓iIff_f, ↓iNot_t, ↓iNot_f, ↓iTrue, ↓iFalse, ↓ckN, ↓ckJ, ↓gIT, ↓gLT, ↓gRT, ↓cvT, ↓pIT, ↓pLT, ↓pZT, ↓asZ, ↓aNT, ↓arL, ↓asL, ↓arI, ↓asI, ↓aR_1, ↓bnd_some, ↓wh_eq, ↓on_some, ↓on_none, asZ, arL, asL, arI, asI, aR_1, bnd_some, wh_eq, on_some, on_none, tnT, tnU, tnL, nk, jk, N_add, N_mul, N_sub, N_neg, J_add, J_mul, J_sub, J_neg, N_J, ouL_g, ouL_w, dA, dB, dD, ↓b_size, e, ↓pZ90, w1_w1]
            · rw [ibT ⟨c0', Or.inr (Or.inr (Or.inr (by omega)))⟩]
              simp (disch := omega) only [↓iNlt_t, ↓iNlt_f, ↓iNle_t, ↓iNle_f, ↓iNeq_t, ↓iNeq_f, ↓iJlt_t, ↓iJlt_f, ↓iJle_t, ↓iJle_f, ↓iJeq_t, ↓iJeq_f, ↓iZlt_t, ↓iZlt_f, ↓iZle_t, ↓iZle_f, ↓iZeq_t, ↓iZeq_f, ↓iQlt_t, ↓iQlt_f, ↓iQle_t, ↓iQle_f, ↓iQeq_t, ↓iQeq_f, ↓iAnd_t, ↓iAnd_f, ↓iOr_t, ↓iOr_f, ↓iIff_t, ↓iIff_f, ↓iNot_t, ↓iNot_f, ↓iTrue, ↓iFalse, ↓ckN, ↓ckJ, ↓gIT, ↓gLT, ↓gRT, ↓cvT, ↓pIT, ↓pLT, ↓pZT, ↓asZ, ↓aNT, ↓arL, ↓asL, ↓arI, ↓asI, ↓aR_1, ↓bnd_some, ↓wh_eq, ↓on_some, ↓on_none, asZ, arL, asL, arI, asI, aR_1, bnd_some, wh_eq, on_some, on_none, tnT, tnU, tnL, nk, jk, N_add, N_mul, N_sub, N_neg, J_add, J_mul, J_sub, J_neg, N_J, ouL_g, ouL_w, dA, dB, dD, ↓b_size, e]
              rw [pZ91, w1_w1]
  rw [← key]
  unfold fX9_checkOut
  simp only [jk]
  by_cases c : B = 0
  · have e : lg A B D = ((Int.gcd A D : Nat) : Int) := by
      unfold lg
      rw [c, Int.gcd_zero_right, Int.gcd_comm D A]
      simp
    rw [e]
    simp (disch := omega) only [↓iNlt_t, ↓iNlt_f, ↓iNle_t, ↓iNle_f, ↓iNeq_t, ↓iNeq_f, ↓iJlt_t, ↓iJlt_f, ↓iJle_t, ↓iJle_f, ↓iJeq_t, ↓iJeq_f, ↓iZlt_t, ↓iZlt_f, ↓iZle_t, ↓iZle_f, ↓iZeq_t, ↓iZeq_f, ↓iQlt_t, ↓iQlt_f, ↓iQle_t, ↓iQle_f, ↓iQeq_t, ↓iQeq_f, ↓iAnd_t, ↓iAnd_f, ↓iOr_t, ↓iOr_f, ↓iIff_t, ↓iIff_f, ↓iNot_t, ↓iNot_f, ↓iTrue, ↓iFalse, ↓ckN, ↓ckJ, ↓gIT, ↓gLT, ↓gRT, ↓cvT, ↓pIT, ↓pLT, ↓pZT, ↓asZ, ↓aNT, ↓arL, ↓asL, ↓arI, ↓asI, ↓aR_1, ↓bnd_some, ↓wh_eq, ↓on_some, ↓on_none, asZ, arL, asL, arI, asI, aR_1, bnd_some, wh_eq, on_some, on_none, tnT, tnU, tnL, nk, jk, N_add, N_mul, N_sub, N_neg, J_add, J_mul, J_sub, J_neg, N_J, ouL_g, ↓b_divisor]
  · have e : lg A B D = ((Int.gcd ((Int.gcd A B : Nat) : Int) D : Nat) : Int) := lg_alt A B D
    have g1 := gcd_nf fA fB
    rw [e]
    simp (disch := omega) only [↓iNlt_t, ↓iNlt_f, ↓iNle_t, ↓iNle_f, ↓iNeq_t, ↓iNeq_f, ↓iJlt_t, ↓iJlt_f, ↓iJle_t, ↓iJle_f, ↓iJeq_t, ↓iJeq_f, ↓iZlt_t, ↓iZlt_f, ↓iZle_t, ↓iZle_f, ↓iZeq_t, ↓iZeq_f, ↓iQlt_t, ↓iQlt_f, ↓iQle_t, ↓iQle_f, ↓iQeq_t, ↓iQeq_f, ↓iAnd_t, ↓iAnd_f, ↓iOr_t, ↓iOr_f, ↓iIff_t, ↓iIff_f, ↓iNot_t, ↓iNot_f, ↓iTrue, ↓iFalse, ↓ckN, ↓ckJ, ↓gIT, ↓gLT, ↓gRT, ↓cvT, ↓pIT, ↓pLT, ↓pZT, ↓asZ, ↓aNT, ↓arL, ↓asL, ↓arI, ↓asI, ↓aR_1, ↓bnd_some, ↓wh_eq, ↓on_some, ↓on_none, asZ, arL, asL, arI, asI, aR_1, bnd_some, wh_eq, on_some, on_none, tnT, tnU, tnL, nk, jk, N_add, N_mul, N_sub, N_neg, J_add, J_mul, J_sub, J_neg, N_J, ouL_g, ↓b_divisor]
theorem q_put0 {a n d : Int} (ha : ¬ far a) (hd : ¬ far d) (h : AH) : fX9_put 108 (J a) (J 0) (J n) (J d) h = cv h 108 9 (bnd (fX9_newRatio 108 (J a) (J d) h) (fun x104 h103 => some (x104, h103))) := by
  have g1 := gcd_nf ha (show ¬ far 0 by omega)
  unfold fX9_put fX9_put_27
  simp only [jk]
  by_cases c : 0 ≤ d
  · simp (disch := omega) only [↓iNlt_t, ↓iNlt_f, ↓iNle_t, ↓iNle_f, ↓iNeq_t, ↓iNeq_f, ↓iJlt_t, ↓iJlt_f, ↓iJle_t, ↓iJle_f, ↓iJeq_t, ↓iJeq_f, ↓iZlt_t, ↓iZlt_f, ↓iZle_t, ↓iZle_f, ↓iZeq_t, ↓iZeq_f, ↓iQlt_t, ↓iQlt_f, ↓iQle_t, ↓iQle_f, ↓iQeq_t, ↓iQeq_f, ↓iAnd_t, ↓iAnd_f, ↓iOr_t, ↓iOr_f, ↓iIff_t, ↓iIff_f, ↓iNot_t, ↓iNot_f, ↓iTrue, ↓iFalse, ↓ckN, ↓ckJ, ↓gIT, ↓gLT, ↓gRT, ↓cvT, ↓pIT, ↓pLT, ↓pZT, ↓asZ, ↓aNT, ↓arL, ↓asL, ↓arI, ↓asI, ↓aR_1, ↓bnd_some, ↓wh_eq, ↓on_some, ↓on_none, asZ, arL, asL, arI, asI, aR_1, bnd_some, wh_eq, on_some, on_none, tnT, tnU, tnL, nk, jk, N_add, N_mul, N_sub, N_neg, J_add, J_mul, J_sub, J_neg, N_J, ↓b_divisor]
  · simp (disch := omega) only [↓iNlt_t, ↓iNlt_f, ↓iNle_t, ↓iNle_f, ↓iNeq_t, ↓iNeq_f, ↓iJlt_t, ↓iJlt_f, ↓iJle_t, ↓iJle_f, ↓iJeq_t, ↓iJeq_f, ↓iZlt_t, ↓iZlt_f, ↓iZle_t, ↓iZle_f, ↓iZeq_t, ↓iZeq_f, ↓iQlt_t, ↓iQlt_f, ↓iQle_t, ↓iQle_f, ↓iQeq_t, ↓iQeq_f, ↓iAnd_t, ↓iAnd_f, ↓iOr_t, ↓iOr_f, ↓iIff_t, ↓iIff_f, ↓iNot_t, ↓iNot_f, ↓iTrue, ↓iFalse, ↓ckN, ↓ckJ, ↓gIT, ↓gLT, ↓gRT, ↓cvT, ↓pIT, ↓pLT, ↓pZT, ↓asZ, ↓aNT, ↓arL, ↓asL, ↓arI, ↓asI, ↓aR_1, ↓bnd_some, ↓wh_eq, ↓on_some, ↓on_none, asZ, arL, asL, arI, asI, aR_1, bnd_some, wh_eq, on_some, on_none, tnT, tnU, tnL, nk, jk, N_add, N_mul, N_sub, N_neg, J_add, J_mul, J_sub, J_neg, N_J, ↓b_divisor]
end TL
def rtl (h102 : AH) : Fn Int64 := gI h102 108 9 0 (fun x103 => (if x103 = 0 then gL h102 108 9 15 (fun x104 => gL h102 108 9 16 (fun x105 => gL h102 108 9 17 (fun x106 => gL h102 108 9 18 (fun x107 => cv h102 108 9 (bnd (fX9_put 108 x104 x105 x106 x107 h102) (fun x109 h108 => some ((Int32.toInt64 x109), h108))))))) else some ((-2000000000000000005), h102)))
theorem T_exact {i l : Nat → Nat → Int} {x y : Option Nat} (r : Rel i l) {s : Nat} (f2 : lfr (i 109) 40 0 = s) (f3 : s < 40) (f4 : i 109 s = 0) {how a b d e f g nc nr rr A B D : Int} (oA : ok64 A) (oB : ok64 B) (oD : ok64 D) (fn : 0 ≤ nc ∧ nc ≤ 10000000) (fn2 : 0 ≤ nr ∧ nr ≤ 10000000) (hb0 : B ≠ 0 → 2 ≤ nc ∧ (∀ m : Int, m * m ≠ nc) ∧ nc = nr) (hD : ¬ (far A ∨ far B ∨ far D) → D ≠ 0) (X : RX how a b d e f g nr rr A B D) :
    ∃ (v : Int64) (i1 l1 i2 l2 : Nat → Nat → Int), fX8_placeOutcome 0 (N s) (hq i (oc l 7 A B nc D) x y) = some (v, hq i1 l1 x y) ∧ bnd (fX9_exactly 108 (N how) (J a) (J b) (J d) (J e) (J f) (J g) (J nr) (N rr) (hq i1 l1 x y)) (fun _ h => rtl h) = some (v, hq i2 l2 x y) ∧ Rel i2 l2 ∧ ∀ c, 108 ≤ c → i1 c = i c ∧ l1 c = l c := by
  have hP := q_placeOutcome (i := i) (l := oc l 7 A B nc D) (x := x) (y := y) f3 (oc_0 _ _ _ _ _ _) (oc_1 _ _ _ _ _ _) (oc_2 _ _ _ _ _ _) (oc_3 _ _ _ _ _ _) oA oB oD (by omega) (fun z => ⟨(hb0 z).1, (hb0 z).2.1⟩)
  have ro : ∀ a b n d, Rel i (oc l 7 a b n d) := fun a b n d => r.outc (Or.inl rfl) a b n d
  by_cases c1 : far A ∨ far B ∨ far D
  · rw [if_pos (show far A ∨ far B ∨ far D ∨ D = 0 by rcases c1 with z | z | z <;> simp only [z, true_or, or_true])] at hP
    obtain ⟨a2, b2, d2, hX⟩ := (X i (oc l 7 A B nc D) x y).1 c1
    refine ⟨_, i, oc l 7 A B nc D, w1 i 108 0 1, ouL (oc l 7 A B nc D) a2 b2 nr d2, hP, ?_, (ro _ _ _ _).aside (Or.inr rfl) (fun c hc => ouL_n _ _ _ _ _ hc), fun c hc => ⟨rfl, oc_n _ _ _ _ _ (by omega)⟩⟩
    rw [bq hX]
    unfold rtl
    rw [gI_q s9T, w1_s, if_neg (by decide)]
  · have hD0 := hD c1
    rw [if_neg (show ¬ (far A ∨ far B ∨ far D ∨ D = 0) by omega)] at hP
    obtain ⟨t1, t2, t3⟩ := lsg_twice (a := A) (b := B) hD0
    have hBz : B.tdiv (lsg A B D) = 0 ↔ B = 0 := by
      rw [← tdiv_twice hD0]
      constructor
      · intro z
        rcases Classical.em (B = 0) with q | q
        · exact q
        · exfalso
          have h1 : B.tdiv (lg A B D) ≠ 0 := fun w => q (t3.mp w)
          rw [t1] at z
          split at z
          · rw [Int.tdiv_one] at z; exact h1 z
          · rw [tdiv_neg', Int.tdiv_one] at z; omega
      · intro z
        rw [z, Int.zero_tdiv, Int.zero_tdiv]
    have CO : ∀ (i l : Nat → Nat → Int), bnd (chk (hq (w1 i 108 0 0) (ouL l A B nr D) x y)) (fun _ h => rtl h) = rtl (hq (w1 i 108 0 (ib (B ≠ 0 ∧ farR2 (A.tdiv (lg A B D)) (B.tdiv (lg A B D)) nr (D.tdiv (lg A B D))))) (ouL l (A.tdiv (lg A B D)) (B.tdiv (lg A B D)) nr (D.tdiv (lg A B D))) x y) := fun i l => by
      unfold chk
      rw [cv_q s9T, bq (q_checkOut (by omega) (by omega) (by omega) hD0 fn2), bnd_some]
    have XX : ∀ (i l : Nat → Nat → Int), bnd (fX9_exactly 108 (N how) (J a) (J b) (J d) (J e) (J f) (J g) (J nr) (N rr) (hq i l x y)) (fun _ h => rtl h) = rtl (hq (w1 i 108 0 (ib (B ≠ 0 ∧ farR2 (A.tdiv (lg A B D)) (B.tdiv (lg A B D)) nr (D.tdiv (lg A B D))))) (ouL l (A.tdiv (lg A B D)) (B.tdiv (lg A B D)) nr (D.tdiv (lg A B D))) x y) := fun i l => by
      rw [(X i l x y).2 c1, CO]
    have fA1 := tdiv_far (a := A) (s := lg A B D) (by omega)
    have fB1 := tdiv_far (a := B) (s := lg A B D) (by omega)
    have fD1 := tdiv_far (a := D) (s := lg A B D) (by omega)
    obtain ⟨dd1, dd2⟩ := lsg_ok (a := A) (b := B) (d := D) (by omega) hD0
    have fa := tdiv_far (a := A) (s := lsg A B D) (by omega)
    by_cases c2 : B = 0
    · rw [if_pos (hBz.mpr c2), hBz.mpr c2] at hP
      have e1 := tdiv_twice (a := A) (b := B) hD0 A
      have e2 := tdiv_twice (a := A) (b := B) hD0 D
      rw [t3.mpr c2, lsg_rby] at e1 e2
      have i9 : ∀ v, w1 (crI i s (A.tdiv (lsg A B D)) (D.tdiv (lsg A B D))) 108 0 v 109 = i 109 := fun v => by rw [w1_r _ _ _ (by omega)]; funext j; rw [crI_n _ _ _ _ (by omega)]
      have Q := fun v lq => q_newRatio (i := w1 (crI i s (A.tdiv (lsg A B D)) (D.tdiv (lsg A B D))) 108 0 v) (l := lq) (x := x) (y := y) (s := s) (by rw [i9]; exact r.m) (by rw [i9]; exact f2) f3 fA1 fD1 t2
      rw [e1, e2] at Q
      rw [t3.mpr c2] at XX
      generalize A.tdiv (lsg A B D) = U at *
      generalize D.tdiv (lsg A B D) = V at *
      generalize A.tdiv (lg A B D) = A1 at *
      generalize D.tdiv (lg A B D) = D1 at *
      refine ⟨J s, crI i s U V, crL (oc (oc l 7 A B nc D) 7 U 0 nc V) s U V, mrI (w1 (crI i s U V) 108 0 0) s U V, mrL (ouL (crL (oc (oc l 7 A B nc D) 7 U 0 nc V) s U V) A1 0 nr D1) s U V, hP, ?_, ?_, fun c hc => ⟨by funext j; rw [crI_n _ _ _ _ (by omega)], by rw [crL_n _ _ _ _ (by omega) (by omega), oc_n _ _ _ _ _ (by omega), oc_n _ _ _ _ _ (by omega)]⟩⟩
      · rw [XX, ibF (fun z => z.1 c2)]
        unfold rtl
        rw [gI_q s9T, w1_s, if_pos (by decide)]
        simp only [gLT, ouL_g]
        rw [cv_q s9T, q_put0 fA1 fD1, cv_q s9T, bq (Q 0 _), bnd_some, N_J (by omega) (by omega)]
      · rw [mrI_w, oc_oc]
        exact (((ro _ _ _ _).ratio f3 f4 fa (by omega) dd2).aside (Or.inl rfl) (fun c hc => mrL_row (fun c hc => ouL_n _ _ _ _ _ hc) _ _ _ hc))
    · rw [if_neg (fun z => c2 (hBz.mp z))] at hP
      obtain ⟨n1, n2, n3⟩ := hb0 c2
      have hF := farR2_iff (a := A) (b := B) (n := nc) (d := D) hD0 c2 n1
      by_cases c3 : farRt (A.tdiv (lsg A B D)) (B.tdiv (lsg A B D)) nc (D.tdiv (lsg A B D))
      · rw [if_pos c3] at hP
        generalize A.tdiv (lsg A B D) = U at *
        generalize B.tdiv (lsg A B D) = W at *
        generalize D.tdiv (lsg A B D) = V at *
        generalize A.tdiv (lg A B D) = A1 at *
        generalize B.tdiv (lg A B D) = B1 at *
        generalize D.tdiv (lg A B D) = D1 at *
        refine ⟨_, i, oc (oc l 7 A B nc D) 7 U W nc V, w1 i 108 0 1, ouL (oc (oc l 7 A B nc D) 7 U W nc V) A1 B1 nr D1, hP, ?_, ?_, fun c hc => ⟨rfl, by rw [oc_n _ _ _ _ _ (by omega), oc_n _ _ _ _ _ (by omega)]⟩⟩
        · rw [XX, ibT ⟨c2, by rw [← n3]; exact hF.mpr c3⟩]
          unfold rtl
          rw [gI_q s9T, w1_s, if_neg (by decide)]
        · rw [oc_oc]
          exact (ro _ _ _ _).aside (Or.inr rfl) (fun c hc => ouL_n _ _ _ _ _ hc)
      · rw [if_neg c3] at hP
        have hr : RootOK (A.tdiv (lsg A B D)) (B.tdiv (lsg A B D)) nc (D.tdiv (lsg A B D)) := ⟨⟨dd1, by omega⟩, by omega, ⟨fun z => c2 (hBz.mp z), n1⟩, by omega, n2⟩
        have i9 : ∀ v, w1 (ctI i s) 108 0 v 109 = i 109 := fun v => by rw [w1_r _ _ _ (by omega)]; funext j; rw [ctI_n _ _ (by omega)]
        have Q := fun v lq => q_newRoot (i := w1 (ctI i s) 108 0 v) (l := lq) (x := x) (y := y) (s := s) (by rw [i9]; exact r.m) (by rw [i9]; exact f2) f3 hr
        have B1 : B.tdiv (lg A B D) ≠ 0 := fun w => c2 (t3.mp w)
        have e1 := tdiv_twice (a := A) (b := B) hD0 A
        have e2 := tdiv_twice (a := A) (b := B) hD0 B
        have e3 := tdiv_twice (a := A) (b := B) hD0 D
        generalize A.tdiv (lsg A B D) = U at *
        generalize B.tdiv (lsg A B D) = W at *
        generalize D.tdiv (lsg A B D) = V at *
        generalize A.tdiv (lg A B D) = A1 at *
        generalize B.tdiv (lg A B D) = B1' at *
        generalize D.tdiv (lg A B D) = D1 at *
        refine ⟨J s, ctI i s, ctL (oc (oc l 7 A B nc D) 7 U W nc V) s U W nc V, mtI (w1 (ctI i s) 108 0 0) s, mtL (mtN (ouL (ctL (oc (oc l 7 A B nc D) 7 U W nc V) s U W nc V) A1 B1' nr D1) s U W nc V) s (rD W nc V) (rR W nc V) (rX U W V) (rY W V) 61 60, hP, ?_, ?_, fun c hc => ⟨by funext j; rw [ctI_n _ _ (by omega)], by rw [ctL_n _ _ _ _ _ _ (by omega) (by omega) (by omega) (by omega) (by omega), oc_n _ _ _ _ _ (by omega), oc_n _ _ _ _ _ (by omega)]⟩⟩
        · rw [XX, ibF (fun z => c3 (hF.mp (by rw [n3]; exact z.2)))]
          unfold rtl
          rw [gI_q s9T, w1_s, if_pos (by decide)]
          simp only [gLT, ouL_g]
          rw [cv_q s9T, q_put fA1 fB1 fD1 t2 B1, e1, e2, e3, ck_t rfl, cv_q s9T, ← n3, bq (Q 0 _), bnd_some, N_J (by omega) (by omega)]
        · rw [mtI_w, oc_oc]
          exact (((ro _ _ _ _).root f3 f4 hr).aside (Or.inl rfl) (fun c hc => mtL_row (fun c hc => mtN_row (fun c hc => ouL_n _ _ _ _ _ hc) _ _ _ _ _ hc) _ _ _ _ _ _ _ hc))
