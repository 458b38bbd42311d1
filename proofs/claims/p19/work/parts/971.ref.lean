/-! ===== making in the reference: made by rm.py ===== -/
section RB
variable {ρ : Type} {i l : Nat → Nat → Int} {x y : Option Nat}
theorem r_becF : fX9_become 108 (hq (w1 i 108 0 1) l x y) = some (N 0, hq (w1 i 108 0 1) l x y) := by
  unfold fX9_become
  simp only [nk]
  simp (disch := omega) only [↓iNlt_t, ↓iNlt_f, ↓iNle_t, ↓iNle_f, ↓iNeq_t, ↓iNeq_f, ↓iJlt_t, ↓iJlt_f, ↓iJle_t, ↓iJle_f, ↓iJeq_t, ↓iJeq_f, ↓iZlt_t, ↓iZlt_f, ↓iZle_t, ↓iZle_f, ↓iZeq_t, ↓iZeq_f, ↓iQlt_t, ↓iQlt_f, ↓iQle_t, ↓iQle_f, ↓iQeq_t, ↓iQeq_f, ↓iAnd_t, ↓iAnd_f, ↓iOr_t, ↓iOr_f, ↓iIff_t, ↓iIff_f, ↓iNot_t, ↓iNot_f, ↓iTrue, ↓iFalse, ↓ckN, ↓ckJ, ↓gIT, ↓gLT, ↓gRT, ↓cvT, ↓pIT, ↓pLT, ↓pZT, ↓asZ, ↓aNT, ↓arL, ↓asL, ↓arI, ↓asI, ↓aR_1, ↓bnd_some, ↓wh_eq, ↓on_some, ↓on_none, asZ, arL, asL, arI, asI, aR_1, bnd_some, wh_eq, on_some, on_none, tnT, tnU, tnL, nk, jk, N_add, N_mul, N_sub, N_neg, J_add, J_mul, J_sub, J_neg, N_J, w1_s]
theorem r_bec38 {w : Nat → Int} (hw : ∀ j, j < 8 → l 122 j = w j ∧ ¬ far (w j)) (g : Nat → Int) : ∀ (m k q : Nat), k + m = 8 → m + 1 ≤ q → fX9_become_38L q 108 (J ((gk w 8 : Nat) : Int)) (N k) (hq i (wr l 121 (fl (gdv w) g k)) x y) = some (N 1, hq i (wr l 121 (fl (gdv w) g 8)) x y) := by
  have hgl := gk_le w 8 (fun j hj => (hw j hj).2)
  intro m
  induction m with
  | zero =>
    intro k q hk hq'
    obtain ⟨z, rfl⟩ : ∃ z, q = z + 1 := ⟨q - 1, by omega⟩
    obtain rfl : k = 8 := by omega
    show fX9_become_38 (fX9_become_38L z) 108 _ _ _ = _
    unfold fX9_become_38
    simp only [nk, jk, N_add, N_mul, N_sub, N_neg, J_add, J_mul, J_sub, J_neg]
    simp (disch := omega) only [↓iNlt_t, ↓iNlt_f, ↓iNle_t, ↓iNle_f, ↓iNeq_t, ↓iNeq_f, ↓iJlt_t, ↓iJlt_f, ↓iJle_t, ↓iJle_f, ↓iJeq_t, ↓iJeq_f, ↓iZlt_t, ↓iZlt_f, ↓iZle_t, ↓iZle_f, ↓iZeq_t, ↓iZeq_f, ↓iQlt_t, ↓iQlt_f, ↓iQle_t, ↓iQle_f, ↓iQeq_t, ↓iQeq_f, ↓iAnd_t, ↓iAnd_f, ↓iOr_t, ↓iOr_f, ↓iIff_t, ↓iIff_f, ↓iNot_t, ↓iNot_f, ↓iTrue, ↓iFalse, ↓ckN, ↓ckJ, ↓gIT, ↓gLT, ↓gRT, ↓cvT, ↓pIT, ↓pLT, ↓pZT, ↓asZ, ↓aNT, ↓arL, ↓asL, ↓arI, ↓asI, ↓aR_1, ↓bnd_some, ↓wh_eq, ↓on_some, ↓on_none, asZ, arL, asL, arI, asI, aR_1, bnd_some, wh_eq, on_some, on_none, tnT, tnU, tnL, nk, jk, N_add, N_mul, N_sub, N_neg, J_add, J_mul, J_sub, J_neg, N_J]
  | succ m ih =>
    intro k q hk hq'
    obtain ⟨z, rfl⟩ : ∃ z, q = z + 1 := ⟨q - 1, by omega⟩
    have ih := ih (k + 1) z (by omega) (by omega)
    obtain ⟨w0, w2⟩ := hw k (by omega)
    have e22 : wr l 121 (fl (gdv w) g k) 122 k = w k := by rw [wr_n _ _ (by omega)]; exact w0
    have e := w1_fl l 121 k (gdv w) g
    show fX9_become_38 (fX9_become_38L z) 108 _ _ _ = _
    unfold fX9_become_38
    simp only [nk, jk, N_add, N_mul, N_sub, N_neg, J_add, J_mul, J_sub, J_neg]
    by_cases c : gk w 8 = 0
    · have eg : gdv w k = 0 := by
        have h0 := gk_dvd w 8 k (by omega)
        rw [c] at h0
        have : w k = 0 := Int.zero_dvd.mp h0
        unfold gdv
        rw [this, Int.zero_tdiv]
      rw [eg] at e
      simp (disch := omega) only [↓iNlt_t, ↓iNlt_f, ↓iNle_t, ↓iNle_f, ↓iNeq_t, ↓iNeq_f, ↓iJlt_t, ↓iJlt_f, ↓iJle_t, ↓iJle_f, ↓iJeq_t, ↓iJeq_f, ↓iZlt_t, ↓iZlt_f, ↓iZle_t, ↓iZle_f, ↓iZeq_t, ↓iZeq_f, ↓iQlt_t, ↓iQlt_f, ↓iQle_t, ↓iQle_f, ↓iQeq_t, ↓iQeq_f, ↓iAnd_t, ↓iAnd_f, ↓iOr_t, ↓iOr_f, ↓iIff_t, ↓iIff_f, ↓iNot_t, ↓iNot_f, ↓iTrue, ↓iFalse, ↓ckN, ↓ckJ, ↓gIT, ↓gLT, ↓gRT, ↓cvT, ↓pIT, ↓pLT, ↓pZT, ↓asZ, ↓aNT, ↓arL, ↓asL, ↓arI, ↓asI, ↓aR_1, ↓bnd_some, ↓wh_eq, ↓on_some, ↓on_none, asZ, arL, asL, arI, asI, aR_1, bnd_some, wh_eq, on_some, on_none, tnT, tnU, tnL, nk, jk, N_add, N_mul, N_sub, N_neg, J_add, J_mul, J_sub, J_neg, N_J, e]
      exact ih
    · have eg : J (w k) / J ((gk w 8 : Nat) : Int) = J (gdv w k) := by
        rw [J_div (by omega) (by omega) (by omega) (by omega)]
        unfold gdv gd
        rw [if_neg c]
      simp (disch := omega) only [↓iNlt_t, ↓iNlt_f, ↓iNle_t, ↓iNle_f, ↓iNeq_t, ↓iNeq_f, ↓iJlt_t, ↓iJlt_f, ↓iJle_t, ↓iJle_f, ↓iJeq_t, ↓iJeq_f, ↓iZlt_t, ↓iZlt_f, ↓iZle_t, ↓iZle_f, ↓iZeq_t, ↓iZeq_f, ↓iQlt_t, ↓iQlt_f, ↓iQle_t, ↓iQle_f, ↓iQeq_t, ↓iQeq_f, ↓iAnd_t, ↓iAnd_f, ↓iOr_t, ↓iOr_f, ↓iIff_t, ↓iIff_f, ↓iNot_t, ↓iNot_f, ↓iTrue, ↓iFalse, ↓ckN, ↓ckJ, ↓gIT, ↓gLT, ↓gRT, ↓cvT, ↓pIT, ↓pLT, ↓pZT, ↓asZ, ↓aNT, ↓arL, ↓asL, ↓arI, ↓asI, ↓aR_1, ↓bnd_some, ↓wh_eq, ↓on_some, ↓on_none, asZ, arL, asL, arI, asI, aR_1, bnd_some, wh_eq, on_some, on_none, tnT, tnU, tnL, nk, jk, N_add, N_mul, N_sub, N_neg, J_add, J_mul, J_sub, J_neg, N_J, e22, eg, e]
      exact ih
theorem r_bec13 {w : Nat → Int} (hw : ∀ j, j < 8 → l 122 j = w j ∧ ¬ far (w j)) : ∀ (m k q : Nat), k + m = 8 → m + 1 ≤ q → fX9_become_13L q 108 (J ((gk w k : Nat) : Int)) (N k) (hq i l x y) = fX9_become_38L 1000 108 (J ((gk w 8 : Nat) : Int)) (N 0) (hq i l x y) := by
  intro m
  induction m with
  | zero =>
    intro k q hk hq'
    obtain ⟨z, rfl⟩ : ∃ z, q = z + 1 := ⟨q - 1, by omega⟩
    obtain rfl : k = 8 := by omega
    show fX9_become_13 (fX9_become_13L z) 108 _ _ _ = _
    unfold fX9_become_13
    simp only [nk, jk, N_add, N_mul, N_sub, N_neg, J_add, J_mul, J_sub, J_neg]
    simp (disch := omega) only [↓iNlt_t, ↓iNlt_f, ↓iNle_t, ↓iNle_f, ↓iNeq_t, ↓iNeq_f, ↓iJlt_t, ↓iJlt_f, ↓iJle_t, ↓iJle_f, ↓iJeq_t, ↓iJeq_f, ↓iZlt_t, ↓iZlt_f, ↓iZle_t, ↓iZle_f, ↓iZeq_t, ↓iZeq_f, ↓iQlt_t, ↓iQlt_f, ↓iQle_t, ↓iQle_f, ↓iQeq_t, ↓iQeq_f, ↓iAnd_t, ↓iAnd_f, ↓iOr_t, ↓iOr_f, ↓iIff_t, ↓iIff_f, ↓iNot_t, ↓iNot_f, ↓iTrue, ↓iFalse, ↓ckN, ↓ckJ, ↓gIT, ↓gLT, ↓gRT, ↓cvT, ↓pIT, ↓pLT, ↓pZT, ↓asZ, ↓aNT, ↓arL, ↓asL, ↓arI, ↓asI, ↓aR_1, ↓bnd_some, ↓wh_eq, ↓on_some, ↓on_none, asZ, arL, asL, arI, asI, aR_1, bnd_some, wh_eq, on_some, on_none, tnT, tnU, tnL, nk, jk, N_add, N_mul, N_sub, N_neg, J_add, J_mul, J_sub, J_neg, N_J]
  | succ m ih =>
    intro k q hk hq'
    obtain ⟨z, rfl⟩ : ∃ z, q = z + 1 := ⟨q - 1, by omega⟩
    have ih := ih (k + 1) z (by omega) (by omega)
    obtain ⟨w0, w2⟩ := hw k (by omega)
    have hgl := gk_le w k (fun j hj => (hw j (by omega)).2)
    show fX9_become_13 (fX9_become_13L z) 108 _ _ _ = _
    unfold fX9_become_13
    rw [← ih]
    simp only [nk, jk, N_add, N_mul, N_sub, N_neg, J_add, J_mul, J_sub, J_neg]
    simp (disch := omega) only [↓iNlt_t, ↓iNlt_f, ↓iNle_t, ↓iNle_f, ↓iNeq_t, ↓iNeq_f, ↓iJlt_t, ↓iJlt_f, ↓iJle_t, ↓iJle_f, ↓iJeq_t, ↓iJeq_f, ↓iZlt_t, ↓iZlt_f, ↓iZle_t, ↓iZle_f, ↓iZeq_t, ↓iZeq_f, ↓iQlt_t, ↓iQlt_f, ↓iQle_t, ↓iQle_f, ↓iQeq_t, ↓iQeq_f, ↓iAnd_t, ↓iAnd_f, ↓iOr_t, ↓iOr_f, ↓iIff_t, ↓iIff_f, ↓iNot_t, ↓iNot_f, ↓iTrue, ↓iFalse, ↓ckN, ↓ckJ, ↓gIT, ↓gLT, ↓gRT, ↓cvT, ↓pIT, ↓pLT, ↓pZT, ↓asZ, ↓aNT, ↓arL, ↓asL, ↓arI, ↓asI, ↓aR_1, ↓bnd_some, ↓wh_eq, ↓on_some, ↓on_none, asZ, arL, asL, arI, asI, aR_1, bnd_some, wh_eq, on_some, on_none, tnT, tnU, tnL, nk, jk, N_add, N_mul, N_sub, N_neg, J_add, J_mul, J_sub, J_neg, N_J, w0, ↓b_divisor]
    rfl
theorem r_becT {w : Nat → Int} (hw : ∀ j, j < 8 → l 122 j = w j ∧ ¬ far (w j)) : fX9_become 108 (hq (w1 i 108 0 0) l x y) = some (N 1, hq (w1 i 108 0 0) (wr l 121 (fl (gdv w) (l 121) 8)) x y) := by
  have h1 := r_bec13 (i := w1 i 108 0 0) (l := l) (x := x) (y := y) hw 8 0 1000 (by omega) (by omega)
  have h2 := r_bec38 (i := w1 i 108 0 0) (l := l) (x := x) (y := y) hw (l 121) 8 0 1000 (by omega) (by omega)
  rw [fl_0, wr_id] at h2
  unfold fX9_become
  simp only [nk, jk]
  simp (disch := omega) only [↓iNlt_t, ↓iNlt_f, ↓iNle_t, ↓iNle_f, ↓iNeq_t, ↓iNeq_f, ↓iJlt_t, ↓iJlt_f, ↓iJle_t, ↓iJle_f, ↓iJeq_t, ↓iJeq_f, ↓iZlt_t, ↓iZlt_f, ↓iZle_t, ↓iZle_f, ↓iZeq_t, ↓iZeq_f, ↓iQlt_t, ↓iQlt_f, ↓iQle_t, ↓iQle_f, ↓iQeq_t, ↓iQeq_f, ↓iAnd_t, ↓iAnd_f, ↓iOr_t, ↓iOr_f, ↓iIff_t, ↓iIff_f, ↓iNot_t, ↓iNot_f, ↓iTrue, ↓iFalse, ↓ckN, ↓ckJ, ↓gIT, ↓gLT, ↓gRT, ↓cvT, ↓pIT, ↓pLT, ↓pZT, ↓asZ, ↓aNT, ↓arL, ↓asL, ↓arI, ↓asI, ↓aR_1, ↓bnd_some, ↓wh_eq, ↓on_some, ↓on_none, asZ, arL, asL, arI, asI, aR_1, bnd_some, wh_eq, on_some, on_none, tnT, tnU, tnL, nk, jk, N_add, N_mul, N_sub, N_neg, J_add, J_mul, J_sub, J_neg, N_J, w1_s]
  exact h1.trans h2
theorem r_roll31 {n : Nat} (hn : n < 200) (hi : i 108 22 = n) (g : Nat → Int) : ∀ (m k q : Nat), k + m = 8 → m + 1 ≤ q → fX9_roll_31L q 108 (N ((10 * n : Nat) : Int)) (N k) (hq i (wr l 123 (sg (l 121) g (10 * n + 2) k)) x y) = some ((), hq (w1 i 108 22 ((n + 1 : Nat) : Int)) (wr l 123 (sg (l 121) g (10 * n + 2) 8)) x y) := by
  intro m
  induction m with
  | zero =>
    intro k q hk hq'
    obtain ⟨z, rfl⟩ : ∃ z, q = z + 1 := ⟨q - 1, by omega⟩
    obtain rfl : k = 8 := by omega
    show fX9_roll_31 (fX9_roll_31L z) 108 _ _ _ = _
    unfold fX9_roll_31 fX9_roll_63
    simp only [nk, jk, N_add, N_mul, N_sub, N_neg, J_add, J_mul, J_sub, J_neg]
    simp (disch := omega) only [↓iNlt_t, ↓iNlt_f, ↓iNle_t, ↓iNle_f, ↓iNeq_t, ↓iNeq_f, ↓iJlt_t, ↓iJlt_f, ↓iJle_t, ↓iJle_f, ↓iJeq_t, ↓iJeq_f, ↓iZlt_t, ↓iZlt_f, ↓iZle_t, ↓iZle_f, ↓iZeq_t, ↓iZeq_f, ↓iQlt_t, ↓iQlt_f, ↓iQle_t, ↓iQle_f, ↓iQeq_t, ↓iQeq_f, ↓iAnd_t, ↓iAnd_f, ↓iOr_t, ↓iOr_f, ↓iIff_t, ↓iIff_f, ↓iNot_t, ↓iNot_f, ↓iTrue, ↓iFalse, ↓ckN, ↓ckJ, ↓gIT, ↓gLT, ↓gRT, ↓cvT, ↓pIT, ↓pLT, ↓pZT, ↓asZ, ↓aNT, ↓arL, ↓asL, ↓arI, ↓asI, ↓aR_1, ↓bnd_some, ↓wh_eq, ↓on_some, ↓on_none, asZ, arL, asL, arI, asI, aR_1, bnd_some, wh_eq, on_some, on_none, tnT, tnU, tnL, nk, jk, N_add, N_mul, N_sub, N_neg, J_add, J_mul, J_sub, J_neg, N_J, hi]
    rfl
  | succ m ih =>
    intro k q hk hq'
    obtain ⟨z, rfl⟩ : ∃ z, q = z + 1 := ⟨q - 1, by omega⟩
    have ih := ih (k + 1) z (by omega) (by omega)
    have e := w1_sg l 123 (10 * n + 2) k (l 121) g
    have e15 : wr l 123 (sg (l 121) g (10 * n + 2) k) 121 k = l 121 k := by rw [wr_n _ _ (by omega)]
    have tn : (((10 * n : Nat) : Int) + 2 + (k : Int)).toNat = 10 * n + 2 + k := by omega
    show fX9_roll_31 (fX9_roll_31L z) 108 _ _ _ = _
    unfold fX9_roll_31
    simp only [nk, jk, N_add, N_mul, N_sub, N_neg, J_add, J_mul, J_sub, J_neg]
    simp (disch := omega) only [↓iNlt_t, ↓iNlt_f, ↓iNle_t, ↓iNle_f, ↓iNeq_t, ↓iNeq_f, ↓iJlt_t, ↓iJlt_f, ↓iJle_t, ↓iJle_f, ↓iJeq_t, ↓iJeq_f, ↓iZlt_t, ↓iZlt_f, ↓iZle_t, ↓iZle_f, ↓iZeq_t, ↓iZeq_f, ↓iQlt_t, ↓iQlt_f, ↓iQle_t, ↓iQle_f, ↓iQeq_t, ↓iQeq_f, ↓iAnd_t, ↓iAnd_f, ↓iOr_t, ↓iOr_f, ↓iIff_t, ↓iIff_f, ↓iNot_t, ↓iNot_f, ↓iTrue, ↓iFalse, ↓ckN, ↓ckJ, ↓gIT, ↓gLT, ↓gRT, ↓cvT, ↓pIT, ↓pLT, ↓pZT, ↓asZ, ↓aNT, ↓arL, ↓asL, ↓arI, ↓asI, ↓aR_1, ↓bnd_some, ↓wh_eq, ↓on_some, ↓on_none, asZ, arL, asL, arI, asI, aR_1, bnd_some, wh_eq, on_some, on_none, tnT, tnU, tnL, nk, jk, N_add, N_mul, N_sub, N_neg, J_add, J_mul, J_sub, J_neg, N_J, e15, tn, e]
    exact ih
theorem r_roll {n : Nat} (hn : n < 200) (hi : i 108 22 = n) {w : Int} (hw : 0 ≤ w ∧ w ≤ 4) (p : Int) : fX9_roll 108 (N w) (J p) (hq i l x y) = some ((), hq (w1 i 108 22 ((n + 1 : Nat) : Int)) (wr l 123 (rlA (l 123) n w p (l 121))) x y) := by
  have h := r_roll31 (i := i) (l := l) (x := x) (y := y) hn hi (fun j => if j = 10 * n + 1 then p else if j = 10 * n then w else l 123 j) 8 0 1000 (by omega) (by omega)
  rw [sg_0] at h
  have e1 : wr l 123 (fun j => if j = 10 * n + 1 then p else if j = 10 * n then w else l 123 j) = w1 (w1 l 123 (10 * n) w) 123 (10 * n + 1) p := by rw [w1_wr, w1_wr, wr_s, wr_wr]
  rw [e1] at h
  have e2 : N (10 * (n : Int)) = N ((10 * n : Nat) : Int) := rfl
  unfold fX9_roll
  simp only [nk, jk, N_add, N_mul, N_sub, N_neg, J_add, J_mul, J_sub, J_neg]
  simp (disch := omega) only [↓iNlt_t, ↓iNlt_f, ↓iNle_t, ↓iNle_f, ↓iNeq_t, ↓iNeq_f, ↓iJlt_t, ↓iJlt_f, ↓iJle_t, ↓iJle_f, ↓iJeq_t, ↓iJeq_f, ↓iZlt_t, ↓iZlt_f, ↓iZle_t, ↓iZle_f, ↓iZeq_t, ↓iZeq_f, ↓iQlt_t, ↓iQlt_f, ↓iQle_t, ↓iQle_f, ↓iQeq_t, ↓iQeq_f, ↓iAnd_t, ↓iAnd_f, ↓iOr_t, ↓iOr_f, ↓iIff_t, ↓iIff_f, ↓iNot_t, ↓iNot_f, ↓iTrue, ↓iFalse, ↓ckN, ↓ckJ, ↓gIT, ↓gLT, ↓gRT, ↓cvT, ↓pIT, ↓pLT, ↓pZT, ↓asZ, ↓aNT, ↓arL, ↓asL, ↓arI, ↓asI, ↓aR_1, ↓bnd_some, ↓wh_eq, ↓on_some, ↓on_none, asZ, arL, asL, arI, asI, aR_1, bnd_some, wh_eq, on_some, on_none, tnT, tnU, tnL, nk, jk, N_add, N_mul, N_sub, N_neg, J_add, J_mul, J_sub, J_neg, N_J, hi]
  exact h
end RB
theorem fX9_takeX_22L_s (n : Nat) : fX9_takeX_22L (n + 1) = fX9_takeX_22 (fX9_takeX_22L n) := rfl
theorem fX9_takeY_22L_s (n : Nat) : fX9_takeY_22L (n + 1) = fX9_takeY_22 (fX9_takeY_22L n) := rfl
theorem fX9_giveOne_7L_s (n : Nat) : fX9_giveOne_7L (n + 1) = fX9_giveOne_7 (fX9_giveOne_7L n) := rfl
theorem fX9_outX_7L_s (n : Nat) : fX9_outX_7L (n + 1) = fX9_outX_7 (fX9_outX_7L n) := rfl
theorem fX9_outY_7L_s (n : Nat) : fX9_outY_7L (n + 1) = fX9_outY_7 (fX9_outY_7L n) := rfl
theorem r_takeX {i l : Nat → Nat → Int} {x y : Option Nat} {p : Int} {v : Nat → Int} (hp : ¬ far p) (hv : ∀ j, j < 8 → l 121 j = v j ∧ ¬ far (v j)) :
    (farX p v → ∃ l', fX9_takeX 108 (J p) (hq i l x y) = some (N 0, hq (w1 i 108 0 1) l' x y) ∧ ∀ c, c ≠ 122 → l' c = l c) ∧
    (¬ farX p v → ∃ l', fX9_takeX 108 (J p) (hq i l x y) = some (N 1, hq (w1 i 108 0 0) l' x y) ∧ (∀ j, j < 8 → l' 121 j = gdv (tkX p v) j) ∧ ∀ c, c ≠ 121 → c ≠ 122 → l' c = l c) := by
  obtain ⟨⟨a0, f0⟩, ⟨a1, f1⟩, ⟨a2, f2⟩, ⟨a3, f3⟩, ⟨a4, f4⟩, ⟨a5, f5⟩, ⟨a6, f6⟩, ⟨a7, f7⟩⟩ := all8.mp hv
  obtain ⟨p1, v1⟩ := RS.mul (P := False) (Q := False) (r := v 0) (r' := p) (v := v 0) (v' := p) Iff.rfl (fun _ => rfl) (fun _ => rfl)
  have m1 := mu_far (v 0) (p)
  obtain ⟨p2, v2⟩ := RS.add (r := mu (v 0) (p)) (r' := v 2) (v := (v 0) * (p)) (v' := v 2) p1 (fun z => v1 z) (fun _ => rfl)
  have m2 := ad_far ((False) ∨ far ((v 0) * (p))) (mu (v 0) (p)) (v 2)
  obtain ⟨p3, v3⟩ := RS.mul (r := v 1) (r' := p) (v := v 1) (v' := p) p2 (fun _ => rfl) (fun _ => rfl)
  have m3 := mu_far (v 1) (p)
  obtain ⟨p4, v4⟩ := RS.add (r := mu (v 1) (p)) (r' := v 3) (v := (v 1) * (p)) (v' := v 3) p3 (fun z => v3 z) (fun _ => rfl)
  have m4 := ad_far ((((False) ∨ far ((v 0) * (p))) ∨ far ((mu (v 0) (p)) + (v 2))) ∨ far ((v 1) * (p))) (mu (v 1) (p)) (v 3)
  obtain ⟨p5, v5⟩ := RS.mul (r := v 4) (r' := p) (v := v 4) (v' := p) p4 (fun _ => rfl) (fun _ => rfl)
  have m5 := mu_far (v 4) (p)
  obtain ⟨p6, v6⟩ := RS.add (r := mu (v 4) (p)) (r' := v 6) (v := (v 4) * (p)) (v' := v 6) p5 (fun z => v5 z) (fun _ => rfl)
  have m6 := ad_far ((((((False) ∨ far ((v 0) * (p))) ∨ far ((mu (v 0) (p)) + (v 2))) ∨ far ((v 1) * (p))) ∨ far ((mu (v 1) (p)) + (v 3))) ∨ far ((v 4) * (p))) (mu (v 4) (p)) (v 6)
  obtain ⟨p7, v7⟩ := RS.mul (r := v 5) (r' := p) (v := v 5) (v' := p) p6 (fun _ => rfl) (fun _ => rfl)
  have m7 := mu_far (v 5) (p)
  obtain ⟨p8, v8⟩ := RS.add (r := mu (v 5) (p)) (r' := v 7) (v := (v 5) * (p)) (v' := v 7) p7 (fun z => v7 z) (fun _ => rfl)
  have m8 := ad_far ((((((((False) ∨ far ((v 0) * (p))) ∨ far ((mu (v 0) (p)) + (v 2))) ∨ far ((v 1) * (p))) ∨ far ((mu (v 1) (p)) + (v 3))) ∨ far ((v 4) * (p))) ∨ far ((mu (v 4) (p)) + (v 6))) ∨ far ((v 5) * (p))) (mu (v 5) (p)) (v 7)
  obtain ⟨L, hL⟩ : ∃ L, L = w1 (w1 (w1 (w1 (w1 (w1 (w1 (w1 (l) 122 0 (ad ((False) ∨ far ((v 0) * (p))) (mu (v 0) (p)) (v 2))) 122 1 (ad ((((False) ∨ far ((v 0) * (p))) ∨ far ((mu (v 0) (p)) + (v 2))) ∨ far ((v 1) * (p))) (mu (v 1) (p)) (v 3))) 122 2 (v 0)) 122 3 (v 1)) 122 4 (ad ((((((False) ∨ far ((v 0) * (p))) ∨ far ((mu (v 0) (p)) + (v 2))) ∨ far ((v 1) * (p))) ∨ far ((mu (v 1) (p)) + (v 3))) ∨ far ((v 4) * (p))) (mu (v 4) (p)) (v 6))) 122 5 (ad ((((((((False) ∨ far ((v 0) * (p))) ∨ far ((mu (v 0) (p)) + (v 2))) ∨ far ((v 1) * (p))) ∨ far ((mu (v 1) (p)) + (v 3))) ∨ far ((v 4) * (p))) ∨ far ((mu (v 4) (p)) + (v 6))) ∨ far ((v 5) * (p))) (mu (v 5) (p)) (v 7))) 122 6 (v 4)) 122 7 (v 5) := ⟨_, rfl⟩
  have E : fX9_takeX 108 (J p) (hq i l x y) = bnd (fX9_become 108 (hq (w1 i 108 0 (ib (((((((((False) ∨ far ((v 0) * (p))) ∨ far ((mu (v 0) (p)) + (v 2))) ∨ far ((v 1) * (p))) ∨ far ((mu (v 1) (p)) + (v 3))) ∨ far ((v 4) * (p))) ∨ far ((mu (v 4) (p)) + (v 6))) ∨ far ((v 5) * (p))) ∨ far ((mu (v 5) (p)) + (v 7))))) L x y)) (fun x102 h101 => ck (x102 = N 0 ∨ x102 = N 1) (some (x102, h101))) := by
    rw [hL]
    unfold fX9_takeX
    rw [show (1000 : Nat) = 997+1+1+1 from rfl]
    rw [fX9_takeX_22L_s, fX9_takeX_22L_s, fX9_takeX_22L_s]
    unfold fX9_takeX_22
    simp only [nk, jk, N_add]
    simp (disch := omega) only [↓iNlt_t, ↓iNlt_f, ↓iNle_t, ↓iNle_f, ↓iNeq_t, ↓iNeq_f, ↓iJlt_t, ↓iJlt_f, ↓iJle_t, ↓iJle_f, ↓iJeq_t, ↓iJeq_f, ↓iZlt_t, ↓iZlt_f, ↓iZle_t, ↓iZle_f, ↓iZeq_t, ↓iZeq_f, ↓iQlt_t, ↓iQlt_f, ↓iQle_t, ↓iQle_f, ↓iQeq_t, ↓iQeq_f, ↓iAnd_t, ↓iAnd_f, ↓iOr_t, ↓iOr_f, ↓iIff_t, ↓iIff_f, ↓iNot_t, ↓iNot_f, ↓iTrue, ↓iFalse, ↓ckN, ↓ckJ, ↓gIT, ↓gLT, ↓gRT, ↓cvT, ↓pIT, ↓pLT, ↓pZT, ↓asZ, ↓aNT, ↓arL, ↓asL, ↓arI, ↓asI, ↓aR_1, ↓bnd_some, ↓wh_eq, ↓on_some, ↓on_none, asZ, arL, asL, arI, asI, aR_1, bnd_some, wh_eq, on_some, on_none, tnT, tnU, tnL, nk, jk, N_add, N_mul, N_sub, N_neg, J_add, J_mul, J_sub, J_neg, N_J, Int.reduceAdd, ↓pZ9, ↓b_size, w1_r, a0, a1, a2, a3, a4, a5, a6, a7, ↓b_mul, ↓b_add]
  have hQ : (((((((((False) ∨ far ((v 0) * (p))) ∨ far (((v 0) * (p)) + (v 2))) ∨ far ((v 1) * (p))) ∨ far (((v 1) * (p)) + (v 3))) ∨ far ((v 4) * (p))) ∨ far (((v 4) * (p)) + (v 6))) ∨ far ((v 5) * (p))) ∨ far (((v 5) * (p)) + (v 7))) ↔ farX p v := by
    simp only [or_assoc, false_or]
  have Lo : ∀ c, c ≠ 122 → L c = l c := fun c hc => by rw [hL]; simp (disch := omega) only [w1_r, w1_n, w1_s, true_and, and_true]
  rw [E]
  constructor
  · intro h
    refine ⟨L, ?_, Lo⟩
    rw [ibT (p8.mpr (hQ.mpr h)), bq r_becF]
    exact ckb (Or.inl rfl) _
  · intro h
    have z' : ¬ (((((((((False) ∨ far ((v 0) * (p))) ∨ far (((v 0) * (p)) + (v 2))) ∨ far ((v 1) * (p))) ∨ far (((v 1) * (p)) + (v 3))) ∨ far ((v 4) * (p))) ∨ far (((v 4) * (p)) + (v 6))) ∨ far ((v 5) * (p))) ∨ far (((v 5) * (p)) + (v 7))) := fun q => h (hQ.mp q)
    rw [ibF (fun q => z' (p8.mp q))]
    have B := r_becT (i := i) (l := L) (x := x) (y := y) (w := tkX p v) (by
      intro j hj
      refine ⟨?_, ((wkX_f hp (fun j hj => (hv j hj).2)).2.1 h j hj).2⟩
      revert j
      rw [all8]
      unfold tkX
      simp only [v8_g]
      rw [hL]
      exact ⟨by simp (disch := omega) only [w1_r, w1_n, w1_s, true_and, and_true]; exact v2 (fun q => z' (Or.inl (Or.inl (Or.inl (Or.inl (Or.inl (Or.inl q))))))), by simp (disch := omega) only [w1_r, w1_n, w1_s, true_and, and_true]; exact v4 (fun q => z' (Or.inl (Or.inl (Or.inl (Or.inl q))))), by simp (disch := omega) only [w1_r, w1_n, w1_s, true_and, and_true], by simp (disch := omega) only [w1_r, w1_n, w1_s, true_and, and_true], by simp (disch := omega) only [w1_r, w1_n, w1_s, true_and, and_true]; exact v6 (fun q => z' (Or.inl (Or.inl q))), by simp (disch := omega) only [w1_r, w1_n, w1_s, true_and, and_true]; exact v8 (fun q => z' q), by simp (disch := omega) only [w1_r, w1_n, w1_s, true_and, and_true], by simp (disch := omega) only [w1_r, w1_n, w1_s, true_and, and_true]⟩)
    refine ⟨wr L 121 (fl (gdv (tkX p v)) (L 121) 8), ?_, fun j hj => by rw [wr_s, fl, if_pos hj], fun c c1 c2 => by rw [wr_n _ _ c1, Lo c c2]⟩
    rw [bq B]
    exact ckb (Or.inr rfl) _
theorem r_takeY {i l : Nat → Nat → Int} {x y : Option Nat} {p : Int} {v : Nat → Int} (hp : ¬ far p) (hv : ∀ j, j < 8 → l 121 j = v j ∧ ¬ far (v j)) :
    (farY p v → ∃ l', fX9_takeY 108 (J p) (hq i l x y) = some (N 0, hq (w1 i 108 0 1) l' x y) ∧ ∀ c, c ≠ 122 → l' c = l c) ∧
    (¬ farY p v → ∃ l', fX9_takeY 108 (J p) (hq i l x y) = some (N 1, hq (w1 i 108 0 0) l' x y) ∧ (∀ j, j < 8 → l' 121 j = gdv (tkY p v) j) ∧ ∀ c, c ≠ 121 → c ≠ 122 → l' c = l c) := by
  obtain ⟨⟨a0, f0⟩, ⟨a1, f1⟩, ⟨a2, f2⟩, ⟨a3, f3⟩, ⟨a4, f4⟩, ⟨a5, f5⟩, ⟨a6, f6⟩, ⟨a7, f7⟩⟩ := all8.mp hv
  obtain ⟨p1, v1⟩ := RS.mul (P := False) (Q := False) (r := v 0) (r' := p) (v := v 0) (v' := p) Iff.rfl (fun _ => rfl) (fun _ => rfl)
  have m1 := mu_far (v 0) (p)
  obtain ⟨p2, v2⟩ := RS.add (r := mu (v 0) (p)) (r' := v 1) (v := (v 0) * (p)) (v' := v 1) p1 (fun z => v1 z) (fun _ => rfl)
  have m2 := ad_far ((False) ∨ far ((v 0) * (p))) (mu (v 0) (p)) (v 1)
  obtain ⟨p3, v3⟩ := RS.mul (r := v 2) (r' := p) (v := v 2) (v' := p) p2 (fun _ => rfl) (fun _ => rfl)
  have m3 := mu_far (v 2) (p)
  obtain ⟨p4, v4⟩ := RS.add (r := mu (v 2) (p)) (r' := v 3) (v := (v 2) * (p)) (v' := v 3) p3 (fun z => v3 z) (fun _ => rfl)
  have m4 := ad_far ((((False) ∨ far ((v 0) * (p))) ∨ far ((mu (v 0) (p)) + (v 1))) ∨ far ((v 2) * (p))) (mu (v 2) (p)) (v 3)
  obtain ⟨p5, v5⟩ := RS.mul (r := v 4) (r' := p) (v := v 4) (v' := p) p4 (fun _ => rfl) (fun _ => rfl)
  have m5 := mu_far (v 4) (p)
  obtain ⟨p6, v6⟩ := RS.add (r := mu (v 4) (p)) (r' := v 5) (v := (v 4) * (p)) (v' := v 5) p5 (fun z => v5 z) (fun _ => rfl)
  have m6 := ad_far ((((((False) ∨ far ((v 0) * (p))) ∨ far ((mu (v 0) (p)) + (v 1))) ∨ far ((v 2) * (p))) ∨ far ((mu (v 2) (p)) + (v 3))) ∨ far ((v 4) * (p))) (mu (v 4) (p)) (v 5)
  obtain ⟨p7, v7⟩ := RS.mul (r := v 6) (r' := p) (v := v 6) (v' := p) p6 (fun _ => rfl) (fun _ => rfl)
  have m7 := mu_far (v 6) (p)
  obtain ⟨p8, v8⟩ := RS.add (r := mu (v 6) (p)) (r' := v 7) (v := (v 6) * (p)) (v' := v 7) p7 (fun z => v7 z) (fun _ => rfl)
  have m8 := ad_far ((((((((False) ∨ far ((v 0) * (p))) ∨ far ((mu (v 0) (p)) + (v 1))) ∨ far ((v 2) * (p))) ∨ far ((mu (v 2) (p)) + (v 3))) ∨ far ((v 4) * (p))) ∨ far ((mu (v 4) (p)) + (v 5))) ∨ far ((v 6) * (p))) (mu (v 6) (p)) (v 7)
  obtain ⟨L, hL⟩ : ∃ L, L = w1 (w1 (w1 (w1 (w1 (w1 (w1 (w1 (l) 122 0 (ad ((False) ∨ far ((v 0) * (p))) (mu (v 0) (p)) (v 1))) 122 1 (v 0)) 122 2 (ad ((((False) ∨ far ((v 0) * (p))) ∨ far ((mu (v 0) (p)) + (v 1))) ∨ far ((v 2) * (p))) (mu (v 2) (p)) (v 3))) 122 3 (v 2)) 122 4 (ad ((((((False) ∨ far ((v 0) * (p))) ∨ far ((mu (v 0) (p)) + (v 1))) ∨ far ((v 2) * (p))) ∨ far ((mu (v 2) (p)) + (v 3))) ∨ far ((v 4) * (p))) (mu (v 4) (p)) (v 5))) 122 5 (v 4)) 122 6 (ad ((((((((False) ∨ far ((v 0) * (p))) ∨ far ((mu (v 0) (p)) + (v 1))) ∨ far ((v 2) * (p))) ∨ far ((mu (v 2) (p)) + (v 3))) ∨ far ((v 4) * (p))) ∨ far ((mu (v 4) (p)) + (v 5))) ∨ far ((v 6) * (p))) (mu (v 6) (p)) (v 7))) 122 7 (v 6) := ⟨_, rfl⟩
  have E : fX9_takeY 108 (J p) (hq i l x y) = bnd (fX9_become 108 (hq (w1 i 108 0 (ib (((((((((False) ∨ far ((v 0) * (p))) ∨ far ((mu (v 0) (p)) + (v 1))) ∨ far ((v 2) * (p))) ∨ far ((mu (v 2) (p)) + (v 3))) ∨ far ((v 4) * (p))) ∨ far ((mu (v 4) (p)) + (v 5))) ∨ far ((v 6) * (p))) ∨ far ((mu (v 6) (p)) + (v 7))))) L x y)) (fun x102 h101 => ck (x102 = N 0 ∨ x102 = N 1) (some (x102, h101))) := by
    rw [hL]
    unfold fX9_takeY
    rw [show (1000 : Nat) = 997+1+1+1 from rfl]
    rw [fX9_takeY_22L_s, fX9_takeY_22L_s, fX9_takeY_22L_s]
    unfold fX9_takeY_22
    simp only [nk, jk, N_add]
    simp (disch := omega) only [↓iNlt_t, ↓iNlt_f, ↓iNle_t, ↓iNle_f, ↓iNeq_t, ↓iNeq_f, ↓iJlt_t, ↓iJlt_f, ↓iJle_t, ↓iJle_f, ↓iJeq_t, ↓iJeq_f, ↓iZlt_t, ↓iZlt_f, ↓iZle_t, ↓iZle_f, ↓iZeq_t, ↓iZeq_f, ↓iQlt_t, ↓iQlt_f, ↓iQle_t, ↓iQle_f, ↓iQeq_t, ↓iQeq_f, ↓iAnd_t, ↓iAnd_f, ↓iOr_t, ↓iOr_f, ↓iIff_t, ↓iIff_f, ↓iNot_t, ↓iNot_f, ↓iTrue, ↓iFalse, ↓ckN, ↓ckJ, ↓gIT, ↓gLT, ↓gRT, ↓cvT, ↓pIT, ↓pLT, ↓pZT, ↓asZ, ↓aNT, ↓arL, ↓asL, ↓arI, ↓asI, ↓aR_1, ↓bnd_some, ↓wh_eq, ↓on_some, ↓on_none, asZ, arL, asL, arI, asI, aR_1, bnd_some, wh_eq, on_some, on_none, tnT, tnU, tnL, nk, jk, N_add, N_mul, N_sub, N_neg, J_add, J_mul, J_sub, J_neg, N_J, Int.reduceAdd, ↓pZ9, ↓b_size, w1_r, a0, a1, a2, a3, a4, a5, a6, a7, ↓b_mul, ↓b_add]
  have hQ : (((((((((False) ∨ far ((v 0) * (p))) ∨ far (((v 0) * (p)) + (v 1))) ∨ far ((v 2) * (p))) ∨ far (((v 2) * (p)) + (v 3))) ∨ far ((v 4) * (p))) ∨ far (((v 4) * (p)) + (v 5))) ∨ far ((v 6) * (p))) ∨ far (((v 6) * (p)) + (v 7))) ↔ farY p v := by
    simp only [or_assoc, false_or]
  have Lo : ∀ c, c ≠ 122 → L c = l c := fun c hc => by rw [hL]; simp (disch := omega) only [w1_r, w1_n, w1_s, true_and, and_true]
  rw [E]
  constructor
  · intro h
    refine ⟨L, ?_, Lo⟩
    rw [ibT (p8.mpr (hQ.mpr h)), bq r_becF]
    exact ckb (Or.inl rfl) _
  · intro h
    have z' : ¬ (((((((((False) ∨ far ((v 0) * (p))) ∨ far (((v 0) * (p)) + (v 1))) ∨ far ((v 2) * (p))) ∨ far (((v 2) * (p)) + (v 3))) ∨ far ((v 4) * (p))) ∨ far (((v 4) * (p)) + (v 5))) ∨ far ((v 6) * (p))) ∨ far (((v 6) * (p)) + (v 7))) := fun q => h (hQ.mp q)
    rw [ibF (fun q => z' (p8.mp q))]
    have B := r_becT (i := i) (l := L) (x := x) (y := y) (w := tkY p v) (by
      intro j hj
      refine ⟨?_, ((wkY_f hp (fun j hj => (hv j hj).2)).2.1 h j hj).2⟩
      revert j
      rw [all8]
      unfold tkY
      simp only [v8_g]
      rw [hL]
      exact ⟨by simp (disch := omega) only [w1_r, w1_n, w1_s, true_and, and_true]; exact v2 (fun q => z' (Or.inl (Or.inl (Or.inl (Or.inl (Or.inl (Or.inl q))))))), by simp (disch := omega) only [w1_r, w1_n, w1_s, true_and, and_true], by simp (disch := omega) only [w1_r, w1_n, w1_s, true_and, and_true]; exact v4 (fun q => z' (Or.inl (Or.inl (Or.inl (Or.inl q))))), by simp (disch := omega) only [w1_r, w1_n, w1_s, true_and, and_true], by simp (disch := omega) only [w1_r, w1_n, w1_s, true_and, and_true]; exact v6 (fun q => z' (Or.inl (Or.inl q))), by simp (disch := omega) only [w1_r, w1_n, w1_s, true_and, and_true], by simp (disch := omega) only [w1_r, w1_n, w1_s, true_and, and_true]; exact v8 (fun q => z' q), by simp (disch := omega) only [w1_r, w1_n, w1_s, true_and, and_true]⟩)
    refine ⟨wr L 121 (fl (gdv (tkY p v)) (L 121) 8), ?_, fun j hj => by rw [wr_s, fl, if_pos hj], fun c c1 c2 => by rw [wr_n _ _ c1, Lo c c2]⟩
    rw [bq B]
    exact ckb (Or.inr rfl) _
theorem r_giveOne {i l : Nat → Nat → Int} {x y : Option Nat} {p : Int} {v : Nat → Int} (hp : ¬ far p) (hv : ∀ j, j < 8 → l 121 j = v j ∧ ¬ far (v j)) :
    (farG p v → ∃ l', fX9_giveOne 108 (J p) (hq i l x y) = some (N 0, hq (w1 i 108 0 1) l' x y) ∧ ∀ c, c ≠ 122 → l' c = l c) ∧
    (¬ farG p v → ∃ l', fX9_giveOne 108 (J p) (hq i l x y) = some (N 1, hq (w1 i 108 0 0) l' x y) ∧ (∀ j, j < 8 → l' 121 j = gdv (gvE p v) j) ∧ ∀ c, c ≠ 121 → c ≠ 122 → l' c = l c) := by
  obtain ⟨⟨a0, f0⟩, ⟨a1, f1⟩, ⟨a2, f2⟩, ⟨a3, f3⟩, ⟨a4, f4⟩, ⟨a5, f5⟩, ⟨a6, f6⟩, ⟨a7, f7⟩⟩ := all8.mp hv
  obtain ⟨p1, v1⟩ := RS.mul (P := False) (Q := False) (r := p) (r' := v 4) (v := p) (v' := v 4) Iff.rfl (fun _ => rfl) (fun _ => rfl)
  have m1 := mu_far (p) (v 4)
  obtain ⟨p2, v2⟩ := RS.add (r := v 0) (r' := -(mu (p) (v 4))) (v := v 0) (v' := -((p) * (v 4))) p1 (fun _ => rfl) (fun z => by rw [v1 z])
  have m2 := ad_far ((False) ∨ far ((p) * (v 4))) (v 0) (-(mu (p) (v 4)))
  obtain ⟨p3, v3⟩ := RS.mul (r := p) (r' := v 5) (v := p) (v' := v 5) p2 (fun _ => rfl) (fun _ => rfl)
  have m3 := mu_far (p) (v 5)
  obtain ⟨p4, v4⟩ := RS.add (r := v 1) (r' := -(mu (p) (v 5))) (v := v 1) (v' := -((p) * (v 5))) p3 (fun _ => rfl) (fun z => by rw [v3 z])
  have m4 := ad_far ((((False) ∨ far ((p) * (v 4))) ∨ far ((v 0) + (-(mu (p) (v 4))))) ∨ far ((p) * (v 5))) (v 1) (-(mu (p) (v 5)))
  obtain ⟨p5, v5⟩ := RS.mul (r := p) (r' := v 6) (v := p) (v' := v 6) p4 (fun _ => rfl) (fun _ => rfl)
  have m5 := mu_far (p) (v 6)
  obtain ⟨p6, v6⟩ := RS.add (r := v 2) (r' := -(mu (p) (v 6))) (v := v 2) (v' := -((p) * (v 6))) p5 (fun _ => rfl) (fun z => by rw [v5 z])
  have m6 := ad_far ((((((False) ∨ far ((p) * (v 4))) ∨ far ((v 0) + (-(mu (p) (v 4))))) ∨ far ((p) * (v 5))) ∨ far ((v 1) + (-(mu (p) (v 5))))) ∨ far ((p) * (v 6))) (v 2) (-(mu (p) (v 6)))
  obtain ⟨p7, v7⟩ := RS.mul (r := p) (r' := v 7) (v := p) (v' := v 7) p6 (fun _ => rfl) (fun _ => rfl)
  have m7 := mu_far (p) (v 7)
  obtain ⟨p8, v8⟩ := RS.add (r := v 3) (r' := -(mu (p) (v 7))) (v := v 3) (v' := -((p) * (v 7))) p7 (fun _ => rfl) (fun z => by rw [v7 z])
  have m8 := ad_far ((((((((False) ∨ far ((p) * (v 4))) ∨ far ((v 0) + (-(mu (p) (v 4))))) ∨ far ((p) * (v 5))) ∨ far ((v 1) + (-(mu (p) (v 5))))) ∨ far ((p) * (v 6))) ∨ far ((v 2) + (-(mu (p) (v 6))))) ∨ far ((p) * (v 7))) (v 3) (-(mu (p) (v 7)))
  obtain ⟨L, hL⟩ : ∃ L, L = w1 (w1 (w1 (w1 (w1 (w1 (w1 (w1 (l) 122 0 (v 4)) 122 4 (ad ((False) ∨ far ((p) * (v 4))) (v 0) (-(mu (p) (v 4))))) 122 1 (v 5)) 122 5 (ad ((((False) ∨ far ((p) * (v 4))) ∨ far ((v 0) + (-(mu (p) (v 4))))) ∨ far ((p) * (v 5))) (v 1) (-(mu (p) (v 5))))) 122 2 (v 6)) 122 6 (ad ((((((False) ∨ far ((p) * (v 4))) ∨ far ((v 0) + (-(mu (p) (v 4))))) ∨ far ((p) * (v 5))) ∨ far ((v 1) + (-(mu (p) (v 5))))) ∨ far ((p) * (v 6))) (v 2) (-(mu (p) (v 6))))) 122 3 (v 7)) 122 7 (ad ((((((((False) ∨ far ((p) * (v 4))) ∨ far ((v 0) + (-(mu (p) (v 4))))) ∨ far ((p) * (v 5))) ∨ far ((v 1) + (-(mu (p) (v 5))))) ∨ far ((p) * (v 6))) ∨ far ((v 2) + (-(mu (p) (v 6))))) ∨ far ((p) * (v 7))) (v 3) (-(mu (p) (v 7)))) := ⟨_, rfl⟩
  have E : fX9_giveOne 108 (J p) (hq i l x y) = bnd (fX9_become 108 (hq (w1 i 108 0 (ib (((((((((False) ∨ far ((p) * (v 4))) ∨ far ((v 0) + (-(mu (p) (v 4))))) ∨ far ((p) * (v 5))) ∨ far ((v 1) + (-(mu (p) (v 5))))) ∨ far ((p) * (v 6))) ∨ far ((v 2) + (-(mu (p) (v 6))))) ∨ far ((p) * (v 7))) ∨ far ((v 3) + (-(mu (p) (v 7))))))) L x y)) (fun x102 h101 => ck (x102 = N 0 ∨ x102 = N 1) (some (x102, h101))) := by
    rw [hL]
    unfold fX9_giveOne
    rw [show (1000 : Nat) = 995+1+1+1+1+1 from rfl]
    rw [fX9_giveOne_7L_s, fX9_giveOne_7L_s, fX9_giveOne_7L_s, fX9_giveOne_7L_s, fX9_giveOne_7L_s]
    unfold fX9_giveOne_7
    simp only [nk, jk, N_add]
    simp (disch := omega) only [↓iNlt_t, ↓iNlt_f, ↓iNle_t, ↓iNle_f, ↓iNeq_t, ↓iNeq_f, ↓iJlt_t, ↓iJlt_f, ↓iJle_t, ↓iJle_f, ↓iJeq_t, ↓iJeq_f, ↓iZlt_t, ↓iZlt_f, ↓iZle_t, ↓iZle_f, ↓iZeq_t, ↓iZeq_f, ↓iQlt_t, ↓iQlt_f, ↓iQle_t, ↓iQle_f, ↓iQeq_t, ↓iQeq_f, ↓iAnd_t, ↓iAnd_f, ↓iOr_t, ↓iOr_f, ↓iIff_t, ↓iIff_f, ↓iNot_t, ↓iNot_f, ↓iTrue, ↓iFalse, ↓ckN, ↓ckJ, ↓gIT, ↓gLT, ↓gRT, ↓cvT, ↓pIT, ↓pLT, ↓pZT, ↓asZ, ↓aNT, ↓arL, ↓asL, ↓arI, ↓asI, ↓aR_1, ↓bnd_some, ↓wh_eq, ↓on_some, ↓on_none, asZ, arL, asL, arI, asI, aR_1, bnd_some, wh_eq, on_some, on_none, tnT, tnU, tnL, nk, jk, N_add, N_mul, N_sub, N_neg, J_add, J_mul, J_sub, J_neg, N_J, Int.reduceAdd, ↓pZ9, ↓b_size, w1_r, a0, a1, a2, a3, a4, a5, a6, a7, ↓b_mul, ↓b_add]
  have hQ : (((((((((False) ∨ far ((p) * (v 4))) ∨ far ((v 0) + (-((p) * (v 4))))) ∨ far ((p) * (v 5))) ∨ far ((v 1) + (-((p) * (v 5))))) ∨ far ((p) * (v 6))) ∨ far ((v 2) + (-((p) * (v 6))))) ∨ far ((p) * (v 7))) ∨ far ((v 3) + (-((p) * (v 7))))) ↔ farG p v := by
    simp only [or_assoc, false_or, ← Int.sub_eq_add_neg]
  have Lo : ∀ c, c ≠ 122 → L c = l c := fun c hc => by rw [hL]; simp (disch := omega) only [w1_r, w1_n, w1_s, true_and, and_true]
  rw [E]
  constructor
  · intro h
    refine ⟨L, ?_, Lo⟩
    rw [ibT (p8.mpr (hQ.mpr h)), bq r_becF]
    exact ckb (Or.inl rfl) _
  · intro h
    have z' : ¬ (((((((((False) ∨ far ((p) * (v 4))) ∨ far ((v 0) + (-((p) * (v 4))))) ∨ far ((p) * (v 5))) ∨ far ((v 1) + (-((p) * (v 5))))) ∨ far ((p) * (v 6))) ∨ far ((v 2) + (-((p) * (v 6))))) ∨ far ((p) * (v 7))) ∨ far ((v 3) + (-((p) * (v 7))))) := fun q => h (hQ.mp q)
    rw [ibF (fun q => z' (p8.mp q))]
    have B := r_becT (i := i) (l := L) (x := x) (y := y) (w := gvE p v) (by
      intro j hj
      refine ⟨?_, ((wkG_f hp (fun j hj => (hv j hj).2)).2.1 h j hj).2⟩
      revert j
      rw [all8]
      unfold gvE
      simp only [v8_g]
      rw [hL]
      exact ⟨by simp (disch := omega) only [w1_r, w1_n, w1_s, true_and, and_true], by simp (disch := omega) only [w1_r, w1_n, w1_s, true_and, and_true], by simp (disch := omega) only [w1_r, w1_n, w1_s, true_and, and_true], by simp (disch := omega) only [w1_r, w1_n, w1_s, true_and, and_true], by simp (disch := omega) only [w1_r, w1_n, w1_s, true_and, and_true]; rw [v2 (fun q => z' (Or.inl (Or.inl (Or.inl (Or.inl (Or.inl (Or.inl q)))))))]; exact Int.sub_eq_add_neg.symm, by simp (disch := omega) only [w1_r, w1_n, w1_s, true_and, and_true]; rw [v4 (fun q => z' (Or.inl (Or.inl (Or.inl (Or.inl q)))))]; exact Int.sub_eq_add_neg.symm, by simp (disch := omega) only [w1_r, w1_n, w1_s, true_and, and_true]; rw [v6 (fun q => z' (Or.inl (Or.inl q)))]; exact Int.sub_eq_add_neg.symm, by simp (disch := omega) only [w1_r, w1_n, w1_s, true_and, and_true]; rw [v8 (fun q => z' q)]; exact Int.sub_eq_add_neg.symm⟩)
    refine ⟨wr L 121 (fl (gdv (gvE p v)) (L 121) 8), ?_, fun j hj => by rw [wr_s, fl, if_pos hj], fun c c1 c2 => by rw [wr_n _ _ c1, Lo c c2]⟩
    rw [bq B]
    exact ckb (Or.inr rfl) _
theorem r_outX {i l : Nat → Nat → Int} {x y : Option Nat} {v : Nat → Int} (hv : ∀ j, j < 8 → l 121 j = v j ∧ ¬ far (v j)) :
    ∃ l', fX9_outX 108 (hq i l x y) = some ((), hq (w1 i 108 0 0) l' x y) ∧ (∀ j, j < 8 → l' 121 j = gdv (ouX v) j) ∧ ∀ c, c ≠ 121 → c ≠ 122 → l' c = l c := by
  obtain ⟨⟨a0, f0⟩, ⟨a1, f1⟩, ⟨a2, f2⟩, ⟨a3, f3⟩, ⟨a4, f4⟩, ⟨a5, f5⟩, ⟨a6, f6⟩, ⟨a7, f7⟩⟩ := all8.mp hv
  obtain ⟨L, hL⟩ : ∃ L, L = w1 (w1 (w1 (w1 (w1 (w1 (w1 (w1 (l) 122 2 (v 0)) 122 3 (v 1)) 122 0 (0)) 122 1 (0)) 122 6 (v 4)) 122 7 (v 5)) 122 4 (0)) 122 5 (0) := ⟨_, rfl⟩
  have Lo : ∀ c, c ≠ 122 → L c = l c := fun c hc => by rw [hL]; simp (disch := omega) only [w1_r, w1_n, w1_s, true_and, and_true]
  have B := r_becT (i := i) (l := L) (x := x) (y := y) (w := ouX v) (by
    intro j hj
    refine ⟨?_, ouX_f (fun j hj => (hv j hj).2) j hj⟩
    revert j
    rw [all8]
    unfold ouX
    simp only [v8_g]
    rw [hL]
    refine ⟨?_, ?_, ?_, ?_, ?_, ?_, ?_, ?_⟩ <;> simp (disch := omega) only [w1_r, w1_n, w1_s, true_and, and_true])
  refine ⟨wr L 121 (fl (gdv (ouX v)) (L 121) 8), ?_, fun j hj => by rw [wr_s, fl, if_pos hj], fun c c1 c2 => by rw [wr_n _ _ c1, Lo c c2]⟩
  have E : fX9_outX 108 (hq i l x y) = bnd (fX9_become 108 (hq (w1 i 108 0 0) L x y)) (fun x102 h101 => some ((), h101)) := by
    rw [hL]
    unfold fX9_outX
    rw [show (1000 : Nat) = 997+1+1+1 from rfl]
    rw [fX9_outX_7L_s, fX9_outX_7L_s, fX9_outX_7L_s]
    unfold fX9_outX_7 fX9_outX_65
    simp only [nk, jk, N_add]
    simp (disch := omega) only [↓iNlt_t, ↓iNlt_f, ↓iNle_t, ↓iNle_f, ↓iNeq_t, ↓iNeq_f, ↓iJlt_t, ↓iJlt_f, ↓iJle_t, ↓iJle_f, ↓iJeq_t, ↓iJeq_f, ↓iZlt_t, ↓iZlt_f, ↓iZle_t, ↓iZle_f, ↓iZeq_t, ↓iZeq_f, ↓iQlt_t, ↓iQlt_f, ↓iQle_t, ↓iQle_f, ↓iQeq_t, ↓iQeq_f, ↓iAnd_t, ↓iAnd_f, ↓iOr_t, ↓iOr_f, ↓iIff_t, ↓iIff_f, ↓iNot_t, ↓iNot_f, ↓iTrue, ↓iFalse, ↓ckN, ↓ckJ, ↓gIT, ↓gLT, ↓gRT, ↓cvT, ↓pIT, ↓pLT, ↓pZT, ↓asZ, ↓aNT, ↓arL, ↓asL, ↓arI, ↓asI, ↓aR_1, ↓bnd_some, ↓wh_eq, ↓on_some, ↓on_none, asZ, arL, asL, arI, asI, aR_1, bnd_some, wh_eq, on_some, on_none, tnT, tnU, tnL, nk, jk, N_add, N_mul, N_sub, N_neg, J_add, J_mul, J_sub, J_neg, N_J, Int.reduceAdd, ↓pZ90, w1_r, a0, a1, a2, a3, a4, a5, a6, a7]
  rw [E, bq B]
theorem r_outY {i l : Nat → Nat → Int} {x y : Option Nat} {v : Nat → Int} (hv : ∀ j, j < 8 → l 121 j = v j ∧ ¬ far (v j)) :
    ∃ l', fX9_outY 108 (hq i l x y) = some ((), hq (w1 i 108 0 0) l' x y) ∧ (∀ j, j < 8 → l' 121 j = gdv (ouY v) j) ∧ ∀ c, c ≠ 121 → c ≠ 122 → l' c = l c := by
  obtain ⟨⟨a0, f0⟩, ⟨a1, f1⟩, ⟨a2, f2⟩, ⟨a3, f3⟩, ⟨a4, f4⟩, ⟨a5, f5⟩, ⟨a6, f6⟩, ⟨a7, f7⟩⟩ := all8.mp hv
  obtain ⟨L, hL⟩ : ∃ L, L = w1 (w1 (w1 (w1 (w1 (w1 (w1 (w1 (l) 122 1 (v 0)) 122 3 (v 2)) 122 0 (0)) 122 2 (0)) 122 5 (v 4)) 122 7 (v 6)) 122 4 (0)) 122 6 (0) := ⟨_, rfl⟩
  have Lo : ∀ c, c ≠ 122 → L c = l c := fun c hc => by rw [hL]; simp (disch := omega) only [w1_r, w1_n, w1_s, true_and, and_true]
  have B := r_becT (i := i) (l := L) (x := x) (y := y) (w := ouY v) (by
    intro j hj
    refine ⟨?_, ouY_f (fun j hj => (hv j hj).2) j hj⟩
    revert j
    rw [all8]
    unfold ouY
    simp only [v8_g]
    rw [hL]
    refine ⟨?_, ?_, ?_, ?_, ?_, ?_, ?_, ?_⟩ <;> simp (disch := omega) only [w1_r, w1_n, w1_s, true_and, and_true])
  refine ⟨wr L 121 (fl (gdv (ouY v)) (L 121) 8), ?_, fun j hj => by rw [wr_s, fl, if_pos hj], fun c c1 c2 => by rw [wr_n _ _ c1, Lo c c2]⟩
  have E : fX9_outY 108 (hq i l x y) = bnd (fX9_become 108 (hq (w1 i 108 0 0) L x y)) (fun x102 h101 => some ((), h101)) := by
    rw [hL]
    unfold fX9_outY
    rw [show (1000 : Nat) = 997+1+1+1 from rfl]
    rw [fX9_outY_7L_s, fX9_outY_7L_s, fX9_outY_7L_s]
    unfold fX9_outY_7 fX9_outY_65
    simp only [nk, jk, N_add]
    simp (disch := omega) only [↓iNlt_t, ↓iNlt_f, ↓iNle_t, ↓iNle_f, ↓iNeq_t, ↓iNeq_f, ↓iJlt_t, ↓iJlt_f, ↓iJle_t, ↓iJle_f, ↓iJeq_t, ↓iJeq_f, ↓iZlt_t, ↓iZlt_f, ↓iZle_t, ↓iZle_f, ↓iZeq_t, ↓iZeq_f, ↓iQlt_t, ↓iQlt_f, ↓iQle_t, ↓iQle_f, ↓iQeq_t, ↓iQeq_f, ↓iAnd_t, ↓iAnd_f, ↓iOr_t, ↓iOr_f, ↓iIff_t, ↓iIff_f, ↓iNot_t, ↓iNot_f, ↓iTrue, ↓iFalse, ↓ckN, ↓ckJ, ↓gIT, ↓gLT, ↓gRT, ↓cvT, ↓pIT, ↓pLT, ↓pZT, ↓asZ, ↓aNT, ↓arL, ↓asL, ↓arI, ↓asI, ↓aR_1, ↓bnd_some, ↓wh_eq, ↓on_some, ↓on_none, asZ, arL, asL, arI, asI, aR_1, bnd_some, wh_eq, on_some, on_none, tnT, tnU, tnL, nk, jk, N_add, N_mul, N_sub, N_neg, J_add, J_mul, J_sub, J_neg, N_J, Int.reduceAdd, ↓pZ90, w1_r, a0, a1, a2, a3, a4, a5, a6, a7]
  rw [E, bq B]
