/-! ===== calls: count, rule ===== -/
def opn (i : Nat → Nat → Int) (s : Nat) : Int := if i 109 s ≠ 0 ∧ i 110 s = 3 ∧ i 112 s = 0 ∧ i 111 s < 60 then 1 else 0
theorem cnt_s (f : Nat → Int) (k : Nat) : cnt f (k + 1) = cnt f k + (if f k = 0 then 0 else 1) := rfl
section OPN
variable {i l : Nat → Nat → Int} {x y : Option Nat}
theorem SD.isOpen {s : Nat} (hs : s < 40) (sd : SD i l s) : fX7_isOpen (2 * s + 28) (hq i l x y) = some (N (if i 110 s = 3 ∧ i 112 s = 0 ∧ i 111 s < 60 then 1 else 0), hq i l x y) := by
  obtain ⟨⟨k1, k2, k3⟩, ⟨n1, n2, n3⟩, ⟨d1, d2⟩, -⟩ := sd
  have st := (St_s hs).1.1
  unfold fX7_isOpen
  simp only [nk, jk, N_add, N_mul, N_sub, N_neg, J_add, J_mul, J_sub, J_neg]
  by_cases c1 : i 110 s = 3
  · by_cases c2 : i 112 s = 0
    · by_cases c3 : i 111 s < 60
      · simp (disch := omega) only [↓iNlt_t, ↓iNlt_f, ↓iNle_t, ↓iNle_f, ↓iNeq_t, ↓iNeq_f, ↓iJlt_t, ↓iJlt_f, ↓iJle_t, ↓iJle_f, ↓iJeq_t, ↓iJeq_f, ↓iZlt_t, ↓iZlt_f, ↓iZle_t, ↓iZle_f, ↓iZeq_t, ↓iZeq_f, ↓iQlt_t, ↓iQlt_f, ↓iQle_t, ↓iQle_f, ↓iQeq_t, ↓iQeq_f, ↓iAnd_t, ↓iAnd_f, ↓iOr_t, ↓iOr_f, ↓iIff_t, ↓iIff_f, ↓iNot_t, ↓iNot_f, ↓iTrue, ↓iFalse, ↓ckN, ↓ckJ, ↓gIT, ↓gLT, ↓gRT, ↓cvT, ↓pIT, ↓pLT, ↓pZT, ↓asZ, ↓aNT, ↓arL, ↓asL, ↓arI, ↓asI, ↓aR_1, ↓bnd_some, ↓wh_eq, ↓on_some, ↓on_none, asZ, arL, asL, arI, asI, aR_1, bnd_some, wh_eq, on_some, on_none, tnT, tnU, tnL, nk, jk, N_add, N_mul, N_sub, N_neg, J_add, J_mul, J_sub, J_neg, N_J, ↓gI_q st, k1, d1, n1]
      · simp (disch := omega) only [↓iNlt_t, ↓iNlt_f, ↓iNle_t, ↓iNle_f, ↓iNeq_t, ↓iNeq_f, ↓iJlt_t, ↓iJlt_f, ↓iJle_t, ↓iJle_f, ↓iJeq_t, ↓iJeq_f, ↓iZlt_t, ↓iZlt_f, ↓iZle_t, ↓iZle_f, ↓iZeq_t, ↓iZeq_f, ↓iQlt_t, ↓iQlt_f, ↓iQle_t, ↓iQle_f, ↓iQeq_t, ↓iQeq_f, ↓iAnd_t, ↓iAnd_f, ↓iOr_t, ↓iOr_f, ↓iIff_t, ↓iIff_f, ↓iNot_t, ↓iNot_f, ↓iTrue, ↓iFalse, ↓ckN, ↓ckJ, ↓gIT, ↓gLT, ↓gRT, ↓cvT, ↓pIT, ↓pLT, ↓pZT, ↓asZ, ↓aNT, ↓arL, ↓asL, ↓arI, ↓asI, ↓aR_1, ↓bnd_some, ↓wh_eq, ↓on_some, ↓on_none, asZ, arL, asL, arI, asI, aR_1, bnd_some, wh_eq, on_some, on_none, tnT, tnU, tnL, nk, jk, N_add, N_mul, N_sub, N_neg, J_add, J_mul, J_sub, J_neg, N_J, ↓gI_q st, k1, d1, n1]
    · simp (disch := omega) only [↓iNlt_t, ↓iNlt_f, ↓iNle_t, ↓iNle_f, ↓iNeq_t, ↓iNeq_f, ↓iJlt_t, ↓iJlt_f, ↓iJle_t, ↓iJle_f, ↓iJeq_t, ↓iJeq_f, ↓iZlt_t, ↓iZlt_f, ↓iZle_t, ↓iZle_f, ↓iZeq_t, ↓iZeq_f, ↓iQlt_t, ↓iQlt_f, ↓iQle_t, ↓iQle_f, ↓iQeq_t, ↓iQeq_f, ↓iAnd_t, ↓iAnd_f, ↓iOr_t, ↓iOr_f, ↓iIff_t, ↓iIff_f, ↓iNot_t, ↓iNot_f, ↓iTrue, ↓iFalse, ↓ckN, ↓ckJ, ↓gIT, ↓gLT, ↓gRT, ↓cvT, ↓pIT, ↓pLT, ↓pZT, ↓asZ, ↓aNT, ↓arL, ↓asL, ↓arI, ↓asI, ↓aR_1, ↓bnd_some, ↓wh_eq, ↓on_some, ↓on_none, asZ, arL, asL, arI, asI, aR_1, bnd_some, wh_eq, on_some, on_none, tnT, tnU, tnL, nk, jk, N_add, N_mul, N_sub, N_neg, J_add, J_mul, J_sub, J_neg, N_J, ↓gI_q st, k1, d1, n1]
  · simp (disch := omega) only [↓iNlt_t, ↓iNlt_f, ↓iNle_t, ↓iNle_f, ↓iNeq_t, ↓iNeq_f, ↓iJlt_t, ↓iJlt_f, ↓iJle_t, ↓iJle_f, ↓iJeq_t, ↓iJeq_f, ↓iZlt_t, ↓iZlt_f, ↓iZle_t, ↓iZle_f, ↓iZeq_t, ↓iZeq_f, ↓iQlt_t, ↓iQlt_f, ↓iQle_t, ↓iQle_f, ↓iQeq_t, ↓iQeq_f, ↓iAnd_t, ↓iAnd_f, ↓iOr_t, ↓iOr_f, ↓iIff_t, ↓iIff_f, ↓iNot_t, ↓iNot_f, ↓iTrue, ↓iFalse, ↓ckN, ↓ckJ, ↓gIT, ↓gLT, ↓gRT, ↓cvT, ↓pIT, ↓pLT, ↓pZT, ↓asZ, ↓aNT, ↓arL, ↓asL, ↓arI, ↓asI, ↓aR_1, ↓bnd_some, ↓wh_eq, ↓on_some, ↓on_none, asZ, arL, asL, arI, asI, aR_1, bnd_some, wh_eq, on_some, on_none, tnT, tnU, tnL, nk, jk, N_add, N_mul, N_sub, N_neg, J_add, J_mul, J_sub, J_neg, N_J, ↓gI_q st, k1, d1, n1]
theorem SD.isOpenMade {s : Nat} (hs : s < 40) (sd : SD i l s) : fX9_isOpenMade 108 (N s) (hq i l x y) = some (N (if i 110 s = 3 ∧ i 112 s = 0 ∧ i 111 s < 60 then 1 else 0), hq i l x y) := by
  obtain ⟨⟨k1, k2, k3⟩, ⟨n1, n2, n3⟩, ⟨d1, d2⟩, -⟩ := sd
  unfold fX9_isOpenMade
  simp only [nk, jk, N_add, N_mul, N_sub, N_neg, J_add, J_mul, J_sub, J_neg]
  by_cases c1 : i 110 s = 3
  · by_cases c2 : i 112 s = 0
    · by_cases c3 : i 111 s < 60
      · simp (disch := omega) only [↓iNlt_t, ↓iNlt_f, ↓iNle_t, ↓iNle_f, ↓iNeq_t, ↓iNeq_f, ↓iJlt_t, ↓iJlt_f, ↓iJle_t, ↓iJle_f, ↓iJeq_t, ↓iJeq_f, ↓iZlt_t, ↓iZlt_f, ↓iZle_t, ↓iZle_f, ↓iZeq_t, ↓iZeq_f, ↓iQlt_t, ↓iQlt_f, ↓iQle_t, ↓iQle_f, ↓iQeq_t, ↓iQeq_f, ↓iAnd_t, ↓iAnd_f, ↓iOr_t, ↓iOr_f, ↓iIff_t, ↓iIff_f, ↓iNot_t, ↓iNot_f, ↓iTrue, ↓iFalse, ↓ckN, ↓ckJ, ↓gIT, ↓gLT, ↓gRT, ↓cvT, ↓pIT, ↓pLT, ↓pZT, ↓asZ, ↓aNT, ↓arL, ↓asL, ↓arI, ↓asI, ↓aR_1, ↓bnd_some, ↓wh_eq, ↓on_some, ↓on_none, asZ, arL, asL, arI, asI, aR_1, bnd_some, wh_eq, on_some, on_none, tnT, tnU, tnL, nk, jk, N_add, N_mul, N_sub, N_neg, J_add, J_mul, J_sub, J_neg, N_J]
      · simp (disch := omega) only [↓iNlt_t, ↓iNlt_f, ↓iNle_t, ↓iNle_f, ↓iNeq_t, ↓iNeq_f, ↓iJlt_t, ↓iJlt_f, ↓iJle_t, ↓iJle_f, ↓iJeq_t, ↓iJeq_f, ↓iZlt_t, ↓iZlt_f, ↓iZle_t, ↓iZle_f, ↓iZeq_t, ↓iZeq_f, ↓iQlt_t, ↓iQlt_f, ↓iQle_t, ↓iQle_f, ↓iQeq_t, ↓iQeq_f, ↓iAnd_t, ↓iAnd_f, ↓iOr_t, ↓iOr_f, ↓iIff_t, ↓iIff_f, ↓iNot_t, ↓iNot_f, ↓iTrue, ↓iFalse, ↓ckN, ↓ckJ, ↓gIT, ↓gLT, ↓gRT, ↓cvT, ↓pIT, ↓pLT, ↓pZT, ↓asZ, ↓aNT, ↓arL, ↓asL, ↓arI, ↓asI, ↓aR_1, ↓bnd_some, ↓wh_eq, ↓on_some, ↓on_none, asZ, arL, asL, arI, asI, aR_1, bnd_some, wh_eq, on_some, on_none, tnT, tnU, tnL, nk, jk, N_add, N_mul, N_sub, N_neg, J_add, J_mul, J_sub, J_neg, N_J]
    · simp (disch := omega) only [↓iNlt_t, ↓iNlt_f, ↓iNle_t, ↓iNle_f, ↓iNeq_t, ↓iNeq_f, ↓iJlt_t, ↓iJlt_f, ↓iJle_t, ↓iJle_f, ↓iJeq_t, ↓iJeq_f, ↓iZlt_t, ↓iZlt_f, ↓iZle_t, ↓iZle_f, ↓iZeq_t, ↓iZeq_f, ↓iQlt_t, ↓iQlt_f, ↓iQle_t, ↓iQle_f, ↓iQeq_t, ↓iQeq_f, ↓iAnd_t, ↓iAnd_f, ↓iOr_t, ↓iOr_f, ↓iIff_t, ↓iIff_f, ↓iNot_t, ↓iNot_f, ↓iTrue, ↓iFalse, ↓ckN, ↓ckJ, ↓gIT, ↓gLT, ↓gRT, ↓cvT, ↓pIT, ↓pLT, ↓pZT, ↓asZ, ↓aNT, ↓arL, ↓asL, ↓arI, ↓asI, ↓aR_1, ↓bnd_some, ↓wh_eq, ↓on_some, ↓on_none, asZ, arL, asL, arI, asI, aR_1, bnd_some, wh_eq, on_some, on_none, tnT, tnU, tnL, nk, jk, N_add, N_mul, N_sub, N_neg, J_add, J_mul, J_sub, J_neg, N_J]
  · simp (disch := omega) only [↓iNlt_t, ↓iNlt_f, ↓iNle_t, ↓iNle_f, ↓iNeq_t, ↓iNeq_f, ↓iJlt_t, ↓iJlt_f, ↓iJle_t, ↓iJle_f, ↓iJeq_t, ↓iJeq_f, ↓iZlt_t, ↓iZlt_f, ↓iZle_t, ↓iZle_f, ↓iZeq_t, ↓iZeq_f, ↓iQlt_t, ↓iQlt_f, ↓iQle_t, ↓iQle_f, ↓iQeq_t, ↓iQeq_f, ↓iAnd_t, ↓iAnd_f, ↓iOr_t, ↓iOr_f, ↓iIff_t, ↓iIff_f, ↓iNot_t, ↓iNot_f, ↓iTrue, ↓iFalse, ↓ckN, ↓ckJ, ↓gIT, ↓gLT, ↓gRT, ↓cvT, ↓pIT, ↓pLT, ↓pZT, ↓asZ, ↓aNT, ↓arL, ↓asL, ↓arI, ↓asI, ↓aR_1, ↓bnd_some, ↓wh_eq, ↓on_some, ↓on_none, asZ, arL, asL, arI, asI, aR_1, bnd_some, wh_eq, on_some, on_none, tnT, tnU, tnL, nk, jk, N_add, N_mul, N_sub, N_neg, J_add, J_mul, J_sub, J_neg, N_J]
theorem Rel.howOpen (r : Rel i l) : fX8_howManyOpen 0 (hq i l x y) = some (N (cnt (opn i) 40), hq i l x y) := by
  have key : ∀ (m k n : Nat), k + m = 40 → m + 1 ≤ n → fX8_howManyOpen_4L n 0 (N (cnt (opn i) k)) (N k) (hq i l x y) = some (N (cnt (opn i) 40), hq i l x y) := by
    intro m
    induction m with
    | zero =>
      intro k n hk hn
      obtain ⟨q, rfl⟩ : ∃ q, n = q + 1 := ⟨n - 1, by omega⟩
      obtain rfl : k = 40 := by omega
      show fX8_howManyOpen_4 (fX8_howManyOpen_4L q) 0 _ _ _ = _
      unfold fX8_howManyOpen_4
      simp only [nk, jk, N_add, N_mul, N_sub, N_neg, J_add, J_mul, J_sub, J_neg]
      simp (disch := omega) only [↓iNlt_t, ↓iNlt_f, ↓iNle_t, ↓iNle_f, ↓iNeq_t, ↓iNeq_f, ↓iJlt_t, ↓iJlt_f, ↓iJle_t, ↓iJle_f, ↓iJeq_t, ↓iJeq_f, ↓iZlt_t, ↓iZlt_f, ↓iZle_t, ↓iZle_f, ↓iZeq_t, ↓iZeq_f, ↓iQlt_t, ↓iQlt_f, ↓iQle_t, ↓iQle_f, ↓iQeq_t, ↓iQeq_f, ↓iAnd_t, ↓iAnd_f, ↓iOr_t, ↓iOr_f, ↓iIff_t, ↓iIff_f, ↓iNot_t, ↓iNot_f, ↓iTrue, ↓iFalse, ↓ckN, ↓ckJ, ↓gIT, ↓gLT, ↓gRT, ↓cvT, ↓pIT, ↓pLT, ↓pZT, ↓asZ, ↓aNT, ↓arL, ↓asL, ↓arI, ↓asI, ↓aR_1, ↓bnd_some, ↓wh_eq, ↓on_some, ↓on_none, asZ, arL, asL, arI, asI, aR_1, bnd_some, wh_eq, on_some, on_none, tnT, tnU, tnL, nk, jk, N_add, N_mul, N_sub, N_neg, J_add, J_mul, J_sub, J_neg, N_J]
    | succ m ih =>
      intro k n hk hn
      obtain ⟨q, rfl⟩ : ∃ q, n = q + 1 := ⟨n - 1, by omega⟩
      obtain ⟨h1, h2, h3⟩ := r.1 k (by omega)
      have st := (St_s (show k < 40 by omega)).1.1
      have ih := ih (k + 1) q (by omega) (by omega)
      have e := cnt_s (opn i) k
      have f : i (2 * k + 28) 1 = i 109 k := h1
      show fX8_howManyOpen_4 (fX8_howManyOpen_4L q) 0 _ _ _ = _
      unfold fX8_howManyOpen_4
      simp only [nk, jk, N_add, N_mul, N_sub, N_neg, J_add, J_mul, J_sub, J_neg]
      by_cases c : i 109 k = 0
      · rw [if_pos (by unfold opn; rw [if_neg (by omega)])] at e
        simp (disch := omega) only [↓iNlt_t, ↓iNlt_f, ↓iNle_t, ↓iNle_f, ↓iNeq_t, ↓iNeq_f, ↓iJlt_t, ↓iJlt_f, ↓iJle_t, ↓iJle_f, ↓iJeq_t, ↓iJeq_f, ↓iZlt_t, ↓iZlt_f, ↓iZle_t, ↓iZle_f, ↓iZeq_t, ↓iZeq_f, ↓iQlt_t, ↓iQlt_f, ↓iQle_t, ↓iQle_f, ↓iQeq_t, ↓iQeq_f, ↓iAnd_t, ↓iAnd_f, ↓iOr_t, ↓iOr_f, ↓iIff_t, ↓iIff_f, ↓iNot_t, ↓iNot_f, ↓iTrue, ↓iFalse, ↓ckN, ↓ckJ, ↓gIT, ↓gLT, ↓gRT, ↓cvT, ↓pIT, ↓pLT, ↓pZT, ↓asZ, ↓aNT, ↓arL, ↓asL, ↓arI, ↓asI, ↓aR_1, ↓bnd_some, ↓wh_eq, ↓on_some, ↓on_none, asZ, arL, asL, arI, asI, aR_1, bnd_some, wh_eq, on_some, on_none, tnT, tnU, tnL, nk, jk, N_add, N_mul, N_sub, N_neg, J_add, J_mul, J_sub, J_neg, N_J, ↓gI_q st, f]
        rw [← ih, e, Int.add_zero]
        rfl
      · have o := SD.isOpen (x := x) (y := y) (by omega) (h3 (by omega))
        by_cases c2 : i 110 k = 3 ∧ i 112 k = 0 ∧ i 111 k < 60
        · rw [if_pos c2] at o
          rw [if_neg (by unfold opn; rw [if_pos (by omega)]; decide)] at e
          simp (disch := omega) only [↓iNlt_t, ↓iNlt_f, ↓iNle_t, ↓iNle_f, ↓iNeq_t, ↓iNeq_f, ↓iJlt_t, ↓iJlt_f, ↓iJle_t, ↓iJle_f, ↓iJeq_t, ↓iJeq_f, ↓iZlt_t, ↓iZlt_f, ↓iZle_t, ↓iZle_f, ↓iZeq_t, ↓iZeq_f, ↓iQlt_t, ↓iQlt_f, ↓iQle_t, ↓iQle_f, ↓iQeq_t, ↓iQeq_f, ↓iAnd_t, ↓iAnd_f, ↓iOr_t, ↓iOr_f, ↓iIff_t, ↓iIff_f, ↓iNot_t, ↓iNot_f, ↓iTrue, ↓iFalse, ↓ckN, ↓ckJ, ↓gIT, ↓gLT, ↓gRT, ↓cvT, ↓pIT, ↓pLT, ↓pZT, ↓asZ, ↓aNT, ↓arL, ↓asL, ↓arI, ↓asI, ↓aR_1, ↓bnd_some, ↓wh_eq, ↓on_some, ↓on_none, asZ, arL, asL, arI, asI, aR_1, bnd_some, wh_eq, on_some, on_none, tnT, tnU, tnL, nk, jk, N_add, N_mul, N_sub, N_neg, J_add, J_mul, J_sub, J_neg, N_J, ↓gI_q st, ↓cv_q st, f, o]
          rw [← ih, e]
          rfl
        · rw [if_neg c2] at o
          rw [if_pos (by unfold opn; rw [if_neg (by omega)])] at e
          simp (disch := omega) only [↓iNlt_t, ↓iNlt_f, ↓iNle_t, ↓iNle_f, ↓iNeq_t, ↓iNeq_f, ↓iJlt_t, ↓iJlt_f, ↓iJle_t, ↓iJle_f, ↓iJeq_t, ↓iJeq_f, ↓iZlt_t, ↓iZlt_f, ↓iZle_t, ↓iZle_f, ↓iZeq_t, ↓iZeq_f, ↓iQlt_t, ↓iQlt_f, ↓iQle_t, ↓iQle_f, ↓iQeq_t, ↓iQeq_f, ↓iAnd_t, ↓iAnd_f, ↓iOr_t, ↓iOr_f, ↓iIff_t, ↓iIff_f, ↓iNot_t, ↓iNot_f, ↓iTrue, ↓iFalse, ↓ckN, ↓ckJ, ↓gIT, ↓gLT, ↓gRT, ↓cvT, ↓pIT, ↓pLT, ↓pZT, ↓asZ, ↓aNT, ↓arL, ↓asL, ↓arI, ↓asI, ↓aR_1, ↓bnd_some, ↓wh_eq, ↓on_some, ↓on_none, asZ, arL, asL, arI, asI, aR_1, bnd_some, wh_eq, on_some, on_none, tnT, tnU, tnL, nk, jk, N_add, N_mul, N_sub, N_neg, J_add, J_mul, J_sub, J_neg, N_J, ↓gI_q st, ↓cv_q st, f, o]
          rw [← ih, e, Int.add_zero]
          rfl
  exact key 40 0 1000 (by omega) (by omega)
theorem Rel.cntOpen (r : Rel i l) : fX9_count_35L 1000 108 (J 0) (N 0) (hq i l x y) = some (J (cnt (opn i) 40), hq i l x y) := by
  have key : ∀ (m k n : Nat), k + m = 40 → m + 1 ≤ n → fX9_count_35L n 108 (J (cnt (opn i) k)) (N k) (hq i l x y) = some (J (cnt (opn i) 40), hq i l x y) := by
    intro m
    induction m with
    | zero =>
      intro k n hk hn
      obtain ⟨q, rfl⟩ : ∃ q, n = q + 1 := ⟨n - 1, by omega⟩
      obtain rfl : k = 40 := by omega
      show fX9_count_35 (fX9_count_35L q) 108 _ _ _ = _
      unfold fX9_count_35
      simp only [nk, jk, N_add, N_mul, N_sub, N_neg, J_add, J_mul, J_sub, J_neg]
      simp (disch := omega) only [↓iNlt_t, ↓iNlt_f, ↓iNle_t, ↓iNle_f, ↓iNeq_t, ↓iNeq_f, ↓iJlt_t, ↓iJlt_f, ↓iJle_t, ↓iJle_f, ↓iJeq_t, ↓iJeq_f, ↓iZlt_t, ↓iZlt_f, ↓iZle_t, ↓iZle_f, ↓iZeq_t, ↓iZeq_f, ↓iQlt_t, ↓iQlt_f, ↓iQle_t, ↓iQle_f, ↓iQeq_t, ↓iQeq_f, ↓iAnd_t, ↓iAnd_f, ↓iOr_t, ↓iOr_f, ↓iIff_t, ↓iIff_f, ↓iNot_t, ↓iNot_f, ↓iTrue, ↓iFalse, ↓ckN, ↓ckJ, ↓gIT, ↓gLT, ↓gRT, ↓cvT, ↓pIT, ↓pLT, ↓pZT, ↓asZ, ↓aNT, ↓arL, ↓asL, ↓arI, ↓asI, ↓aR_1, ↓bnd_some, ↓wh_eq, ↓on_some, ↓on_none, asZ, arL, asL, arI, asI, aR_1, bnd_some, wh_eq, on_some, on_none, tnT, tnU, tnL, nk, jk, N_add, N_mul, N_sub, N_neg, J_add, J_mul, J_sub, J_neg, N_J]
    | succ m ih =>
      intro k n hk hn
      obtain ⟨q, rfl⟩ : ∃ q, n = q + 1 := ⟨n - 1, by omega⟩
      obtain ⟨h1, h2, h3⟩ := r.1 k (by omega)
      have ih := ih (k + 1) q (by omega) (by omega)
      have e := cnt_s (opn i) k
      show fX9_count_35 (fX9_count_35L q) 108 _ _ _ = _
      unfold fX9_count_35
      simp only [nk, jk, N_add, N_mul, N_sub, N_neg, J_add, J_mul, J_sub, J_neg]
      by_cases c : i 109 k = 0
      · rw [if_pos (by unfold opn; rw [if_neg (by omega)])] at e
        simp (disch := omega) only [↓iNlt_t, ↓iNlt_f, ↓iNle_t, ↓iNle_f, ↓iNeq_t, ↓iNeq_f, ↓iJlt_t, ↓iJlt_f, ↓iJle_t, ↓iJle_f, ↓iJeq_t, ↓iJeq_f, ↓iZlt_t, ↓iZlt_f, ↓iZle_t, ↓iZle_f, ↓iZeq_t, ↓iZeq_f, ↓iQlt_t, ↓iQlt_f, ↓iQle_t, ↓iQle_f, ↓iQeq_t, ↓iQeq_f, ↓iAnd_t, ↓iAnd_f, ↓iOr_t, ↓iOr_f, ↓iIff_t, ↓iIff_f, ↓iNot_t, ↓iNot_f, ↓iTrue, ↓iFalse, ↓ckN, ↓ckJ, ↓gIT, ↓gLT, ↓gRT, ↓cvT, ↓pIT, ↓pLT, ↓pZT, ↓asZ, ↓aNT, ↓arL, ↓asL, ↓arI, ↓asI, ↓aR_1, ↓bnd_some, ↓wh_eq, ↓on_some, ↓on_none, asZ, arL, asL, arI, asI, aR_1, bnd_some, wh_eq, on_some, on_none, tnT, tnU, tnL, nk, jk, N_add, N_mul, N_sub, N_neg, J_add, J_mul, J_sub, J_neg, N_J]
        rw [← ih, e]
        rfl
      · have o := SD.isOpenMade (x := x) (y := y) (by omega) (h3 (by omega))
        by_cases c2 : i 110 k = 3 ∧ i 112 k = 0 ∧ i 111 k < 60
        · rw [if_pos c2] at o
          rw [if_neg (by unfold opn; rw [if_pos (by omega)]; decide)] at e
          simp (disch := omega) only [↓iNlt_t, ↓iNlt_f, ↓iNle_t, ↓iNle_f, ↓iNeq_t, ↓iNeq_f, ↓iJlt_t, ↓iJlt_f, ↓iJle_t, ↓iJle_f, ↓iJeq_t, ↓iJeq_f, ↓iZlt_t, ↓iZlt_f, ↓iZle_t, ↓iZle_f, ↓iZeq_t, ↓iZeq_f, ↓iQlt_t, ↓iQlt_f, ↓iQle_t, ↓iQle_f, ↓iQeq_t, ↓iQeq_f, ↓iAnd_t, ↓iAnd_f, ↓iOr_t, ↓iOr_f, ↓iIff_t, ↓iIff_f, ↓iNot_t, ↓iNot_f, ↓iTrue, ↓iFalse, ↓ckN, ↓ckJ, ↓gIT, ↓gLT, ↓gRT, ↓cvT, ↓pIT, ↓pLT, ↓pZT, ↓asZ, ↓aNT, ↓arL, ↓asL, ↓arI, ↓asI, ↓aR_1, ↓bnd_some, ↓wh_eq, ↓on_some, ↓on_none, asZ, arL, asL, arI, asI, aR_1, bnd_some, wh_eq, on_some, on_none, tnT, tnU, tnL, nk, jk, N_add, N_mul, N_sub, N_neg, J_add, J_mul, J_sub, J_neg, N_J, o]
          rw [← ih, e]
          rfl
        · rw [if_neg c2] at o
          rw [if_pos (by unfold opn; rw [if_neg (by omega)])] at e
          simp (disch := omega) only [↓iNlt_t, ↓iNlt_f, ↓iNle_t, ↓iNle_f, ↓iNeq_t, ↓iNeq_f, ↓iJlt_t, ↓iJlt_f, ↓iJle_t, ↓iJle_f, ↓iJeq_t, ↓iJeq_f, ↓iZlt_t, ↓iZlt_f, ↓iZle_t, ↓iZle_f, ↓iZeq_t, ↓iZeq_f, ↓iQlt_t, ↓iQlt_f, ↓iQle_t, ↓iQle_f, ↓iQeq_t, ↓iQeq_f, ↓iAnd_t, ↓iAnd_f, ↓iOr_t, ↓iOr_f, ↓iIff_t, ↓iIff_f, ↓iNot_t, ↓iNot_f, ↓iTrue, ↓iFalse, ↓ckN, ↓ckJ, ↓gIT, ↓gLT, ↓gRT, ↓cvT, ↓pIT, ↓pLT, ↓pZT, ↓asZ, ↓aNT, ↓arL, ↓asL, ↓arI, ↓asI, ↓aR_1, ↓bnd_some, ↓wh_eq, ↓on_some, ↓on_none, asZ, arL, asL, arI, asI, aR_1, bnd_some, wh_eq, on_some, on_none, tnT, tnU, tnL, nk, jk, N_add, N_mul, N_sub, N_neg, J_add, J_mul, J_sub, J_neg, N_J, o]
          rw [← ih, e]
          rfl
  exact key 40 0 1000 (by omega) (by omega)
end OPN
theorem c_count (a : Int32) : Agree (fX8_count 0 a) (fX9_count 108 a) := by
  intro i l x y r
  have hc := cnt_rng (i 109) 40
  have ho := cnt_rng (opn i) 40
  have hm : cnt (thr i) 40 = i 108 10 := by
    rw [r.2.1]
    exact cnt_congr 40 (fun j hj => by rw [(r.1 j hj).1])
  have hr := r.2.1
  obtain ⟨⟨a4, a5, a6⟩, -⟩ := r.2.2.1
  by_cases c0 : a = 0
  · refine agree_of (J (i 108 10)) r ?_ ?_
    · unfold fX8_count
      rw [if_pos c0, cv_q s0T, q_howMany r.t, bnd_some, hm, N_J (by omega) (by omega)]
    · unfold fX9_count
      rw [if_pos c0, gI_q s9T, N_J (by omega) (by omega)]
  by_cases c1 : a = 1
  · refine agree_of (J (i 108 11)) r ?_ ?_
    · unfold fX8_count
      rw [if_neg c0, if_pos c1, gI_q s0T, a4, N_J (by omega) (by omega)]
    · unfold fX9_count
      rw [if_neg c0, if_pos c1, gI_q s9T, N_J (by omega) (by omega)]
  by_cases c2 : a = 2
  · refine agree_of (J (cnt (opn i) 40)) r ?_ ?_
    · unfold fX8_count
      rw [if_neg c0, if_neg c1, if_pos c2, cv_q s0T, r.howOpen, bnd_some, N_J (by omega) (by omega)]
    · unfold fX9_count
      rw [if_neg c0, if_neg c1, if_pos c2, jk.1, nk.1, r.cntOpen]
  · refine agree_of (-2000000000000000002) r ?_ ?_
    · unfold fX8_count
      rw [if_neg c0, if_neg c1, if_neg c2]
    · unfold fX9_count
      rw [if_neg c0, if_neg c1, if_neg c2]
/-- a stream more, and the rest is told anew -/
theorem Rel.put2 {i l i' l' : Nat → Nat → Int} (h : Rel i l) {s : Nat} (hs : s < 40) (hf : i 109 s = 0) (ho : ∀ t, t < 40 → t ≠ s → SameAt i l i' l' t ∧ i' 109 t = i 109 t) (hn : i' 109 s = 1 ∧ i' (2 * s + 28) 1 = 1) (hd : SD i' l' s) (hc : i' 108 10 = i 108 10 + 1)
    (h3 : (i' 0 4 = i' 108 11 ∧ 0 ≤ i' 108 11 ∧ i' 108 11 ≤ 8) ∧ ∀ j : Nat, (j : Int) < i' 108 11 → l' 4 j = i' 118 j ∧ l' 5 j = i' 119 j ∧ (1 ≤ i' 118 j ∧ i' 118 j ≤ 1000000) ∧ 0 ≤ i' 119 j ∧ i' 119 j ≤ 1000000)
    (h4 : ∀ j, j < 8 → l' 6 j = l' 120 j ∧ (l' 120 j).natAbs ≤ 1000000)
    (h5 : (i' 12 8 = i' 108 22 ∧ 0 ≤ i' 108 22 ∧ i' 108 22 ≤ 182) ∧ ∀ j : Nat, (j : Int) < 10 * i' 108 22 → l' 19 j = l' 123 j)
    (h6 : a01 (i' 108 0) ∧ (i' 2 2 = i 2 2 ∧ l' 2 = l 2) ∧ i' 13 0 = i 13 0 ∧ i' 13 1 = i 13 1 ∧ i' 14 0 = i 14 0 ∧ i' 14 1 = i 14 1) : Rel i' l' := by
  obtain ⟨h60, ⟨e6, d5⟩, e7, e8, e9, e10⟩ := h6
  obtain ⟨r1, r2, r3, r4, r5, r6, r7⟩ := h
  refine ⟨fun t ht => ?_, ?_, h3, h4, h5, h60, ?_⟩
  · by_cases e : t = s
    · subst e
      refine ⟨?_, Or.inr hn.1, fun _ => hd⟩
      unfold thr
      rw [hn.1, hn.2]
    · obtain ⟨o1, o2⟩ := ho t ht e
      obtain ⟨q1, q2, q3⟩ := r1 t ht
      refine ⟨?_, by rw [o2]; exact q2, fun z => (q3 (by rw [← o2]; exact z)).same o1⟩
      unfold thr at q1 ⊢
      rw [o1.1.1, o2]
      exact q1
  · rw [hc, r2]
    have key : cnt (i' 109) 40 = cnt (fun t => if t = s then 1 else i 109 t) 40 := cnt_congr 40 (fun j hj => by
      by_cases e : j = s
      · subst e
        simp [hn.1]
      · simp [e, (ho j hj e).2])
    rw [key, cnt_put (f := i 109) (g := fun t => if t = s then 1 else i 109 t) (s := s) hf (by simp) (fun j hj => by simp [hj]) 40, if_pos hs]
  · rw [e6, d5, e7, e8, e9, e10]; exact r7
/-- the parts of a rule -/
def rp (A B : Nat → Int) (m : Nat) (p0 : Int) (k : Nat) : Int := if k = 0 then p0 else A ((k - 1) % m) + (((k - 1) / m : Nat) : Int) * B ((k - 1) % m)
theorem rp_s (A B : Nat → Int) (m : Nat) (p0 : Int) (j : Nat) : rp A B m p0 (j + 1) = A (j % m) + ((j / m : Nat) : Int) * B (j % m) := by
  unfold rp
  rw [if_neg (by omega), Nat.add_sub_cancel]
theorem rp_step {m : Nat} (h1 : 1 ≤ m) (h2 : m ≤ 8) (j : Nat) : (j % m + 1 < m ∧ (j + 1) % m = j % m + 1 ∧ (j + 1) / m = j / m) ∨ (¬ (j % m + 1 < m) ∧ (j + 1) % m = 0 ∧ (j + 1) / m = j / m + 1) := by
  rcases (by omega : m = 1 ∨ m = 2 ∨ m = 3 ∨ m = 4 ∨ m = 5 ∨ m = 6 ∨ m = 7 ∨ m = 8) with rfl | rfl | rfl | rfl | rfl | rfl | rfl | rfl <;> omega
theorem rp_rng {A B : Nat → Int} {m : Nat} {p0 : Int} (h1 : 1 ≤ m) (hA : ∀ j, j < m → (1 ≤ A j ∧ A j ≤ 1000000) ∧ 0 ≤ B j ∧ B j ≤ 1000000) (hp : p0.natAbs ≤ 1000000) (k : Nat) (hk : k < 60) : ¬ far (rp A B m p0 k) ∧ (0 < k → 1 ≤ rp A B m p0 k) := by
  unfold rp
  by_cases c : k = 0
  · rw [if_pos c]
    exact ⟨by omega, fun z => by omega⟩
  · rw [if_neg c]
    obtain ⟨⟨a1, a2⟩, a3, a4⟩ := hA ((k - 1) % m) (Nat.mod_lt _ (by omega))
    have hq : (k - 1) / m ≤ 60 := Nat.le_trans (Nat.div_le_self _ _) (by omega)
    generalize (k - 1) / m = q at *
    have b1 := Int.mul_nonneg (a := (q : Int)) (b := B ((k - 1) % m)) (by omega) a3
    have b2 := Int.mul_le_mul (a := (q : Int)) (b := B ((k - 1) % m)) (c := 60) (d := 1000000) (by omega) a4 a3 (by omega)
    generalize (q : Int) * B ((k - 1) % m) = z at *
    exact ⟨by omega, fun _ => by omega⟩
theorem N_divN (x y : Nat) (hx : x ≤ 2000000000) (hy : y ≤ 2000000000) : N (x : Int) / N (y : Int) = N ((x / y : Nat) : Int) := by
  rw [N_div (by omega) (by omega) (by omega) (by omega), ← Int.ofNat_tdiv]
section RUL
variable {i l : Nat → Nat → Int} {x y : Option Nat}
theorem q_fillL {s : Nat} (hs : s < 40) {A B : Nat → Int} {m : Nat} {p0 : Int} (h1 : 1 ≤ m) (h2 : m ≤ 8) (hm : i 0 4 = m) (hA : ∀ j, j < m → l 4 j = A j ∧ l 5 j = B j) (g : Nat → Int) : ∀ (e j n : Nat), j + e = 59 → e + 1 ≤ n →
    fX8_fillRule_19L n 0 (2 * s + 28) (N ((j % m : Nat) : Int)) (J ((j / m : Nat) : Int)) (N ((j + 1 : Nat) : Int)) (hq (stI i (2 * s + 28) 2 ((j + 1 : Nat) : Int) 0 0) (wr l (2 * s + 29) (fl (rp A B m p0) g (j + 1))) x y) = some ((), hq (stI i (2 * s + 28) 2 60 0 0) (wr l (2 * s + 29) (fl (rp A B m p0) g 60)) x y) := by
  intro e
  induction e with
  | zero =>
    intro j n hk hn
    obtain ⟨q, rfl⟩ : ∃ q, n = q + 1 := ⟨n - 1, by omega⟩
    obtain rfl : j = 59 := by omega
    show fX8_fillRule_19 (fX8_fillRule_19L q) 0 _ _ _ _ _ = _
    unfold fX8_fillRule_19
    simp only [nk, jk, N_add, N_mul, N_sub, N_neg, J_add, J_mul, J_sub, J_neg]
    simp (disch := omega) only [↓iNlt_t, ↓iNlt_f, ↓iNle_t, ↓iNle_f, ↓iNeq_t, ↓iNeq_f, ↓iJlt_t, ↓iJlt_f, ↓iJle_t, ↓iJle_f, ↓iJeq_t, ↓iJeq_f, ↓iZlt_t, ↓iZlt_f, ↓iZle_t, ↓iZle_f, ↓iZeq_t, ↓iZeq_f, ↓iQlt_t, ↓iQlt_f, ↓iQle_t, ↓iQle_f, ↓iQeq_t, ↓iQeq_f, ↓iAnd_t, ↓iAnd_f, ↓iOr_t, ↓iOr_f, ↓iIff_t, ↓iIff_f, ↓iNot_t, ↓iNot_f, ↓iTrue, ↓iFalse, ↓ckN, ↓ckJ, ↓gIT, ↓gLT, ↓gRT, ↓cvT, ↓pIT, ↓pLT, ↓pZT, ↓asZ, ↓aNT, ↓arL, ↓asL, ↓arI, ↓asI, ↓aR_1, ↓bnd_some, ↓wh_eq, ↓on_some, ↓on_none, asZ, arL, asL, arI, asI, aR_1, bnd_some, wh_eq, on_some, on_none, tnT, tnU, tnL, nk, jk, N_add, N_mul, N_sub, N_neg, J_add, J_mul, J_sub, J_neg, N_J]
    rfl
  | succ e ih =>
    intro j n hk hn
    obtain ⟨q, rfl⟩ : ∃ q, n = q + 1 := ⟨n - 1, by omega⟩
    have ih := ih (j + 1) q (by omega) (by omega)
    have hj := Nat.mod_lt j (show 0 < m by omega)
    obtain ⟨a1, a2⟩ := hA (j % m) hj
    have st := St_s hs
    have a1' : wr l (2 * s + 29) (fl (rp A B m p0) g (j + 1)) 4 (j % m) = A (j % m) := by rw [wr_n _ _ (by omega)]; exact a1
    have a2' : wr l (2 * s + 29) (fl (rp A B m p0) g (j + 1)) 5 (j % m) = B (j % m) := by rw [wr_n _ _ (by omega)]; exact a2
    have ap := q_addPart (i := stI i (2 * s + 28) 2 ((j + 1 : Nat) : Int) 0 0) (l := wr l (2 * s + 29) (fl (rp A B m p0) g (j + 1))) (x := x) (y := y) st (k := j + 1) (stI_3 _ _ _ _ _ _) (by omega) (rp A B m p0 (j + 1))
    rw [stI_w3, w1_fl] at ap
    rw [rp_s] at ap
    have m1 : ∀ k, stI i (2 * s + 28) 2 k 0 0 0 4 = m := fun k => by rw [stI_n _ _ _ _ _ (by omega)]; exact hm
    show fX8_fillRule_19 (fX8_fillRule_19L q) 0 _ _ _ _ _ = _
    unfold fX8_fillRule_19
    rcases rp_step h1 h2 j with ⟨b1, b2, b3⟩ | ⟨b1, b2, b3⟩
    · rw [b2, b3] at ih
      generalize j % m = jm at *
      generalize j / m = jd at *
      simp only [nk, jk, N_add, N_mul, N_sub, N_neg, J_add, J_mul, J_sub, J_neg]
      simp (disch := omega) only [↓iNlt_t, ↓iNlt_f, ↓iNle_t, ↓iNle_f, ↓iNeq_t, ↓iNeq_f, ↓iJlt_t, ↓iJlt_f, ↓iJle_t, ↓iJle_f, ↓iJeq_t, ↓iJeq_f, ↓iZlt_t, ↓iZlt_f, ↓iZle_t, ↓iZle_f, ↓iZeq_t, ↓iZeq_f, ↓iQlt_t, ↓iQlt_f, ↓iQle_t, ↓iQle_f, ↓iQeq_t, ↓iQeq_f, ↓iAnd_t, ↓iAnd_f, ↓iOr_t, ↓iOr_f, ↓iIff_t, ↓iIff_f, ↓iNot_t, ↓iNot_f, ↓iTrue, ↓iFalse, ↓ckN, ↓ckJ, ↓gIT, ↓gLT, ↓gRT, ↓cvT, ↓pIT, ↓pLT, ↓pZT, ↓asZ, ↓aNT, ↓arL, ↓asL, ↓arI, ↓asI, ↓aR_1, ↓bnd_some, ↓wh_eq, ↓on_some, ↓on_none, asZ, arL, asL, arI, asI, aR_1, bnd_some, wh_eq, on_some, on_none, tnT, tnU, tnL, nk, jk, N_add, N_mul, N_sub, N_neg, J_add, J_mul, J_sub, J_neg, N_J, a1', a2', ↓cv_q st.1.1, ap, m1]
      exact ih
    · rw [b2, b3] at ih
      generalize j % m = jm at *
      generalize j / m = jd at *
      simp only [nk, jk, N_add, N_mul, N_sub, N_neg, J_add, J_mul, J_sub, J_neg]
      simp (disch := omega) only [↓iNlt_t, ↓iNlt_f, ↓iNle_t, ↓iNle_f, ↓iNeq_t, ↓iNeq_f, ↓iJlt_t, ↓iJlt_f, ↓iJle_t, ↓iJle_f, ↓iJeq_t, ↓iJeq_f, ↓iZlt_t, ↓iZlt_f, ↓iZle_t, ↓iZle_f, ↓iZeq_t, ↓iZeq_f, ↓iQlt_t, ↓iQlt_f, ↓iQle_t, ↓iQle_f, ↓iQeq_t, ↓iQeq_f, ↓iAnd_t, ↓iAnd_f, ↓iOr_t, ↓iOr_f, ↓iIff_t, ↓iIff_f, ↓iNot_t, ↓iNot_f, ↓iTrue, ↓iFalse, ↓ckN, ↓ckJ, ↓gIT, ↓gLT, ↓gRT, ↓cvT, ↓pIT, ↓pLT, ↓pZT, ↓asZ, ↓aNT, ↓arL, ↓asL, ↓arI, ↓asI, ↓aR_1, ↓bnd_some, ↓wh_eq, ↓on_some, ↓on_none, asZ, arL, asL, arI, asI, aR_1, bnd_some, wh_eq, on_some, on_none, tnT, tnU, tnL, nk, jk, N_add, N_mul, N_sub, N_neg, J_add, J_mul, J_sub, J_neg, N_J, a1', a2', ↓cv_q st.1.1, ap, m1]
      exact ih
theorem q_fillRule {s : Nat} (hs : s < 40) {A B : Nat → Int} {m : Nat} {p0 : Int} (hp : -2147483648 ≤ p0 ∧ p0 ≤ 2147483647) (h1 : 1 ≤ m) (h2 : m ≤ 8) (hm : i 0 4 = m) (hA : ∀ j, j < m → l 4 j = A j ∧ l 5 j = B j) : fX8_fillRule 0 (2 * s + 28) (N p0) (hq i l x y) = some ((), hq (stI i (2 * s + 28) 2 60 0 0) (wr (stL l (2 * s + 28) 0 0 0 1) (2 * s + 29) (fl (rp A B m p0) (l (2 * s + 29)) 60)) x y) := by
  have st := St_s hs
  have h := q_fillL (i := i) (l := stL l (2 * s + 28) 0 0 0 1) (x := x) (y := y) (p0 := p0) hs h1 h2 hm (A := A) (B := B) (fun j hj => by rw [stL_n _ _ _ _ _ (by omega), stL_n _ _ _ _ _ (by omega)]; exact hA j hj) (l (2 * s + 29)) 59 0 1000 (by omega) (by omega)
  rw [Nat.zero_mod, Nat.zero_div] at h
  have ap := q_addPart (i := stI i (2 * s + 28) 2 0 0 0) (l := wr (stL l (2 * s + 28) 0 0 0 1) (2 * s + 29) (fl (rp A B m p0) (l (2 * s + 29)) 0)) (x := x) (y := y) st (k := 0) (stI_3 _ _ _ _ _ _) (by omega) (rp A B m p0 0)
  rw [stI_w3, w1_fl, fl_0] at ap
  rw [show wr (stL l (2 * s + 28) 0 0 0 1) (2 * s + 29) (l (2 * s + 29)) = stL l (2 * s + 28) 0 0 0 1 by
    have e : l (2 * s + 29) = stL l (2 * s + 28) 0 0 0 1 (2 * s + 29) := (stL_n l 0 0 0 1 (by omega)).symm
    rw [e, wr_id]] at ap
  rw [show rp A B m p0 0 = p0 from rfl] at ap
  unfold fX8_fillRule
  rw [cv_q st.1.1, show (2 : Int32) = N 2 by simp only [nk], q_start st 2, bnd_some, cv_q st.1.1, N_J hp.1 hp.2, ap, bnd_some]
  exact h
theorem q_ruleL {s : Nat} (hs : s < 40) {A B : Nat → Int} {m : Nat} {p0 : Int} (h1 : 1 ≤ m) (h2 : m ≤ 8) (hm : i 108 11 = m) (hA : ∀ j, j < m → i 118 j = A j ∧ i 119 j = B j ∧ (1 ≤ A j ∧ A j ≤ 1000000) ∧ 0 ≤ B j ∧ B j ≤ 1000000) (g : Nat → Int) : ∀ (e j n : Nat), j + e = 59 → e + 1 ≤ n →
    fX9_rule_57L n 108 (N s) (N ((j + 1 : Nat) : Int)) (hq (w1 i 111 s ((j + 1 : Nat) : Int)) (wr l 113 (sg (rp A B m p0) g (60 * s) (j + 1))) x y) = some (J s, hq (w1 (w1 i 111 s 60) 108 11 0) (wr l 113 (sg (rp A B m p0) g (60 * s) 60)) x y) := by
  intro e
  induction e with
  | zero =>
    intro j n hk hn
    obtain ⟨q, rfl⟩ : ∃ q, n = q + 1 := ⟨n - 1, by omega⟩
    obtain rfl : j = 59 := by omega
    show fX9_rule_57 (fX9_rule_57L q) 108 _ _ _ = _
    unfold fX9_rule_57 fX9_rule_115
    simp only [nk, jk, N_add, N_mul, N_sub, N_neg, J_add, J_mul, J_sub, J_neg]
    simp (disch := omega) only [↓iNlt_t, ↓iNlt_f, ↓iNle_t, ↓iNle_f, ↓iNeq_t, ↓iNeq_f, ↓iJlt_t, ↓iJlt_f, ↓iJle_t, ↓iJle_f, ↓iJeq_t, ↓iJeq_f, ↓iZlt_t, ↓iZlt_f, ↓iZle_t, ↓iZle_f, ↓iZeq_t, ↓iZeq_f, ↓iQlt_t, ↓iQlt_f, ↓iQle_t, ↓iQle_f, ↓iQeq_t, ↓iQeq_f, ↓iAnd_t, ↓iAnd_f, ↓iOr_t, ↓iOr_f, ↓iIff_t, ↓iIff_f, ↓iNot_t, ↓iNot_f, ↓iTrue, ↓iFalse, ↓ckN, ↓ckJ, ↓gIT, ↓gLT, ↓gRT, ↓cvT, ↓pIT, ↓pLT, ↓pZT, ↓asZ, ↓aNT, ↓arL, ↓asL, ↓arI, ↓asI, ↓aR_1, ↓bnd_some, ↓wh_eq, ↓on_some, ↓on_none, asZ, arL, asL, arI, asI, aR_1, bnd_some, wh_eq, on_some, on_none, tnT, tnU, tnL, nk, jk, N_add, N_mul, N_sub, N_neg, J_add, J_mul, J_sub, J_neg, N_J]
    rfl
  | succ e ih =>
    intro j n hk hn
    obtain ⟨q, rfl⟩ : ∃ q, n = q + 1 := ⟨n - 1, by omega⟩
    have ih := ih (j + 1) q (by omega) (by omega)
    have hj := Nat.mod_lt j (show 0 < m by omega)
    obtain ⟨a1, a2, a3, a4⟩ := hA (j % m) hj
    have ap := q_give (i := w1 i 111 s ((j + 1 : Nat) : Int)) (l := wr l 113 (sg (rp A B m p0) g (60 * s) (j + 1))) (x := x) (y := y) hs (k := j + 1) (w1_s _ _ _ _) (by omega) (rp A B m p0 (j + 1))
    rw [w1_w1, w1_sg, rp_s] at ap
    have m1 : ∀ k, w1 i 111 s k 108 11 = m := fun k => by rw [w1_na _ _ _ _ (by omega)]; exact hm
    have d1 := N_divN j m (by omega) (by omega)
    have d2 := N_rem j m (by omega) (by omega)
    have d3 : N (((j + 1 : Nat) : Int) - 1) = N (j : Int) := by congr 1; omega
    have d4 : ¬ (N (m : Int) = N 0) := by rw [N_eq (by omega) (by omega) (by omega) (by omega)]; omega
    have a1' : w1 i 111 s ((j + 1 : Nat) : Int) 118 (j % m) = A (j % m) := by rw [w1_na _ _ _ _ (by omega)]; exact a1
    have a2' : w1 i 111 s ((j + 1 : Nat) : Int) 119 (j % m) = B (j % m) := by rw [w1_na _ _ _ _ (by omega)]; exact a2
    have hd : j / m ≤ j := Nat.div_le_self _ _
    show fX9_rule_57 (fX9_rule_57L q) 108 _ _ _ = _
    unfold fX9_rule_57
    simp only [nk, jk, N_add, N_mul, N_sub, N_neg, J_add, J_mul, J_sub, J_neg]
    rw [if_neg (by rw [N_le (by omega) (by omega) (by omega) (by omega)]; omega)]
    simp only [gIT, m1, d3, ck_t d4, wh_eq]
    rw [d2, d1]
    generalize j % m = jm at *
    generalize j / m = jd at *
    simp (disch := omega) only [↓iNlt_t, ↓iNlt_f, ↓iNle_t, ↓iNle_f, ↓iNeq_t, ↓iNeq_f, ↓iJlt_t, ↓iJlt_f, ↓iJle_t, ↓iJle_f, ↓iJeq_t, ↓iJeq_f, ↓iZlt_t, ↓iZlt_f, ↓iZle_t, ↓iZle_f, ↓iZeq_t, ↓iZeq_f, ↓iQlt_t, ↓iQlt_f, ↓iQle_t, ↓iQle_f, ↓iQeq_t, ↓iQeq_f, ↓iAnd_t, ↓iAnd_f, ↓iOr_t, ↓iOr_f, ↓iIff_t, ↓iIff_f, ↓iNot_t, ↓iNot_f, ↓iTrue, ↓iFalse, ↓ckN, ↓ckJ, ↓gIT, ↓gLT, ↓gRT, ↓cvT, ↓pIT, ↓pLT, ↓pZT, ↓asZ, ↓aNT, ↓arL, ↓asL, ↓arI, ↓asI, ↓aR_1, ↓bnd_some, ↓wh_eq, ↓on_some, ↓on_none, asZ, arL, asL, arI, asI, aR_1, bnd_some, wh_eq, on_some, on_none, tnT, tnU, tnL, nk, jk, N_add, N_mul, N_sub, N_neg, J_add, J_mul, J_sub, J_neg, N_J, a1', a2', ap]
    exact ih
end RUL
