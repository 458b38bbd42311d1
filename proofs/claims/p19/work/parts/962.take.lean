/-! ===== making: TAKE and OUT in the class: made by tk.py ===== -/
theorem ctT : ((0 : Nat) : Int) = 0 ∧ ((1 : Nat) : Int) = 1 ∧ ((2 : Nat) : Int) = 2 ∧ ((3 : Nat) : Int) = 3 ∧ ((4 : Nat) : Int) = 4 ∧ ((5 : Nat) : Int) = 5 ∧ ((6 : Nat) : Int) = 6 ∧ ((7 : Nat) : Int) = 7 ∧ ((8 : Nat) : Int) = 8 := by decide
theorem xrT : N 0 ^^^ N 1 = N 1 ∧ N 1 ^^^ N 1 = N 0 ∧ N 2 ^^^ N 1 = N 3 ∧ N 3 ^^^ N 1 = N 2 ∧ N 4 ^^^ N 1 = N 5 ∧ N 5 ^^^ N 1 = N 4 ∧ N 6 ^^^ N 1 = N 7 ∧ N 7 ^^^ N 1 = N 6 ∧ N 0 ^^^ N 2 = N 2 ∧ N 1 ^^^ N 2 = N 3 ∧ N 2 ^^^ N 2 = N 0 ∧ N 3 ^^^ N 2 = N 1 ∧ N 4 ^^^ N 2 = N 6 ∧ N 5 ^^^ N 2 = N 7 ∧ N 6 ^^^ N 2 = N 4 ∧ N 7 ^^^ N 2 = N 5 := by decide +kernel
def tkX (p : Int) (v : Nat → Int) : Nat → Int := v8 (v 0 * p + v 2) (v 1 * p + v 3) (v 0) (v 1) (v 4 * p + v 6) (v 5 * p + v 7) (v 4) (v 5)
def wkX (p : Int) (v : Nat → Int) : Nat → Int := v8 (pl (tm (v 0) p) (v 2)) (pl (tm (v 1) p) (v 3)) (v 0) (v 1) (pl (tm (v 4) p) (v 6)) (pl (tm (v 5) p) (v 7)) (v 4) (v 5)
def ouX (v : Nat → Int) : Nat → Int := v8 (0) (0) (v 0) (v 1) (0) (0) (v 4) (v 5)
abbrev farX (p : Int) (v : Nat → Int) : Prop := (far (v 0 * p) ∨ far (v 0 * p + v 2)) ∨ (far (v 1 * p) ∨ far (v 1 * p + v 3)) ∨ (far (v 4 * p) ∨ far (v 4 * p + v 6)) ∨ (far (v 5 * p) ∨ far (v 5 * p + v 7))
theorem wkX_f {p : Int} {v : Nat → Int} (hp : ¬ far p) (hv : ∀ j, j < 8 → ¬ far (v j)) : (farX p v → ∃ j, j < 8 ∧ far (wkX p v j)) ∧ (¬ farX p v → ∀ j, j < 8 → wkX p v j = tkX p v j ∧ ¬ far (tkX p v j)) ∧ ∀ j, j < 8 → ok64 (wkX p v j) := by
  have e0 := pltm (hv 0 (by omega)) hp (hv 2 (by omega))
  have e1 := pltm (hv 1 (by omega)) hp (hv 3 (by omega))
  have e4 := pltm (hv 4 (by omega)) hp (hv 6 (by omega))
  have e5 := pltm (hv 5 (by omega)) hp (hv 7 (by omega))
  have g := v8_g (pl (tm (v 0) p) (v 2)) (pl (tm (v 1) p) (v 3)) (v 0) (v 1) (pl (tm (v 4) p) (v 6)) (pl (tm (v 5) p) (v 7)) (v 4) (v 5)
  have t := v8_g (v 0 * p + v 2) (v 1 * p + v 3) (v 0) (v 1) (v 4 * p + v 6) (v 5 * p + v 7) (v 4) (v 5)
  obtain ⟨h0, h1, h2, h3, h4, h5, h6, h7⟩ := all8.mp hv
  refine ⟨?_, fun h => ?_, ?_⟩
  · rintro (z | z | z | z)
    · refine ⟨0, by omega, ?_⟩
      show far (v8 _ _ _ _ _ _ _ _ 0)
      rw [g.1, e0, if_pos z]
      omega
    · refine ⟨1, by omega, ?_⟩
      show far (v8 _ _ _ _ _ _ _ _ 1)
      rw [g.2.1, e1, if_pos z]
      omega
    · refine ⟨4, by omega, ?_⟩
      show far (v8 _ _ _ _ _ _ _ _ 4)
      rw [g.2.2.2.2.1, e4, if_pos z]
      omega
    · refine ⟨5, by omega, ?_⟩
      show far (v8 _ _ _ _ _ _ _ _ 5)
      rw [g.2.2.2.2.2.1, e5, if_pos z]
      omega
  · have n0 : ¬ (far (v 0 * p) ∨ far (v 0 * p + v 2)) := fun z => h (Or.inl z)
    rw [if_neg n0] at e0
    have n1 : ¬ (far (v 1 * p) ∨ far (v 1 * p + v 3)) := fun z => h (Or.inr (Or.inl z))
    rw [if_neg n1] at e1
    have n4 : ¬ (far (v 4 * p) ∨ far (v 4 * p + v 6)) := fun z => h (Or.inr (Or.inr (Or.inl z)))
    rw [if_neg n4] at e4
    have n5 : ¬ (far (v 5 * p) ∨ far (v 5 * p + v 7)) := fun z => h (Or.inr (Or.inr (Or.inr z)))
    rw [if_neg n5] at e5
    rw [all8]
    show (v8 _ _ _ _ _ _ _ _ 0 = v8 _ _ _ _ _ _ _ _ 0 ∧ _) ∧ (v8 _ _ _ _ _ _ _ _ 1 = v8 _ _ _ _ _ _ _ _ 1 ∧ _) ∧ (v8 _ _ _ _ _ _ _ _ 2 = v8 _ _ _ _ _ _ _ _ 2 ∧ _) ∧ (v8 _ _ _ _ _ _ _ _ 3 = v8 _ _ _ _ _ _ _ _ 3 ∧ _) ∧ (v8 _ _ _ _ _ _ _ _ 4 = v8 _ _ _ _ _ _ _ _ 4 ∧ _) ∧ (v8 _ _ _ _ _ _ _ _ 5 = v8 _ _ _ _ _ _ _ _ 5 ∧ _) ∧ (v8 _ _ _ _ _ _ _ _ 6 = v8 _ _ _ _ _ _ _ _ 6 ∧ _) ∧ (v8 _ _ _ _ _ _ _ _ 7 = v8 _ _ _ _ _ _ _ _ 7 ∧ _)
    unfold tkX
    simp only [v8_g, e0, e1, e4, e5, true_and]
    exact ⟨fun z => n0 (Or.inr z), fun z => n1 (Or.inr z), h0, h1, fun z => n4 (Or.inr z), fun z => n5 (Or.inr z), h4, h5⟩
  · rw [all8]
    unfold wkX
    simp only [v8_g]
    exact ⟨pl_ok _ _, pl_ok _ _, by omega, by omega, pl_ok _ _, pl_ok _ _, by omega, by omega⟩
theorem ouX_f {v : Nat → Int} (hv : ∀ j, j < 8 → ¬ far (v j)) : ∀ j, j < 8 → ¬ far (ouX v j) := by
  obtain ⟨h0, h1, h2, h3, h4, h5, h6, h7⟩ := all8.mp hv
  rw [all8]
  unfold ouX
  simp only [v8_g]
  exact ⟨by omega, by omega, h0, h1, by omega, by omega, h4, h5⟩
section TX
variable {ρ : Type} {i l : Nat → Nat → Int} {x y : Option Nat}
theorem q_tkLX {p : Int} {v : Nat → Int} (hp : ¬ far p) (hv : ∀ j, j < 8 → l 15 j = v j ∧ ¬ far (v j)) (hs : i 13 1 = 2) (g : Nat → Int) : ∀ (m k q : Nat), k + m = 8 → m + 1 ≤ q → fX1_takePart_3L q 12 13 (J p) (N k) (hq i (wr l 16 (fl (wkX p v) g k)) x y) = fX1_takePart_82 12 13 (J p) (hq i (wr l 16 (fl (wkX p v) g 8)) x y) := by
  intro m
  induction m with
  | zero =>
    intro k q hk hq'
    obtain ⟨z, rfl⟩ : ∃ z, q = z + 1 := ⟨q - 1, by omega⟩
    obtain rfl : k = 8 := by omega
    show fX1_takePart_3 (fX1_takePart_3L z) 12 13 _ _ _ = _
    unfold fX1_takePart_3
    simp only [nk, jk, N_add, N_mul, N_sub, N_neg, J_add, J_mul, J_sub, J_neg]
    simp (disch := omega) only [↓iNlt_t, ↓iNlt_f, ↓iNle_t, ↓iNle_f, ↓iNeq_t, ↓iNeq_f, ↓iJlt_t, ↓iJlt_f, ↓iJle_t, ↓iJle_f, ↓iJeq_t, ↓iJeq_f, ↓iZlt_t, ↓iZlt_f, ↓iZle_t, ↓iZle_f, ↓iZeq_t, ↓iZeq_f, ↓iQlt_t, ↓iQlt_f, ↓iQle_t, ↓iQle_f, ↓iQeq_t, ↓iQeq_f, ↓iAnd_t, ↓iAnd_f, ↓iOr_t, ↓iOr_f, ↓iIff_t, ↓iIff_f, ↓iNot_t, ↓iNot_f, ↓iTrue, ↓iFalse, ↓ckN, ↓ckJ, ↓gIT, ↓gLT, ↓gRT, ↓cvT, ↓pIT, ↓pLT, ↓pZT, ↓asZ, ↓aNT, ↓arL, ↓asL, ↓arI, ↓asI, ↓aR_1, ↓bnd_some, ↓wh_eq, ↓on_some, ↓on_none, asZ, arL, asL, arI, asI, aR_1, bnd_some, wh_eq, on_some, on_none, tnT, tnU, tnL, nk, jk, N_add, N_mul, N_sub, N_neg, J_add, J_mul, J_sub, J_neg, N_J]
  | succ m ih =>
    intro k q hk hq'
    obtain ⟨z, rfl⟩ : ∃ z, q = z + 1 := ⟨q - 1, by omega⟩
    have ih := ih (k + 1) z (by omega) (by omega)
    have e := w1_fl l 16 k (wkX p v) g
    have e15 : ∀ k' j, j < 8 → wr l 16 (fl (wkX p v) g k') 15 j = v j := fun k' j hj => by rw [wr_n _ _ (by omega)]; exact (hv j hj).1
    have gg := v8_g (pl (tm (v 0) p) (v 2)) (pl (tm (v 1) p) (v 3)) (v 0) (v 1) (pl (tm (v 4) p) (v 6)) (pl (tm (v 5) p) (v 7)) (v 4) (v 5)
    obtain ⟨⟨a0, f0⟩, ⟨a1, f1⟩, ⟨a2, f2⟩, ⟨a3, f3⟩, ⟨a4, f4⟩, ⟨a5, f5⟩, ⟨a6, f6⟩, ⟨a7, f7⟩⟩ := all8.mp hv
    show fX1_takePart_3 (fX1_takePart_3L z) 12 13 _ _ _ = _
    unfold fX1_takePart_3 fX1_takePart_31
    rw [← ih, ← e]
    rcases (by omega : k = 0 ∨ k = 1 ∨ k = 2 ∨ k = 3 ∨ k = 4 ∨ k = 5 ∨ k = 6 ∨ k = 7) with rfl | rfl | rfl | rfl | rfl | rfl | rfl | rfl
    · have ew : wkX p v 0 = pl (tm (v 0) p) (v 2) := gg.1
      rw [ew]
      have ot := tm_ok (v 0) p
      have E1 := e15 0 0 (by omega)
      have E2 := e15 0 2 (by omega)
      simp only [nk, N_add, ctT]
      simp (disch := omega) only [↓iNlt_t, ↓iNlt_f, ↓iNle_t, ↓iNle_f, ↓iNeq_t, ↓iNeq_f, ↓iJlt_t, ↓iJlt_f, ↓iJle_t, ↓iJle_f, ↓iJeq_t, ↓iJeq_f, ↓iZlt_t, ↓iZlt_f, ↓iZle_t, ↓iZle_f, ↓iZeq_t, ↓iZeq_f, ↓iQlt_t, ↓iQlt_f, ↓iQle_t, ↓iQle_f, ↓iQeq_t, ↓iQeq_f, ↓iAnd_t, ↓iAnd_f, ↓iOr_t, ↓iOr_f, ↓iIff_t, ↓iIff_f, ↓iNot_t, ↓iNot_f, ↓iTrue, ↓iFalse, ↓ckN, ↓ckJ, ↓gIT, ↓gLT, ↓gRT, ↓cvT, ↓pIT, ↓pLT, ↓pZT, ↓asZ, ↓aNT, ↓arL, ↓asL, ↓arI, ↓asI, ↓aR_1, ↓bnd_some, ↓wh_eq, ↓on_some, ↓on_none, asZ, arL, asL, arI, asI, aR_1, bnd_some, wh_eq, on_some, on_none, tnT, tnU, tnL, nk, jk, N_add, N_mul, N_sub, N_neg, J_add, J_mul, J_sub, J_neg, N_J, hs, xrT, E1, E2, ↓b_times, ↓b_plus]
      rfl
    · have ew : wkX p v 1 = pl (tm (v 1) p) (v 3) := gg.2.1
      rw [ew]
      have ot := tm_ok (v 1) p
      have E1 := e15 1 1 (by omega)
      have E2 := e15 1 3 (by omega)
      simp only [nk, N_add, ctT]
      simp (disch := omega) only [↓iNlt_t, ↓iNlt_f, ↓iNle_t, ↓iNle_f, ↓iNeq_t, ↓iNeq_f, ↓iJlt_t, ↓iJlt_f, ↓iJle_t, ↓iJle_f, ↓iJeq_t, ↓iJeq_f, ↓iZlt_t, ↓iZlt_f, ↓iZle_t, ↓iZle_f, ↓iZeq_t, ↓iZeq_f, ↓iQlt_t, ↓iQlt_f, ↓iQle_t, ↓iQle_f, ↓iQeq_t, ↓iQeq_f, ↓iAnd_t, ↓iAnd_f, ↓iOr_t, ↓iOr_f, ↓iIff_t, ↓iIff_f, ↓iNot_t, ↓iNot_f, ↓iTrue, ↓iFalse, ↓ckN, ↓ckJ, ↓gIT, ↓gLT, ↓gRT, ↓cvT, ↓pIT, ↓pLT, ↓pZT, ↓asZ, ↓aNT, ↓arL, ↓asL, ↓arI, ↓asI, ↓aR_1, ↓bnd_some, ↓wh_eq, ↓on_some, ↓on_none, asZ, arL, asL, arI, asI, aR_1, bnd_some, wh_eq, on_some, on_none, tnT, tnU, tnL, nk, jk, N_add, N_mul, N_sub, N_neg, J_add, J_mul, J_sub, J_neg, N_J, hs, xrT, E1, E2, ↓b_times, ↓b_plus]
      rfl
    · have ew : wkX p v 2 = v 0 := gg.2.2.1
      rw [ew]
      have E1 := e15 2 0 (by omega)
      have E2 := E1
      simp only [nk, N_add, ctT]
      simp (disch := omega) only [↓iNlt_t, ↓iNlt_f, ↓iNle_t, ↓iNle_f, ↓iNeq_t, ↓iNeq_f, ↓iJlt_t, ↓iJlt_f, ↓iJle_t, ↓iJle_f, ↓iJeq_t, ↓iJeq_f, ↓iZlt_t, ↓iZlt_f, ↓iZle_t, ↓iZle_f, ↓iZeq_t, ↓iZeq_f, ↓iQlt_t, ↓iQlt_f, ↓iQle_t, ↓iQle_f, ↓iQeq_t, ↓iQeq_f, ↓iAnd_t, ↓iAnd_f, ↓iOr_t, ↓iOr_f, ↓iIff_t, ↓iIff_f, ↓iNot_t, ↓iNot_f, ↓iTrue, ↓iFalse, ↓ckN, ↓ckJ, ↓gIT, ↓gLT, ↓gRT, ↓cvT, ↓pIT, ↓pLT, ↓pZT, ↓asZ, ↓aNT, ↓arL, ↓asL, ↓arI, ↓asI, ↓aR_1, ↓bnd_some, ↓wh_eq, ↓on_some, ↓on_none, asZ, arL, asL, arI, asI, aR_1, bnd_some, wh_eq, on_some, on_none, tnT, tnU, tnL, nk, jk, N_add, N_mul, N_sub, N_neg, J_add, J_mul, J_sub, J_neg, N_J, hs, xrT, E1, E2, ↓b_times, ↓b_plus]
      rfl
    · have ew : wkX p v 3 = v 1 := gg.2.2.2.1
      rw [ew]
      have E1 := e15 3 1 (by omega)
      have E2 := E1
      simp only [nk, N_add, ctT]
      simp (disch := omega) only [↓iNlt_t, ↓iNlt_f, ↓iNle_t, ↓iNle_f, ↓iNeq_t, ↓iNeq_f, ↓iJlt_t, ↓iJlt_f, ↓iJle_t, ↓iJle_f, ↓iJeq_t, ↓iJeq_f, ↓iZlt_t, ↓iZlt_f, ↓iZle_t, ↓iZle_f, ↓iZeq_t, ↓iZeq_f, ↓iQlt_t, ↓iQlt_f, ↓iQle_t, ↓iQle_f, ↓iQeq_t, ↓iQeq_f, ↓iAnd_t, ↓iAnd_f, ↓iOr_t, ↓iOr_f, ↓iIff_t, ↓iIff_f, ↓iNot_t, ↓iNot_f, ↓iTrue, ↓iFalse, ↓ckN, ↓ckJ, ↓gIT, ↓gLT, ↓gRT, ↓cvT, ↓pIT, ↓pLT, ↓pZT, ↓asZ, ↓aNT, ↓arL, ↓asL, ↓arI, ↓asI, ↓aR_1, ↓bnd_some, ↓wh_eq, ↓on_some, ↓on_none, asZ, arL, asL, arI, asI, aR_1, bnd_some, wh_eq, on_some, on_none, tnT, tnU, tnL, nk, jk, N_add, N_mul, N_sub, N_neg, J_add, J_mul, J_sub, J_neg, N_J, hs, xrT, E1, E2, ↓b_times, ↓b_plus]
      rfl
    · have ew : wkX p v 4 = pl (tm (v 4) p) (v 6) := gg.2.2.2.2.1
      rw [ew]
      have ot := tm_ok (v 4) p
      have E1 := e15 4 4 (by omega)
      have E2 := e15 4 6 (by omega)
      simp only [nk, N_add, ctT]
      simp (disch := omega) only [↓iNlt_t, ↓iNlt_f, ↓iNle_t, ↓iNle_f, ↓iNeq_t, ↓iNeq_f, ↓iJlt_t, ↓iJlt_f, ↓iJle_t, ↓iJle_f, ↓iJeq_t, ↓iJeq_f, ↓iZlt_t, ↓iZlt_f, ↓iZle_t, ↓iZle_f, ↓iZeq_t, ↓iZeq_f, ↓iQlt_t, ↓iQlt_f, ↓iQle_t, ↓iQle_f, ↓iQeq_t, ↓iQeq_f, ↓iAnd_t, ↓iAnd_f, ↓iOr_t, ↓iOr_f, ↓iIff_t, ↓iIff_f, ↓iNot_t, ↓iNot_f, ↓iTrue, ↓iFalse, ↓ckN, ↓ckJ, ↓gIT, ↓gLT, ↓gRT, ↓cvT, ↓pIT, ↓pLT, ↓pZT, ↓asZ, ↓aNT, ↓arL, ↓asL, ↓arI, ↓asI, ↓aR_1, ↓bnd_some, ↓wh_eq, ↓on_some, ↓on_none, asZ, arL, asL, arI, asI, aR_1, bnd_some, wh_eq, on_some, on_none, tnT, tnU, tnL, nk, jk, N_add, N_mul, N_sub, N_neg, J_add, J_mul, J_sub, J_neg, N_J, hs, xrT, E1, E2, ↓b_times, ↓b_plus]
      rfl
    · have ew : wkX p v 5 = pl (tm (v 5) p) (v 7) := gg.2.2.2.2.2.1
      rw [ew]
      have ot := tm_ok (v 5) p
      have E1 := e15 5 5 (by omega)
      have E2 := e15 5 7 (by omega)
      simp only [nk, N_add, ctT]
      simp (disch := omega) only [↓iNlt_t, ↓iNlt_f, ↓iNle_t, ↓iNle_f, ↓iNeq_t, ↓iNeq_f, ↓iJlt_t, ↓iJlt_f, ↓iJle_t, ↓iJle_f, ↓iJeq_t, ↓iJeq_f, ↓iZlt_t, ↓iZlt_f, ↓iZle_t, ↓iZle_f, ↓iZeq_t, ↓iZeq_f, ↓iQlt_t, ↓iQlt_f, ↓iQle_t, ↓iQle_f, ↓iQeq_t, ↓iQeq_f, ↓iAnd_t, ↓iAnd_f, ↓iOr_t, ↓iOr_f, ↓iIff_t, ↓iIff_f, ↓iNot_t, ↓iNot_f, ↓iTrue, ↓iFalse, ↓ckN, ↓ckJ, ↓gIT, ↓gLT, ↓gRT, ↓cvT, ↓pIT, ↓pLT, ↓pZT, ↓asZ, ↓aNT, ↓arL, ↓asL, ↓arI, ↓asI, ↓aR_1, ↓bnd_some, ↓wh_eq, ↓on_some, ↓on_none, asZ, arL, asL, arI, asI, aR_1, bnd_some, wh_eq, on_some, on_none, tnT, tnU, tnL, nk, jk, N_add, N_mul, N_sub, N_neg, J_add, J_mul, J_sub, J_neg, N_J, hs, xrT, E1, E2, ↓b_times, ↓b_plus]
      rfl
    · have ew : wkX p v 6 = v 4 := gg.2.2.2.2.2.2.1
      rw [ew]
      have E1 := e15 6 4 (by omega)
      have E2 := E1
      simp only [nk, N_add, ctT]
      simp (disch := omega) only [↓iNlt_t, ↓iNlt_f, ↓iNle_t, ↓iNle_f, ↓iNeq_t, ↓iNeq_f, ↓iJlt_t, ↓iJlt_f, ↓iJle_t, ↓iJle_f, ↓iJeq_t, ↓iJeq_f, ↓iZlt_t, ↓iZlt_f, ↓iZle_t, ↓iZle_f, ↓iZeq_t, ↓iZeq_f, ↓iQlt_t, ↓iQlt_f, ↓iQle_t, ↓iQle_f, ↓iQeq_t, ↓iQeq_f, ↓iAnd_t, ↓iAnd_f, ↓iOr_t, ↓iOr_f, ↓iIff_t, ↓iIff_f, ↓iNot_t, ↓iNot_f, ↓iTrue, ↓iFalse, ↓ckN, ↓ckJ, ↓gIT, ↓gLT, ↓gRT, ↓cvT, ↓pIT, ↓pLT, ↓pZT, ↓asZ, ↓aNT, ↓arL, ↓asL, ↓arI, ↓asI, ↓aR_1, ↓bnd_some, ↓wh_eq, ↓on_some, ↓on_none, asZ, arL, asL, arI, asI, aR_1, bnd_some, wh_eq, on_some, on_none, tnT, tnU, tnL, nk, jk, N_add, N_mul, N_sub, N_neg, J_add, J_mul, J_sub, J_neg, N_J, hs, xrT, E1, E2, ↓b_times, ↓b_plus]
      rfl
    · have ew : wkX p v 7 = v 5 := gg.2.2.2.2.2.2.2
      rw [ew]
      have E1 := e15 7 5 (by omega)
      have E2 := E1
      simp only [nk, N_add, ctT]
      simp (disch := omega) only [↓iNlt_t, ↓iNlt_f, ↓iNle_t, ↓iNle_f, ↓iNeq_t, ↓iNeq_f, ↓iJlt_t, ↓iJlt_f, ↓iJle_t, ↓iJle_f, ↓iJeq_t, ↓iJeq_f, ↓iZlt_t, ↓iZlt_f, ↓iZle_t, ↓iZle_f, ↓iZeq_t, ↓iZeq_f, ↓iQlt_t, ↓iQlt_f, ↓iQle_t, ↓iQle_f, ↓iQeq_t, ↓iQeq_f, ↓iAnd_t, ↓iAnd_f, ↓iOr_t, ↓iOr_f, ↓iIff_t, ↓iIff_f, ↓iNot_t, ↓iNot_f, ↓iTrue, ↓iFalse, ↓ckN, ↓ckJ, ↓gIT, ↓gLT, ↓gRT, ↓cvT, ↓pIT, ↓pLT, ↓pZT, ↓asZ, ↓aNT, ↓arL, ↓asL, ↓arI, ↓asI, ↓aR_1, ↓bnd_some, ↓wh_eq, ↓on_some, ↓on_none, asZ, arL, asL, arI, asI, aR_1, bnd_some, wh_eq, on_some, on_none, tnT, tnU, tnL, nk, jk, N_add, N_mul, N_sub, N_neg, J_add, J_mul, J_sub, J_neg, N_J, hs, xrT, E1, E2, ↓b_times, ↓b_plus]
      rfl
end TX
def tkY (p : Int) (v : Nat → Int) : Nat → Int := v8 (v 0 * p + v 1) (v 0) (v 2 * p + v 3) (v 2) (v 4 * p + v 5) (v 4) (v 6 * p + v 7) (v 6)
def wkY (p : Int) (v : Nat → Int) : Nat → Int := v8 (pl (tm (v 0) p) (v 1)) (v 0) (pl (tm (v 2) p) (v 3)) (v 2) (pl (tm (v 4) p) (v 5)) (v 4) (pl (tm (v 6) p) (v 7)) (v 6)
def ouY (v : Nat → Int) : Nat → Int := v8 (0) (v 0) (0) (v 2) (0) (v 4) (0) (v 6)
abbrev farY (p : Int) (v : Nat → Int) : Prop := (far (v 0 * p) ∨ far (v 0 * p + v 1)) ∨ (far (v 2 * p) ∨ far (v 2 * p + v 3)) ∨ (far (v 4 * p) ∨ far (v 4 * p + v 5)) ∨ (far (v 6 * p) ∨ far (v 6 * p + v 7))
theorem wkY_f {p : Int} {v : Nat → Int} (hp : ¬ far p) (hv : ∀ j, j < 8 → ¬ far (v j)) : (farY p v → ∃ j, j < 8 ∧ far (wkY p v j)) ∧ (¬ farY p v → ∀ j, j < 8 → wkY p v j = tkY p v j ∧ ¬ far (tkY p v j)) ∧ ∀ j, j < 8 → ok64 (wkY p v j) := by
  have e0 := pltm (hv 0 (by omega)) hp (hv 1 (by omega))
  have e2 := pltm (hv 2 (by omega)) hp (hv 3 (by omega))
  have e4 := pltm (hv 4 (by omega)) hp (hv 5 (by omega))
  have e6 := pltm (hv 6 (by omega)) hp (hv 7 (by omega))
  have g := v8_g (pl (tm (v 0) p) (v 1)) (v 0) (pl (tm (v 2) p) (v 3)) (v 2) (pl (tm (v 4) p) (v 5)) (v 4) (pl (tm (v 6) p) (v 7)) (v 6)
  have t := v8_g (v 0 * p + v 1) (v 0) (v 2 * p + v 3) (v 2) (v 4 * p + v 5) (v 4) (v 6 * p + v 7) (v 6)
  obtain ⟨h0, h1, h2, h3, h4, h5, h6, h7⟩ := all8.mp hv
  refine ⟨?_, fun h => ?_, ?_⟩
  · rintro (z | z | z | z)
    · refine ⟨0, by omega, ?_⟩
      show far (v8 _ _ _ _ _ _ _ _ 0)
      rw [g.1, e0, if_pos z]
      omega
    · refine ⟨2, by omega, ?_⟩
      show far (v8 _ _ _ _ _ _ _ _ 2)
      rw [g.2.2.1, e2, if_pos z]
      omega
    · refine ⟨4, by omega, ?_⟩
      show far (v8 _ _ _ _ _ _ _ _ 4)
      rw [g.2.2.2.2.1, e4, if_pos z]
      omega
    · refine ⟨6, by omega, ?_⟩
      show far (v8 _ _ _ _ _ _ _ _ 6)
      rw [g.2.2.2.2.2.2.1, e6, if_pos z]
      omega
  · have n0 : ¬ (far (v 0 * p) ∨ far (v 0 * p + v 1)) := fun z => h (Or.inl z)
    rw [if_neg n0] at e0
    have n2 : ¬ (far (v 2 * p) ∨ far (v 2 * p + v 3)) := fun z => h (Or.inr (Or.inl z))
    rw [if_neg n2] at e2
    have n4 : ¬ (far (v 4 * p) ∨ far (v 4 * p + v 5)) := fun z => h (Or.inr (Or.inr (Or.inl z)))
    rw [if_neg n4] at e4
    have n6 : ¬ (far (v 6 * p) ∨ far (v 6 * p + v 7)) := fun z => h (Or.inr (Or.inr (Or.inr z)))
    rw [if_neg n6] at e6
    rw [all8]
    show (v8 _ _ _ _ _ _ _ _ 0 = v8 _ _ _ _ _ _ _ _ 0 ∧ _) ∧ (v8 _ _ _ _ _ _ _ _ 1 = v8 _ _ _ _ _ _ _ _ 1 ∧ _) ∧ (v8 _ _ _ _ _ _ _ _ 2 = v8 _ _ _ _ _ _ _ _ 2 ∧ _) ∧ (v8 _ _ _ _ _ _ _ _ 3 = v8 _ _ _ _ _ _ _ _ 3 ∧ _) ∧ (v8 _ _ _ _ _ _ _ _ 4 = v8 _ _ _ _ _ _ _ _ 4 ∧ _) ∧ (v8 _ _ _ _ _ _ _ _ 5 = v8 _ _ _ _ _ _ _ _ 5 ∧ _) ∧ (v8 _ _ _ _ _ _ _ _ 6 = v8 _ _ _ _ _ _ _ _ 6 ∧ _) ∧ (v8 _ _ _ _ _ _ _ _ 7 = v8 _ _ _ _ _ _ _ _ 7 ∧ _)
    unfold tkY
    simp only [v8_g, e0, e2, e4, e6, true_and]
    exact ⟨fun z => n0 (Or.inr z), h0, fun z => n2 (Or.inr z), h2, fun z => n4 (Or.inr z), h4, fun z => n6 (Or.inr z), h6⟩
  · rw [all8]
    unfold wkY
    simp only [v8_g]
    exact ⟨pl_ok _ _, by omega, pl_ok _ _, by omega, pl_ok _ _, by omega, pl_ok _ _, by omega⟩
theorem ouY_f {v : Nat → Int} (hv : ∀ j, j < 8 → ¬ far (v j)) : ∀ j, j < 8 → ¬ far (ouY v j) := by
  obtain ⟨h0, h1, h2, h3, h4, h5, h6, h7⟩ := all8.mp hv
  rw [all8]
  unfold ouY
  simp only [v8_g]
  exact ⟨by omega, h0, by omega, h2, by omega, h4, by omega, h6⟩
section TY
variable {ρ : Type} {i l : Nat → Nat → Int} {x y : Option Nat}
theorem q_tkLY {p : Int} {v : Nat → Int} (hp : ¬ far p) (hv : ∀ j, j < 8 → l 15 j = v j ∧ ¬ far (v j)) (hs : i 14 1 = 1) (g : Nat → Int) : ∀ (m k q : Nat), k + m = 8 → m + 1 ≤ q → fX1_takePart_3L q 12 14 (J p) (N k) (hq i (wr l 16 (fl (wkY p v) g k)) x y) = fX1_takePart_82 12 14 (J p) (hq i (wr l 16 (fl (wkY p v) g 8)) x y) := by
  intro m
  induction m with
  | zero =>
    intro k q hk hq'
    obtain ⟨z, rfl⟩ : ∃ z, q = z + 1 := ⟨q - 1, by omega⟩
    obtain rfl : k = 8 := by omega
    show fX1_takePart_3 (fX1_takePart_3L z) 12 14 _ _ _ = _
    unfold fX1_takePart_3
    simp only [nk, jk, N_add, N_mul, N_sub, N_neg, J_add, J_mul, J_sub, J_neg]
    simp (disch := omega) only [↓iNlt_t, ↓iNlt_f, ↓iNle_t, ↓iNle_f, ↓iNeq_t, ↓iNeq_f, ↓iJlt_t, ↓iJlt_f, ↓iJle_t, ↓iJle_f, ↓iJeq_t, ↓iJeq_f, ↓iZlt_t, ↓iZlt_f, ↓iZle_t, ↓iZle_f, ↓iZeq_t, ↓iZeq_f, ↓iQlt_t, ↓iQlt_f, ↓iQle_t, ↓iQle_f, ↓iQeq_t, ↓iQeq_f, ↓iAnd_t, ↓iAnd_f, ↓iOr_t, ↓iOr_f, ↓iIff_t, ↓iIff_f, ↓iNot_t, ↓iNot_f, ↓iTrue, ↓iFalse, ↓ckN, ↓ckJ, ↓gIT, ↓gLT, ↓gRT, ↓cvT, ↓pIT, ↓pLT, ↓pZT, ↓asZ, ↓aNT, ↓arL, ↓asL, ↓arI, ↓asI, ↓aR_1, ↓bnd_some, ↓wh_eq, ↓on_some, ↓on_none, asZ, arL, asL, arI, asI, aR_1, bnd_some, wh_eq, on_some, on_none, tnT, tnU, tnL, nk, jk, N_add, N_mul, N_sub, N_neg, J_add, J_mul, J_sub, J_neg, N_J]
  | succ m ih =>
    intro k q hk hq'
    obtain ⟨z, rfl⟩ : ∃ z, q = z + 1 := ⟨q - 1, by omega⟩
    have ih := ih (k + 1) z (by omega) (by omega)
    have e := w1_fl l 16 k (wkY p v) g
    have e15 : ∀ k' j, j < 8 → wr l 16 (fl (wkY p v) g k') 15 j = v j := fun k' j hj => by rw [wr_n _ _ (by omega)]; exact (hv j hj).1
    have gg := v8_g (pl (tm (v 0) p) (v 1)) (v 0) (pl (tm (v 2) p) (v 3)) (v 2) (pl (tm (v 4) p) (v 5)) (v 4) (pl (tm (v 6) p) (v 7)) (v 6)
    obtain ⟨⟨a0, f0⟩, ⟨a1, f1⟩, ⟨a2, f2⟩, ⟨a3, f3⟩, ⟨a4, f4⟩, ⟨a5, f5⟩, ⟨a6, f6⟩, ⟨a7, f7⟩⟩ := all8.mp hv
    show fX1_takePart_3 (fX1_takePart_3L z) 12 14 _ _ _ = _
    unfold fX1_takePart_3 fX1_takePart_31
    rw [← ih, ← e]
    rcases (by omega : k = 0 ∨ k = 1 ∨ k = 2 ∨ k = 3 ∨ k = 4 ∨ k = 5 ∨ k = 6 ∨ k = 7) with rfl | rfl | rfl | rfl | rfl | rfl | rfl | rfl
    · have ew : wkY p v 0 = pl (tm (v 0) p) (v 1) := gg.1
      rw [ew]
      have ot := tm_ok (v 0) p
      have E1 := e15 0 0 (by omega)
      have E2 := e15 0 1 (by omega)
      simp only [nk, N_add, ctT]
      simp (disch := omega) only [↓iNlt_t, ↓iNlt_f, ↓iNle_t, ↓iNle_f, ↓iNeq_t, ↓iNeq_f, ↓iJlt_t, ↓iJlt_f, ↓iJle_t, ↓iJle_f, ↓iJeq_t, ↓iJeq_f, ↓iZlt_t, ↓iZlt_f, ↓iZle_t, ↓iZle_f, ↓iZeq_t, ↓iZeq_f, ↓iQlt_t, ↓iQlt_f, ↓iQle_t, ↓iQle_f, ↓iQeq_t, ↓iQeq_f, ↓iAnd_t, ↓iAnd_f, ↓iOr_t, ↓iOr_f, ↓iIff_t, ↓iIff_f, ↓iNot_t, ↓iNot_f, ↓iTrue, ↓iFalse, ↓ckN, ↓ckJ, ↓gIT, ↓gLT, ↓gRT, ↓cvT, ↓pIT, ↓pLT, ↓pZT, ↓asZ, ↓aNT, ↓arL, ↓asL, ↓arI, ↓asI, ↓aR_1, ↓bnd_some, ↓wh_eq, ↓on_some, ↓on_none, asZ, arL, asL, arI, asI, aR_1, bnd_some, wh_eq, on_some, on_none, tnT, tnU, tnL, nk, jk, N_add, N_mul, N_sub, N_neg, J_add, J_mul, J_sub, J_neg, N_J, hs, xrT, E1, E2, ↓b_times, ↓b_plus]
      rfl
    · have ew : wkY p v 1 = v 0 := gg.2.1
      rw [ew]
      have E1 := e15 1 0 (by omega)
      have E2 := E1
      simp only [nk, N_add, ctT]
      simp (disch := omega) only [↓iNlt_t, ↓iNlt_f, ↓iNle_t, ↓iNle_f, ↓iNeq_t, ↓iNeq_f, ↓iJlt_t, ↓iJlt_f, ↓iJle_t, ↓iJle_f, ↓iJeq_t, ↓iJeq_f, ↓iZlt_t, ↓iZlt_f, ↓iZle_t, ↓iZle_f, ↓iZeq_t, ↓iZeq_f, ↓iQlt_t, ↓iQlt_f, ↓iQle_t, ↓iQle_f, ↓iQeq_t, ↓iQeq_f, ↓iAnd_t, ↓iAnd_f, ↓iOr_t, ↓iOr_f, ↓iIff_t, ↓iIff_f, ↓iNot_t, ↓iNot_f, ↓iTrue, ↓iFalse, ↓ckN, ↓ckJ, ↓gIT, ↓gLT, ↓gRT, ↓cvT, ↓pIT, ↓pLT, ↓pZT, ↓asZ, ↓aNT, ↓arL, ↓asL, ↓arI, ↓asI, ↓aR_1, ↓bnd_some, ↓wh_eq, ↓on_some, ↓on_none, asZ, arL, asL, arI, asI, aR_1, bnd_some, wh_eq, on_some, on_none, tnT, tnU, tnL, nk, jk, N_add, N_mul, N_sub, N_neg, J_add, J_mul, J_sub, J_neg, N_J, hs, xrT, E1, E2, ↓b_times, ↓b_plus]
      rfl
    · have ew : wkY p v 2 = pl (tm (v 2) p) (v 3) := gg.2.2.1
      rw [ew]
      have ot := tm_ok (v 2) p
      have E1 := e15 2 2 (by omega)
      have E2 := e15 2 3 (by omega)
      simp only [nk, N_add, ctT]
      simp (disch := omega) only [↓iNlt_t, ↓iNlt_f, ↓iNle_t, ↓iNle_f, ↓iNeq_t, ↓iNeq_f, ↓iJlt_t, ↓iJlt_f, ↓iJle_t, ↓iJle_f, ↓iJeq_t, ↓iJeq_f, ↓iZlt_t, ↓iZlt_f, ↓iZle_t, ↓iZle_f, ↓iZeq_t, ↓iZeq_f, ↓iQlt_t, ↓iQlt_f, ↓iQle_t, ↓iQle_f, ↓iQeq_t, ↓iQeq_f, ↓iAnd_t, ↓iAnd_f, ↓iOr_t, ↓iOr_f, ↓iIff_t, ↓iIff_f, ↓iNot_t, ↓iNot_f, ↓iTrue, ↓iFalse, ↓ckN, ↓ckJ, ↓gIT, ↓gLT, ↓gRT, ↓cvT, ↓pIT, ↓pLT, ↓pZT, ↓asZ, ↓aNT, ↓arL, ↓asL, ↓arI, ↓asI, ↓aR_1, ↓bnd_some, ↓wh_eq, ↓on_some, ↓on_none, asZ, arL, asL, arI, asI, aR_1, bnd_some, wh_eq, on_some, on_none, tnT, tnU, tnL, nk, jk, N_add, N_mul, N_sub, N_neg, J_add, J_mul, J_sub, J_neg, N_J, hs, xrT, E1, E2, ↓b_times, ↓b_plus]
      rfl
    · have ew : wkY p v 3 = v 2 := gg.2.2.2.1
      rw [ew]
      have E1 := e15 3 2 (by omega)
      have E2 := E1
      simp only [nk, N_add, ctT]
      simp (disch := omega) only [↓iNlt_t, ↓iNlt_f, ↓iNle_t, ↓iNle_f, ↓iNeq_t, ↓iNeq_f, ↓iJlt_t, ↓iJlt_f, ↓iJle_t, ↓iJle_f, ↓iJeq_t, ↓iJeq_f, ↓iZlt_t, ↓iZlt_f, ↓iZle_t, ↓iZle_f, ↓iZeq_t, ↓iZeq_f, ↓iQlt_t, ↓iQlt_f, ↓iQle_t, ↓iQle_f, ↓iQeq_t, ↓iQeq_f, ↓iAnd_t, ↓iAnd_f, ↓iOr_t, ↓iOr_f, ↓iIff_t, ↓iIff_f, ↓iNot_t, ↓iNot_f, ↓iTrue, ↓iFalse, ↓ckN, ↓ckJ, ↓gIT, ↓gLT, ↓gRT, ↓cvT, ↓pIT, ↓pLT, ↓pZT, ↓asZ, ↓aNT, ↓arL, ↓asL, ↓arI, ↓asI, ↓aR_1, ↓bnd_some, ↓wh_eq, ↓on_some, ↓on_none, asZ, arL, asL, arI, asI, aR_1, bnd_some, wh_eq, on_some, on_none, tnT, tnU, tnL, nk, jk, N_add, N_mul, N_sub, N_neg, J_add, J_mul, J_sub, J_neg, N_J, hs, xrT, E1, E2, ↓b_times, ↓b_plus]
      rfl
    · have ew : wkY p v 4 = pl (tm (v 4) p) (v 5) := gg.2.2.2.2.1
      rw [ew]
      have ot := tm_ok (v 4) p
      have E1 := e15 4 4 (by omega)
      have E2 := e15 4 5 (by omega)
      simp only [nk, N_add, ctT]
      simp (disch := omega) only [↓iNlt_t, ↓iNlt_f, ↓iNle_t, ↓iNle_f, ↓iNeq_t, ↓iNeq_f, ↓iJlt_t, ↓iJlt_f, ↓iJle_t, ↓iJle_f, ↓iJeq_t, ↓iJeq_f, ↓iZlt_t, ↓iZlt_f, ↓iZle_t, ↓iZle_f, ↓iZeq_t, ↓iZeq_f, ↓iQlt_t, ↓iQlt_f, ↓iQle_t, ↓iQle_f, ↓iQeq_t, ↓iQeq_f, ↓iAnd_t, ↓iAnd_f, ↓iOr_t, ↓iOr_f, ↓iIff_t, ↓iIff_f, ↓iNot_t, ↓iNot_f, ↓iTrue, ↓iFalse, ↓ckN, ↓ckJ, ↓gIT, ↓gLT, ↓gRT, ↓cvT, ↓pIT, ↓pLT, ↓pZT, ↓asZ, ↓aNT, ↓arL, ↓asL, ↓arI, ↓asI, ↓aR_1, ↓bnd_some, ↓wh_eq, ↓on_some, ↓on_none, asZ, arL, asL, arI, asI, aR_1, bnd_some, wh_eq, on_some, on_none, tnT, tnU, tnL, nk, jk, N_add, N_mul, N_sub, N_neg, J_add, J_mul, J_sub, J_neg, N_J, hs, xrT, E1, E2, ↓b_times, ↓b_plus]
      rfl
    · have ew : wkY p v 5 = v 4 := gg.2.2.2.2.2.1
      rw [ew]
      have E1 := e15 5 4 (by omega)
      have E2 := E1
      simp only [nk, N_add, ctT]
      simp (disch := omega) only [↓iNlt_t, ↓iNlt_f, ↓iNle_t, ↓iNle_f, ↓iNeq_t, ↓iNeq_f, ↓iJlt_t, ↓iJlt_f, ↓iJle_t, ↓iJle_f, ↓iJeq_t, ↓iJeq_f, ↓iZlt_t, ↓iZlt_f, ↓iZle_t, ↓iZle_f, ↓iZeq_t, ↓iZeq_f, ↓iQlt_t, ↓iQlt_f, ↓iQle_t, ↓iQle_f, ↓iQeq_t, ↓iQeq_f, ↓iAnd_t, ↓iAnd_f, ↓iOr_t, ↓iOr_f, ↓iIff_t, ↓iIff_f, ↓iNot_t, ↓iNot_f, ↓iTrue, ↓iFalse, ↓ckN, ↓ckJ, ↓gIT, ↓gLT, ↓gRT, ↓cvT, ↓pIT, ↓pLT, ↓pZT, ↓asZ, ↓aNT, ↓arL, ↓asL, ↓arI, ↓asI, ↓aR_1, ↓bnd_some, ↓wh_eq, ↓on_some, ↓on_none, asZ, arL, asL, arI, asI, aR_1, bnd_some, wh_eq, on_some, on_none, tnT, tnU, tnL, nk, jk, N_add, N_mul, N_sub, N_neg, J_add, J_mul, J_sub, J_neg, N_J, hs, xrT, E1, E2, ↓b_times, ↓b_plus]
      rfl
    · have ew : wkY p v 6 = pl (tm (v 6) p) (v 7) := gg.2.2.2.2.2.2.1
      rw [ew]
      have ot := tm_ok (v 6) p
      have E1 := e15 6 6 (by omega)
      have E2 := e15 6 7 (by omega)
      simp only [nk, N_add, ctT]
      simp (disch := omega) only [↓iNlt_t, ↓iNlt_f, ↓iNle_t, ↓iNle_f, ↓iNeq_t, ↓iNeq_f, ↓iJlt_t, ↓iJlt_f, ↓iJle_t, ↓iJle_f, ↓iJeq_t, ↓iJeq_f, ↓iZlt_t, ↓iZlt_f, ↓iZle_t, ↓iZle_f, ↓iZeq_t, ↓iZeq_f, ↓iQlt_t, ↓iQlt_f, ↓iQle_t, ↓iQle_f, ↓iQeq_t, ↓iQeq_f, ↓iAnd_t, ↓iAnd_f, ↓iOr_t, ↓iOr_f, ↓iIff_t, ↓iIff_f, ↓iNot_t, ↓iNot_f, ↓iTrue, ↓iFalse, ↓ckN, ↓ckJ, ↓gIT, ↓gLT, ↓gRT, ↓cvT, ↓pIT, ↓pLT, ↓pZT, ↓asZ, ↓aNT, ↓arL, ↓asL, ↓arI, ↓asI, ↓aR_1, ↓bnd_some, ↓wh_eq, ↓on_some, ↓on_none, asZ, arL, asL, arI, asI, aR_1, bnd_some, wh_eq, on_some, on_none, tnT, tnU, tnL, nk, jk, N_add, N_mul, N_sub, N_neg, J_add, J_mul, J_sub, J_neg, N_J, hs, xrT, E1, E2, ↓b_times, ↓b_plus]
      rfl
    · have ew : wkY p v 7 = v 6 := gg.2.2.2.2.2.2.2
      rw [ew]
      have E1 := e15 7 6 (by omega)
      have E2 := E1
      simp only [nk, N_add, ctT]
      simp (disch := omega) only [↓iNlt_t, ↓iNlt_f, ↓iNle_t, ↓iNle_f, ↓iNeq_t, ↓iNeq_f, ↓iJlt_t, ↓iJlt_f, ↓iJle_t, ↓iJle_f, ↓iJeq_t, ↓iJeq_f, ↓iZlt_t, ↓iZlt_f, ↓iZle_t, ↓iZle_f, ↓iZeq_t, ↓iZeq_f, ↓iQlt_t, ↓iQlt_f, ↓iQle_t, ↓iQle_f, ↓iQeq_t, ↓iQeq_f, ↓iAnd_t, ↓iAnd_f, ↓iOr_t, ↓iOr_f, ↓iIff_t, ↓iIff_f, ↓iNot_t, ↓iNot_f, ↓iTrue, ↓iFalse, ↓ckN, ↓ckJ, ↓gIT, ↓gLT, ↓gRT, ↓cvT, ↓pIT, ↓pLT, ↓pZT, ↓asZ, ↓aNT, ↓arL, ↓asL, ↓arI, ↓asI, ↓aR_1, ↓bnd_some, ↓wh_eq, ↓on_some, ↓on_none, asZ, arL, asL, arI, asI, aR_1, bnd_some, wh_eq, on_some, on_none, tnT, tnU, tnL, nk, jk, N_add, N_mul, N_sub, N_neg, J_add, J_mul, J_sub, J_neg, N_J, hs, xrT, E1, E2, ↓b_times, ↓b_plus]
      rfl
end TY
