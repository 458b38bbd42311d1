/-! ===== NEAR numbers, in both ===== -/
theorem pltm {p s r : Int} (hp : ¬ far p) (hs : ¬ far s) (hr : ¬ far r) : pl (tm p s) r = if far (p * s) ∨ far (p * s + r) then 4000000000000000000 else p * s + r := by
  unfold pl tm
  by_cases c1 : far (p * s)
  · rw [if_pos (show far p ∨ far s ∨ far (p * s) from Or.inr (Or.inr c1)), if_pos (show far (p * s) ∨ far (p * s + r) from Or.inl c1), if_pos (by omega)]
  · rw [if_neg (show ¬ (far p ∨ far s ∨ far (p * s)) by rintro (z | z | z) <;> contradiction)]
    by_cases c2 : far (p * s + r)
    · rw [if_pos (Or.inr (Or.inr c2)), if_pos (Or.inr c2)]
    · rw [if_neg (by rintro (z | z | z) <;> contradiction), if_neg (by rintro (z | z) <;> contradiction)]
/-- the class's rows of NEAR numbers, filled up to k -/
def neL (l : Nat → Nat → Int) (p : Nat → Int) (k : Nat) : Nat → Nat → Int := wr (wr l 21 (fl (fun j => (ne p (j + 1)).1.1) (l 21) k)) 22 (fl (fun j => (ne p (j + 1)).1.2) (l 22) k)
theorem neL_0 (l : Nat → Nat → Int) (p : Nat → Int) : neL l p 0 = l := by
  unfold neL
  rw [fl_0, fl_0, wr_id, wr_id]
theorem neL_s (l : Nat → Nat → Int) (p : Nat → Int) (k : Nat) : w1 (w1 (neL l p k) 21 k (ne p (k + 1)).1.1) 22 k (ne p (k + 1)).1.2 = neL l p (k + 1) := by
  unfold neL
  rw [w1_wr_n _ _ _ _ (by decide : 21 ≠ 22), w1_fl _ 21 k (fun j => (ne p (j + 1)).1.1), w1_fl _ 22 k (fun j => (ne p (j + 1)).1.2)]
theorem neL_n (l : Nat → Nat → Int) (p : Nat → Int) (k : Nat) {b : Nat} (h1 : b ≠ 21) (h2 : b ≠ 22) : neL l p k b = l b := by
  unfold neL
  rw [wr_n _ _ h2, wr_n _ _ h1]
theorem neL_21 (l : Nat → Nat → Int) (p : Nat → Int) {k j : Nat} (h : j < k) : neL l p k 21 j = (ne p (j + 1)).1.1 := by
  unfold neL
  rw [wr_n _ _ (by decide), wr_s, fl, if_pos h]
theorem neL_22 (l : Nat → Nat → Int) (p : Nat → Int) {k j : Nat} (h : j < k) : neL l p k 22 j = (ne p (j + 1)).1.2 := by
  unfold neL
  rw [wr_s, fl, if_pos h]
section NE
variable {ρ : Type} {i l : Nat → Nat → Int} {x y : Option Nat}
theorem q_upper {p : Nat → Int} {k j : Nat} (hk : k ≤ 60) (hj : j < k) : fX2_upperAt 20 (N j) (hq i (neL l p k) x y) = some (J (ne p (j + 1)).1.1, hq i (neL l p k) x y) := by
  unfold fX2_upperAt
  simp only [nk, jk, N_add, N_mul, N_sub, N_neg, J_add, J_mul, J_sub, J_neg]
  simp (disch := omega) only [↓iNlt_t, ↓iNlt_f, ↓iNle_t, ↓iNle_f, ↓iNeq_t, ↓iNeq_f, ↓iJlt_t, ↓iJlt_f, ↓iJle_t, ↓iJle_f, ↓iJeq_t, ↓iJeq_f, ↓iZlt_t, ↓iZlt_f, ↓iZle_t, ↓iZle_f, ↓iZeq_t, ↓iZeq_f, ↓iQlt_t, ↓iQlt_f, ↓iQle_t, ↓iQle_f, ↓iQeq_t, ↓iQeq_f, ↓iAnd_t, ↓iAnd_f, ↓iOr_t, ↓iOr_f, ↓iIff_t, ↓iIff_f, ↓iNot_t, ↓iNot_f, ↓iTrue, ↓iFalse, ↓ckN, ↓ckJ, ↓gIT, ↓gLT, ↓gRT, ↓cvT, ↓pIT, ↓pLT, ↓pZT, ↓asZ, ↓aNT, ↓arL, ↓asL, ↓arI, ↓asI, ↓aR_1, ↓bnd_some, ↓wh_eq, ↓on_some, ↓on_none, asZ, arL, asL, arI, asI, aR_1, bnd_some, wh_eq, on_some, on_none, tnT, tnU, tnL, nk, jk, N_add, N_mul, N_sub, N_neg, J_add, J_mul, J_sub, J_neg, N_J, neL_21 l p hj]
theorem q_lower {p : Nat → Int} {k j : Nat} (hk : k ≤ 60) (hj : j < k) : fX2_lowerAt 20 (N j) (hq i (neL l p k) x y) = some (J (ne p (j + 1)).1.2, hq i (neL l p k) x y) := by
  unfold fX2_lowerAt
  simp only [nk, jk, N_add, N_mul, N_sub, N_neg, J_add, J_mul, J_sub, J_neg]
  simp (disch := omega) only [↓iNlt_t, ↓iNlt_f, ↓iNle_t, ↓iNle_f, ↓iNeq_t, ↓iNeq_f, ↓iJlt_t, ↓iJlt_f, ↓iJle_t, ↓iJle_f, ↓iJeq_t, ↓iJeq_f, ↓iZlt_t, ↓iZlt_f, ↓iZle_t, ↓iZle_f, ↓iZeq_t, ↓iZeq_f, ↓iQlt_t, ↓iQlt_f, ↓iQle_t, ↓iQle_f, ↓iQeq_t, ↓iQeq_f, ↓iAnd_t, ↓iAnd_f, ↓iOr_t, ↓iOr_f, ↓iIff_t, ↓iIff_f, ↓iNot_t, ↓iNot_f, ↓iTrue, ↓iFalse, ↓ckN, ↓ckJ, ↓gIT, ↓gLT, ↓gRT, ↓cvT, ↓pIT, ↓pLT, ↓pZT, ↓asZ, ↓aNT, ↓arL, ↓asL, ↓arI, ↓asI, ↓aR_1, ↓bnd_some, ↓wh_eq, ↓on_some, ↓on_none, asZ, arL, asL, arI, asI, aR_1, bnd_some, wh_eq, on_some, on_none, tnT, tnU, tnL, nk, jk, N_add, N_mul, N_sub, N_neg, J_add, J_mul, J_sub, J_neg, N_J, neL_22 l p hj]
/-- one and two ahead of k -/
theorem q_up1 {p : Nat → Int} {k q : Nat} (hq60 : q ≤ 60) (hk : k ≤ q) : fX2_upperAt 20 (N ((k : Int) - 1)) (hq i (neL l p q) x y) = some (J (ne p k).1.1, hq i (neL l p q) x y) ∧ fX2_upperAt 20 (N ((k : Int) - 2)) (hq i (neL l p q) x y) = some (J (ne p k).2.1, hq i (neL l p q) x y) := by
  constructor
  · by_cases c : k = 0
    · subst c
      unfold fX2_upperAt ne
      simp only [nk, jk, N_add, N_mul, N_sub, N_neg, J_add, J_mul, J_sub, J_neg]
      simp (disch := omega) only [↓iNlt_t, ↓iNlt_f, ↓iNle_t, ↓iNle_f, ↓iNeq_t, ↓iNeq_f, ↓iJlt_t, ↓iJlt_f, ↓iJle_t, ↓iJle_f, ↓iJeq_t, ↓iJeq_f, ↓iZlt_t, ↓iZlt_f, ↓iZle_t, ↓iZle_f, ↓iZeq_t, ↓iZeq_f, ↓iQlt_t, ↓iQlt_f, ↓iQle_t, ↓iQle_f, ↓iQeq_t, ↓iQeq_f, ↓iAnd_t, ↓iAnd_f, ↓iOr_t, ↓iOr_f, ↓iIff_t, ↓iIff_f, ↓iNot_t, ↓iNot_f, ↓iTrue, ↓iFalse, ↓ckN, ↓ckJ, ↓gIT, ↓gLT, ↓gRT, ↓cvT, ↓pIT, ↓pLT, ↓pZT, ↓asZ, ↓aNT, ↓arL, ↓asL, ↓arI, ↓asI, ↓aR_1, ↓bnd_some, ↓wh_eq, ↓on_some, ↓on_none, asZ, arL, asL, arI, asI, aR_1, bnd_some, wh_eq, on_some, on_none, tnT, tnU, tnL, nk, jk, N_add, N_mul, N_sub, N_neg, J_add, J_mul, J_sub, J_neg, N_J]
    · obtain ⟨j, rfl⟩ : ∃ j, k = j + 1 := ⟨k - 1, by omega⟩
      rw [show (((j + 1 : Nat) : Int) - 1) = (j : Int) by omega]
      exact q_upper hq60 (by omega)
  · by_cases c : k = 0
    · subst c
      unfold fX2_upperAt ne
      simp only [nk, jk, N_add, N_mul, N_sub, N_neg, J_add, J_mul, J_sub, J_neg]
      simp (disch := omega) only [↓iNlt_t, ↓iNlt_f, ↓iNle_t, ↓iNle_f, ↓iNeq_t, ↓iNeq_f, ↓iJlt_t, ↓iJlt_f, ↓iJle_t, ↓iJle_f, ↓iJeq_t, ↓iJeq_f, ↓iZlt_t, ↓iZlt_f, ↓iZle_t, ↓iZle_f, ↓iZeq_t, ↓iZeq_f, ↓iQlt_t, ↓iQlt_f, ↓iQle_t, ↓iQle_f, ↓iQeq_t, ↓iQeq_f, ↓iAnd_t, ↓iAnd_f, ↓iOr_t, ↓iOr_f, ↓iIff_t, ↓iIff_f, ↓iNot_t, ↓iNot_f, ↓iTrue, ↓iFalse, ↓ckN, ↓ckJ, ↓gIT, ↓gLT, ↓gRT, ↓cvT, ↓pIT, ↓pLT, ↓pZT, ↓asZ, ↓aNT, ↓arL, ↓asL, ↓arI, ↓asI, ↓aR_1, ↓bnd_some, ↓wh_eq, ↓on_some, ↓on_none, asZ, arL, asL, arI, asI, aR_1, bnd_some, wh_eq, on_some, on_none, tnT, tnU, tnL, nk, jk, N_add, N_mul, N_sub, N_neg, J_add, J_mul, J_sub, J_neg, N_J]
    · by_cases c1 : k = 1
      · subst c1
        unfold fX2_upperAt
        simp only [nk, jk, N_add, N_mul, N_sub, N_neg, J_add, J_mul, J_sub, J_neg]
        simp (disch := omega) only [↓iNlt_t, ↓iNlt_f, ↓iNle_t, ↓iNle_f, ↓iNeq_t, ↓iNeq_f, ↓iJlt_t, ↓iJlt_f, ↓iJle_t, ↓iJle_f, ↓iJeq_t, ↓iJeq_f, ↓iZlt_t, ↓iZlt_f, ↓iZle_t, ↓iZle_f, ↓iZeq_t, ↓iZeq_f, ↓iQlt_t, ↓iQlt_f, ↓iQle_t, ↓iQle_f, ↓iQeq_t, ↓iQeq_f, ↓iAnd_t, ↓iAnd_f, ↓iOr_t, ↓iOr_f, ↓iIff_t, ↓iIff_f, ↓iNot_t, ↓iNot_f, ↓iTrue, ↓iFalse, ↓ckN, ↓ckJ, ↓gIT, ↓gLT, ↓gRT, ↓cvT, ↓pIT, ↓pLT, ↓pZT, ↓asZ, ↓aNT, ↓arL, ↓asL, ↓arI, ↓asI, ↓aR_1, ↓bnd_some, ↓wh_eq, ↓on_some, ↓on_none, asZ, arL, asL, arI, asI, aR_1, bnd_some, wh_eq, on_some, on_none, tnT, tnU, tnL, nk, jk, N_add, N_mul, N_sub, N_neg, J_add, J_mul, J_sub, J_neg, N_J]
        rfl
      · obtain ⟨j, rfl⟩ : ∃ j, k = j + 2 := ⟨k - 2, by omega⟩
        rw [show (((j + 2 : Nat) : Int) - 2) = (j : Int) by omega]
        exact q_upper hq60 (by omega)
theorem q_lo1 {p : Nat → Int} {k q : Nat} (hq60 : q ≤ 60) (hk : k ≤ q) : fX2_lowerAt 20 (N ((k : Int) - 1)) (hq i (neL l p q) x y) = some (J (ne p k).1.2, hq i (neL l p q) x y) ∧ fX2_lowerAt 20 (N ((k : Int) - 2)) (hq i (neL l p q) x y) = some (J (ne p k).2.2, hq i (neL l p q) x y) := by
  constructor
  · by_cases c : k = 0
    · subst c
      unfold fX2_lowerAt ne
      simp only [nk, jk, N_add, N_mul, N_sub, N_neg, J_add, J_mul, J_sub, J_neg]
      simp (disch := omega) only [↓iNlt_t, ↓iNlt_f, ↓iNle_t, ↓iNle_f, ↓iNeq_t, ↓iNeq_f, ↓iJlt_t, ↓iJlt_f, ↓iJle_t, ↓iJle_f, ↓iJeq_t, ↓iJeq_f, ↓iZlt_t, ↓iZlt_f, ↓iZle_t, ↓iZle_f, ↓iZeq_t, ↓iZeq_f, ↓iQlt_t, ↓iQlt_f, ↓iQle_t, ↓iQle_f, ↓iQeq_t, ↓iQeq_f, ↓iAnd_t, ↓iAnd_f, ↓iOr_t, ↓iOr_f, ↓iIff_t, ↓iIff_f, ↓iNot_t, ↓iNot_f, ↓iTrue, ↓iFalse, ↓ckN, ↓ckJ, ↓gIT, ↓gLT, ↓gRT, ↓cvT, ↓pIT, ↓pLT, ↓pZT, ↓asZ, ↓aNT, ↓arL, ↓asL, ↓arI, ↓asI, ↓aR_1, ↓bnd_some, ↓wh_eq, ↓on_some, ↓on_none, asZ, arL, asL, arI, asI, aR_1, bnd_some, wh_eq, on_some, on_none, tnT, tnU, tnL, nk, jk, N_add, N_mul, N_sub, N_neg, J_add, J_mul, J_sub, J_neg, N_J]
    · obtain ⟨j, rfl⟩ : ∃ j, k = j + 1 := ⟨k - 1, by omega⟩
      rw [show (((j + 1 : Nat) : Int) - 1) = (j : Int) by omega]
      exact q_lower hq60 (by omega)
  · by_cases c : k = 0
    · subst c
      unfold fX2_lowerAt ne
      simp only [nk, jk, N_add, N_mul, N_sub, N_neg, J_add, J_mul, J_sub, J_neg]
      simp (disch := omega) only [↓iNlt_t, ↓iNlt_f, ↓iNle_t, ↓iNle_f, ↓iNeq_t, ↓iNeq_f, ↓iJlt_t, ↓iJlt_f, ↓iJle_t, ↓iJle_f, ↓iJeq_t, ↓iJeq_f, ↓iZlt_t, ↓iZlt_f, ↓iZle_t, ↓iZle_f, ↓iZeq_t, ↓iZeq_f, ↓iQlt_t, ↓iQlt_f, ↓iQle_t, ↓iQle_f, ↓iQeq_t, ↓iQeq_f, ↓iAnd_t, ↓iAnd_f, ↓iOr_t, ↓iOr_f, ↓iIff_t, ↓iIff_f, ↓iNot_t, ↓iNot_f, ↓iTrue, ↓iFalse, ↓ckN, ↓ckJ, ↓gIT, ↓gLT, ↓gRT, ↓cvT, ↓pIT, ↓pLT, ↓pZT, ↓asZ, ↓aNT, ↓arL, ↓asL, ↓arI, ↓asI, ↓aR_1, ↓bnd_some, ↓wh_eq, ↓on_some, ↓on_none, asZ, arL, asL, arI, asI, aR_1, bnd_some, wh_eq, on_some, on_none, tnT, tnU, tnL, nk, jk, N_add, N_mul, N_sub, N_neg, J_add, J_mul, J_sub, J_neg, N_J]
    · by_cases c1 : k = 1
      · subst c1
        unfold fX2_lowerAt
        simp only [nk, jk, N_add, N_mul, N_sub, N_neg, J_add, J_mul, J_sub, J_neg]
        simp (disch := omega) only [↓iNlt_t, ↓iNlt_f, ↓iNle_t, ↓iNle_f, ↓iNeq_t, ↓iNeq_f, ↓iJlt_t, ↓iJlt_f, ↓iJle_t, ↓iJle_f, ↓iJeq_t, ↓iJeq_f, ↓iZlt_t, ↓iZlt_f, ↓iZle_t, ↓iZle_f, ↓iZeq_t, ↓iZeq_f, ↓iQlt_t, ↓iQlt_f, ↓iQle_t, ↓iQle_f, ↓iQeq_t, ↓iQeq_f, ↓iAnd_t, ↓iAnd_f, ↓iOr_t, ↓iOr_f, ↓iIff_t, ↓iIff_f, ↓iNot_t, ↓iNot_f, ↓iTrue, ↓iFalse, ↓ckN, ↓ckJ, ↓gIT, ↓gLT, ↓gRT, ↓cvT, ↓pIT, ↓pLT, ↓pZT, ↓asZ, ↓aNT, ↓arL, ↓asL, ↓arI, ↓asI, ↓aR_1, ↓bnd_some, ↓wh_eq, ↓on_some, ↓on_none, asZ, arL, asL, arI, asI, aR_1, bnd_some, wh_eq, on_some, on_none, tnT, tnU, tnL, nk, jk, N_add, N_mul, N_sub, N_neg, J_add, J_mul, J_sub, J_neg, N_J]
        rfl
      · obtain ⟨j, rfl⟩ : ∃ j, k = j + 2 := ⟨k - 2, by omega⟩
        rw [show (((j + 2 : Nat) : Int) - 2) = (j : Int) by omega]
        exact q_lower hq60 (by omega)
theorem q_workL {a : Nat} (ha : St a) (hne : a ≠ 20 ∧ a ≠ 21 ∧ a ≠ 22 ∧ a + 1 ≠ 21 ∧ a + 1 ≠ 22) {p : Nat → Int} {n0 : Nat} (hn0 : n0 ≤ 60) (hn : i a 3 = n0) (hp : ∀ k, k < n0 → l (a + 1) k = p k ∧ ¬ far (p k)) : ∀ (m k n : Nat), k + m = n0 → m + 1 ≤ n → (∀ j, j < k → ¬ neF p j) →
    fX2_workOut_7L n 20 a (N k) (hq (w1 i 20 2 k) (neL l p k) x y) = some ((), hq (w1 i 20 2 (nK p m k : Nat)) (neL l p (nK p m k)) x y) := by
  have st := ha.1.1
  intro m
  induction m with
  | zero =>
    intro k n hk hn' hf
    obtain ⟨z, rfl⟩ : ∃ z, n = z + 1 := ⟨n - 1, by omega⟩
    have e : w1 i 20 2 k a 3 = n0 := by rw [w1_na _ _ _ _ (by omega)]; exact hn
    show fX2_workOut_7 (fX2_workOut_7L z) 20 a _ _ = _
    unfold fX2_workOut_7 nK
    simp only [nk, jk, N_add, N_mul, N_sub, N_neg, J_add, J_mul, J_sub, J_neg]
    by_cases c : k = 60
    · simp (disch := omega) only [↓iNlt_t, ↓iNlt_f, ↓iNle_t, ↓iNle_f, ↓iNeq_t, ↓iNeq_f, ↓iJlt_t, ↓iJlt_f, ↓iJle_t, ↓iJle_f, ↓iJeq_t, ↓iJeq_f, ↓iZlt_t, ↓iZlt_f, ↓iZle_t, ↓iZle_f, ↓iZeq_t, ↓iZeq_f, ↓iQlt_t, ↓iQlt_f, ↓iQle_t, ↓iQle_f, ↓iQeq_t, ↓iQeq_f, ↓iAnd_t, ↓iAnd_f, ↓iOr_t, ↓iOr_f, ↓iIff_t, ↓iIff_f, ↓iNot_t, ↓iNot_f, ↓iTrue, ↓iFalse, ↓ckN, ↓ckJ, ↓gIT, ↓gLT, ↓gRT, ↓cvT, ↓pIT, ↓pLT, ↓pZT, ↓asZ, ↓aNT, ↓arL, ↓asL, ↓arI, ↓asI, ↓aR_1, ↓bnd_some, ↓wh_eq, ↓on_some, ↓on_none, asZ, arL, asL, arI, asI, aR_1, bnd_some, wh_eq, on_some, on_none, tnT, tnU, tnL, nk, jk, N_add, N_mul, N_sub, N_neg, J_add, J_mul, J_sub, J_neg, N_J]
    · simp (disch := omega) only [↓iNlt_t, ↓iNlt_f, ↓iNle_t, ↓iNle_f, ↓iNeq_t, ↓iNeq_f, ↓iJlt_t, ↓iJlt_f, ↓iJle_t, ↓iJle_f, ↓iJeq_t, ↓iJeq_f, ↓iZlt_t, ↓iZlt_f, ↓iZle_t, ↓iZle_f, ↓iZeq_t, ↓iZeq_f, ↓iQlt_t, ↓iQlt_f, ↓iQle_t, ↓iQle_f, ↓iQeq_t, ↓iQeq_f, ↓iAnd_t, ↓iAnd_f, ↓iOr_t, ↓iOr_f, ↓iIff_t, ↓iIff_f, ↓iNot_t, ↓iNot_f, ↓iTrue, ↓iFalse, ↓ckN, ↓ckJ, ↓gIT, ↓gLT, ↓gRT, ↓cvT, ↓pIT, ↓pLT, ↓pZT, ↓asZ, ↓aNT, ↓arL, ↓asL, ↓arI, ↓asI, ↓aR_1, ↓bnd_some, ↓wh_eq, ↓on_some, ↓on_none, asZ, arL, asL, arI, asI, aR_1, bnd_some, wh_eq, on_some, on_none, tnT, tnU, tnL, nk, jk, N_add, N_mul, N_sub, N_neg, J_add, J_mul, J_sub, J_neg, N_J, ↓gI_q st, e]
  | succ m ih =>
    intro k n hk hn' hf
    obtain ⟨z, rfl⟩ : ∃ z, n = z + 1 := ⟨n - 1, by omega⟩
    have ih := ih (k + 1) z (by omega) (by omega)
    have e : w1 i 20 2 k a 3 = n0 := by rw [w1_na _ _ _ _ (by omega)]; exact hn
    obtain ⟨p1, p2⟩ := hp k (by omega)
    have P := q_partAt (i := w1 i 20 2 k) (l := neL l p k) (x := x) (y := y) ha (k := (k : Int)) (by omega) (by omega)
    rw [if_neg (by omega), (tnT k).1, neL_n _ _ _ (by omega) (by omega), p1] at P
    obtain ⟨u1, u2⟩ := q_up1 (i := w1 i 20 2 k) (l := l) (x := x) (y := y) (p := p) (k := k) (q := k) (by omega) (by omega)
    obtain ⟨v1, v2⟩ := q_lo1 (i := w1 i 20 2 k) (l := l) (x := x) (y := y) (p := p) (k := k) (q := k) (by omega) (by omega)
    obtain ⟨⟨f1, f2⟩, f3, f4⟩ := ne_far p k hf
    have o1 := tm_ok (p k) (ne p k).1.1
    have o2 := tm_ok (p k) (ne p k).1.2
    have s1 := pltm p2 f1 f3
    have s2 := pltm p2 f2 f4
    have nS : (ne p (k + 1)).1.1 = p k * (ne p k).1.1 + (ne p k).2.1 := rfl
    have nT : (ne p (k + 1)).1.2 = p k * (ne p k).1.2 + (ne p k).2.2 := rfl
    have L := neL_s l p k
    show fX2_workOut_7 (fX2_workOut_7L z) 20 a _ _ = _
    unfold fX2_workOut_7 nK
    simp only [nk, jk, N_add, N_mul, N_sub, N_neg, J_add, J_mul, J_sub, J_neg]
    by_cases cU : far (p k * (ne p k).1.1) ∨ far (p k * (ne p k).1.1 + (ne p k).2.1)
    · rw [if_pos cU] at s1
      rw [if_pos (show neF p k from Or.inl cU)]
      have b := pl_ok (tm (p k) (ne p k).1.2) (ne p k).2.2
      simp (disch := omega) only [↓iNlt_t, ↓iNlt_f, ↓iNle_t, ↓iNle_f, ↓iNeq_t, ↓iNeq_f, ↓iJlt_t, ↓iJlt_f, ↓iJle_t, ↓iJle_f, ↓iJeq_t, ↓iJeq_f, ↓iZlt_t, ↓iZlt_f, ↓iZle_t, ↓iZle_f, ↓iZeq_t, ↓iZeq_f, ↓iQlt_t, ↓iQlt_f, ↓iQle_t, ↓iQle_f, ↓iQeq_t, ↓iQeq_f, ↓iAnd_t, ↓iAnd_f, ↓iOr_t, ↓iOr_f, ↓iIff_t, ↓iIff_f, ↓iNot_t, ↓iNot_f, ↓iTrue, ↓iFalse, ↓ckN, ↓ckJ, ↓gIT, ↓gLT, ↓gRT, ↓cvT, ↓pIT, ↓pLT, ↓pZT, ↓asZ, ↓aNT, ↓arL, ↓asL, ↓arI, ↓asI, ↓aR_1, ↓bnd_some, ↓wh_eq, ↓on_some, ↓on_none, asZ, arL, asL, arI, asI, aR_1, bnd_some, wh_eq, on_some, on_none, tnT, tnU, tnL, nk, jk, N_add, N_mul, N_sub, N_neg, J_add, J_mul, J_sub, J_neg, N_J, ↓gI_q st, ↓cv_q st, e, ↓bq P, ↓bq u1, ↓bq u2, ↓bq v1, ↓bq v2, ↓b_times, ↓b_plus, s1, ↓b_isFar, ↓iIb]
    · rw [if_neg cU] at s1
      by_cases cV : far (p k * (ne p k).1.2) ∨ far (p k * (ne p k).1.2 + (ne p k).2.2)
      · rw [if_pos cV] at s2
        rw [if_pos (show neF p k from Or.inr cV)]
        simp (disch := omega) only [↓iNlt_t, ↓iNlt_f, ↓iNle_t, ↓iNle_f, ↓iNeq_t, ↓iNeq_f, ↓iJlt_t, ↓iJlt_f, ↓iJle_t, ↓iJle_f, ↓iJeq_t, ↓iJeq_f, ↓iZlt_t, ↓iZlt_f, ↓iZle_t, ↓iZle_f, ↓iZeq_t, ↓iZeq_f, ↓iQlt_t, ↓iQlt_f, ↓iQle_t, ↓iQle_f, ↓iQeq_t, ↓iQeq_f, ↓iAnd_t, ↓iAnd_f, ↓iOr_t, ↓iOr_f, ↓iIff_t, ↓iIff_f, ↓iNot_t, ↓iNot_f, ↓iTrue, ↓iFalse, ↓ckN, ↓ckJ, ↓gIT, ↓gLT, ↓gRT, ↓cvT, ↓pIT, ↓pLT, ↓pZT, ↓asZ, ↓aNT, ↓arL, ↓asL, ↓arI, ↓asI, ↓aR_1, ↓bnd_some, ↓wh_eq, ↓on_some, ↓on_none, asZ, arL, asL, arI, asI, aR_1, bnd_some, wh_eq, on_some, on_none, tnT, tnU, tnL, nk, jk, N_add, N_mul, N_sub, N_neg, J_add, J_mul, J_sub, J_neg, N_J, ↓gI_q st, ↓cv_q st, e, ↓bq P, ↓bq u1, ↓bq u2, ↓bq v1, ↓bq v2, ↓b_times, ↓b_plus, s1, s2, ↓b_isFar, ↓iIb]
      · rw [if_neg cV] at s2
        have hF : ¬ neF p k := by rintro (z | z) <;> contradiction
        rw [if_neg hF]
        rw [nS, nT] at L
        have ih := ih (fun j hj => by
          by_cases q : j = k
          · rw [q]; exact hF
          · exact hf j (by omega))
        rw [← L] at ih
        simp (disch := omega) only [↓iNlt_t, ↓iNlt_f, ↓iNle_t, ↓iNle_f, ↓iNeq_t, ↓iNeq_f, ↓iJlt_t, ↓iJlt_f, ↓iJle_t, ↓iJle_f, ↓iJeq_t, ↓iJeq_f, ↓iZlt_t, ↓iZlt_f, ↓iZle_t, ↓iZle_f, ↓iZeq_t, ↓iZeq_f, ↓iQlt_t, ↓iQlt_f, ↓iQle_t, ↓iQle_f, ↓iQeq_t, ↓iQeq_f, ↓iAnd_t, ↓iAnd_f, ↓iOr_t, ↓iOr_f, ↓iIff_t, ↓iIff_f, ↓iNot_t, ↓iNot_f, ↓iTrue, ↓iFalse, ↓ckN, ↓ckJ, ↓gIT, ↓gLT, ↓gRT, ↓cvT, ↓pIT, ↓pLT, ↓pZT, ↓asZ, ↓aNT, ↓arL, ↓asL, ↓arI, ↓asI, ↓aR_1, ↓bnd_some, ↓wh_eq, ↓on_some, ↓on_none, asZ, arL, asL, arI, asI, aR_1, bnd_some, wh_eq, on_some, on_none, tnT, tnU, tnL, nk, jk, N_add, N_mul, N_sub, N_neg, J_add, J_mul, J_sub, J_neg, N_J, ↓gI_q st, ↓cv_q st, e, ↓bq P, ↓bq u1, ↓bq u2, ↓bq v1, ↓bq v2, ↓b_times, ↓b_plus, s1, s2, ↓b_isFar, ↓iIb, w1_s, w1_w1]
        exact ih
theorem q_workOut {a : Nat} (ha : St a) (hne : a ≠ 20 ∧ a ≠ 21 ∧ a ≠ 22 ∧ a + 1 ≠ 21 ∧ a + 1 ≠ 22) {p : Nat → Int} {n0 : Nat} (hn0 : n0 ≤ 60) (hn : i a 3 = n0) (hp : ∀ k, k < n0 → l (a + 1) k = p k ∧ ¬ far (p k)) : fX2_workOut 20 a (hq i l x y) = some ((), hq (w1 i 20 2 (nK p n0 0 : Nat)) (neL l p (nK p n0 0)) x y) := by
  have h := q_workL (x := x) (y := y) ha hne hn0 hn hp n0 0 1000 (by omega) (by omega) (fun j hj => by omega)
  rw [neL_0] at h
  unfold fX2_workOut
  simp only [nk, jk, N_add, N_mul, N_sub, N_neg, J_add, J_mul, J_sub, J_neg]
  simp (disch := omega) only [↓iNlt_t, ↓iNlt_f, ↓iNle_t, ↓iNle_f, ↓iNeq_t, ↓iNeq_f, ↓iJlt_t, ↓iJlt_f, ↓iJle_t, ↓iJle_f, ↓iJeq_t, ↓iJeq_f, ↓iZlt_t, ↓iZlt_f, ↓iZle_t, ↓iZle_f, ↓iZeq_t, ↓iZeq_f, ↓iQlt_t, ↓iQlt_f, ↓iQle_t, ↓iQle_f, ↓iQeq_t, ↓iQeq_f, ↓iAnd_t, ↓iAnd_f, ↓iOr_t, ↓iOr_f, ↓iIff_t, ↓iIff_f, ↓iNot_t, ↓iNot_f, ↓iTrue, ↓iFalse, ↓ckN, ↓ckJ, ↓gIT, ↓gLT, ↓gRT, ↓cvT, ↓pIT, ↓pLT, ↓pZT, ↓asZ, ↓aNT, ↓arL, ↓asL, ↓arI, ↓asI, ↓aR_1, ↓bnd_some, ↓wh_eq, ↓on_some, ↓on_none, asZ, arL, asL, arI, asI, aR_1, bnd_some, wh_eq, on_some, on_none, tnT, tnU, tnL, nk, jk, N_add, N_mul, N_sub, N_neg, J_add, J_mul, J_sub, J_neg, N_J]
  exact h
end NE
