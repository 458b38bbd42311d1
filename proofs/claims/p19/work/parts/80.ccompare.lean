/-! ===== compare, whole ===== -/
theorem RootOK.bnd {a b n d : Int} (h : RootOK a b n d) : a.natAbs ≤ 1000000000 ∧ b.natAbs ≤ 3163 ∧ (2 ≤ n ∧ n ≤ 10000000) ∧ (1 ≤ d ∧ d ≤ 10000) ∧ b ≠ 0 := by
  obtain ⟨h1, h2, ⟨h3, h4⟩, h5, -⟩ := h
  have hbb : 0 < b * b := by
    rcases Int.lt_or_gt_of_ne h3 with z | z
    · exact Int.mul_pos_of_neg_of_neg z z
    · exact Int.mul_pos z z
  have e1 : b * b * 2 ≤ b * b * n := Int.mul_le_mul_of_nonneg_left h4 (by omega)
  have e2 : 1 * n ≤ b * b * n := Int.mul_le_mul_of_nonneg_right (by omega) (by omega)
  refine ⟨h2, ?_, ⟨h4, by omega⟩, h1, h3⟩
  rcases Nat.lt_or_ge 3163 b.natAbs with z | z
  · exfalso
    have : 3164 * 3164 ≤ b.natAbs * b.natAbs := Nat.mul_le_mul z z
    have e : ((b.natAbs * b.natAbs : Nat) : Int) = b * b := Int.natAbs_mul_self
    omega
  · exact z
section CMP
variable {i l : Nat → Nat → Int} {x y : Option Nat}
theorem q_45 {s t : Nat} (hs : s < 40) (ht : t < 40) (n : Nat) {b : Int} (hb : a01 b) {j : Nat} (hj : j < 4) (h5 : ∀ j, j < 4 → (l 115 (4 * s + j)).natAbs ≤ 4000000000000000000 ∧ (l 115 (4 * t + j)).natAbs ≤ 4000000000000000000) : fX9_compare_45L (n + 1) 108 (N s) (N t) (N b) (N j) (hq i l x y) = fX9_compare_45L n 108 (N s) (N t) (N (ib (b = 1 ∧ l 115 (4 * s + j) = l 115 (4 * t + j)))) (N ((j + 1 : Nat) : Int)) (hq i l x y) := by
  obtain ⟨f1, f2⟩ := h5 j hj
  show fX9_compare_45 (fX9_compare_45L n) 108 _ _ _ _ _ = _
  unfold fX9_compare_45 ib
  simp only [nk, jk, N_add, N_mul, N_sub, N_neg, J_add, J_mul, J_sub, J_neg]
  rcases hb with rfl | rfl
  · simp (disch := omega) only [↓iNlt_t, ↓iNlt_f, ↓iNle_t, ↓iNle_f, ↓iNeq_t, ↓iNeq_f, ↓iJlt_t, ↓iJlt_f, ↓iJle_t, ↓iJle_f, ↓iJeq_t, ↓iJeq_f, ↓iZlt_t, ↓iZlt_f, ↓iZle_t, ↓iZle_f, ↓iZeq_t, ↓iZeq_f, ↓iQlt_t, ↓iQlt_f, ↓iQle_t, ↓iQle_f, ↓iQeq_t, ↓iQeq_f, ↓iAnd_t, ↓iAnd_f, ↓iOr_t, ↓iOr_f, ↓iIff_t, ↓iIff_f, ↓iNot_t, ↓iNot_f, ↓iTrue, ↓iFalse, ↓ckN, ↓ckJ, ↓gIT, ↓gLT, ↓gRT, ↓cvT, ↓pIT, ↓pLT, ↓pZT, ↓asZ, ↓aNT, ↓arL, ↓asL, ↓arI, ↓asI, ↓aR_1, ↓bnd_some, ↓wh_eq, ↓on_some, ↓on_none, asZ, arL, asL, arI, asI, aR_1, bnd_some, wh_eq, on_some, on_none, tnT, tnU, tnL, nk, jk, N_add, N_mul, N_sub, N_neg, J_add, J_mul, J_sub, J_neg, N_J]
    rfl
  · by_cases c : l 115 (4 * s + j) = l 115 (4 * t + j)
    · simp (disch := omega) only [↓iNlt_t, ↓iNlt_f, ↓iNle_t, ↓iNle_f, ↓iNeq_t, ↓iNeq_f, ↓iJlt_t, ↓iJlt_f, ↓iJle_t, ↓iJle_f, ↓iJeq_t, ↓iJeq_f, ↓iZlt_t, ↓iZlt_f, ↓iZle_t, ↓iZle_f, ↓iZeq_t, ↓iZeq_f, ↓iQlt_t, ↓iQlt_f, ↓iQle_t, ↓iQle_f, ↓iQeq_t, ↓iQeq_f, ↓iAnd_t, ↓iAnd_f, ↓iOr_t, ↓iOr_f, ↓iIff_t, ↓iIff_f, ↓iNot_t, ↓iNot_f, ↓iTrue, ↓iFalse, ↓ckN, ↓ckJ, ↓gIT, ↓gLT, ↓gRT, ↓cvT, ↓pIT, ↓pLT, ↓pZT, ↓asZ, ↓aNT, ↓arL, ↓asL, ↓arI, ↓asI, ↓aR_1, ↓bnd_some, ↓wh_eq, ↓on_some, ↓on_none, asZ, arL, asL, arI, asI, aR_1, bnd_some, wh_eq, on_some, on_none, tnT, tnU, tnL, nk, jk, N_add, N_mul, N_sub, N_neg, J_add, J_mul, J_sub, J_neg, N_J]
      rfl
    · simp (disch := omega) only [↓iNlt_t, ↓iNlt_f, ↓iNle_t, ↓iNle_f, ↓iNeq_t, ↓iNeq_f, ↓iJlt_t, ↓iJlt_f, ↓iJle_t, ↓iJle_f, ↓iJeq_t, ↓iJeq_f, ↓iZlt_t, ↓iZlt_f, ↓iZle_t, ↓iZle_f, ↓iZeq_t, ↓iZeq_f, ↓iQlt_t, ↓iQlt_f, ↓iQle_t, ↓iQle_f, ↓iQeq_t, ↓iQeq_f, ↓iAnd_t, ↓iAnd_f, ↓iOr_t, ↓iOr_f, ↓iIff_t, ↓iIff_f, ↓iNot_t, ↓iNot_f, ↓iTrue, ↓iFalse, ↓ckN, ↓ckJ, ↓gIT, ↓gLT, ↓gRT, ↓cvT, ↓pIT, ↓pLT, ↓pZT, ↓asZ, ↓aNT, ↓arL, ↓asL, ↓arI, ↓asI, ↓aR_1, ↓bnd_some, ↓wh_eq, ↓on_some, ↓on_none, asZ, arL, asL, arI, asI, aR_1, bnd_some, wh_eq, on_some, on_none, tnT, tnU, tnL, nk, jk, N_add, N_mul, N_sub, N_neg, J_add, J_mul, J_sub, J_neg, N_J]
      rfl
theorem q_45_4 {s t : Nat} (n : Nat) {b : Int} (hb : a01 b) : fX9_compare_45L (n + 1) 108 (N s) (N t) (N b) (N ((4 : Nat) : Int)) (hq i l x y) = if b = 0 then fX9_compare_101L 1000 108 (N s) (N t) (N 0) (hq i l x y) else some (J 0, hq i l x y) := by
  show fX9_compare_45 (fX9_compare_45L n) 108 _ _ _ _ _ = _
  unfold fX9_compare_45 fX9_compare_93
  simp only [nk, jk, N_add, N_mul, N_sub, N_neg, J_add, J_mul, J_sub, J_neg]
  rcases hb with rfl | rfl
  · simp (disch := omega) only [↓iNlt_t, ↓iNlt_f, ↓iNle_t, ↓iNle_f, ↓iNeq_t, ↓iNeq_f, ↓iJlt_t, ↓iJlt_f, ↓iJle_t, ↓iJle_f, ↓iJeq_t, ↓iJeq_f, ↓iZlt_t, ↓iZlt_f, ↓iZle_t, ↓iZle_f, ↓iZeq_t, ↓iZeq_f, ↓iQlt_t, ↓iQlt_f, ↓iQle_t, ↓iQle_f, ↓iQeq_t, ↓iQeq_f, ↓iAnd_t, ↓iAnd_f, ↓iOr_t, ↓iOr_f, ↓iIff_t, ↓iIff_f, ↓iNot_t, ↓iNot_f, ↓iTrue, ↓iFalse, ↓ckN, ↓ckJ, ↓gIT, ↓gLT, ↓gRT, ↓cvT, ↓pIT, ↓pLT, ↓pZT, ↓asZ, ↓aNT, ↓arL, ↓asL, ↓arI, ↓asI, ↓aR_1, ↓bnd_some, ↓wh_eq, ↓on_some, ↓on_none, asZ, arL, asL, arI, asI, aR_1, bnd_some, wh_eq, on_some, on_none, tnT, tnU, tnL, nk, jk, N_add, N_mul, N_sub, N_neg, J_add, J_mul, J_sub, J_neg, N_J]
  · simp (disch := omega) only [↓iNlt_t, ↓iNlt_f, ↓iNle_t, ↓iNle_f, ↓iNeq_t, ↓iNeq_f, ↓iJlt_t, ↓iJlt_f, ↓iJle_t, ↓iJle_f, ↓iJeq_t, ↓iJeq_f, ↓iZlt_t, ↓iZlt_f, ↓iZle_t, ↓iZle_f, ↓iZeq_t, ↓iZeq_f, ↓iQlt_t, ↓iQlt_f, ↓iQle_t, ↓iQle_f, ↓iQeq_t, ↓iQeq_f, ↓iAnd_t, ↓iAnd_f, ↓iOr_t, ↓iOr_f, ↓iIff_t, ↓iIff_f, ↓iNot_t, ↓iNot_f, ↓iTrue, ↓iFalse, ↓ckN, ↓ckJ, ↓gIT, ↓gLT, ↓gRT, ↓cvT, ↓pIT, ↓pLT, ↓pZT, ↓asZ, ↓aNT, ↓arL, ↓asL, ↓arI, ↓asI, ↓aR_1, ↓bnd_some, ↓wh_eq, ↓on_some, ↓on_none, asZ, arL, asL, arI, asI, aR_1, bnd_some, wh_eq, on_some, on_none, tnT, tnU, tnL, nk, jk, N_add, N_mul, N_sub, N_neg, J_add, J_mul, J_sub, J_neg, N_J]
theorem q_same {s t : Nat} (hs : s < 40) (ht : t < 40) (sd : SD i l s) (td : SD i l t) (k1 : i 110 s = 1) (k2 : i 110 t = 1) : fX9_compare_45L 1000 108 (N s) (N t) (N 1) (N 0) (hq i l x y) = if (l (2 * s + 28) 6 = l (2 * t + 28) 6 ∧ l (2 * s + 28) 7 = l (2 * t + 28) 7 ∧ l (2 * s + 28) 8 = l (2 * t + 28) 8 ∧ l (2 * s + 28) 9 = l (2 * t + 28) 9) then some (J 0, hq i l x y) else fX9_compare_101L 1000 108 (N s) (N t) (N 0) (hq i l x y) := by
  obtain ⟨⟨s1, s2, s3, s4⟩, sr, -⟩ := sd.2.2.2.2.2.2.2 k1
  obtain ⟨⟨t1, t2, t3, t4⟩, tr, -⟩ := td.2.2.2.2.2.2.2 k2
  have h5 : ∀ j, j < 4 → (l 115 (4 * s + j)).natAbs ≤ 4000000000000000000 ∧ (l 115 (4 * t + j)).natAbs ≤ 4000000000000000000 := by
    obtain ⟨x1, x2, x3, x4, x5⟩ := sr.bnd
    obtain ⟨y1, y2, y3, y4, y5⟩ := tr.bnd
    intro j hj
    rcases (by omega : j = 0 ∨ j = 1 ∨ j = 2 ∨ j = 3) with rfl | rfl | rfl | rfl
    · rw [Nat.add_zero, Nat.add_zero, ← s1, ← t1]; omega
    · rw [← s2, ← t2]; omega
    · rw [← s3, ← t3]; omega
    · rw [← s4, ← t4]; omega
  have z1 : (1 : Int) = 1 := rfl
  rw [show (1000 : Nat) = 995 + 1 + 1 + 1 + 1 + 1 from rfl, show N 0 = N ((0 : Nat) : Int) from rfl, q_45 hs ht _ (Or.inr rfl) (by omega) h5, q_45 hs ht _ (ib_01 _) (by omega) h5, q_45 hs ht _ (ib_01 _) (by omega) h5, q_45 hs ht _ (ib_01 _) (by omega) h5, q_45_4 _ (ib_01 _)]
  rw [Nat.add_zero, Nat.add_zero, show 0 + 1 = 1 from rfl, show 1 + 1 = 2 from rfl, show 2 + 1 = 3 from rfl, ← s1, ← s2, ← s3, ← s4, ← t1, ← t2, ← t3, ← t4]
  unfold ib
  by_cases c1 : l (2 * s + 28) 6 = l (2 * t + 28) 6
  · by_cases c2 : l (2 * s + 28) 7 = l (2 * t + 28) 7
    · by_cases c3 : l (2 * s + 28) 8 = l (2 * t + 28) 8
      · by_cases c4 : l (2 * s + 28) 9 = l (2 * t + 28) 9 <;> simp [c1, c2, c3, c4]
      · simp [c1, c2, c3]
    · simp [c1, c2]
  · simp [c1]
theorem q_isSame {a b : Nat} (ha : St a) (hb : St b) (k1 : 0 ≤ i a 2 ∧ i a 2 ≤ 3) (k2 : 0 ≤ i b 2 ∧ i b 2 ≤ 3) (h5 : i a 2 = 1 → i b 2 = 1 → ∀ j, 6 ≤ j → j ≤ 9 → (l a j).natAbs ≤ 4000000000000000000 ∧ (l b j).natAbs ≤ 4000000000000000000) : fX7_isSameRoot a b (hq i l x y) = some (N (ib (i a 2 = 1 ∧ i b 2 = 1 ∧ l a 6 = l b 6 ∧ l a 7 = l b 7 ∧ l a 8 = l b 8 ∧ l a 9 = l b 9)), hq i l x y) := by
  have s1 := ha.1.1
  have s2 := hb.1.1
  unfold fX7_isSameRoot ib
  simp only [nk, jk, N_add, N_mul, N_sub, N_neg, J_add, J_mul, J_sub, J_neg]
  by_cases c1 : i a 2 = 1
  · by_cases c2 : i b 2 = 1
    · have h5 := h5 c1 c2
      obtain ⟨a1, a2⟩ := h5 6 (by omega) (by omega)
      obtain ⟨a3, a4⟩ := h5 7 (by omega) (by omega)
      obtain ⟨a5, a6⟩ := h5 8 (by omega) (by omega)
      obtain ⟨a7, a8⟩ := h5 9 (by omega) (by omega)
      by_cases c3 : l a 6 = l b 6
      · by_cases c4 : l a 7 = l b 7
        · by_cases c5 : l a 8 = l b 8
          · by_cases c6 : l a 9 = l b 9
            · simp (disch := omega) only [↓iNlt_t, ↓iNlt_f, ↓iNle_t, ↓iNle_f, ↓iNeq_t, ↓iNeq_f, ↓iJlt_t, ↓iJlt_f, ↓iJle_t, ↓iJle_f, ↓iJeq_t, ↓iJeq_f, ↓iZlt_t, ↓iZlt_f, ↓iZle_t, ↓iZle_f, ↓iZeq_t, ↓iZeq_f, ↓iQlt_t, ↓iQlt_f, ↓iQle_t, ↓iQle_f, ↓iQeq_t, ↓iQeq_f, ↓iAnd_t, ↓iAnd_f, ↓iOr_t, ↓iOr_f, ↓iIff_t, ↓iIff_f, ↓iNot_t, ↓iNot_f, ↓iTrue, ↓iFalse, ↓ckN, ↓ckJ, ↓gIT, ↓gLT, ↓gRT, ↓cvT, ↓pIT, ↓pLT, ↓pZT, ↓asZ, ↓aNT, ↓arL, ↓asL, ↓arI, ↓asI, ↓aR_1, ↓bnd_some, ↓wh_eq, ↓on_some, ↓on_none, asZ, arL, asL, arI, asI, aR_1, bnd_some, wh_eq, on_some, on_none, tnT, tnU, tnL, nk, jk, N_add, N_mul, N_sub, N_neg, J_add, J_mul, J_sub, J_neg, N_J, ↓gI_q s1, ↓gI_q s2, ↓gL_q s1, ↓gL_q s2]
            · simp (disch := omega) only [↓iNlt_t, ↓iNlt_f, ↓iNle_t, ↓iNle_f, ↓iNeq_t, ↓iNeq_f, ↓iJlt_t, ↓iJlt_f, ↓iJle_t, ↓iJle_f, ↓iJeq_t, ↓iJeq_f, ↓iZlt_t, ↓iZlt_f, ↓iZle_t, ↓iZle_f, ↓iZeq_t, ↓iZeq_f, ↓iQlt_t, ↓iQlt_f, ↓iQle_t, ↓iQle_f, ↓iQeq_t, ↓iQeq_f, ↓iAnd_t, ↓iAnd_f, ↓iOr_t, ↓iOr_f, ↓iIff_t, ↓iIff_f, ↓iNot_t, ↓iNot_f, ↓iTrue, ↓iFalse, ↓ckN, ↓ckJ, ↓gIT, ↓gLT, ↓gRT, ↓cvT, ↓pIT, ↓pLT, ↓pZT, ↓asZ, ↓aNT, ↓arL, ↓asL, ↓arI, ↓asI, ↓aR_1, ↓bnd_some, ↓wh_eq, ↓on_some, ↓on_none, asZ, arL, asL, arI, asI, aR_1, bnd_some, wh_eq, on_some, on_none, tnT, tnU, tnL, nk, jk, N_add, N_mul, N_sub, N_neg, J_add, J_mul, J_sub, J_neg, N_J, ↓gI_q s1, ↓gI_q s2, ↓gL_q s1, ↓gL_q s2]
          · simp (disch := omega) only [↓iNlt_t, ↓iNlt_f, ↓iNle_t, ↓iNle_f, ↓iNeq_t, ↓iNeq_f, ↓iJlt_t, ↓iJlt_f, ↓iJle_t, ↓iJle_f, ↓iJeq_t, ↓iJeq_f, ↓iZlt_t, ↓iZlt_f, ↓iZle_t, ↓iZle_f, ↓iZeq_t, ↓iZeq_f, ↓iQlt_t, ↓iQlt_f, ↓iQle_t, ↓iQle_f, ↓iQeq_t, ↓iQeq_f, ↓iAnd_t, ↓iAnd_f, ↓iOr_t, ↓iOr_f, ↓iIff_t, ↓iIff_f, ↓iNot_t, ↓iNot_f, ↓iTrue, ↓iFalse, ↓ckN, ↓ckJ, ↓gIT, ↓gLT, ↓gRT, ↓cvT, ↓pIT, ↓pLT, ↓pZT, ↓asZ, ↓aNT, ↓arL, ↓asL, ↓arI, ↓asI, ↓aR_1, ↓bnd_some, ↓wh_eq, ↓on_some, ↓on_none, asZ, arL, asL, arI, asI, aR_1, bnd_some, wh_eq, on_some, on_none, tnT, tnU, tnL, nk, jk, N_add, N_mul, N_sub, N_neg, J_add, J_mul, J_sub, J_neg, N_J, ↓gI_q s1, ↓gI_q s2, ↓gL_q s1, ↓gL_q s2]
        · simp (disch := omega) only [↓iNlt_t, ↓iNlt_f, ↓iNle_t, ↓iNle_f, ↓iNeq_t, ↓iNeq_f, ↓iJlt_t, ↓iJlt_f, ↓iJle_t, ↓iJle_f, ↓iJeq_t, ↓iJeq_f, ↓iZlt_t, ↓iZlt_f, ↓iZle_t, ↓iZle_f, ↓iZeq_t, ↓iZeq_f, ↓iQlt_t, ↓iQlt_f, ↓iQle_t, ↓iQle_f, ↓iQeq_t, ↓iQeq_f, ↓iAnd_t, ↓iAnd_f, ↓iOr_t, ↓iOr_f, ↓iIff_t, ↓iIff_f, ↓iNot_t, ↓iNot_f, ↓iTrue, ↓iFalse, ↓ckN, ↓ckJ, ↓gIT, ↓gLT, ↓gRT, ↓cvT, ↓pIT, ↓pLT, ↓pZT, ↓asZ, ↓aNT, ↓arL, ↓asL, ↓arI, ↓asI, ↓aR_1, ↓bnd_some, ↓wh_eq, ↓on_some, ↓on_none, asZ, arL, asL, arI, asI, aR_1, bnd_some, wh_eq, on_some, on_none, tnT, tnU, tnL, nk, jk, N_add, N_mul, N_sub, N_neg, J_add, J_mul, J_sub, J_neg, N_J, ↓gI_q s1, ↓gI_q s2, ↓gL_q s1, ↓gL_q s2]
      · simp (disch := omega) only [↓iNlt_t, ↓iNlt_f, ↓iNle_t, ↓iNle_f, ↓iNeq_t, ↓iNeq_f, ↓iJlt_t, ↓iJlt_f, ↓iJle_t, ↓iJle_f, ↓iJeq_t, ↓iJeq_f, ↓iZlt_t, ↓iZlt_f, ↓iZle_t, ↓iZle_f, ↓iZeq_t, ↓iZeq_f, ↓iQlt_t, ↓iQlt_f, ↓iQle_t, ↓iQle_f, ↓iQeq_t, ↓iQeq_f, ↓iAnd_t, ↓iAnd_f, ↓iOr_t, ↓iOr_f, ↓iIff_t, ↓iIff_f, ↓iNot_t, ↓iNot_f, ↓iTrue, ↓iFalse, ↓ckN, ↓ckJ, ↓gIT, ↓gLT, ↓gRT, ↓cvT, ↓pIT, ↓pLT, ↓pZT, ↓asZ, ↓aNT, ↓arL, ↓asL, ↓arI, ↓asI, ↓aR_1, ↓bnd_some, ↓wh_eq, ↓on_some, ↓on_none, asZ, arL, asL, arI, asI, aR_1, bnd_some, wh_eq, on_some, on_none, tnT, tnU, tnL, nk, jk, N_add, N_mul, N_sub, N_neg, J_add, J_mul, J_sub, J_neg, N_J, ↓gI_q s1, ↓gI_q s2, ↓gL_q s1, ↓gL_q s2]
    · simp (disch := omega) only [↓iNlt_t, ↓iNlt_f, ↓iNle_t, ↓iNle_f, ↓iNeq_t, ↓iNeq_f, ↓iJlt_t, ↓iJlt_f, ↓iJle_t, ↓iJle_f, ↓iJeq_t, ↓iJeq_f, ↓iZlt_t, ↓iZlt_f, ↓iZle_t, ↓iZle_f, ↓iZeq_t, ↓iZeq_f, ↓iQlt_t, ↓iQlt_f, ↓iQle_t, ↓iQle_f, ↓iQeq_t, ↓iQeq_f, ↓iAnd_t, ↓iAnd_f, ↓iOr_t, ↓iOr_f, ↓iIff_t, ↓iIff_f, ↓iNot_t, ↓iNot_f, ↓iTrue, ↓iFalse, ↓ckN, ↓ckJ, ↓gIT, ↓gLT, ↓gRT, ↓cvT, ↓pIT, ↓pLT, ↓pZT, ↓asZ, ↓aNT, ↓arL, ↓asL, ↓arI, ↓asI, ↓aR_1, ↓bnd_some, ↓wh_eq, ↓on_some, ↓on_none, asZ, arL, asL, arI, asI, aR_1, bnd_some, wh_eq, on_some, on_none, tnT, tnU, tnL, nk, jk, N_add, N_mul, N_sub, N_neg, J_add, J_mul, J_sub, J_neg, N_J, ↓gI_q s1, ↓gI_q s2, ↓gL_q s1, ↓gL_q s2]
  · simp (disch := omega) only [↓iNlt_t, ↓iNlt_f, ↓iNle_t, ↓iNle_f, ↓iNeq_t, ↓iNeq_f, ↓iJlt_t, ↓iJlt_f, ↓iJle_t, ↓iJle_f, ↓iJeq_t, ↓iJeq_f, ↓iZlt_t, ↓iZlt_f, ↓iZle_t, ↓iZle_f, ↓iZeq_t, ↓iZeq_f, ↓iQlt_t, ↓iQlt_f, ↓iQle_t, ↓iQle_f, ↓iQeq_t, ↓iQeq_f, ↓iAnd_t, ↓iAnd_f, ↓iOr_t, ↓iOr_f, ↓iIff_t, ↓iIff_f, ↓iNot_t, ↓iNot_f, ↓iTrue, ↓iFalse, ↓ckN, ↓ckJ, ↓gIT, ↓gLT, ↓gRT, ↓cvT, ↓pIT, ↓pLT, ↓pZT, ↓asZ, ↓aNT, ↓arL, ↓asL, ↓arI, ↓asI, ↓aR_1, ↓bnd_some, ↓wh_eq, ↓on_some, ↓on_none, asZ, arL, asL, arI, asI, aR_1, bnd_some, wh_eq, on_some, on_none, tnT, tnU, tnL, nk, jk, N_add, N_mul, N_sub, N_neg, J_add, J_mul, J_sub, J_neg, N_J, ↓gI_q s1, ↓gI_q s2, ↓gL_q s1, ↓gL_q s2]
end CMP
theorem c_compare (a b : Int32) : Agree (fX8_compare 0 a b) (fX9_compare 108 a b) := by
  intro i l x y r
  rcases r.who (x := x) (y := y) a with ⟨f, g⟩ | ⟨s, hs, rfl, h1, sd, f, g⟩
  · rcases r.who (x := x) (y := y) b with ⟨f', g'⟩ | ⟨t, ht, rfl, h1', sd', f', g'⟩
    · refine agree_of (-2000000000000000001) r ?_ ?_
      · unfold fX8_compare
        rw [cv_q s0T, f, bnd_some, on_none, cv_q s0T, f', bnd_some, on_none]
      · unfold fX9_compare
        rw [cv_q s9T, g, bnd_some, if10]
    · refine agree_of (-2000000000000000001) r ?_ ?_
      · unfold fX8_compare
        rw [cv_q s0T, f, bnd_some, on_none, cv_q s0T, f', bnd_some, on_some]
      · unfold fX9_compare
        rw [cv_q s9T, g, bnd_some, if10]
  · rcases r.who (x := x) (y := y) b with ⟨f', g'⟩ | ⟨t, ht, rfl, h1', td, f', g'⟩
    · refine agree_of (-2000000000000000001) r ?_ ?_
      · unfold fX8_compare
        rw [cv_q s0T, f, bnd_some, on_some, cv_q s0T, f', bnd_some, on_none]
      · unfold fX9_compare
        rw [cv_q s9T, g, bnd_some, if_pos rfl, cv_q s9T, g', bnd_some, if10]
    · have st := St_s hs
      have st' := St_s ht
      have sd0 := sd
      have td0 := td
      obtain ⟨⟨k1, k2, k3⟩, ⟨n1, n2, n3⟩, ⟨d1, d2⟩, -, hp, -, -, ro⟩ := sd
      obtain ⟨⟨k1', k2', k3'⟩, ⟨n1', n2', n3'⟩, ⟨d1', d2'⟩, -, hp', -, -, ro'⟩ := td
      have H := q_held (x := x) (y := y) st st' n1 n1' d1 d1' ⟨n2, n3⟩ ⟨n2', n3'⟩ d2 d2' (p := fun k => l 113 (60 * s + k)) (q := fun k => l 113 (60 * t + k)) (fun k hk => ⟨(hp k hk).1, (hp k hk).2.1⟩) (fun k hk => ⟨(hp' k hk).1, (hp' k hk).2.1⟩)
      have M := q_cmpL (i := i) (l := l) (x := x) (y := y) hs ht ⟨n2, n3⟩ ⟨n2', n3'⟩ d2 d2' (fun k hk => (hp k hk).2.1) (fun k hk => (hp' k hk).2.1) 61 0 1000 (by omega) (by omega)
      generalize hA (fun k => l 113 (60 * s + k)) (fun k => l 113 (60 * t + k)) (i 111 s) (i 111 t) (i 112 s) (i 112 t) 61 0 = v at H M
      have S := q_isSame (i := i) (l := l) (x := x) (y := y) st st' (by omega) (by omega) (fun z1 z2 => by
        obtain ⟨x1, x2, x3, x4, x5⟩ := (ro (by omega)).2.1.bnd
        obtain ⟨y1, y2, y3, y4, y5⟩ := (ro' (by omega)).2.1.bnd
        intro j h6 h9
        rcases (by omega : j = 6 ∨ j = 7 ∨ j = 8 ∨ j = 9) with rfl | rfl | rfl | rfl <;> omega)
      by_cases c : i (2 * s + 28) 2 = 1 ∧ i (2 * t + 28) 2 = 1 ∧ l (2 * s + 28) 6 = l (2 * t + 28) 6 ∧ l (2 * s + 28) 7 = l (2 * t + 28) 7 ∧ l (2 * s + 28) 8 = l (2 * t + 28) 8 ∧ l (2 * s + 28) 9 = l (2 * t + 28) 9
      · rw [ib, if_pos c] at S
        refine agree_of (J 0) r ?_ ?_
        · unfold fX8_compare
          rw [cv_q s0T, f, bnd_some, on_some, cv_q s0T, f', bnd_some, on_some, cv_q st.1.1, S, bnd_some, if_neg (by decide)]
          rfl
        · unfold fX9_compare
          rw [cv_q s9T, g, bnd_some, if_pos rfl, cv_q s9T, g', bnd_some, if_pos rfl]
          simp only [nk, jk, N_add, N_mul, N_sub, N_neg, J_add, J_mul, J_sub, J_neg]
          simp (disch := omega) only [↓iNlt_t, ↓iNlt_f, ↓iNle_t, ↓iNle_f, ↓iNeq_t, ↓iNeq_f, ↓iJlt_t, ↓iJlt_f, ↓iJle_t, ↓iJle_f, ↓iJeq_t, ↓iJeq_f, ↓iZlt_t, ↓iZlt_f, ↓iZle_t, ↓iZle_f, ↓iZeq_t, ↓iZeq_f, ↓iQlt_t, ↓iQlt_f, ↓iQle_t, ↓iQle_f, ↓iQeq_t, ↓iQeq_f, ↓iAnd_t, ↓iAnd_f, ↓iOr_t, ↓iOr_f, ↓iIff_t, ↓iIff_f, ↓iNot_t, ↓iNot_f, ↓iTrue, ↓iFalse, ↓ckN, ↓ckJ, ↓gIT, ↓gLT, ↓gRT, ↓cvT, ↓pIT, ↓pLT, ↓pZT, ↓asZ, ↓aNT, ↓arL, ↓asL, ↓arI, ↓asI, ↓aR_1, ↓bnd_some, ↓wh_eq, ↓on_some, ↓on_none, asZ, arL, asL, arI, asI, aR_1, bnd_some, wh_eq, on_some, on_none, tnT, tnU, tnL, nk, jk, N_add, N_mul, N_sub, N_neg, J_add, J_mul, J_sub, J_neg, N_J]
          rw [q_same hs ht sd0 td0 (by omega) (by omega), if_pos c.2.2]
      · rw [ib, if_neg c] at S
        refine agree_of (J v) r ?_ ?_
        · unfold fX8_compare
          rw [cv_q s0T, f, bnd_some, on_some, cv_q s0T, f', bnd_some, on_some, cv_q st.1.1, S, bnd_some, if_pos (by decide), cv_q st.1.1, H, bnd_some]
        · unfold fX9_compare
          rw [cv_q s9T, g, bnd_some, if_pos rfl, cv_q s9T, g', bnd_some, if_pos rfl]
          simp only [nk, jk, N_add, N_mul, N_sub, N_neg, J_add, J_mul, J_sub, J_neg]
          by_cases d1 : i 110 s = 1
          · by_cases d2 : i 110 t = 1
            · simp (disch := omega) only [↓iNlt_t, ↓iNlt_f, ↓iNle_t, ↓iNle_f, ↓iNeq_t, ↓iNeq_f, ↓iJlt_t, ↓iJlt_f, ↓iJle_t, ↓iJle_f, ↓iJeq_t, ↓iJeq_f, ↓iZlt_t, ↓iZlt_f, ↓iZle_t, ↓iZle_f, ↓iZeq_t, ↓iZeq_f, ↓iQlt_t, ↓iQlt_f, ↓iQle_t, ↓iQle_f, ↓iQeq_t, ↓iQeq_f, ↓iAnd_t, ↓iAnd_f, ↓iOr_t, ↓iOr_f, ↓iIff_t, ↓iIff_f, ↓iNot_t, ↓iNot_f, ↓iTrue, ↓iFalse, ↓ckN, ↓ckJ, ↓gIT, ↓gLT, ↓gRT, ↓cvT, ↓pIT, ↓pLT, ↓pZT, ↓asZ, ↓aNT, ↓arL, ↓asL, ↓arI, ↓asI, ↓aR_1, ↓bnd_some, ↓wh_eq, ↓on_some, ↓on_none, asZ, arL, asL, arI, asI, aR_1, bnd_some, wh_eq, on_some, on_none, tnT, tnU, tnL, nk, jk, N_add, N_mul, N_sub, N_neg, J_add, J_mul, J_sub, J_neg, N_J]
              rw [q_same hs ht sd0 td0 d1 d2, if_neg (fun z => c ⟨by omega, by omega, z⟩)]
              exact M
            · simp (disch := omega) only [↓iNlt_t, ↓iNlt_f, ↓iNle_t, ↓iNle_f, ↓iNeq_t, ↓iNeq_f, ↓iJlt_t, ↓iJlt_f, ↓iJle_t, ↓iJle_f, ↓iJeq_t, ↓iJeq_f, ↓iZlt_t, ↓iZlt_f, ↓iZle_t, ↓iZle_f, ↓iZeq_t, ↓iZeq_f, ↓iQlt_t, ↓iQlt_f, ↓iQle_t, ↓iQle_f, ↓iQeq_t, ↓iQeq_f, ↓iAnd_t, ↓iAnd_f, ↓iOr_t, ↓iOr_f, ↓iIff_t, ↓iIff_f, ↓iNot_t, ↓iNot_f, ↓iTrue, ↓iFalse, ↓ckN, ↓ckJ, ↓gIT, ↓gLT, ↓gRT, ↓cvT, ↓pIT, ↓pLT, ↓pZT, ↓asZ, ↓aNT, ↓arL, ↓asL, ↓arI, ↓asI, ↓aR_1, ↓bnd_some, ↓wh_eq, ↓on_some, ↓on_none, asZ, arL, asL, arI, asI, aR_1, bnd_some, wh_eq, on_some, on_none, tnT, tnU, tnL, nk, jk, N_add, N_mul, N_sub, N_neg, J_add, J_mul, J_sub, J_neg, N_J]
              exact M
          · simp (disch := omega) only [↓iNlt_t, ↓iNlt_f, ↓iNle_t, ↓iNle_f, ↓iNeq_t, ↓iNeq_f, ↓iJlt_t, ↓iJlt_f, ↓iJle_t, ↓iJle_f, ↓iJeq_t, ↓iJeq_f, ↓iZlt_t, ↓iZlt_f, ↓iZle_t, ↓iZle_f, ↓iZeq_t, ↓iZeq_f, ↓iQlt_t, ↓iQlt_f, ↓iQle_t, ↓iQle_f, ↓iQeq_t, ↓iQeq_f, ↓iAnd_t, ↓iAnd_f, ↓iOr_t, ↓iOr_f, ↓iIff_t, ↓iIff_f, ↓iNot_t, ↓iNot_f, ↓iTrue, ↓iFalse, ↓ckN, ↓ckJ, ↓gIT, ↓gLT, ↓gRT, ↓cvT, ↓pIT, ↓pLT, ↓pZT, ↓asZ, ↓aNT, ↓arL, ↓asL, ↓arI, ↓asI, ↓aR_1, ↓bnd_some, ↓wh_eq, ↓on_some, ↓on_none, asZ, arL, asL, arI, asI, aR_1, bnd_some, wh_eq, on_some, on_none, tnT, tnU, tnL, nk, jk, N_add, N_mul, N_sub, N_neg, J_add, J_mul, J_sub, J_neg, N_J]
            exact M
