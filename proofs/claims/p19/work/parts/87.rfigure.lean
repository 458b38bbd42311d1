/-! ===== figure of the reference ===== -/
section RFG
variable {ρ : Type} {i l : Nat → Nat → Int} {x y : Option Nat}
theorem q_narrow1 {a b c d e f : Int} : fX9_isNarrow 108 (hq (w1 i 108 0 1) (gnL l a b c d e f) x y) = some (N 0, hq (w1 i 108 0 1) (gnL l a b c d e f) x y) := by
  unfold fX9_isNarrow
  simp only [nk, jk, N_add, N_mul, N_sub, N_neg, J_add, J_mul, J_sub, J_neg]
  simp (disch := omega) only [↓iNlt_t, ↓iNlt_f, ↓iNle_t, ↓iNle_f, ↓iNeq_t, ↓iNeq_f, ↓iJlt_t, ↓iJlt_f, ↓iJle_t, ↓iJle_f, ↓iJeq_t, ↓iJeq_f, ↓iZlt_t, ↓iZlt_f, ↓iZle_t, ↓iZle_f, ↓iZeq_t, ↓iZeq_f, ↓iQlt_t, ↓iQlt_f, ↓iQle_t, ↓iQle_f, ↓iQeq_t, ↓iQeq_f, ↓iAnd_t, ↓iAnd_f, ↓iOr_t, ↓iOr_f, ↓iIff_t, ↓iIff_f, ↓iNot_t, ↓iNot_f, ↓iTrue, ↓iFalse, ↓ckN, ↓ckJ, ↓gIT, ↓gLT, ↓gRT, ↓cvT, ↓pIT, ↓pLT, ↓pZT, ↓asZ, ↓aNT, ↓arL, ↓asL, ↓arI, ↓asI, ↓aR_1, ↓bnd_some, ↓wh_eq, ↓on_some, ↓on_none, asZ, arL, asL, arI, asI, aR_1, bnd_some, wh_eq, on_some, on_none, tnT, tnU, tnL, nk, jk, N_add, N_mul, N_sub, N_neg, J_add, J_mul, J_sub, J_neg, N_J, w1_s]
theorem q_narrow0 {a b c d e f : Int} (ha : ¬ far a) (hb : ¬ far b) (hc : ¬ far c) (hd : ¬ far d) (hb0 : 0 ≤ b) (hd0 : 0 ≤ d) : fX9_isNarrow 108 (hq (w1 i 108 0 0) (gnL l a b c d e f) x y) = some (N (ib ((sml a ∧ sml (a + c)) ∧ sml b ∧ sml (b + d))), hq (w1 i 108 0 0) (gnL l a b c d e f) x y) := by
  unfold fX9_isNarrow ib
  simp only [nk, jk, N_add, N_mul, N_sub, N_neg, J_add, J_mul, J_sub, J_neg]
  by_cases c1 : sml a
  · by_cases c2 : sml b
    · by_cases c3 : sml (a + c)
      · by_cases c4 : sml (b + d)
        · simp (disch := omega) only [↓iNlt_t, ↓iNlt_f, ↓iNle_t, ↓iNle_f, ↓iNeq_t, ↓iNeq_f, ↓iJlt_t, ↓iJlt_f, ↓iJle_t, ↓iJle_f, ↓iJeq_t, ↓iJeq_f, ↓iZlt_t, ↓iZlt_f, ↓iZle_t, ↓iZle_f, ↓iZeq_t, ↓iZeq_f, ↓iQlt_t, ↓iQlt_f, ↓iQle_t, ↓iQle_f, ↓iQeq_t, ↓iQeq_f, ↓iAnd_t, ↓iAnd_f, ↓iOr_t, ↓iOr_f, ↓iIff_t, ↓iIff_f, ↓iNot_t, ↓iNot_f, ↓iTrue, ↓iFalse, ↓ckN, ↓ckJ, ↓gIT, ↓gLT, ↓gRT, ↓cvT, ↓pIT, ↓pLT, ↓pZT, ↓asZ, ↓aNT, ↓arL, ↓asL, ↓arI, ↓asI, ↓aR_1, ↓bnd_some, ↓wh_eq, ↓on_some, ↓on_none, asZ, arL, asL, arI, asI, aR_1, bnd_some, wh_eq, on_some, on_none, tnT, tnU, tnL, nk, jk, N_add, N_mul, N_sub, N_neg, J_add, J_mul, J_sub, J_neg, N_J, w1_s, gnL_g, ↓b_size]
        · simp (disch := omega) only [↓iNlt_t, ↓iNlt_f, ↓iNle_t, ↓iNle_f, ↓iNeq_t, ↓iNeq_f, ↓iJlt_t, ↓iJlt_f, ↓iJle_t, ↓iJle_f, ↓iJeq_t, ↓iJeq_f, ↓iZlt_t, ↓iZlt_f, ↓iZle_t, ↓iZle_f, ↓iZeq_t, ↓iZeq_f, ↓iQlt_t, ↓iQlt_f, ↓iQle_t, ↓iQle_f, ↓iQeq_t, ↓iQeq_f, ↓iAnd_t, ↓iAnd_f, ↓iOr_t, ↓iOr_f, ↓iIff_t, ↓iIff_f, ↓iNot_t, ↓iNot_f, ↓iTrue, ↓iFalse, ↓ckN, ↓ckJ, ↓gIT, ↓gLT, ↓gRT, ↓cvT, ↓pIT, ↓pLT, ↓pZT, ↓asZ, ↓aNT, ↓arL, ↓asL, ↓arI, ↓asI, ↓aR_1, ↓bnd_some, ↓wh_eq, ↓on_some, ↓on_none, asZ, arL, asL, arI, asI, aR_1, bnd_some, wh_eq, on_some, on_none, tnT, tnU, tnL, nk, jk, N_add, N_mul, N_sub, N_neg, J_add, J_mul, J_sub, J_neg, N_J, w1_s, gnL_g, ↓b_size]
      · simp (disch := omega) only [↓iNlt_t, ↓iNlt_f, ↓iNle_t, ↓iNle_f, ↓iNeq_t, ↓iNeq_f, ↓iJlt_t, ↓iJlt_f, ↓iJle_t, ↓iJle_f, ↓iJeq_t, ↓iJeq_f, ↓iZlt_t, ↓iZlt_f, ↓iZle_t, ↓iZle_f, ↓iZeq_t, ↓iZeq_f, ↓iQlt_t, ↓iQlt_f, ↓iQle_t, ↓iQle_f, ↓iQeq_t, ↓iQeq_f, ↓iAnd_t, ↓iAnd_f, ↓iOr_t, ↓iOr_f, ↓iIff_t, ↓iIff_f, ↓iNot_t, ↓iNot_f, ↓iTrue, ↓iFalse, ↓ckN, ↓ckJ, ↓gIT, ↓gLT, ↓gRT, ↓cvT, ↓pIT, ↓pLT, ↓pZT, ↓asZ, ↓aNT, ↓arL, ↓asL, ↓arI, ↓asI, ↓aR_1, ↓bnd_some, ↓wh_eq, ↓on_some, ↓on_none, asZ, arL, asL, arI, asI, aR_1, bnd_some, wh_eq, on_some, on_none, tnT, tnU, tnL, nk, jk, N_add, N_mul, N_sub, N_neg, J_add, J_mul, J_sub, J_neg, N_J, w1_s, gnL_g, ↓b_size]
    · simp (disch := omega) only [↓iNlt_t, ↓iNlt_f, ↓iNle_t, ↓iNle_f, ↓iNeq_t, ↓iNeq_f, ↓iJlt_t, ↓iJlt_f, ↓iJle_t, ↓iJle_f, ↓iJeq_t, ↓iJeq_f, ↓iZlt_t, ↓iZlt_f, ↓iZle_t, ↓iZle_f, ↓iZeq_t, ↓iZeq_f, ↓iQlt_t, ↓iQlt_f, ↓iQle_t, ↓iQle_f, ↓iQeq_t, ↓iQeq_f, ↓iAnd_t, ↓iAnd_f, ↓iOr_t, ↓iOr_f, ↓iIff_t, ↓iIff_f, ↓iNot_t, ↓iNot_f, ↓iTrue, ↓iFalse, ↓ckN, ↓ckJ, ↓gIT, ↓gLT, ↓gRT, ↓cvT, ↓pIT, ↓pLT, ↓pZT, ↓asZ, ↓aNT, ↓arL, ↓asL, ↓arI, ↓asI, ↓aR_1, ↓bnd_some, ↓wh_eq, ↓on_some, ↓on_none, asZ, arL, asL, arI, asI, aR_1, bnd_some, wh_eq, on_some, on_none, tnT, tnU, tnL, nk, jk, N_add, N_mul, N_sub, N_neg, J_add, J_mul, J_sub, J_neg, N_J, w1_s, gnL_g, ↓b_size]
  · simp (disch := omega) only [↓iNlt_t, ↓iNlt_f, ↓iNle_t, ↓iNle_f, ↓iNeq_t, ↓iNeq_f, ↓iJlt_t, ↓iJlt_f, ↓iJle_t, ↓iJle_f, ↓iJeq_t, ↓iJeq_f, ↓iZlt_t, ↓iZlt_f, ↓iZle_t, ↓iZle_f, ↓iZeq_t, ↓iZeq_f, ↓iQlt_t, ↓iQlt_f, ↓iQle_t, ↓iQle_f, ↓iQeq_t, ↓iQeq_f, ↓iAnd_t, ↓iAnd_f, ↓iOr_t, ↓iOr_f, ↓iIff_t, ↓iIff_f, ↓iNot_t, ↓iNot_f, ↓iTrue, ↓iFalse, ↓ckN, ↓ckJ, ↓gIT, ↓gLT, ↓gRT, ↓cvT, ↓pIT, ↓pLT, ↓pZT, ↓asZ, ↓aNT, ↓arL, ↓asL, ↓arI, ↓asI, ↓aR_1, ↓bnd_some, ↓wh_eq, ↓on_some, ↓on_none, asZ, arL, asL, arI, asI, aR_1, bnd_some, wh_eq, on_some, on_none, tnT, tnU, tnL, nk, jk, N_add, N_mul, N_sub, N_neg, J_add, J_mul, J_sub, J_neg, N_J, w1_s, gnL_g, ↓b_size]
theorem q_fig58 {s : Nat} (hs : s < 40) {p : Nat → Int} {n0 : Nat} (h1 : 1 ≤ n0) (hn0 : n0 ≤ 60) (hn : i 111 s = n0) (hp : ∀ k, k < n0 → l 113 (60 * s + k) = p k ∧ ¬ far (p k)) (hpos : ∀ j, 0 < j → j < n0 → 1 ≤ p j) {b : Int} (hb : 2 ≤ b ∧ b ≤ 36) {k : Nat} (hk : k ≤ 40) : ∀ (m j n : Nat), j + m = n0 → m + 1 ≤ n → j ≤ nK p n0 0 → ∀ e f : Int,
    ∃ b' c1 c2 c3 c4 c5 c6 : Int, fX9_figure_58L n 108 (N s) (N b) (N k) (N j) (hq (w1 i 108 0 0) (gnL l (ne p j).1.1 (ne p j).1.2 (ne p j).2.1 (ne p j).2.2 e f) x y) = some (J (figV p n0 1 b k), hq (w1 i 108 0 b') (gnL l c1 c2 c3 c4 c5 c6) x y) ∧ a01 b' := by
  have hK := nK_le p n0 0
  have n111 : ∀ v, w1 i 108 0 v 111 s = n0 := fun v => by rw [w1_na _ _ _ _ (by omega)]; exact hn
  intro m
  induction m with
  | zero =>
    intro j n hj hn' h2 e f
    obtain ⟨z, rfl⟩ : ∃ z, n = z + 1 := ⟨n - 1, by omega⟩
    obtain rfl : j = n0 := by omega
    obtain ⟨⟨f1, f2⟩, f3, f4⟩ := ne_far p j (fun q hq => nK_no p j 0 q (by omega) (by omega))
    obtain ⟨-, -, -, tp⟩ := ne_pos p j (fun q z1 z2 => hpos q z1 z2)
    have tp := tp (by omega)
    refine ⟨0, (ne p j).1.1, (ne p j).1.2, (ne p j).2.1, (ne p j).2.2, e, f, ?_, Or.inl rfl⟩
    unfold figV
    rw [if_pos rfl]
    show fX9_figure_58 (fX9_figure_58L z) 108 _ _ _ _ _ = _
    unfold fX9_figure_58 fX9_figure_98
    simp only [nk, jk, N_add, N_mul, N_sub, N_neg, J_add, J_mul, J_sub, J_neg]
    by_cases c : 1000000000000000 < 36 * (ne p j).1.2
    · rw [if_pos (show nK p j 0 < j ∨ 1000000000000000 < 36 * (ne p j).1.2 from Or.inr c)]
      simp (disch := omega) only [↓iNlt_t, ↓iNlt_f, ↓iNle_t, ↓iNle_f, ↓iNeq_t, ↓iNeq_f, ↓iJlt_t, ↓iJlt_f, ↓iJle_t, ↓iJle_f, ↓iJeq_t, ↓iJeq_f, ↓iZlt_t, ↓iZlt_f, ↓iZle_t, ↓iZle_f, ↓iZeq_t, ↓iZeq_f, ↓iQlt_t, ↓iQlt_f, ↓iQle_t, ↓iQle_f, ↓iQeq_t, ↓iQeq_f, ↓iAnd_t, ↓iAnd_f, ↓iOr_t, ↓iOr_f, ↓iIff_t, ↓iIff_f, ↓iNot_t, ↓iNot_f, ↓iTrue, ↓iFalse, ↓ckN, ↓ckJ, ↓gIT, ↓gLT, ↓gRT, ↓cvT, ↓pIT, ↓pLT, ↓pZT, ↓asZ, ↓aNT, ↓arL, ↓asL, ↓arI, ↓asI, ↓aR_1, ↓bnd_some, ↓wh_eq, ↓on_some, ↓on_none, asZ, arL, asL, arI, asI, aR_1, bnd_some, wh_eq, on_some, on_none, tnT, tnU, tnL, nk, jk, N_add, N_mul, N_sub, N_neg, J_add, J_mul, J_sub, J_neg, N_J, w1_s, n111, gnL_g, Jc5]
    · rw [if_neg (show ¬ (nK p j 0 < j ∨ 1000000000000000 < 36 * (ne p j).1.2) by omega)]
      have Q := q_figureOf (i := w1 i 108 0 0) (l := gnL l (ne p j).1.1 (ne p j).1.2 (ne p j).2.1 (ne p j).2.2 e f) (x := x) (y := y) (t := (ne p j).1.2) (b := b) (u := (ne p j).1.1) (by omega) hb (gnL_g _ _ _ _ _ _ _).2.1 (gnL_g _ _ _ _ _ _ _).1 (by omega) hk
      simp (disch := omega) only [↓iNlt_t, ↓iNlt_f, ↓iNle_t, ↓iNle_f, ↓iNeq_t, ↓iNeq_f, ↓iJlt_t, ↓iJlt_f, ↓iJle_t, ↓iJle_f, ↓iJeq_t, ↓iJeq_f, ↓iZlt_t, ↓iZlt_f, ↓iZle_t, ↓iZle_f, ↓iZeq_t, ↓iZeq_f, ↓iQlt_t, ↓iQlt_f, ↓iQle_t, ↓iQle_f, ↓iQeq_t, ↓iQeq_f, ↓iAnd_t, ↓iAnd_f, ↓iOr_t, ↓iOr_f, ↓iIff_t, ↓iIff_f, ↓iNot_t, ↓iNot_f, ↓iTrue, ↓iFalse, ↓ckN, ↓ckJ, ↓gIT, ↓gLT, ↓gRT, ↓cvT, ↓pIT, ↓pLT, ↓pZT, ↓asZ, ↓aNT, ↓arL, ↓asL, ↓arI, ↓asI, ↓aR_1, ↓bnd_some, ↓wh_eq, ↓on_some, ↓on_none, asZ, arL, asL, arI, asI, aR_1, bnd_some, wh_eq, on_some, on_none, tnT, tnU, tnL, nk, jk, N_add, N_mul, N_sub, N_neg, J_add, J_mul, J_sub, J_neg, N_J, w1_s, n111, gnL_g, ↓bq Q]
  | succ m ih =>
    intro j n hj hn' h2 e f
    obtain ⟨z, rfl⟩ : ∃ z, n = z + 1 := ⟨n - 1, by omega⟩
    obtain ⟨p1, p2⟩ := hp j (by omega)
    have p1' : ∀ a b c d e f, gnL l a b c d e f 113 (60 * s + j) = p j := fun a b c d e f => by rw [gnL_n _ _ _ _ _ _ _ (by omega)]; exact p1
    obtain ⟨⟨f1, f2⟩, f3, f4⟩ := ne_far p j (fun q hq => nK_no p n0 0 q (by omega) (by omega))
    obtain ⟨v, w', G, hv⟩ := q_goNear (i := i) (l := l) (x := x) (y := y) e f p2 f1 f2 f3 f4
    by_cases cF : neF p j
    · have hKj : nK p n0 0 = j := by
        rcases Nat.lt_or_ge j (nK p n0 0) with z | z
        · exact absurd cF (nK_no p n0 0 j (by omega) z)
        · omega
      rw [ibT cF] at G
      obtain ⟨z, rfl⟩ : ∃ q, z = q + 1 := ⟨z - 1, by omega⟩
      refine ⟨1, v, w', (ne p j).1.1, (ne p j).1.2, (ne p j).2.1, (ne p j).2.2, ?_, Or.inr rfl⟩
      have V : figV p n0 1 b k = -2000000000000000005 := by unfold figV; rw [if_pos rfl, if_pos (by omega)]
      have T : fX9_figure_58L (z + 1) 108 (N s) (N b) (N k) (N ((j : Int) + 1)) (hq (w1 i 108 0 1) (gnL l v w' (ne p j).1.1 (ne p j).1.2 (ne p j).2.1 (ne p j).2.2) x y) = some (J (figV p n0 1 b k), hq (w1 i 108 0 1) (gnL l v w' (ne p j).1.1 (ne p j).1.2 (ne p j).2.1 (ne p j).2.2) x y) := by
        show fX9_figure_58 (fX9_figure_58L z) 108 _ _ _ _ _ = _
        unfold fX9_figure_58 fX9_figure_98
        simp only [nk, jk, N_add, N_mul, N_sub, N_neg, J_add, J_mul, J_sub, J_neg]
        by_cases q2 : n0 ≤ j + 1
        · simp (disch := omega) only [↓iNlt_t, ↓iNlt_f, ↓iNle_t, ↓iNle_f, ↓iNeq_t, ↓iNeq_f, ↓iJlt_t, ↓iJlt_f, ↓iJle_t, ↓iJle_f, ↓iJeq_t, ↓iJeq_f, ↓iZlt_t, ↓iZlt_f, ↓iZle_t, ↓iZle_f, ↓iZeq_t, ↓iZeq_f, ↓iQlt_t, ↓iQlt_f, ↓iQle_t, ↓iQle_f, ↓iQeq_t, ↓iQeq_f, ↓iAnd_t, ↓iAnd_f, ↓iOr_t, ↓iOr_f, ↓iIff_t, ↓iIff_f, ↓iNot_t, ↓iNot_f, ↓iTrue, ↓iFalse, ↓ckN, ↓ckJ, ↓gIT, ↓gLT, ↓gRT, ↓cvT, ↓pIT, ↓pLT, ↓pZT, ↓asZ, ↓aNT, ↓arL, ↓asL, ↓arI, ↓asI, ↓aR_1, ↓bnd_some, ↓wh_eq, ↓on_some, ↓on_none, asZ, arL, asL, arI, asI, aR_1, bnd_some, wh_eq, on_some, on_none, tnT, tnU, tnL, nk, jk, N_add, N_mul, N_sub, N_neg, J_add, J_mul, J_sub, J_neg, N_J, w1_s, n111, V, Jc5]
        · simp (disch := omega) only [↓iNlt_t, ↓iNlt_f, ↓iNle_t, ↓iNle_f, ↓iNeq_t, ↓iNeq_f, ↓iJlt_t, ↓iJlt_f, ↓iJle_t, ↓iJle_f, ↓iJeq_t, ↓iJeq_f, ↓iZlt_t, ↓iZlt_f, ↓iZle_t, ↓iZle_f, ↓iZeq_t, ↓iZeq_f, ↓iQlt_t, ↓iQlt_f, ↓iQle_t, ↓iQle_f, ↓iQeq_t, ↓iQeq_f, ↓iAnd_t, ↓iAnd_f, ↓iOr_t, ↓iOr_f, ↓iIff_t, ↓iIff_f, ↓iNot_t, ↓iNot_f, ↓iTrue, ↓iFalse, ↓ckN, ↓ckJ, ↓gIT, ↓gLT, ↓gRT, ↓cvT, ↓pIT, ↓pLT, ↓pZT, ↓asZ, ↓aNT, ↓arL, ↓asL, ↓arI, ↓asI, ↓aR_1, ↓bnd_some, ↓wh_eq, ↓on_some, ↓on_none, asZ, arL, asL, arI, asI, aR_1, bnd_some, wh_eq, on_some, on_none, tnT, tnU, tnL, nk, jk, N_add, N_mul, N_sub, N_neg, J_add, J_mul, J_sub, J_neg, N_J, w1_s, n111, V, Jc5]
      show fX9_figure_58 (fX9_figure_58L (z + 1)) 108 _ _ _ _ _ = _
      unfold fX9_figure_58
      simp only [nk, jk, N_add, N_mul, N_sub, N_neg, J_add, J_mul, J_sub, J_neg]
      simp (disch := omega) only [↓iNlt_t, ↓iNlt_f, ↓iNle_t, ↓iNle_f, ↓iNeq_t, ↓iNeq_f, ↓iJlt_t, ↓iJlt_f, ↓iJle_t, ↓iJle_f, ↓iJeq_t, ↓iJeq_f, ↓iZlt_t, ↓iZlt_f, ↓iZle_t, ↓iZle_f, ↓iZeq_t, ↓iZeq_f, ↓iQlt_t, ↓iQlt_f, ↓iQle_t, ↓iQle_f, ↓iQeq_t, ↓iQeq_f, ↓iAnd_t, ↓iAnd_f, ↓iOr_t, ↓iOr_f, ↓iIff_t, ↓iIff_f, ↓iNot_t, ↓iNot_f, ↓iTrue, ↓iFalse, ↓ckN, ↓ckJ, ↓gIT, ↓gLT, ↓gRT, ↓cvT, ↓pIT, ↓pLT, ↓pZT, ↓asZ, ↓aNT, ↓arL, ↓asL, ↓arI, ↓asI, ↓aR_1, ↓bnd_some, ↓wh_eq, ↓on_some, ↓on_none, asZ, arL, asL, arI, asI, aR_1, bnd_some, wh_eq, on_some, on_none, tnT, tnU, tnL, nk, jk, N_add, N_mul, N_sub, N_neg, J_add, J_mul, J_sub, J_neg, N_J, w1_s, n111, p1', ↓bq G]
      exact T
    · rw [ibF cF] at G
      obtain ⟨hv1, hv2⟩ := hv cF
      subst hv1 hv2
      have hKj : j + 1 ≤ nK p n0 0 := by
        rcases Nat.lt_or_ge j (nK p n0 0) with z | z
        · omega
        · exact absurd (by rw [show j = nK p n0 0 by omega]; exact nK_at p n0 0 (by omega)) cF
      obtain ⟨b', c1, c2, c3, c4, c5, c6, h, hb'⟩ := ih (j + 1) z (by omega) (by omega) hKj (ne p j).2.1 (ne p j).2.2
      refine ⟨b', c1, c2, c3, c4, c5, c6, ?_, hb'⟩
      rw [← h]
      show fX9_figure_58 (fX9_figure_58L z) 108 _ _ _ _ _ = _
      unfold fX9_figure_58
      simp only [nk, jk, N_add, N_mul, N_sub, N_neg, J_add, J_mul, J_sub, J_neg]
      simp (disch := omega) only [↓iNlt_t, ↓iNlt_f, ↓iNle_t, ↓iNle_f, ↓iNeq_t, ↓iNeq_f, ↓iJlt_t, ↓iJlt_f, ↓iJle_t, ↓iJle_f, ↓iJeq_t, ↓iJeq_f, ↓iZlt_t, ↓iZlt_f, ↓iZle_t, ↓iZle_f, ↓iZeq_t, ↓iZeq_f, ↓iQlt_t, ↓iQlt_f, ↓iQle_t, ↓iQle_f, ↓iQeq_t, ↓iQeq_f, ↓iAnd_t, ↓iAnd_f, ↓iOr_t, ↓iOr_f, ↓iIff_t, ↓iIff_f, ↓iNot_t, ↓iNot_f, ↓iTrue, ↓iFalse, ↓ckN, ↓ckJ, ↓gIT, ↓gLT, ↓gRT, ↓cvT, ↓pIT, ↓pLT, ↓pZT, ↓asZ, ↓aNT, ↓arL, ↓asL, ↓arI, ↓asI, ↓aR_1, ↓bnd_some, ↓wh_eq, ↓on_some, ↓on_none, asZ, arL, asL, arI, asI, aR_1, bnd_some, wh_eq, on_some, on_none, tnT, tnU, tnL, nk, jk, N_add, N_mul, N_sub, N_neg, J_add, J_mul, J_sub, J_neg, N_J, w1_s, n111, p1', ↓bq G]
      rfl
theorem q_fig238 {p : Nat → Int} {n0 : Nat} (hn0 : n0 ≤ 60) (hpos : ∀ j, 0 < j → j < n0 → 1 ≤ p j) {b : Int} (hb : 2 ≤ b ∧ b ≤ 36) {k : Nat} (hk : k ≤ 40) (h : AH) {a1 a2 a3 a4 : Int} (ha : 0 < sK p n0 0 → a1 = (ne p (sK p n0 0)).1.1 ∧ a2 = (ne p (sK p n0 0)).1.2 ∧ a3 = (ne p (sK p n0 0)).1.1 + (ne p (sK p n0 0)).2.1 ∧ a4 = (ne p (sK p n0 0)).1.2 + (ne p (sK p n0 0)).2.2) :
    fX9_figure_238 (N b) (N k) (J a1) (J a2) (J a3) (J a4) (N ((sK p n0 0 : Int) - 1)) h = some (J (figV p n0 0 b k), h) := by
  have hS := sK_le p n0 0
  have hSK := sK_nK p n0 0
  unfold figV
  rw [if_neg (by decide)]
  by_cases c : sK p n0 0 = 0
  · rw [if_pos c, c]
    unfold fX9_figure_238
    simp only [nk, jk, N_add, N_mul, N_sub, N_neg, J_add, J_mul, J_sub, J_neg]
    simp (disch := omega) only [↓iNlt_t, ↓iNlt_f, ↓iNle_t, ↓iNle_f, ↓iNeq_t, ↓iNeq_f, ↓iJlt_t, ↓iJlt_f, ↓iJle_t, ↓iJle_f, ↓iJeq_t, ↓iJeq_f, ↓iZlt_t, ↓iZlt_f, ↓iZle_t, ↓iZle_f, ↓iZeq_t, ↓iZeq_f, ↓iQlt_t, ↓iQlt_f, ↓iQle_t, ↓iQle_f, ↓iQeq_t, ↓iQeq_f, ↓iAnd_t, ↓iAnd_f, ↓iOr_t, ↓iOr_f, ↓iIff_t, ↓iIff_f, ↓iNot_t, ↓iNot_f, ↓iTrue, ↓iFalse, ↓ckN, ↓ckJ, ↓gIT, ↓gLT, ↓gRT, ↓cvT, ↓pIT, ↓pLT, ↓pZT, ↓asZ, ↓aNT, ↓arL, ↓asL, ↓arI, ↓asI, ↓aR_1, ↓bnd_some, ↓wh_eq, ↓on_some, ↓on_none, asZ, arL, asL, arI, asI, aR_1, bnd_some, wh_eq, on_some, on_none, tnT, tnU, tnL, nk, jk, N_add, N_mul, N_sub, N_neg, J_add, J_mul, J_sub, J_neg, N_J, Jc5]
  · rw [if_neg c]
    obtain ⟨k0, hk0⟩ : ∃ k0, sK p n0 0 = k0 + 1 := ⟨sK p n0 0 - 1, by omega⟩
    have hnar := sK_no p n0 0 k0 (by omega) (by omega)
    obtain ⟨⟨g1, g2⟩, g3, g4⟩ : nar p k0 := by
      rcases Classical.em (nar p k0) with z | z
      · exact z
      · exact absurd (Or.inr z) hnar
    obtain ⟨t1, t2, t3, t4⟩ := ne_pos p (k0 + 1) (fun j z1 z2 => hpos j z1 (by omega))
    have t4 := t4 (by omega)
    obtain ⟨b1, b2, b3, b4⟩ := ha (by omega)
    have n2 : (ne p (k0 + 1)).2 = (ne p k0).1 := rfl
    rw [n2] at t2 t3
    have rm := k2N k0 (by omega)
    have kk : (((k0 + 1 : Nat) : Int) - 1) = (k0 : Int) := by omega
    rw [hk0, n2] at b3 b4
    rw [hk0] at b1 b2
    rw [hk0, kk, n2, b1, b2, b3, b4]
    unfold fX9_figure_238 fX9_figure_273 fX9_figure_297
    generalize (ne p (k0 + 1)).1.1 = sv at *
    generalize (ne p (k0 + 1)).1.2 = tv at *
    generalize (ne p k0).1.1 = s1 at *
    generalize (ne p k0).1.2 = t1' at *
    simp only [nk, jk, N_add, N_mul, N_sub, N_neg, J_add, J_mul, J_sub, J_neg]
    by_cases ev : k0 % 2 = 0
    · rw [if_pos (show (k0 + 1) % 2 = 1 by omega)]
      have Q := q_sameF (v := tv) (y' := tv + t1') (b := b) (u := sv) (w := sv + s1) (by omega) (by omega) hb hk (by omega) (by omega) h
      simp (disch := omega) only [↓iNlt_t, ↓iNlt_f, ↓iNle_t, ↓iNle_f, ↓iNeq_t, ↓iNeq_f, ↓iJlt_t, ↓iJlt_f, ↓iJle_t, ↓iJle_f, ↓iJeq_t, ↓iJeq_f, ↓iZlt_t, ↓iZlt_f, ↓iZle_t, ↓iZle_f, ↓iZeq_t, ↓iZeq_f, ↓iQlt_t, ↓iQlt_f, ↓iQle_t, ↓iQle_f, ↓iQeq_t, ↓iQeq_f, ↓iAnd_t, ↓iAnd_f, ↓iOr_t, ↓iOr_f, ↓iIff_t, ↓iIff_f, ↓iNot_t, ↓iNot_f, ↓iTrue, ↓iFalse, ↓ckN, ↓ckJ, ↓gIT, ↓gLT, ↓gRT, ↓cvT, ↓pIT, ↓pLT, ↓pZT, ↓asZ, ↓aNT, ↓arL, ↓asL, ↓arI, ↓asI, ↓aR_1, ↓bnd_some, ↓wh_eq, ↓on_some, ↓on_none, asZ, arL, asL, arI, asI, aR_1, bnd_some, wh_eq, on_some, on_none, tnT, tnU, tnL, nk, jk, N_add, N_mul, N_sub, N_neg, J_add, J_mul, J_sub, J_neg, N_J, rm, ev, ↓bq Q]
    · rw [if_neg (show ¬ (k0 + 1) % 2 = 1 by omega)]
      have Q := q_sameF (v := tv + t1') (y' := tv) (b := b) (u := sv + s1) (w := sv) (by omega) (by omega) hb hk (by omega) (by omega) h
      simp (disch := omega) only [↓iNlt_t, ↓iNlt_f, ↓iNle_t, ↓iNle_f, ↓iNeq_t, ↓iNeq_f, ↓iJlt_t, ↓iJlt_f, ↓iJle_t, ↓iJle_f, ↓iJeq_t, ↓iJeq_f, ↓iZlt_t, ↓iZlt_f, ↓iZle_t, ↓iZle_f, ↓iZeq_t, ↓iZeq_f, ↓iQlt_t, ↓iQlt_f, ↓iQle_t, ↓iQle_f, ↓iQeq_t, ↓iQeq_f, ↓iAnd_t, ↓iAnd_f, ↓iOr_t, ↓iOr_f, ↓iIff_t, ↓iIff_f, ↓iNot_t, ↓iNot_f, ↓iTrue, ↓iFalse, ↓ckN, ↓ckJ, ↓gIT, ↓gLT, ↓gRT, ↓cvT, ↓pIT, ↓pLT, ↓pZT, ↓asZ, ↓aNT, ↓arL, ↓asL, ↓arI, ↓asI, ↓aR_1, ↓bnd_some, ↓wh_eq, ↓on_some, ↓on_none, asZ, arL, asL, arI, asI, aR_1, bnd_some, wh_eq, on_some, on_none, tnT, tnU, tnL, nk, jk, N_add, N_mul, N_sub, N_neg, J_add, J_mul, J_sub, J_neg, N_J, rm, ↓bq Q]
theorem q_fig151 {s : Nat} (hs : s < 40) {p : Nat → Int} {n0 : Nat} (hn0 : n0 ≤ 60) (hn : i 111 s = n0) (hp : ∀ k, k < n0 → l 113 (60 * s + k) = p k ∧ ¬ far (p k)) (hpos : ∀ j, 0 < j → j < n0 → 1 ≤ p j) {b : Int} (hb : 2 ≤ b ∧ b ≤ 36) {k : Nat} (hk : k ≤ 40) : ∀ (m j n : Nat), j + m = n0 → m + 2 ≤ n → j ≤ sK p n0 0 → sK p m j = sK p n0 0 → ∀ a1 a2 a3 a4 e f : Int, (0 < j → a1 = (ne p j).1.1 ∧ a2 = (ne p j).1.2 ∧ a3 = (ne p j).1.1 + (ne p j).2.1 ∧ a4 = (ne p j).1.2 + (ne p j).2.2) →
    ∃ b' c1 c2 c3 c4 c5 c6 : Int, fX9_figure_151L n 108 (N s) (N b) (N k) (J a1) (J a2) (J a3) (J a4) (N ((j : Int) - 1)) (N j) (hq (w1 i 108 0 0) (gnL l (ne p j).1.1 (ne p j).1.2 (ne p j).2.1 (ne p j).2.2 e f) x y) = some (J (figV p n0 0 b k), hq (w1 i 108 0 b') (gnL l c1 c2 c3 c4 c5 c6) x y) ∧ a01 b' := by
  have hS := sK_le p n0 0
  have hSK := sK_nK p n0 0
  have hK := nK_le p n0 0
  have n111 : ∀ v, w1 i 108 0 v 111 s = n0 := fun v => by rw [w1_na _ _ _ _ (by omega)]; exact hn
  intro m
  induction m with
  | zero =>
    intro j n hj hn' h2 h3 a1 a2 a3 a4 e f ha
    obtain ⟨z, rfl⟩ : ∃ z, n = z + 1 := ⟨n - 1, by omega⟩
    rw [sK_0] at h3
    refine ⟨0, (ne p j).1.1, (ne p j).1.2, (ne p j).2.1, (ne p j).2.2, e, f, ?_, Or.inl rfl⟩
    have E := q_fig238 (p := p) hn0 hpos hb hk (hq (w1 i 108 0 0) (gnL l (ne p j).1.1 (ne p j).1.2 (ne p j).2.1 (ne p j).2.2 e f) x y) (a1 := a1) (a2 := a2) (a3 := a3) (a4 := a4) (by rw [← h3]; exact ha)
    rw [← h3] at E
    rw [← E]
    show fX9_figure_151 (fX9_figure_151L z) 108 _ _ _ _ _ _ _ _ _ _ = _
    unfold fX9_figure_151
    simp only [nk, jk, N_add, N_mul, N_sub, N_neg, J_add, J_mul, J_sub, J_neg]
    simp (disch := omega) only [↓iNlt_t, ↓iNlt_f, ↓iNle_t, ↓iNle_f, ↓iNeq_t, ↓iNeq_f, ↓iJlt_t, ↓iJlt_f, ↓iJle_t, ↓iJle_f, ↓iJeq_t, ↓iJeq_f, ↓iZlt_t, ↓iZlt_f, ↓iZle_t, ↓iZle_f, ↓iZeq_t, ↓iZeq_f, ↓iQlt_t, ↓iQlt_f, ↓iQle_t, ↓iQle_f, ↓iQeq_t, ↓iQeq_f, ↓iAnd_t, ↓iAnd_f, ↓iOr_t, ↓iOr_f, ↓iIff_t, ↓iIff_f, ↓iNot_t, ↓iNot_f, ↓iTrue, ↓iFalse, ↓ckN, ↓ckJ, ↓gIT, ↓gLT, ↓gRT, ↓cvT, ↓pIT, ↓pLT, ↓pZT, ↓asZ, ↓aNT, ↓arL, ↓asL, ↓arI, ↓asI, ↓aR_1, ↓bnd_some, ↓wh_eq, ↓on_some, ↓on_none, asZ, arL, asL, arI, asI, aR_1, bnd_some, wh_eq, on_some, on_none, tnT, tnU, tnL, nk, jk, N_add, N_mul, N_sub, N_neg, J_add, J_mul, J_sub, J_neg, N_J, w1_s, n111]
  | succ m ih =>
    intro j n hj hn' h2 h3 a1 a2 a3 a4 e f ha
    obtain ⟨z, rfl⟩ : ∃ z, n = z + 1 := ⟨n - 1, by omega⟩
    obtain ⟨p1, p2⟩ := hp j (by omega)
    have p1' : ∀ a b c d e f, gnL l a b c d e f 113 (60 * s + j) = p j := fun a b c d e f => by rw [gnL_n _ _ _ _ _ _ _ (by omega)]; exact p1
    obtain ⟨⟨f1, f2⟩, f3, f4⟩ := ne_far p j (fun q hq => nK_no p n0 0 q (by omega) (by omega))
    obtain ⟨v, w', G, hv⟩ := q_goNear (i := i) (l := l) (x := x) (y := y) e f p2 f1 f2 f3 f4
    rw [sK_s] at h3
    -- the end, at the next turn
    have X : sK p n0 0 = j → ∀ (b' v w : Int) (hq' : a01 b'), ∃ c1 c2 c3 c4 c5 c6 : Int, fX9_figure_151L z 108 (N s) (N b) (N k) (J a1) (J a2) (J a3) (J a4) (N ((j : Int) - 1)) (N ((j : Int) + 1)) (hq (w1 i 108 0 b') (gnL l v w (ne p j).1.1 (ne p j).1.2 (ne p j).2.1 (ne p j).2.2) x y) = some (J (figV p n0 0 b k), hq (w1 i 108 0 b') (gnL l c1 c2 c3 c4 c5 c6) x y) := by
      intro hj' b' v w hq'
      obtain ⟨z, rfl⟩ : ∃ q, z = q + 1 := ⟨z - 1, by omega⟩
      refine ⟨v, w, (ne p j).1.1, (ne p j).1.2, (ne p j).2.1, (ne p j).2.2, ?_⟩
      have E := q_fig238 (p := p) hn0 hpos hb hk (hq (w1 i 108 0 b') (gnL l v w (ne p j).1.1 (ne p j).1.2 (ne p j).2.1 (ne p j).2.2) x y) (a1 := a1) (a2 := a2) (a3 := a3) (a4 := a4) (by rw [hj']; exact ha)
      rw [hj'] at E
      rw [← E]
      show fX9_figure_151 (fX9_figure_151L z) 108 _ _ _ _ _ _ _ _ _ _ = _
      unfold fX9_figure_151
      simp only [nk, jk, N_add, N_mul, N_sub, N_neg, J_add, J_mul, J_sub, J_neg]
      by_cases q2 : n0 ≤ j + 1
      · simp (disch := omega) only [↓iNlt_t, ↓iNlt_f, ↓iNle_t, ↓iNle_f, ↓iNeq_t, ↓iNeq_f, ↓iJlt_t, ↓iJlt_f, ↓iJle_t, ↓iJle_f, ↓iJeq_t, ↓iJeq_f, ↓iZlt_t, ↓iZlt_f, ↓iZle_t, ↓iZle_f, ↓iZeq_t, ↓iZeq_f, ↓iQlt_t, ↓iQlt_f, ↓iQle_t, ↓iQle_f, ↓iQeq_t, ↓iQeq_f, ↓iAnd_t, ↓iAnd_f, ↓iOr_t, ↓iOr_f, ↓iIff_t, ↓iIff_f, ↓iNot_t, ↓iNot_f, ↓iTrue, ↓iFalse, ↓ckN, ↓ckJ, ↓gIT, ↓gLT, ↓gRT, ↓cvT, ↓pIT, ↓pLT, ↓pZT, ↓asZ, ↓aNT, ↓arL, ↓asL, ↓arI, ↓asI, ↓aR_1, ↓bnd_some, ↓wh_eq, ↓on_some, ↓on_none, asZ, arL, asL, arI, asI, aR_1, bnd_some, wh_eq, on_some, on_none, tnT, tnU, tnL, nk, jk, N_add, N_mul, N_sub, N_neg, J_add, J_mul, J_sub, J_neg, N_J, w1_s, n111]
      · simp (disch := omega) only [↓iNlt_t, ↓iNlt_f, ↓iNle_t, ↓iNle_f, ↓iNeq_t, ↓iNeq_f, ↓iJlt_t, ↓iJlt_f, ↓iJle_t, ↓iJle_f, ↓iJeq_t, ↓iJeq_f, ↓iZlt_t, ↓iZlt_f, ↓iZle_t, ↓iZle_f, ↓iZeq_t, ↓iZeq_f, ↓iQlt_t, ↓iQlt_f, ↓iQle_t, ↓iQle_f, ↓iQeq_t, ↓iQeq_f, ↓iAnd_t, ↓iAnd_f, ↓iOr_t, ↓iOr_f, ↓iIff_t, ↓iIff_f, ↓iNot_t, ↓iNot_f, ↓iTrue, ↓iFalse, ↓ckN, ↓ckJ, ↓gIT, ↓gLT, ↓gRT, ↓cvT, ↓pIT, ↓pLT, ↓pZT, ↓asZ, ↓aNT, ↓arL, ↓asL, ↓arI, ↓asI, ↓aR_1, ↓bnd_some, ↓wh_eq, ↓on_some, ↓on_none, asZ, arL, asL, arI, asI, aR_1, bnd_some, wh_eq, on_some, on_none, tnT, tnU, tnL, nk, jk, N_add, N_mul, N_sub, N_neg, J_add, J_mul, J_sub, J_neg, N_J, w1_s, n111]
    by_cases cF : neF p j
    · rw [ibT cF] at G
      rw [if_pos (Or.inl cF)] at h3
      obtain ⟨c1, c2, c3, c4, c5, c6, T⟩ := X h3.symm 1 v w' (Or.inr rfl)
      refine ⟨1, c1, c2, c3, c4, c5, c6, ?_, Or.inr rfl⟩
      rw [← T]
      show fX9_figure_151 (fX9_figure_151L z) 108 _ _ _ _ _ _ _ _ _ _ = _
      unfold fX9_figure_151
      simp only [nk, jk, N_add, N_mul, N_sub, N_neg, J_add, J_mul, J_sub, J_neg]
      simp (disch := omega) only [↓iNlt_t, ↓iNlt_f, ↓iNle_t, ↓iNle_f, ↓iNeq_t, ↓iNeq_f, ↓iJlt_t, ↓iJlt_f, ↓iJle_t, ↓iJle_f, ↓iJeq_t, ↓iJeq_f, ↓iZlt_t, ↓iZlt_f, ↓iZle_t, ↓iZle_f, ↓iZeq_t, ↓iZeq_f, ↓iQlt_t, ↓iQlt_f, ↓iQle_t, ↓iQle_f, ↓iQeq_t, ↓iQeq_f, ↓iAnd_t, ↓iAnd_f, ↓iOr_t, ↓iOr_f, ↓iIff_t, ↓iIff_f, ↓iNot_t, ↓iNot_f, ↓iTrue, ↓iFalse, ↓ckN, ↓ckJ, ↓gIT, ↓gLT, ↓gRT, ↓cvT, ↓pIT, ↓pLT, ↓pZT, ↓asZ, ↓aNT, ↓arL, ↓asL, ↓arI, ↓asI, ↓aR_1, ↓bnd_some, ↓wh_eq, ↓on_some, ↓on_none, asZ, arL, asL, arI, asI, aR_1, bnd_some, wh_eq, on_some, on_none, tnT, tnU, tnL, nk, jk, N_add, N_mul, N_sub, N_neg, J_add, J_mul, J_sub, J_neg, N_J, w1_s, n111, p1', ↓bq G, ↓bq q_narrow1]
    · rw [ibF cF] at G
      obtain ⟨hv1, hv2⟩ := hv cF
      subst hv1 hv2
      obtain ⟨⟨k1, k2⟩, k3, k4⟩ := ne_far p (j + 1) (fun q hq => by
        by_cases e : q = j
        · rw [e]; exact cF
        · exact nK_no p n0 0 q (by omega) (by omega))
      obtain ⟨t1, t2, t3, t4⟩ := ne_pos p (j + 1) (fun q z1 z2 => hpos q z1 (by omega))
      have Na := q_narrow0 (i := i) (l := l) (x := x) (y := y) (a := (ne p (j + 1)).1.1) (b := (ne p (j + 1)).1.2) (c := (ne p (j + 1)).2.1) (d := (ne p (j + 1)).2.2) (e := (ne p j).2.1) (f := (ne p j).2.2) k1 k2 k3 k4 t1 t2
      by_cases cN : nar p j
      · rw [if_neg (by rintro (z | z) <;> contradiction)] at h3
        rw [ibT (show (sml (ne p (j + 1)).1.1 ∧ sml ((ne p (j + 1)).1.1 + (ne p (j + 1)).2.1)) ∧ sml (ne p (j + 1)).1.2 ∧ sml ((ne p (j + 1)).1.2 + (ne p (j + 1)).2.2) from cN)] at Na
        have hj2 : j + 1 ≤ sK p n0 0 := by
          have := sK_le p m (j + 1)
          omega
        obtain ⟨b', c1, c2, c3, c4, c5, c6, h, hb'⟩ := ih (j + 1) z (by omega) (by omega) hj2 h3 (ne p (j + 1)).1.1 (ne p (j + 1)).1.2 ((ne p (j + 1)).1.1 + (ne p (j + 1)).2.1) ((ne p (j + 1)).1.2 + (ne p (j + 1)).2.2) (ne p j).2.1 (ne p j).2.2 (fun _ => ⟨rfl, rfl, rfl, rfl⟩)
        refine ⟨b', c1, c2, c3, c4, c5, c6, ?_, hb'⟩
        rw [← h, show (((j + 1 : Nat) : Int) - 1) = (j : Int) by omega]
        have G : _ = some ((), hq (w1 i 108 0 0) (gnL l (ne p (j + 1)).1.1 (ne p (j + 1)).1.2 (ne p (j + 1)).2.1 (ne p (j + 1)).2.2 (ne p j).2.1 (ne p j).2.2) x y) := G
        show fX9_figure_151 (fX9_figure_151L z) 108 _ _ _ _ _ _ _ _ _ _ = _
        unfold fX9_figure_151
        simp only [nk, jk, N_add, N_mul, N_sub, N_neg, J_add, J_mul, J_sub, J_neg]
        simp (disch := omega) only [↓iNlt_t, ↓iNlt_f, ↓iNle_t, ↓iNle_f, ↓iNeq_t, ↓iNeq_f, ↓iJlt_t, ↓iJlt_f, ↓iJle_t, ↓iJle_f, ↓iJeq_t, ↓iJeq_f, ↓iZlt_t, ↓iZlt_f, ↓iZle_t, ↓iZle_f, ↓iZeq_t, ↓iZeq_f, ↓iQlt_t, ↓iQlt_f, ↓iQle_t, ↓iQle_f, ↓iQeq_t, ↓iQeq_f, ↓iAnd_t, ↓iAnd_f, ↓iOr_t, ↓iOr_f, ↓iIff_t, ↓iIff_f, ↓iNot_t, ↓iNot_f, ↓iTrue, ↓iFalse, ↓ckN, ↓ckJ, ↓gIT, ↓gLT, ↓gRT, ↓cvT, ↓pIT, ↓pLT, ↓pZT, ↓asZ, ↓aNT, ↓arL, ↓asL, ↓arI, ↓asI, ↓aR_1, ↓bnd_some, ↓wh_eq, ↓on_some, ↓on_none, asZ, arL, asL, arI, asI, aR_1, bnd_some, wh_eq, on_some, on_none, tnT, tnU, tnL, nk, jk, N_add, N_mul, N_sub, N_neg, J_add, J_mul, J_sub, J_neg, N_J, w1_s, n111, p1', ↓bq G, ↓bq Na, gnL_g]
        rfl
      · rw [if_pos (Or.inr cN)] at h3
        rw [ibF (show ¬ ((sml (ne p (j + 1)).1.1 ∧ sml ((ne p (j + 1)).1.1 + (ne p (j + 1)).2.1)) ∧ sml (ne p (j + 1)).1.2 ∧ sml ((ne p (j + 1)).1.2 + (ne p (j + 1)).2.2)) from cN)] at Na
        obtain ⟨c1, c2, c3, c4, c5, c6, T⟩ := X h3.symm 0 (p j * (ne p j).1.1 + (ne p j).2.1) (p j * (ne p j).1.2 + (ne p j).2.2) (Or.inl rfl)
        refine ⟨0, c1, c2, c3, c4, c5, c6, ?_, Or.inl rfl⟩
        rw [← T]
        have Na : fX9_isNarrow 108 (hq (w1 i 108 0 0) (gnL l (p j * (ne p j).1.1 + (ne p j).2.1) (p j * (ne p j).1.2 + (ne p j).2.2) (ne p j).1.1 (ne p j).1.2 (ne p j).2.1 (ne p j).2.2) x y) = some (N 0, hq (w1 i 108 0 0) (gnL l (p j * (ne p j).1.1 + (ne p j).2.1) (p j * (ne p j).1.2 + (ne p j).2.2) (ne p j).1.1 (ne p j).1.2 (ne p j).2.1 (ne p j).2.2) x y) := Na
        show fX9_figure_151 (fX9_figure_151L z) 108 _ _ _ _ _ _ _ _ _ _ = _
        unfold fX9_figure_151
        simp only [nk, jk, N_add, N_mul, N_sub, N_neg, J_add, J_mul, J_sub, J_neg]
        simp (disch := omega) only [↓iNlt_t, ↓iNlt_f, ↓iNle_t, ↓iNle_f, ↓iNeq_t, ↓iNeq_f, ↓iJlt_t, ↓iJlt_f, ↓iJle_t, ↓iJle_f, ↓iJeq_t, ↓iJeq_f, ↓iZlt_t, ↓iZlt_f, ↓iZle_t, ↓iZle_f, ↓iZeq_t, ↓iZeq_f, ↓iQlt_t, ↓iQlt_f, ↓iQle_t, ↓iQle_f, ↓iQeq_t, ↓iQeq_f, ↓iAnd_t, ↓iAnd_f, ↓iOr_t, ↓iOr_f, ↓iIff_t, ↓iIff_f, ↓iNot_t, ↓iNot_f, ↓iTrue, ↓iFalse, ↓ckN, ↓ckJ, ↓gIT, ↓gLT, ↓gRT, ↓cvT, ↓pIT, ↓pLT, ↓pZT, ↓asZ, ↓aNT, ↓arL, ↓asL, ↓arI, ↓asI, ↓aR_1, ↓bnd_some, ↓wh_eq, ↓on_some, ↓on_none, asZ, arL, asL, arI, asI, aR_1, bnd_some, wh_eq, on_some, on_none, tnT, tnU, tnL, nk, jk, N_add, N_mul, N_sub, N_neg, J_add, J_mul, J_sub, J_neg, N_J, w1_s, n111, p1', ↓bq G, ↓bq Na]
end RFG
