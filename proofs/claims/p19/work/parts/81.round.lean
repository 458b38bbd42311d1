/-! ===== calls: round ===== -/
def rk (T : Nat → Int × Int) (i : Nat) : Nat → Nat → Option Nat
  | 0, _ => none
  | m + 1, k => if (T i).1 = (T k).1 ∧ (T i).2 = (T k).2 then some k else rk T i m (k + 1)
def ri (T : Nat → Int × Int) : Nat → Nat → Option (Nat × Nat)
  | 0, _ => none
  | m + 1, i => match rk T i (60 - i) (i + 1) with
    | some k => some (i, k)
    | none => ri T m (i + 1)
theorem rk_rng (T : Nat → Int × Int) (i : Nat) : ∀ m k q, rk T i m k = some q → k ≤ q ∧ q < k + m := by
  intro m
  induction m with
  | zero => intro k q h; exact absurd h (by simp [rk])
  | succ m ih =>
    intro k q h
    unfold rk at h
    split at h
    · simp only [Option.some.injEq] at h
      omega
    · have := ih (k + 1) q h
      omega
section RND
variable {i l : Nat → Nat → Int} {x y : Option Nat}
theorem q_cr12 {T : Nat → Int × Int} (hT : ∀ k, k ≤ 60 → (l 9 k = (T k).1 ∧ l 10 k = (T k).2) ∧ (T k).1.natAbs ≤ 4000000000000000000 ∧ (T k).2.natAbs ≤ 4000000000000000000) (K : Nat → Int32 → AH → Fn Int32) {a : Nat} (ha : a < 60) : ∀ (m k n : Nat), k + m = 61 → m + 1 ≤ n → fX4_comesRound_12L K n 8 (N a) (N k) (hq i l x y) = match rk T a m k with
    | some q => some (1, hq (w1 (w1 i 8 3 a) 8 4 (q - a)) l x y)
    | none => K 8 (N ((a + 1 : Nat) : Int)) (hq i l x y) := by
  intro m
  obtain ⟨⟨a1, a2⟩, a3, a4⟩ := hT a (by omega)
  induction m with
  | zero =>
    intro k n hk hn
    obtain ⟨z, rfl⟩ : ∃ z, n = z + 1 := ⟨n - 1, by omega⟩
    show fX4_comesRound_12 K (fX4_comesRound_12L K z) 8 _ _ _ = _
    unfold fX4_comesRound_12 rk
    simp only [nk, jk, N_add, N_mul, N_sub, N_neg, J_add, J_mul, J_sub, J_neg]
    simp (disch := omega) only [↓iNlt_t, ↓iNlt_f, ↓iNle_t, ↓iNle_f, ↓iNeq_t, ↓iNeq_f, ↓iJlt_t, ↓iJlt_f, ↓iJle_t, ↓iJle_f, ↓iJeq_t, ↓iJeq_f, ↓iZlt_t, ↓iZlt_f, ↓iZle_t, ↓iZle_f, ↓iZeq_t, ↓iZeq_f, ↓iQlt_t, ↓iQlt_f, ↓iQle_t, ↓iQle_f, ↓iQeq_t, ↓iQeq_f, ↓iAnd_t, ↓iAnd_f, ↓iOr_t, ↓iOr_f, ↓iIff_t, ↓iIff_f, ↓iNot_t, ↓iNot_f, ↓iTrue, ↓iFalse, ↓ckN, ↓ckJ, ↓gIT, ↓gLT, ↓gRT, ↓cvT, ↓pIT, ↓pLT, ↓pZT, ↓asZ, ↓aNT, ↓arL, ↓asL, ↓arI, ↓asI, ↓aR_1, ↓bnd_some, ↓wh_eq, ↓on_some, ↓on_none, asZ, arL, asL, arI, asI, aR_1, bnd_some, wh_eq, on_some, on_none, tnT, tnU, tnL, nk, jk, N_add, N_mul, N_sub, N_neg, J_add, J_mul, J_sub, J_neg, N_J]
    rfl
  | succ m ih =>
    intro k n hk hn
    obtain ⟨z, rfl⟩ : ∃ z, n = z + 1 := ⟨n - 1, by omega⟩
    have ih := ih (k + 1) z (by omega) (by omega)
    obtain ⟨⟨b1, b2⟩, b3, b4⟩ := hT k (by omega)
    show fX4_comesRound_12 K (fX4_comesRound_12L K z) 8 _ _ _ = _
    unfold fX4_comesRound_12 rk fX4_comesRound_50
    simp only [nk, jk, N_add, N_mul, N_sub, N_neg, J_add, J_mul, J_sub, J_neg]
    by_cases c1 : (T a).1 = (T k).1
    · by_cases c2 : (T a).2 = (T k).2
      · rw [if_pos (show (T a).1 = (T k).1 ∧ (T a).2 = (T k).2 from ⟨c1, c2⟩)]
        simp (disch := omega) only [↓iNlt_t, ↓iNlt_f, ↓iNle_t, ↓iNle_f, ↓iNeq_t, ↓iNeq_f, ↓iJlt_t, ↓iJlt_f, ↓iJle_t, ↓iJle_f, ↓iJeq_t, ↓iJeq_f, ↓iZlt_t, ↓iZlt_f, ↓iZle_t, ↓iZle_f, ↓iZeq_t, ↓iZeq_f, ↓iQlt_t, ↓iQlt_f, ↓iQle_t, ↓iQle_f, ↓iQeq_t, ↓iQeq_f, ↓iAnd_t, ↓iAnd_f, ↓iOr_t, ↓iOr_f, ↓iIff_t, ↓iIff_f, ↓iNot_t, ↓iNot_f, ↓iTrue, ↓iFalse, ↓ckN, ↓ckJ, ↓gIT, ↓gLT, ↓gRT, ↓cvT, ↓pIT, ↓pLT, ↓pZT, ↓asZ, ↓aNT, ↓arL, ↓asL, ↓arI, ↓asI, ↓aR_1, ↓bnd_some, ↓wh_eq, ↓on_some, ↓on_none, asZ, arL, asL, arI, asI, aR_1, bnd_some, wh_eq, on_some, on_none, tnT, tnU, tnL, nk, jk, N_add, N_mul, N_sub, N_neg, J_add, J_mul, J_sub, J_neg, N_J, a1, a2, b1, b2]
      · rw [if_neg (show ¬ ((T a).1 = (T k).1 ∧ (T a).2 = (T k).2) from fun z => c2 z.2)]
        simp (disch := omega) only [↓iNlt_t, ↓iNlt_f, ↓iNle_t, ↓iNle_f, ↓iNeq_t, ↓iNeq_f, ↓iJlt_t, ↓iJlt_f, ↓iJle_t, ↓iJle_f, ↓iJeq_t, ↓iJeq_f, ↓iZlt_t, ↓iZlt_f, ↓iZle_t, ↓iZle_f, ↓iZeq_t, ↓iZeq_f, ↓iQlt_t, ↓iQlt_f, ↓iQle_t, ↓iQle_f, ↓iQeq_t, ↓iQeq_f, ↓iAnd_t, ↓iAnd_f, ↓iOr_t, ↓iOr_f, ↓iIff_t, ↓iIff_f, ↓iNot_t, ↓iNot_f, ↓iTrue, ↓iFalse, ↓ckN, ↓ckJ, ↓gIT, ↓gLT, ↓gRT, ↓cvT, ↓pIT, ↓pLT, ↓pZT, ↓asZ, ↓aNT, ↓arL, ↓asL, ↓arI, ↓asI, ↓aR_1, ↓bnd_some, ↓wh_eq, ↓on_some, ↓on_none, asZ, arL, asL, arI, asI, aR_1, bnd_some, wh_eq, on_some, on_none, tnT, tnU, tnL, nk, jk, N_add, N_mul, N_sub, N_neg, J_add, J_mul, J_sub, J_neg, N_J, a1, a2, b1, b2]
        exact ih
    · rw [if_neg (show ¬ ((T a).1 = (T k).1 ∧ (T a).2 = (T k).2) from fun z => c1 z.1)]
      simp (disch := omega) only [↓iNlt_t, ↓iNlt_f, ↓iNle_t, ↓iNle_f, ↓iNeq_t, ↓iNeq_f, ↓iJlt_t, ↓iJlt_f, ↓iJle_t, ↓iJle_f, ↓iJeq_t, ↓iJeq_f, ↓iZlt_t, ↓iZlt_f, ↓iZle_t, ↓iZle_f, ↓iZeq_t, ↓iZeq_f, ↓iQlt_t, ↓iQlt_f, ↓iQle_t, ↓iQle_f, ↓iQeq_t, ↓iQeq_f, ↓iAnd_t, ↓iAnd_f, ↓iOr_t, ↓iOr_f, ↓iIff_t, ↓iIff_f, ↓iNot_t, ↓iNot_f, ↓iTrue, ↓iFalse, ↓ckN, ↓ckJ, ↓gIT, ↓gLT, ↓gRT, ↓cvT, ↓pIT, ↓pLT, ↓pZT, ↓asZ, ↓aNT, ↓arL, ↓asL, ↓arI, ↓asI, ↓aR_1, ↓bnd_some, ↓wh_eq, ↓on_some, ↓on_none, asZ, arL, asL, arI, asI, aR_1, bnd_some, wh_eq, on_some, on_none, tnT, tnU, tnL, nk, jk, N_add, N_mul, N_sub, N_neg, J_add, J_mul, J_sub, J_neg, N_J, a1, a2, b1, b2]
      exact ih
theorem q_cr2 {T : Nat → Int × Int} (hT : ∀ k, k ≤ 60 → (l 9 k = (T k).1 ∧ l 10 k = (T k).2) ∧ (T k).1.natAbs ≤ 4000000000000000000 ∧ (T k).2.natAbs ≤ 4000000000000000000) : ∀ (m a n : Nat), a + m = 60 → m + 1 ≤ n → fX4_comesRound_2L n 8 (N a) (hq i l x y) = match ri T m a with
    | some q => some (1, hq (w1 (w1 i 8 3 q.1) 8 4 (q.2 - q.1)) l x y)
    | none => some (0, hq i l x y) := by
  intro m
  induction m with
  | zero =>
    intro a n hk hn
    obtain ⟨z, rfl⟩ : ∃ z, n = z + 1 := ⟨n - 1, by omega⟩
    show fX4_comesRound_2 (fX4_comesRound_2L z) 8 _ _ = _
    unfold fX4_comesRound_2 ri
    simp only [nk, jk, N_add, N_mul, N_sub, N_neg, J_add, J_mul, J_sub, J_neg]
    simp (disch := omega) only [↓iNlt_t, ↓iNlt_f, ↓iNle_t, ↓iNle_f, ↓iNeq_t, ↓iNeq_f, ↓iJlt_t, ↓iJlt_f, ↓iJle_t, ↓iJle_f, ↓iJeq_t, ↓iJeq_f, ↓iZlt_t, ↓iZlt_f, ↓iZle_t, ↓iZle_f, ↓iZeq_t, ↓iZeq_f, ↓iQlt_t, ↓iQlt_f, ↓iQle_t, ↓iQle_f, ↓iQeq_t, ↓iQeq_f, ↓iAnd_t, ↓iAnd_f, ↓iOr_t, ↓iOr_f, ↓iIff_t, ↓iIff_f, ↓iNot_t, ↓iNot_f, ↓iTrue, ↓iFalse, ↓ckN, ↓ckJ, ↓gIT, ↓gLT, ↓gRT, ↓cvT, ↓pIT, ↓pLT, ↓pZT, ↓asZ, ↓aNT, ↓arL, ↓asL, ↓arI, ↓asI, ↓aR_1, ↓bnd_some, ↓wh_eq, ↓on_some, ↓on_none, asZ, arL, asL, arI, asI, aR_1, bnd_some, wh_eq, on_some, on_none, tnT, tnU, tnL, nk, jk, N_add, N_mul, N_sub, N_neg, J_add, J_mul, J_sub, J_neg, N_J]
  | succ m ih =>
    intro a n hk hn
    obtain ⟨z, rfl⟩ : ∃ z, n = z + 1 := ⟨n - 1, by omega⟩
    have ih := ih (a + 1) z (by omega) (by omega)
    have h := q_cr12 (i := i) (x := x) (y := y) hT (fX4_comesRound_2L z) (a := a) (by omega) (60 - a) (a + 1) 1000 (by omega) (by omega)
    show fX4_comesRound_2 (fX4_comesRound_2L z) 8 _ _ = _
    unfold fX4_comesRound_2 ri
    simp only [nk, jk, N_add, N_mul, N_sub, N_neg, J_add, J_mul, J_sub, J_neg]
    simp (disch := omega) only [↓iNlt_t, ↓iNlt_f, ↓iNle_t, ↓iNle_f, ↓iNeq_t, ↓iNeq_f, ↓iJlt_t, ↓iJlt_f, ↓iJle_t, ↓iJle_f, ↓iJeq_t, ↓iJeq_f, ↓iZlt_t, ↓iZlt_f, ↓iZle_t, ↓iZle_f, ↓iZeq_t, ↓iZeq_f, ↓iQlt_t, ↓iQlt_f, ↓iQle_t, ↓iQle_f, ↓iQeq_t, ↓iQeq_f, ↓iAnd_t, ↓iAnd_f, ↓iOr_t, ↓iOr_f, ↓iIff_t, ↓iIff_f, ↓iNot_t, ↓iNot_f, ↓iTrue, ↓iFalse, ↓ckN, ↓ckJ, ↓gIT, ↓gLT, ↓gRT, ↓cvT, ↓pIT, ↓pLT, ↓pZT, ↓asZ, ↓aNT, ↓arL, ↓asL, ↓arI, ↓asI, ↓aR_1, ↓bnd_some, ↓wh_eq, ↓on_some, ↓on_none, asZ, arL, asL, arI, asI, aR_1, bnd_some, wh_eq, on_some, on_none, tnT, tnU, tnL, nk, jk, N_add, N_mul, N_sub, N_neg, J_add, J_mul, J_sub, J_neg, N_J]
    rw [show N ((a : Int) + 1) = N ((a + 1 : Nat) : Int) from rfl, h]
    cases rk T a (60 - a) (a + 1) with
    | some q => rfl
    | none => exact ih
theorem q_rd53 {s : Nat} (hs : s < 40) {w : Int} (hw : 0 ≤ w ∧ w ≤ 1) {T : Nat → Int × Int} (hT : ∀ k, k ≤ 60 → (l 116 (61 * s + k) = (T k).1 ∧ l 117 (61 * s + k) = (T k).2) ∧ (T k).1.natAbs ≤ 4000000000000000000 ∧ (T k).2.natAbs ≤ 4000000000000000000) (K : Nat → Int32 → Int32 → Int32 → AH → Fn Int64) {a : Nat} (ha : a < 60) : ∀ (m k n : Nat), k + m = 61 → m + 1 ≤ n → fX9_round_53L K n 108 (N s) (N w) (N a) (N k) (hq i l x y) = match rk T a m k with
    | some q => some (if w = 0 then J a else J (q - a), hq i l x y)
    | none => K 108 (N s) (N w) (N ((a + 1 : Nat) : Int)) (hq i l x y) := by
  intro m
  obtain ⟨⟨a1, a2⟩, a3, a4⟩ := hT a (by omega)
  induction m with
  | zero =>
    intro k n hk hn
    obtain ⟨z, rfl⟩ : ∃ z, n = z + 1 := ⟨n - 1, by omega⟩
    show fX9_round_53 K (fX9_round_53L K z) 108 _ _ _ _ _ = _
    unfold fX9_round_53 rk
    simp only [nk, jk, N_add, N_mul, N_sub, N_neg, J_add, J_mul, J_sub, J_neg]
    simp (disch := omega) only [↓iNlt_t, ↓iNlt_f, ↓iNle_t, ↓iNle_f, ↓iNeq_t, ↓iNeq_f, ↓iJlt_t, ↓iJlt_f, ↓iJle_t, ↓iJle_f, ↓iJeq_t, ↓iJeq_f, ↓iZlt_t, ↓iZlt_f, ↓iZle_t, ↓iZle_f, ↓iZeq_t, ↓iZeq_f, ↓iQlt_t, ↓iQlt_f, ↓iQle_t, ↓iQle_f, ↓iQeq_t, ↓iQeq_f, ↓iAnd_t, ↓iAnd_f, ↓iOr_t, ↓iOr_f, ↓iIff_t, ↓iIff_f, ↓iNot_t, ↓iNot_f, ↓iTrue, ↓iFalse, ↓ckN, ↓ckJ, ↓gIT, ↓gLT, ↓gRT, ↓cvT, ↓pIT, ↓pLT, ↓pZT, ↓asZ, ↓aNT, ↓arL, ↓asL, ↓arI, ↓asI, ↓aR_1, ↓bnd_some, ↓wh_eq, ↓on_some, ↓on_none, asZ, arL, asL, arI, asI, aR_1, bnd_some, wh_eq, on_some, on_none, tnT, tnU, tnL, nk, jk, N_add, N_mul, N_sub, N_neg, J_add, J_mul, J_sub, J_neg, N_J]
    rfl
  | succ m ih =>
    intro k n hk hn
    obtain ⟨z, rfl⟩ : ∃ z, n = z + 1 := ⟨n - 1, by omega⟩
    have ih := ih (k + 1) z (by omega) (by omega)
    obtain ⟨⟨b1, b2⟩, b3, b4⟩ := hT k (by omega)
    show fX9_round_53 K (fX9_round_53L K z) 108 _ _ _ _ _ = _
    unfold fX9_round_53 rk fX9_round_114
    simp only [nk, jk, N_add, N_mul, N_sub, N_neg, J_add, J_mul, J_sub, J_neg]
    by_cases c1 : (T a).1 = (T k).1
    · by_cases c2 : (T a).2 = (T k).2
      · rw [if_pos (show (T a).1 = (T k).1 ∧ (T a).2 = (T k).2 from ⟨c1, c2⟩)]
        by_cases c3 : w = 0
        · simp (disch := omega) only [↓iNlt_t, ↓iNlt_f, ↓iNle_t, ↓iNle_f, ↓iNeq_t, ↓iNeq_f, ↓iJlt_t, ↓iJlt_f, ↓iJle_t, ↓iJle_f, ↓iJeq_t, ↓iJeq_f, ↓iZlt_t, ↓iZlt_f, ↓iZle_t, ↓iZle_f, ↓iZeq_t, ↓iZeq_f, ↓iQlt_t, ↓iQlt_f, ↓iQle_t, ↓iQle_f, ↓iQeq_t, ↓iQeq_f, ↓iAnd_t, ↓iAnd_f, ↓iOr_t, ↓iOr_f, ↓iIff_t, ↓iIff_f, ↓iNot_t, ↓iNot_f, ↓iTrue, ↓iFalse, ↓ckN, ↓ckJ, ↓gIT, ↓gLT, ↓gRT, ↓cvT, ↓pIT, ↓pLT, ↓pZT, ↓asZ, ↓aNT, ↓arL, ↓asL, ↓arI, ↓asI, ↓aR_1, ↓bnd_some, ↓wh_eq, ↓on_some, ↓on_none, asZ, arL, asL, arI, asI, aR_1, bnd_some, wh_eq, on_some, on_none, tnT, tnU, tnL, nk, jk, N_add, N_mul, N_sub, N_neg, J_add, J_mul, J_sub, J_neg, N_J, a1, a2, b1, b2]
        · simp (disch := omega) only [↓iNlt_t, ↓iNlt_f, ↓iNle_t, ↓iNle_f, ↓iNeq_t, ↓iNeq_f, ↓iJlt_t, ↓iJlt_f, ↓iJle_t, ↓iJle_f, ↓iJeq_t, ↓iJeq_f, ↓iZlt_t, ↓iZlt_f, ↓iZle_t, ↓iZle_f, ↓iZeq_t, ↓iZeq_f, ↓iQlt_t, ↓iQlt_f, ↓iQle_t, ↓iQle_f, ↓iQeq_t, ↓iQeq_f, ↓iAnd_t, ↓iAnd_f, ↓iOr_t, ↓iOr_f, ↓iIff_t, ↓iIff_f, ↓iNot_t, ↓iNot_f, ↓iTrue, ↓iFalse, ↓ckN, ↓ckJ, ↓gIT, ↓gLT, ↓gRT, ↓cvT, ↓pIT, ↓pLT, ↓pZT, ↓asZ, ↓aNT, ↓arL, ↓asL, ↓arI, ↓asI, ↓aR_1, ↓bnd_some, ↓wh_eq, ↓on_some, ↓on_none, asZ, arL, asL, arI, asI, aR_1, bnd_some, wh_eq, on_some, on_none, tnT, tnU, tnL, nk, jk, N_add, N_mul, N_sub, N_neg, J_add, J_mul, J_sub, J_neg, N_J, a1, a2, b1, b2]
      · rw [if_neg (show ¬ ((T a).1 = (T k).1 ∧ (T a).2 = (T k).2) from fun z => c2 z.2)]
        simp (disch := omega) only [↓iNlt_t, ↓iNlt_f, ↓iNle_t, ↓iNle_f, ↓iNeq_t, ↓iNeq_f, ↓iJlt_t, ↓iJlt_f, ↓iJle_t, ↓iJle_f, ↓iJeq_t, ↓iJeq_f, ↓iZlt_t, ↓iZlt_f, ↓iZle_t, ↓iZle_f, ↓iZeq_t, ↓iZeq_f, ↓iQlt_t, ↓iQlt_f, ↓iQle_t, ↓iQle_f, ↓iQeq_t, ↓iQeq_f, ↓iAnd_t, ↓iAnd_f, ↓iOr_t, ↓iOr_f, ↓iIff_t, ↓iIff_f, ↓iNot_t, ↓iNot_f, ↓iTrue, ↓iFalse, ↓ckN, ↓ckJ, ↓gIT, ↓gLT, ↓gRT, ↓cvT, ↓pIT, ↓pLT, ↓pZT, ↓asZ, ↓aNT, ↓arL, ↓asL, ↓arI, ↓asI, ↓aR_1, ↓bnd_some, ↓wh_eq, ↓on_some, ↓on_none, asZ, arL, asL, arI, asI, aR_1, bnd_some, wh_eq, on_some, on_none, tnT, tnU, tnL, nk, jk, N_add, N_mul, N_sub, N_neg, J_add, J_mul, J_sub, J_neg, N_J, a1, a2, b1, b2]
        exact ih
    · rw [if_neg (show ¬ ((T a).1 = (T k).1 ∧ (T a).2 = (T k).2) from fun z => c1 z.1)]
      simp (disch := omega) only [↓iNlt_t, ↓iNlt_f, ↓iNle_t, ↓iNle_f, ↓iNeq_t, ↓iNeq_f, ↓iJlt_t, ↓iJlt_f, ↓iJle_t, ↓iJle_f, ↓iJeq_t, ↓iJeq_f, ↓iZlt_t, ↓iZlt_f, ↓iZle_t, ↓iZle_f, ↓iZeq_t, ↓iZeq_f, ↓iQlt_t, ↓iQlt_f, ↓iQle_t, ↓iQle_f, ↓iQeq_t, ↓iQeq_f, ↓iAnd_t, ↓iAnd_f, ↓iOr_t, ↓iOr_f, ↓iIff_t, ↓iIff_f, ↓iNot_t, ↓iNot_f, ↓iTrue, ↓iFalse, ↓ckN, ↓ckJ, ↓gIT, ↓gLT, ↓gRT, ↓cvT, ↓pIT, ↓pLT, ↓pZT, ↓asZ, ↓aNT, ↓arL, ↓asL, ↓arI, ↓asI, ↓aR_1, ↓bnd_some, ↓wh_eq, ↓on_some, ↓on_none, asZ, arL, asL, arI, asI, aR_1, bnd_some, wh_eq, on_some, on_none, tnT, tnU, tnL, nk, jk, N_add, N_mul, N_sub, N_neg, J_add, J_mul, J_sub, J_neg, N_J, a1, a2, b1, b2]
      exact ih
theorem q_rd42 {s : Nat} (hs : s < 40) {w : Int} (hw : 0 ≤ w ∧ w ≤ 1) {T : Nat → Int × Int} (hT : ∀ k, k ≤ 60 → (l 116 (61 * s + k) = (T k).1 ∧ l 117 (61 * s + k) = (T k).2) ∧ (T k).1.natAbs ≤ 4000000000000000000 ∧ (T k).2.natAbs ≤ 4000000000000000000) : ∀ (m a n : Nat), a + m = 60 → m + 1 ≤ n → fX9_round_42L n 108 (N s) (N w) (N a) (hq i l x y) = match ri T m a with
    | some q => some (if w = 0 then J q.1 else J (q.2 - q.1), hq i l x y)
    | none => some (J (-2000000000000000006), hq i l x y) := by
  intro m
  induction m with
  | zero =>
    intro a n hk hn
    obtain ⟨z, rfl⟩ : ∃ z, n = z + 1 := ⟨n - 1, by omega⟩
    show fX9_round_42 (fX9_round_42L z) 108 _ _ _ _ = _
    unfold fX9_round_42 ri
    simp only [nk, jk, N_add, N_mul, N_sub, N_neg, J_add, J_mul, J_sub, J_neg]
    simp (disch := omega) only [↓iNlt_t, ↓iNlt_f, ↓iNle_t, ↓iNle_f, ↓iNeq_t, ↓iNeq_f, ↓iJlt_t, ↓iJlt_f, ↓iJle_t, ↓iJle_f, ↓iJeq_t, ↓iJeq_f, ↓iZlt_t, ↓iZlt_f, ↓iZle_t, ↓iZle_f, ↓iZeq_t, ↓iZeq_f, ↓iQlt_t, ↓iQlt_f, ↓iQle_t, ↓iQle_f, ↓iQeq_t, ↓iQeq_f, ↓iAnd_t, ↓iAnd_f, ↓iOr_t, ↓iOr_f, ↓iIff_t, ↓iIff_f, ↓iNot_t, ↓iNot_f, ↓iTrue, ↓iFalse, ↓ckN, ↓ckJ, ↓gIT, ↓gLT, ↓gRT, ↓cvT, ↓pIT, ↓pLT, ↓pZT, ↓asZ, ↓aNT, ↓arL, ↓asL, ↓arI, ↓asI, ↓aR_1, ↓bnd_some, ↓wh_eq, ↓on_some, ↓on_none, asZ, arL, asL, arI, asI, aR_1, bnd_some, wh_eq, on_some, on_none, tnT, tnU, tnL, nk, jk, N_add, N_mul, N_sub, N_neg, J_add, J_mul, J_sub, J_neg, N_J, Jc5]
  | succ m ih =>
    intro a n hk hn
    obtain ⟨z, rfl⟩ : ∃ z, n = z + 1 := ⟨n - 1, by omega⟩
    have ih := ih (a + 1) z (by omega) (by omega)
    have h := q_rd53 (i := i) (x := x) (y := y) hs hw hT (fX9_round_42L z) (a := a) (by omega) (60 - a) (a + 1) 1000 (by omega) (by omega)
    show fX9_round_42 (fX9_round_42L z) 108 _ _ _ _ = _
    unfold fX9_round_42 ri
    simp only [nk, jk, N_add, N_mul, N_sub, N_neg, J_add, J_mul, J_sub, J_neg]
    simp (disch := omega) only [↓iNlt_t, ↓iNlt_f, ↓iNle_t, ↓iNle_f, ↓iNeq_t, ↓iNeq_f, ↓iJlt_t, ↓iJlt_f, ↓iJle_t, ↓iJle_f, ↓iJeq_t, ↓iJeq_f, ↓iZlt_t, ↓iZlt_f, ↓iZle_t, ↓iZle_f, ↓iZeq_t, ↓iZeq_f, ↓iQlt_t, ↓iQlt_f, ↓iQle_t, ↓iQle_f, ↓iQeq_t, ↓iQeq_f, ↓iAnd_t, ↓iAnd_f, ↓iOr_t, ↓iOr_f, ↓iIff_t, ↓iIff_f, ↓iNot_t, ↓iNot_f, ↓iTrue, ↓iFalse, ↓ckN, ↓ckJ, ↓gIT, ↓gLT, ↓gRT, ↓cvT, ↓pIT, ↓pLT, ↓pZT, ↓asZ, ↓aNT, ↓arL, ↓asL, ↓arI, ↓asI, ↓aR_1, ↓bnd_some, ↓wh_eq, ↓on_some, ↓on_none, asZ, arL, asL, arI, asI, aR_1, bnd_some, wh_eq, on_some, on_none, tnT, tnU, tnL, nk, jk, N_add, N_mul, N_sub, N_neg, J_add, J_mul, J_sub, J_neg, N_J]
    rw [show N ((a : Int) + 1) = N ((a + 1 : Nat) : Int) from rfl, h]
    cases rk T a (60 - a) (a + 1) with
    | some q => rfl
    | none => exact ih
end RND
theorem ri_rng (T : Nat → Int × Int) : ∀ m i q, i + m = 60 → ri T m i = some q → q.1 < 60 ∧ q.1 < q.2 ∧ q.2 ≤ 60 := by
  intro m
  induction m with
  | zero => intro i q _ h; exact absurd h (by simp [ri])
  | succ m ih =>
    intro i q hi h
    unfold ri at h
    split at h
    · rename_i k hk
      have := rk_rng _ _ _ _ _ hk
      simp only [Option.some.injEq] at h
      subst h
      dsimp only
      omega
    · exact ih (i + 1) q (by omega) h
theorem Rel.walk {i l : Nat → Nat → Int} (h : Rel i l) (D r x0 y0 : Int) (k : Nat) (u v : Int) : Rel i (goL l D r x0 y0 k) ∧ Rel (w1 (w1 i 8 3 u) 8 4 v) (goL l D r x0 y0 k) := by
  have e : ∀ c, c ≠ 9 → c ≠ 10 → c ≠ 11 → goL l D r x0 y0 k c = l c := fun c h1 h2 h3 => goL_n _ _ _ _ _ h1 h2 h3
  have f : ∀ c, c ≠ 8 → w1 (w1 i 8 3 u) 8 4 v c = i c := fun c hc => by rw [w1_r _ _ _ hc, w1_r _ _ _ hc]
  constructor
  · exact h.keep (fun s hs => ⟨rfl, e _ (by omega) (by omega) (by omega), e _ (by omega) (by omega) (by omega)⟩) ⟨⟨rfl, rfl, rfl, rfl, rfl, rfl, rfl⟩, ⟨e _ (by omega) (by omega) (by omega), e _ (by omega) (by omega) (by omega), e _ (by omega) (by omega) (by omega), e _ (by omega) (by omega) (by omega), e _ (by omega) (by omega) (by omega), e _ (by omega) (by omega) (by omega)⟩, e _ (by omega) (by omega) (by omega), e _ (by omega) (by omega) (by omega), e _ (by omega) (by omega) (by omega), e _ (by omega) (by omega) (by omega), e _ (by omega) (by omega) (by omega)⟩ ⟨rfl, rfl, rfl, rfl, rfl, rfl, rfl, rfl, rfl, rfl⟩ h.2.2.2.2.2.1
  · refine h.keep (fun s hs => ⟨f _ (by omega), e _ (by omega) (by omega) (by omega), e _ (by omega) (by omega) (by omega)⟩) ⟨⟨f _ (by omega), f _ (by omega), f _ (by omega), f _ (by omega), f _ (by omega), f _ (by omega), f _ (by omega)⟩, ⟨e _ (by omega) (by omega) (by omega), e _ (by omega) (by omega) (by omega), e _ (by omega) (by omega) (by omega), e _ (by omega) (by omega) (by omega), e _ (by omega) (by omega) (by omega), e _ (by omega) (by omega) (by omega)⟩, e _ (by omega) (by omega) (by omega), e _ (by omega) (by omega) (by omega), e _ (by omega) (by omega) (by omega), e _ (by omega) (by omega) (by omega), e _ (by omega) (by omega) (by omega)⟩ ⟨?_, ?_, ?_, ?_, ?_, ?_, ?_, ?_, ?_, ?_⟩ ?_
    all_goals rw [f _ (by omega)]
    exact h.2.2.2.2.2.1
theorem c_round (a b : Int32) : Agree (fX8_round 0 a b) (fX9_round 108 a b) := by
  intro i l x y r
  rcases r.who (x := x) (y := y) a with ⟨f, g⟩ | ⟨s, hs, rfl, h1, sd, f, g⟩
  · refine agree_of (-2000000000000000001) r ?_ ?_
    · unfold fX8_round
      rw [cv_q s0T, f, bnd_some, on_none]
    · unfold fX9_round
      rw [cv_q s9T, g, bnd_some, if10]
  · have hb := N_rng b
    rw [N_of b]
    generalize b.toInt = w at *
    have st := (St_s hs).1.1
    obtain ⟨⟨k1, k2, k3⟩, -, -, -, -, -, -, ro⟩ := sd
    by_cases c : 0 ≤ w ∧ w ≤ 1
    · have C : fX8_round 0 (N s) (N w) (hq i l x y) = fX8_round_27 0 (N w) (2 * s + 28) (hq i l x y) := by
        unfold fX8_round
        rw [cv_q s0T, f, bnd_some, on_some]
        simp only [nk, jk, N_add, N_mul, N_sub, N_neg, J_add, J_mul, J_sub, J_neg]
        by_cases d : w = 0
        · simp (disch := omega) only [↓iNlt_t, ↓iNlt_f, ↓iNle_t, ↓iNle_f, ↓iNeq_t, ↓iNeq_f, ↓iJlt_t, ↓iJlt_f, ↓iJle_t, ↓iJle_f, ↓iJeq_t, ↓iJeq_f, ↓iZlt_t, ↓iZlt_f, ↓iZle_t, ↓iZle_f, ↓iZeq_t, ↓iZeq_f, ↓iQlt_t, ↓iQlt_f, ↓iQle_t, ↓iQle_f, ↓iQeq_t, ↓iQeq_f, ↓iAnd_t, ↓iAnd_f, ↓iOr_t, ↓iOr_f, ↓iIff_t, ↓iIff_f, ↓iNot_t, ↓iNot_f, ↓iTrue, ↓iFalse, ↓ckN, ↓ckJ, ↓gIT, ↓gLT, ↓gRT, ↓cvT, ↓pIT, ↓pLT, ↓pZT, ↓asZ, ↓aNT, ↓arL, ↓asL, ↓arI, ↓asI, ↓aR_1, ↓bnd_some, ↓wh_eq, ↓on_some, ↓on_none, asZ, arL, asL, arI, asI, aR_1, bnd_some, wh_eq, on_some, on_none, tnT, tnU, tnL, nk, jk, N_add, N_mul, N_sub, N_neg, J_add, J_mul, J_sub, J_neg, N_J]
        · simp (disch := omega) only [↓iNlt_t, ↓iNlt_f, ↓iNle_t, ↓iNle_f, ↓iNeq_t, ↓iNeq_f, ↓iJlt_t, ↓iJlt_f, ↓iJle_t, ↓iJle_f, ↓iJeq_t, ↓iJeq_f, ↓iZlt_t, ↓iZlt_f, ↓iZle_t, ↓iZle_f, ↓iZeq_t, ↓iZeq_f, ↓iQlt_t, ↓iQlt_f, ↓iQle_t, ↓iQle_f, ↓iQeq_t, ↓iQeq_f, ↓iAnd_t, ↓iAnd_f, ↓iOr_t, ↓iOr_f, ↓iIff_t, ↓iIff_f, ↓iNot_t, ↓iNot_f, ↓iTrue, ↓iFalse, ↓ckN, ↓ckJ, ↓gIT, ↓gLT, ↓gRT, ↓cvT, ↓pIT, ↓pLT, ↓pZT, ↓asZ, ↓aNT, ↓arL, ↓asL, ↓arI, ↓asI, ↓aR_1, ↓bnd_some, ↓wh_eq, ↓on_some, ↓on_none, asZ, arL, asL, arI, asI, aR_1, bnd_some, wh_eq, on_some, on_none, tnT, tnU, tnL, nk, jk, N_add, N_mul, N_sub, N_neg, J_add, J_mul, J_sub, J_neg, N_J]
      have M : ∀ i' l', i' 109 = i 109 → i' 110 = i 110 → fX9_round 108 (N s) (N w) (hq i' l' x y) = if N (i 110 s) = N 1 then fX9_round_42L 1000 108 (N s) (N w) (N 0) (hq i' l' x y) else some (J (-2000000000000000003), hq i' l' x y) := by
        intro i' l' e1 e2
        have g' := q_noStream (i := i') (l := l') (x := x) (y := y) (s := (s : Int)) (by rw [e1]; exact r.m) (by omega) (by omega)
        rw [(tnT s).1, e1, if_pos (by omega)] at g'
        unfold fX9_round
        rw [cv_q s9T, g', bnd_some, if_pos rfl]
        simp only [nk, jk, N_add, N_mul, N_sub, N_neg, J_add, J_mul, J_sub, J_neg]
        simp (disch := omega) only [↓iNlt_t, ↓iNlt_f, ↓iNle_t, ↓iNle_f, ↓iNeq_t, ↓iNeq_f, ↓iJlt_t, ↓iJlt_f, ↓iJle_t, ↓iJle_f, ↓iJeq_t, ↓iJeq_f, ↓iZlt_t, ↓iZlt_f, ↓iZle_t, ↓iZle_f, ↓iZeq_t, ↓iZeq_f, ↓iQlt_t, ↓iQlt_f, ↓iQle_t, ↓iQle_f, ↓iQeq_t, ↓iQeq_f, ↓iAnd_t, ↓iAnd_f, ↓iOr_t, ↓iOr_f, ↓iIff_t, ↓iIff_f, ↓iNot_t, ↓iNot_f, ↓iTrue, ↓iFalse, ↓ckN, ↓ckJ, ↓gIT, ↓gLT, ↓gRT, ↓cvT, ↓pIT, ↓pLT, ↓pZT, ↓asZ, ↓aNT, ↓arL, ↓asL, ↓arI, ↓asI, ↓aR_1, ↓bnd_some, ↓wh_eq, ↓on_some, ↓on_none, asZ, arL, asL, arI, asI, aR_1, bnd_some, wh_eq, on_some, on_none, tnT, tnU, tnL, nk, jk, N_add, N_mul, N_sub, N_neg, J_add, J_mul, J_sub, J_neg, N_J, q_in, e2, Jc5]
      by_cases c1 : i 110 s = 1
      · obtain ⟨-, ok, tl⟩ := ro c1
        have hW := rWB ok
        have Go := q_go (i := i) (l := l) (x := x) (y := y) (St_s hs) rfl rfl rfl rfl ok
        have hT : ∀ k, (wsA (l (2 * s + 28) 6) (l (2 * s + 28) 7) (l (2 * s + 28) 8) (l (2 * s + 28) 9) k).1.natAbs ≤ 4000000000000000000 ∧ (wsA (l (2 * s + 28) 6) (l (2 * s + 28) 7) (l (2 * s + 28) 8) (l (2 * s + 28) 9) k).2.natAbs ≤ 4000000000000000000 := fun k => by
          obtain ⟨q1, q2, -⟩ := ws_rng hW k
          exact ⟨Nat.le_trans q1 (by omega), Nat.le_trans q2 (by omega)⟩
        have X := q_cr2 (i := i) (l := goL l (rD (l (2 * s + 28) 7) (l (2 * s + 28) 8) (l (2 * s + 28) 9)) (rR (l (2 * s + 28) 7) (l (2 * s + 28) 8) (l (2 * s + 28) 9)) (rX (l (2 * s + 28) 6) (l (2 * s + 28) 7) (l (2 * s + 28) 9)) (rY (l (2 * s + 28) 7) (l (2 * s + 28) 9)) 61) (x := x) (y := y) (T := fun k => wsA (l (2 * s + 28) 6) (l (2 * s + 28) 7) (l (2 * s + 28) 8) (l (2 * s + 28) 9) k) (fun k hk => ⟨⟨by rw [goL_9, fl, if_pos (by omega)], by rw [goL_10, fl, if_pos (by omega)]⟩, hT k⟩) 60 0 1000 (by omega) (by omega)
        have Y : ∀ i' l' : Nat → Nat → Int, l' 116 = l 116 → l' 117 = l 117 → _ := fun i' l' e1 e2 => q_rd42 (i := i') (l := l') (x := x) (y := y) hs (w := w) (by omega) (T := fun k => wsA (l (2 * s + 28) 6) (l (2 * s + 28) 7) (l (2 * s + 28) 8) (l (2 * s + 28) 9) k) (fun k hk => ⟨by rw [e1, e2]; exact tl k hk, hT k⟩) 60 0 1000 (by omega) (by omega)
        have rw1 := r.walk (rD (l (2 * s + 28) 7) (l (2 * s + 28) 8) (l (2 * s + 28) 9)) (rR (l (2 * s + 28) 7) (l (2 * s + 28) 8) (l (2 * s + 28) 9)) (rX (l (2 * s + 28) 6) (l (2 * s + 28) 7) (l (2 * s + 28) 9)) (rY (l (2 * s + 28) 7) (l (2 * s + 28) 9)) 61
        have g6 : goL l (rD (l (2 * s + 28) 7) (l (2 * s + 28) 8) (l (2 * s + 28) 9)) (rR (l (2 * s + 28) 7) (l (2 * s + 28) 8) (l (2 * s + 28) 9)) (rX (l (2 * s + 28) 6) (l (2 * s + 28) 7) (l (2 * s + 28) 9)) (rY (l (2 * s + 28) 7) (l (2 * s + 28) 9)) 61 116 = l 116 := goL_n _ _ _ _ _ (by omega) (by omega) (by omega)
        have g7 : goL l (rD (l (2 * s + 28) 7) (l (2 * s + 28) 8) (l (2 * s + 28) 9)) (rR (l (2 * s + 28) 7) (l (2 * s + 28) 8) (l (2 * s + 28) 9)) (rX (l (2 * s + 28) 6) (l (2 * s + 28) 7) (l (2 * s + 28) 9)) (rY (l (2 * s + 28) 7) (l (2 * s + 28) 9)) 61 117 = l 117 := goL_n _ _ _ _ _ (by omega) (by omega) (by omega)
        generalize goL l (rD (l (2 * s + 28) 7) (l (2 * s + 28) 8) (l (2 * s + 28) 9)) (rR (l (2 * s + 28) 7) (l (2 * s + 28) 8) (l (2 * s + 28) 9)) (rX (l (2 * s + 28) 6) (l (2 * s + 28) 7) (l (2 * s + 28) 9)) (rY (l (2 * s + 28) 7) (l (2 * s + 28) 9)) 61 = lg at *
        have X : fX4_comesRound 8 (hq i lg x y) = _ := X
        have rg := ri_rng (fun k => wsA (l (2 * s + 28) 6) (l (2 * s + 28) 7) (l (2 * s + 28) 8) (l (2 * s + 28) 9) k) 60 0
        cases e : ri (fun k => wsA (l (2 * s + 28) 6) (l (2 * s + 28) 7) (l (2 * s + 28) 8) (l (2 * s + 28) 9) k) 60 0 with
        | none =>
          rw [e] at X
          have Y := Y i lg g6 g7
          rw [e] at Y
          have r2 := (rw1 0 0).1
          refine ⟨J (-2000000000000000006), i, lg, x, y, i, lg, x, y, ?_, ?_, r2⟩
          · rw [C]
            unfold fX8_round_27
            simp only [nk, jk, N_add, N_mul, N_sub, N_neg, J_add, J_mul, J_sub, J_neg]
            simp (disch := omega) only [↓iNlt_t, ↓iNlt_f, ↓iNle_t, ↓iNle_f, ↓iNeq_t, ↓iNeq_f, ↓iJlt_t, ↓iJlt_f, ↓iJle_t, ↓iJle_f, ↓iJeq_t, ↓iJeq_f, ↓iZlt_t, ↓iZlt_f, ↓iZle_t, ↓iZle_f, ↓iZeq_t, ↓iZeq_f, ↓iQlt_t, ↓iQlt_f, ↓iQle_t, ↓iQle_f, ↓iQeq_t, ↓iQeq_f, ↓iAnd_t, ↓iAnd_f, ↓iOr_t, ↓iOr_f, ↓iIff_t, ↓iIff_f, ↓iNot_t, ↓iNot_f, ↓iTrue, ↓iFalse, ↓ckN, ↓ckJ, ↓gIT, ↓gLT, ↓gRT, ↓cvT, ↓pIT, ↓pLT, ↓pZT, ↓asZ, ↓aNT, ↓arL, ↓asL, ↓arI, ↓asI, ↓aR_1, ↓bnd_some, ↓wh_eq, ↓on_some, ↓on_none, asZ, arL, asL, arI, asI, aR_1, bnd_some, wh_eq, on_some, on_none, tnT, tnU, tnL, nk, jk, N_add, N_mul, N_sub, N_neg, J_add, J_mul, J_sub, J_neg, N_J, ↓gI_q st, k1, ↓bq Go, ↓bq X, Jc5]
          · rw [M i lg rfl rfl]
            simp (disch := omega) only [↓iNlt_t, ↓iNlt_f, ↓iNle_t, ↓iNle_f, ↓iNeq_t, ↓iNeq_f, ↓iJlt_t, ↓iJlt_f, ↓iJle_t, ↓iJle_f, ↓iJeq_t, ↓iJeq_f, ↓iZlt_t, ↓iZlt_f, ↓iZle_t, ↓iZle_f, ↓iZeq_t, ↓iZeq_f, ↓iQlt_t, ↓iQlt_f, ↓iQle_t, ↓iQle_f, ↓iQeq_t, ↓iQeq_f, ↓iAnd_t, ↓iAnd_f, ↓iOr_t, ↓iOr_f, ↓iIff_t, ↓iIff_f, ↓iNot_t, ↓iNot_f, ↓iTrue, ↓iFalse, ↓ckN, ↓ckJ, ↓gIT, ↓gLT, ↓gRT, ↓cvT, ↓pIT, ↓pLT, ↓pZT, ↓asZ, ↓aNT, ↓arL, ↓asL, ↓arI, ↓asI, ↓aR_1, ↓bnd_some, ↓wh_eq, ↓on_some, ↓on_none, asZ, arL, asL, arI, asI, aR_1, bnd_some, wh_eq, on_some, on_none, tnT, tnU, tnL, nk, jk, N_add, N_mul, N_sub, N_neg, J_add, J_mul, J_sub, J_neg, N_J]
            exact Y
        | some q =>
          obtain ⟨z1, z2, z3⟩ := rg q (by omega) e
          rw [e] at X
          have f9 : ∀ c, c ≠ 8 → w1 (w1 i 8 3 q.1) 8 4 (q.2 - q.1) c = i c := fun c hc => by rw [w1_r _ _ _ hc, w1_r _ _ _ hc]
          have Y := Y (w1 (w1 i 8 3 q.1) 8 4 (q.2 - q.1)) lg g6 g7
          rw [e] at Y
          have r2 := (rw1 q.1 (q.2 - q.1)).2
          refine ⟨if w = 0 then J q.1 else J (q.2 - q.1), w1 (w1 i 8 3 q.1) 8 4 (q.2 - q.1), lg, x, y, w1 (w1 i 8 3 q.1) 8 4 (q.2 - q.1), lg, x, y, ?_, ?_, r2⟩
          · rw [C]
            unfold fX8_round_27
            dsimp only at X
            simp only [nk, jk, N_add, N_mul, N_sub, N_neg, J_add, J_mul, J_sub, J_neg]
            by_cases d : w = 0
            · simp (disch := omega) only [↓iNlt_t, ↓iNlt_f, ↓iNle_t, ↓iNle_f, ↓iNeq_t, ↓iNeq_f, ↓iJlt_t, ↓iJlt_f, ↓iJle_t, ↓iJle_f, ↓iJeq_t, ↓iJeq_f, ↓iZlt_t, ↓iZlt_f, ↓iZle_t, ↓iZle_f, ↓iZeq_t, ↓iZeq_f, ↓iQlt_t, ↓iQlt_f, ↓iQle_t, ↓iQle_f, ↓iQeq_t, ↓iQeq_f, ↓iAnd_t, ↓iAnd_f, ↓iOr_t, ↓iOr_f, ↓iIff_t, ↓iIff_f, ↓iNot_t, ↓iNot_f, ↓iTrue, ↓iFalse, ↓ckN, ↓ckJ, ↓gIT, ↓gLT, ↓gRT, ↓cvT, ↓pIT, ↓pLT, ↓pZT, ↓asZ, ↓aNT, ↓arL, ↓asL, ↓arI, ↓asI, ↓aR_1, ↓bnd_some, ↓wh_eq, ↓on_some, ↓on_none, asZ, arL, asL, arI, asI, aR_1, bnd_some, wh_eq, on_some, on_none, tnT, tnU, tnL, nk, jk, N_add, N_mul, N_sub, N_neg, J_add, J_mul, J_sub, J_neg, N_J, ↓gI_q st, k1, ↓bq Go, ↓bq X, w1_s, w1_n]
            · simp (disch := omega) only [↓iNlt_t, ↓iNlt_f, ↓iNle_t, ↓iNle_f, ↓iNeq_t, ↓iNeq_f, ↓iJlt_t, ↓iJlt_f, ↓iJle_t, ↓iJle_f, ↓iJeq_t, ↓iJeq_f, ↓iZlt_t, ↓iZlt_f, ↓iZle_t, ↓iZle_f, ↓iZeq_t, ↓iZeq_f, ↓iQlt_t, ↓iQlt_f, ↓iQle_t, ↓iQle_f, ↓iQeq_t, ↓iQeq_f, ↓iAnd_t, ↓iAnd_f, ↓iOr_t, ↓iOr_f, ↓iIff_t, ↓iIff_f, ↓iNot_t, ↓iNot_f, ↓iTrue, ↓iFalse, ↓ckN, ↓ckJ, ↓gIT, ↓gLT, ↓gRT, ↓cvT, ↓pIT, ↓pLT, ↓pZT, ↓asZ, ↓aNT, ↓arL, ↓asL, ↓arI, ↓asI, ↓aR_1, ↓bnd_some, ↓wh_eq, ↓on_some, ↓on_none, asZ, arL, asL, arI, asI, aR_1, bnd_some, wh_eq, on_some, on_none, tnT, tnU, tnL, nk, jk, N_add, N_mul, N_sub, N_neg, J_add, J_mul, J_sub, J_neg, N_J, ↓gI_q st, k1, ↓bq Go, ↓bq X, w1_s, w1_n]
          · rw [M _ lg (f9 _ (by omega)) (f9 _ (by omega))]
            simp (disch := omega) only [↓iNlt_t, ↓iNlt_f, ↓iNle_t, ↓iNle_f, ↓iNeq_t, ↓iNeq_f, ↓iJlt_t, ↓iJlt_f, ↓iJle_t, ↓iJle_f, ↓iJeq_t, ↓iJeq_f, ↓iZlt_t, ↓iZlt_f, ↓iZle_t, ↓iZle_f, ↓iZeq_t, ↓iZeq_f, ↓iQlt_t, ↓iQlt_f, ↓iQle_t, ↓iQle_f, ↓iQeq_t, ↓iQeq_f, ↓iAnd_t, ↓iAnd_f, ↓iOr_t, ↓iOr_f, ↓iIff_t, ↓iIff_f, ↓iNot_t, ↓iNot_f, ↓iTrue, ↓iFalse, ↓ckN, ↓ckJ, ↓gIT, ↓gLT, ↓gRT, ↓cvT, ↓pIT, ↓pLT, ↓pZT, ↓asZ, ↓aNT, ↓arL, ↓asL, ↓arI, ↓asI, ↓aR_1, ↓bnd_some, ↓wh_eq, ↓on_some, ↓on_none, asZ, arL, asL, arI, asI, aR_1, bnd_some, wh_eq, on_some, on_none, tnT, tnU, tnL, nk, jk, N_add, N_mul, N_sub, N_neg, J_add, J_mul, J_sub, J_neg, N_J]
            exact Y
      · refine agree_of (-2000000000000000003) r ?_ ?_
        · rw [C]
          unfold fX8_round_27
          simp only [nk, jk, N_add, N_mul, N_sub, N_neg, J_add, J_mul, J_sub, J_neg]
          simp (disch := omega) only [↓iNlt_t, ↓iNlt_f, ↓iNle_t, ↓iNle_f, ↓iNeq_t, ↓iNeq_f, ↓iJlt_t, ↓iJlt_f, ↓iJle_t, ↓iJle_f, ↓iJeq_t, ↓iJeq_f, ↓iZlt_t, ↓iZlt_f, ↓iZle_t, ↓iZle_f, ↓iZeq_t, ↓iZeq_f, ↓iQlt_t, ↓iQlt_f, ↓iQle_t, ↓iQle_f, ↓iQeq_t, ↓iQeq_f, ↓iAnd_t, ↓iAnd_f, ↓iOr_t, ↓iOr_f, ↓iIff_t, ↓iIff_f, ↓iNot_t, ↓iNot_f, ↓iTrue, ↓iFalse, ↓ckN, ↓ckJ, ↓gIT, ↓gLT, ↓gRT, ↓cvT, ↓pIT, ↓pLT, ↓pZT, ↓asZ, ↓aNT, ↓arL, ↓asL, ↓arI, ↓asI, ↓aR_1, ↓bnd_some, ↓wh_eq, ↓on_some, ↓on_none, asZ, arL, asL, arI, asI, aR_1, bnd_some, wh_eq, on_some, on_none, tnT, tnU, tnL, nk, jk, N_add, N_mul, N_sub, N_neg, J_add, J_mul, J_sub, J_neg, N_J, ↓gI_q st, k1]
        · rw [M i l rfl rfl]
          simp (disch := omega) only [↓iNlt_t, ↓iNlt_f, ↓iNle_t, ↓iNle_f, ↓iNeq_t, ↓iNeq_f, ↓iJlt_t, ↓iJlt_f, ↓iJle_t, ↓iJle_f, ↓iJeq_t, ↓iJeq_f, ↓iZlt_t, ↓iZlt_f, ↓iZle_t, ↓iZle_f, ↓iZeq_t, ↓iZeq_f, ↓iQlt_t, ↓iQlt_f, ↓iQle_t, ↓iQle_f, ↓iQeq_t, ↓iQeq_f, ↓iAnd_t, ↓iAnd_f, ↓iOr_t, ↓iOr_f, ↓iIff_t, ↓iIff_f, ↓iNot_t, ↓iNot_f, ↓iTrue, ↓iFalse, ↓ckN, ↓ckJ, ↓gIT, ↓gLT, ↓gRT, ↓cvT, ↓pIT, ↓pLT, ↓pZT, ↓asZ, ↓aNT, ↓arL, ↓asL, ↓arI, ↓asI, ↓aR_1, ↓bnd_some, ↓wh_eq, ↓on_some, ↓on_none, asZ, arL, asL, arI, asI, aR_1, bnd_some, wh_eq, on_some, on_none, tnT, tnU, tnL, nk, jk, N_add, N_mul, N_sub, N_neg, J_add, J_mul, J_sub, J_neg, N_J]
          rfl
    · refine agree_of (-2000000000000000002) r ?_ ?_
      · unfold fX8_round
        rw [cv_q s0T, f, bnd_some, on_some]
        simp only [nk, jk, N_add, N_mul, N_sub, N_neg, J_add, J_mul, J_sub, J_neg]
        simp (disch := omega) only [↓iNlt_t, ↓iNlt_f, ↓iNle_t, ↓iNle_f, ↓iNeq_t, ↓iNeq_f, ↓iJlt_t, ↓iJlt_f, ↓iJle_t, ↓iJle_f, ↓iJeq_t, ↓iJeq_f, ↓iZlt_t, ↓iZlt_f, ↓iZle_t, ↓iZle_f, ↓iZeq_t, ↓iZeq_f, ↓iQlt_t, ↓iQlt_f, ↓iQle_t, ↓iQle_f, ↓iQeq_t, ↓iQeq_f, ↓iAnd_t, ↓iAnd_f, ↓iOr_t, ↓iOr_f, ↓iIff_t, ↓iIff_f, ↓iNot_t, ↓iNot_f, ↓iTrue, ↓iFalse, ↓ckN, ↓ckJ, ↓gIT, ↓gLT, ↓gRT, ↓cvT, ↓pIT, ↓pLT, ↓pZT, ↓asZ, ↓aNT, ↓arL, ↓asL, ↓arI, ↓asI, ↓aR_1, ↓bnd_some, ↓wh_eq, ↓on_some, ↓on_none, asZ, arL, asL, arI, asI, aR_1, bnd_some, wh_eq, on_some, on_none, tnT, tnU, tnL, nk, jk, N_add, N_mul, N_sub, N_neg, J_add, J_mul, J_sub, J_neg, N_J]
      · unfold fX9_round
        rw [cv_q s9T, g, bnd_some, if_pos rfl]
        simp only [nk, jk, N_add, N_mul, N_sub, N_neg, J_add, J_mul, J_sub, J_neg]
        simp (disch := omega) only [↓iNlt_t, ↓iNlt_f, ↓iNle_t, ↓iNle_f, ↓iNeq_t, ↓iNeq_f, ↓iJlt_t, ↓iJlt_f, ↓iJle_t, ↓iJle_f, ↓iJeq_t, ↓iJeq_f, ↓iZlt_t, ↓iZlt_f, ↓iZle_t, ↓iZle_f, ↓iZeq_t, ↓iZeq_f, ↓iQlt_t, ↓iQlt_f, ↓iQle_t, ↓iQle_f, ↓iQeq_t, ↓iQeq_f, ↓iAnd_t, ↓iAnd_f, ↓iOr_t, ↓iOr_f, ↓iIff_t, ↓iIff_f, ↓iNot_t, ↓iNot_f, ↓iTrue, ↓iFalse, ↓ckN, ↓ckJ, ↓gIT, ↓gLT, ↓gRT, ↓cvT, ↓pIT, ↓pLT, ↓pZT, ↓asZ, ↓aNT, ↓arL, ↓asL, ↓arI, ↓asI, ↓aR_1, ↓bnd_some, ↓wh_eq, ↓on_some, ↓on_none, asZ, arL, asL, arI, asI, aR_1, bnd_some, wh_eq, on_some, on_none, tnT, tnU, tnL, nk, jk, N_add, N_mul, N_sub, N_neg, J_add, J_mul, J_sub, J_neg, N_J, q_in]
