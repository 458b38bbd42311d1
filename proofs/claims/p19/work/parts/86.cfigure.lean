/-! ===== figure ===== -/
abbrev sml (v : Int) : Prop := -10000000000000 ≤ v ∧ v ≤ 10000000000000
abbrev nar (p : Nat → Int) (k : Nat) : Prop := (sml (ne p (k + 1)).1.1 ∧ sml ((ne p (k + 1)).1.1 + (ne p k).1.1)) ∧ sml (ne p (k + 1)).1.2 ∧ sml ((ne p (k + 1)).1.2 + (ne p k).1.2)
/-- how many from k on, of m, THE SPAN may be told by -/
def sK (p : Nat → Int) : Nat → Nat → Nat
  | 0, k => k
  | m + 1, k => if neF p k ∨ ¬ nar p k then k else sK p m (k + 1)
theorem sK_le (p : Nat → Int) : ∀ m k, k ≤ sK p m k ∧ sK p m k ≤ k + m := by
  intro m
  induction m with
  | zero => intro k; exact ⟨Nat.le_refl _, Nat.le_refl _⟩
  | succ m ih =>
    intro k
    unfold sK
    split
    · omega
    · have := ih (k + 1)
      omega
theorem sK_no (p : Nat → Int) : ∀ m k j, k ≤ j → j < sK p m k → ¬ (neF p j ∨ ¬ nar p j) := by
  intro m
  induction m with
  | zero => intro k j h1 h2; unfold sK at h2; omega
  | succ m ih =>
    intro k j h1 h2
    unfold sK at h2
    split at h2
    · omega
    · rename_i c
      by_cases e : j = k
      · rw [e]; exact c
      · exact ih (k + 1) j (by omega) h2
theorem sK_nK (p : Nat → Int) : ∀ m k, sK p m k ≤ nK p m k := by
  intro m
  induction m with
  | zero => intro k; exact Nat.le_refl _
  | succ m ih =>
    intro k
    unfold sK nK
    by_cases c : neF p k
    · rw [if_pos c, if_pos (Or.inl c)]
      exact Nat.le_refl _
    · rw [if_neg c]
      split
      · have := nK_le p m (k + 1)
        omega
      · exact ih (k + 1)
theorem sK_0 (p : Nat → Int) (k : Nat) : sK p 0 k = k := rfl
theorem sK_s (p : Nat → Int) (m k : Nat) : sK p (m + 1) k = if neF p k ∨ ¬ nar p k then k else sK p m (k + 1) := rfl
section SPN
variable {ρ : Type} {i l : Nat → Nat → Int} {x y : Option Nat}
theorem b_small {a : Int} {h : AH} (F : Int32 → AH → Fn ρ) (h1 : -9223372036854775808 ≤ a ∧ a ≤ 9223372036854775807) : bnd (fX2_isSmall (J a) h) F = F (N (ib (sml a))) h := by
  have e : fX2_isSmall (J a) h = some (N (ib (sml a)), h) := by
    unfold fX2_isSmall ib
    simp only [nk, jk, N_add, N_mul, N_sub, N_neg, J_add, J_mul, J_sub, J_neg]
    by_cases c1 : 10000000000000 < a
    · simp (disch := omega) only [↓iNlt_t, ↓iNlt_f, ↓iNle_t, ↓iNle_f, ↓iNeq_t, ↓iNeq_f, ↓iJlt_t, ↓iJlt_f, ↓iJle_t, ↓iJle_f, ↓iJeq_t, ↓iJeq_f, ↓iZlt_t, ↓iZlt_f, ↓iZle_t, ↓iZle_f, ↓iZeq_t, ↓iZeq_f, ↓iQlt_t, ↓iQlt_f, ↓iQle_t, ↓iQle_f, ↓iQeq_t, ↓iQeq_f, ↓iAnd_t, ↓iAnd_f, ↓iOr_t, ↓iOr_f, ↓iIff_t, ↓iIff_f, ↓iNot_t, ↓iNot_f, ↓iTrue, ↓iFalse, ↓ckN, ↓ckJ, ↓gIT, ↓gLT, ↓gRT, ↓cvT, ↓pIT, ↓pLT, ↓pZT, ↓asZ, ↓aNT, ↓arL, ↓asL, ↓arI, ↓asI, ↓aR_1, ↓bnd_some, ↓wh_eq, ↓on_some, ↓on_none, asZ, arL, asL, arI, asI, aR_1, bnd_some, wh_eq, on_some, on_none, tnT, tnU, tnL, nk, jk, N_add, N_mul, N_sub, N_neg, J_add, J_mul, J_sub, J_neg, N_J]
    · by_cases c2 : a < -10000000000000
      · simp (disch := omega) only [↓iNlt_t, ↓iNlt_f, ↓iNle_t, ↓iNle_f, ↓iNeq_t, ↓iNeq_f, ↓iJlt_t, ↓iJlt_f, ↓iJle_t, ↓iJle_f, ↓iJeq_t, ↓iJeq_f, ↓iZlt_t, ↓iZlt_f, ↓iZle_t, ↓iZle_f, ↓iZeq_t, ↓iZeq_f, ↓iQlt_t, ↓iQlt_f, ↓iQle_t, ↓iQle_f, ↓iQeq_t, ↓iQeq_f, ↓iAnd_t, ↓iAnd_f, ↓iOr_t, ↓iOr_f, ↓iIff_t, ↓iIff_f, ↓iNot_t, ↓iNot_f, ↓iTrue, ↓iFalse, ↓ckN, ↓ckJ, ↓gIT, ↓gLT, ↓gRT, ↓cvT, ↓pIT, ↓pLT, ↓pZT, ↓asZ, ↓aNT, ↓arL, ↓asL, ↓arI, ↓asI, ↓aR_1, ↓bnd_some, ↓wh_eq, ↓on_some, ↓on_none, asZ, arL, asL, arI, asI, aR_1, bnd_some, wh_eq, on_some, on_none, tnT, tnU, tnL, nk, jk, N_add, N_mul, N_sub, N_neg, J_add, J_mul, J_sub, J_neg, N_J]
      · simp (disch := omega) only [↓iNlt_t, ↓iNlt_f, ↓iNle_t, ↓iNle_f, ↓iNeq_t, ↓iNeq_f, ↓iJlt_t, ↓iJlt_f, ↓iJle_t, ↓iJle_f, ↓iJeq_t, ↓iJeq_f, ↓iZlt_t, ↓iZlt_f, ↓iZle_t, ↓iZle_f, ↓iZeq_t, ↓iZeq_f, ↓iQlt_t, ↓iQlt_f, ↓iQle_t, ↓iQle_f, ↓iQeq_t, ↓iQeq_f, ↓iAnd_t, ↓iAnd_f, ↓iOr_t, ↓iOr_f, ↓iIff_t, ↓iIff_f, ↓iNot_t, ↓iNot_f, ↓iTrue, ↓iFalse, ↓ckN, ↓ckJ, ↓gIT, ↓gLT, ↓gRT, ↓cvT, ↓pIT, ↓pLT, ↓pZT, ↓asZ, ↓aNT, ↓arL, ↓asL, ↓arI, ↓asI, ↓aR_1, ↓bnd_some, ↓wh_eq, ↓on_some, ↓on_none, asZ, arL, asL, arI, asI, aR_1, bnd_some, wh_eq, on_some, on_none, tnT, tnU, tnL, nk, jk, N_add, N_mul, N_sub, N_neg, J_add, J_mul, J_sub, J_neg, N_J]
  exact bq e F
theorem q_lastL {p : Nat → Int} {n0 : Nat} (hn0 : n0 ≤ 60) : ∀ (m k n : Nat), k + m = n0 → m + 1 ≤ n → k ≤ nK p n0 0 → sK p m k = sK p n0 0 →
    fX2_lastForSpan_2L n 20 (N k) (hq (w1 i 20 2 (nK p n0 0 : Nat)) (neL l p (nK p n0 0)) x y) = some (N ((sK p n0 0 : Int) - 1), hq (w1 i 20 2 (nK p n0 0 : Nat)) (neL l p (nK p n0 0)) x y) := by
  have hK := nK_le p n0 0
  have hS := sK_le p n0 0
  intro m
  induction m with
  | zero =>
    intro k n hk hn h1 h2
    obtain ⟨z, rfl⟩ : ∃ z, n = z + 1 := ⟨n - 1, by omega⟩
    rw [sK_0] at h2
    show fX2_lastForSpan_2 (fX2_lastForSpan_2L z) 20 _ _ = _
    unfold fX2_lastForSpan_2 fX2_lastForSpan_90
    have hk2 : nK p n0 0 = k := by
      have := sK_nK p n0 0
      omega
    rw [← h2, hk2]
    simp only [nk, jk, N_add, N_mul, N_sub, N_neg, J_add, J_mul, J_sub, J_neg]
    simp (disch := omega) only [↓iNlt_t, ↓iNlt_f, ↓iNle_t, ↓iNle_f, ↓iNeq_t, ↓iNeq_f, ↓iJlt_t, ↓iJlt_f, ↓iJle_t, ↓iJle_f, ↓iJeq_t, ↓iJeq_f, ↓iZlt_t, ↓iZlt_f, ↓iZle_t, ↓iZle_f, ↓iZeq_t, ↓iZeq_f, ↓iQlt_t, ↓iQlt_f, ↓iQle_t, ↓iQle_f, ↓iQeq_t, ↓iQeq_f, ↓iAnd_t, ↓iAnd_f, ↓iOr_t, ↓iOr_f, ↓iIff_t, ↓iIff_f, ↓iNot_t, ↓iNot_f, ↓iTrue, ↓iFalse, ↓ckN, ↓ckJ, ↓gIT, ↓gLT, ↓gRT, ↓cvT, ↓pIT, ↓pLT, ↓pZT, ↓asZ, ↓aNT, ↓arL, ↓asL, ↓arI, ↓asI, ↓aR_1, ↓bnd_some, ↓wh_eq, ↓on_some, ↓on_none, asZ, arL, asL, arI, asI, aR_1, bnd_some, wh_eq, on_some, on_none, tnT, tnU, tnL, nk, jk, N_add, N_mul, N_sub, N_neg, J_add, J_mul, J_sub, J_neg, N_J, w1_s]
  | succ m ih =>
    intro k n hk hn h1 h2
    obtain ⟨z, rfl⟩ : ∃ z, n = z + 1 := ⟨n - 1, by omega⟩
    have ih := ih (k + 1) z (by omega) (by omega)
    show fX2_lastForSpan_2 (fX2_lastForSpan_2L z) 20 _ _ = _
    unfold fX2_lastForSpan_2
    by_cases c : k = nK p n0 0
    · have cF : neF p k := by rw [c]; exact nK_at p n0 0 (by omega)
      rw [sK_s] at h2
      rw [if_pos (Or.inl cF)] at h2
      unfold fX2_lastForSpan_90
      rw [← h2, ← c]
      simp only [nk, jk, N_add, N_mul, N_sub, N_neg, J_add, J_mul, J_sub, J_neg]
      simp (disch := omega) only [↓iNlt_t, ↓iNlt_f, ↓iNle_t, ↓iNle_f, ↓iNeq_t, ↓iNeq_f, ↓iJlt_t, ↓iJlt_f, ↓iJle_t, ↓iJle_f, ↓iJeq_t, ↓iJeq_f, ↓iZlt_t, ↓iZlt_f, ↓iZle_t, ↓iZle_f, ↓iZeq_t, ↓iZeq_f, ↓iQlt_t, ↓iQlt_f, ↓iQle_t, ↓iQle_f, ↓iQeq_t, ↓iQeq_f, ↓iAnd_t, ↓iAnd_f, ↓iOr_t, ↓iOr_f, ↓iIff_t, ↓iIff_f, ↓iNot_t, ↓iNot_f, ↓iTrue, ↓iFalse, ↓ckN, ↓ckJ, ↓gIT, ↓gLT, ↓gRT, ↓cvT, ↓pIT, ↓pLT, ↓pZT, ↓asZ, ↓aNT, ↓arL, ↓asL, ↓arI, ↓asI, ↓aR_1, ↓bnd_some, ↓wh_eq, ↓on_some, ↓on_none, asZ, arL, asL, arI, asI, aR_1, bnd_some, wh_eq, on_some, on_none, tnT, tnU, tnL, nk, jk, N_add, N_mul, N_sub, N_neg, J_add, J_mul, J_sub, J_neg, N_J, w1_s]
    · have cF : ¬ neF p k := nK_no p n0 0 k (by omega) (by omega)
      obtain ⟨⟨f1, f2⟩, f3, f4⟩ := ne_far p (k + 1) (fun q hq => nK_no p n0 0 q (by omega) (by omega))
      have u0 := q_upper (i := w1 i 20 2 (nK p n0 0 : Nat)) (l := l) (x := x) (y := y) (p := p) (k := nK p n0 0) (j := k) (by omega) (by omega)
      have v0 := q_lower (i := w1 i 20 2 (nK p n0 0 : Nat)) (l := l) (x := x) (y := y) (p := p) (k := nK p n0 0) (j := k) (by omega) (by omega)
      obtain ⟨u1, -⟩ := q_up1 (i := w1 i 20 2 (nK p n0 0 : Nat)) (l := l) (x := x) (y := y) (p := p) (k := k) (q := nK p n0 0) (by omega) (by omega)
      obtain ⟨v1, -⟩ := q_lo1 (i := w1 i 20 2 (nK p n0 0 : Nat)) (l := l) (x := x) (y := y) (p := p) (k := k) (q := nK p n0 0) (by omega) (by omega)
      have f3 : ¬ far (ne p k).1.1 := f3
      have f4 : ¬ far (ne p k).1.2 := f4
      rw [sK_s] at h2
      by_cases cN : nar p k
      · rw [if_neg (by rintro (z | z) <;> contradiction)] at h2
        obtain ⟨⟨g1, g2⟩, g3, g4⟩ := id cN
        generalize (ne p (k + 1)).1.1 = s at *
        generalize (ne p (k + 1)).1.2 = t at *
        generalize (ne p k).1.1 = s1 at *
        generalize (ne p k).1.2 = t1 at *
        rw [← ih (by omega) h2]
        simp only [nk, jk, N_add, N_mul, N_sub, N_neg, J_add, J_mul, J_sub, J_neg]
        simp (disch := omega) only [↓iNlt_t, ↓iNlt_f, ↓iNle_t, ↓iNle_f, ↓iNeq_t, ↓iNeq_f, ↓iJlt_t, ↓iJlt_f, ↓iJle_t, ↓iJle_f, ↓iJeq_t, ↓iJeq_f, ↓iZlt_t, ↓iZlt_f, ↓iZle_t, ↓iZle_f, ↓iZeq_t, ↓iZeq_f, ↓iQlt_t, ↓iQlt_f, ↓iQle_t, ↓iQle_f, ↓iQeq_t, ↓iQeq_f, ↓iAnd_t, ↓iAnd_f, ↓iOr_t, ↓iOr_f, ↓iIff_t, ↓iIff_f, ↓iNot_t, ↓iNot_f, ↓iTrue, ↓iFalse, ↓ckN, ↓ckJ, ↓gIT, ↓gLT, ↓gRT, ↓cvT, ↓pIT, ↓pLT, ↓pZT, ↓asZ, ↓aNT, ↓arL, ↓asL, ↓arI, ↓asI, ↓aR_1, ↓bnd_some, ↓wh_eq, ↓on_some, ↓on_none, asZ, arL, asL, arI, asI, aR_1, bnd_some, wh_eq, on_some, on_none, tnT, tnU, tnL, nk, jk, N_add, N_mul, N_sub, N_neg, J_add, J_mul, J_sub, J_neg, N_J, w1_s, ↓bq u0, ↓bq u1, ↓bq v0, ↓bq v1, ↓b_small, ↓iIb]
        rfl
      · rw [if_pos (Or.inr cN)] at h2
        rw [← h2]
        unfold fX2_lastForSpan_80
        have cN : ¬ ((sml (ne p (k + 1)).1.1 ∧ sml ((ne p (k + 1)).1.1 + (ne p k).1.1)) ∧ sml (ne p (k + 1)).1.2 ∧ sml ((ne p (k + 1)).1.2 + (ne p k).1.2)) := cN
        generalize (ne p (k + 1)).1.1 = s at *
        generalize (ne p (k + 1)).1.2 = t at *
        generalize (ne p k).1.1 = s1 at *
        generalize (ne p k).1.2 = t1 at *
        simp only [nk, jk, N_add, N_mul, N_sub, N_neg, J_add, J_mul, J_sub, J_neg]
        by_cases c1 : sml s
        · by_cases c2 : sml (s + s1)
          · by_cases c3 : sml t
            · have c4 : ¬ sml (t + t1) := fun z => cN ⟨⟨c1, c2⟩, c3, z⟩
              simp (disch := omega) only [↓iNlt_t, ↓iNlt_f, ↓iNle_t, ↓iNle_f, ↓iNeq_t, ↓iNeq_f, ↓iJlt_t, ↓iJlt_f, ↓iJle_t, ↓iJle_f, ↓iJeq_t, ↓iJeq_f, ↓iZlt_t, ↓iZlt_f, ↓iZle_t, ↓iZle_f, ↓iZeq_t, ↓iZeq_f, ↓iQlt_t, ↓iQlt_f, ↓iQle_t, ↓iQle_f, ↓iQeq_t, ↓iQeq_f, ↓iAnd_t, ↓iAnd_f, ↓iOr_t, ↓iOr_f, ↓iIff_t, ↓iIff_f, ↓iNot_t, ↓iNot_f, ↓iTrue, ↓iFalse, ↓ckN, ↓ckJ, ↓gIT, ↓gLT, ↓gRT, ↓cvT, ↓pIT, ↓pLT, ↓pZT, ↓asZ, ↓aNT, ↓arL, ↓asL, ↓arI, ↓asI, ↓aR_1, ↓bnd_some, ↓wh_eq, ↓on_some, ↓on_none, asZ, arL, asL, arI, asI, aR_1, bnd_some, wh_eq, on_some, on_none, tnT, tnU, tnL, nk, jk, N_add, N_mul, N_sub, N_neg, J_add, J_mul, J_sub, J_neg, N_J, w1_s, ↓bq u0, ↓bq u1, ↓bq v0, ↓bq v1, ↓b_small, ↓iIb]
            · simp (disch := omega) only [↓iNlt_t, ↓iNlt_f, ↓iNle_t, ↓iNle_f, ↓iNeq_t, ↓iNeq_f, ↓iJlt_t, ↓iJlt_f, ↓iJle_t, ↓iJle_f, ↓iJeq_t, ↓iJeq_f, ↓iZlt_t, ↓iZlt_f, ↓iZle_t, ↓iZle_f, ↓iZeq_t, ↓iZeq_f, ↓iQlt_t, ↓iQlt_f, ↓iQle_t, ↓iQle_f, ↓iQeq_t, ↓iQeq_f, ↓iAnd_t, ↓iAnd_f, ↓iOr_t, ↓iOr_f, ↓iIff_t, ↓iIff_f, ↓iNot_t, ↓iNot_f, ↓iTrue, ↓iFalse, ↓ckN, ↓ckJ, ↓gIT, ↓gLT, ↓gRT, ↓cvT, ↓pIT, ↓pLT, ↓pZT, ↓asZ, ↓aNT, ↓arL, ↓asL, ↓arI, ↓asI, ↓aR_1, ↓bnd_some, ↓wh_eq, ↓on_some, ↓on_none, asZ, arL, asL, arI, asI, aR_1, bnd_some, wh_eq, on_some, on_none, tnT, tnU, tnL, nk, jk, N_add, N_mul, N_sub, N_neg, J_add, J_mul, J_sub, J_neg, N_J, w1_s, ↓bq u0, ↓bq u1, ↓bq v0, ↓bq v1, ↓b_small, ↓iIb]
          · simp (disch := omega) only [↓iNlt_t, ↓iNlt_f, ↓iNle_t, ↓iNle_f, ↓iNeq_t, ↓iNeq_f, ↓iJlt_t, ↓iJlt_f, ↓iJle_t, ↓iJle_f, ↓iJeq_t, ↓iJeq_f, ↓iZlt_t, ↓iZlt_f, ↓iZle_t, ↓iZle_f, ↓iZeq_t, ↓iZeq_f, ↓iQlt_t, ↓iQlt_f, ↓iQle_t, ↓iQle_f, ↓iQeq_t, ↓iQeq_f, ↓iAnd_t, ↓iAnd_f, ↓iOr_t, ↓iOr_f, ↓iIff_t, ↓iIff_f, ↓iNot_t, ↓iNot_f, ↓iTrue, ↓iFalse, ↓ckN, ↓ckJ, ↓gIT, ↓gLT, ↓gRT, ↓cvT, ↓pIT, ↓pLT, ↓pZT, ↓asZ, ↓aNT, ↓arL, ↓asL, ↓arI, ↓asI, ↓aR_1, ↓bnd_some, ↓wh_eq, ↓on_some, ↓on_none, asZ, arL, asL, arI, asI, aR_1, bnd_some, wh_eq, on_some, on_none, tnT, tnU, tnL, nk, jk, N_add, N_mul, N_sub, N_neg, J_add, J_mul, J_sub, J_neg, N_J, w1_s, ↓bq u0, ↓bq u1, ↓bq v0, ↓bq v1, ↓b_small, ↓iIb]
        · simp (disch := omega) only [↓iNlt_t, ↓iNlt_f, ↓iNle_t, ↓iNle_f, ↓iNeq_t, ↓iNeq_f, ↓iJlt_t, ↓iJlt_f, ↓iJle_t, ↓iJle_f, ↓iJeq_t, ↓iJeq_f, ↓iZlt_t, ↓iZlt_f, ↓iZle_t, ↓iZle_f, ↓iZeq_t, ↓iZeq_f, ↓iQlt_t, ↓iQlt_f, ↓iQle_t, ↓iQle_f, ↓iQeq_t, ↓iQeq_f, ↓iAnd_t, ↓iAnd_f, ↓iOr_t, ↓iOr_f, ↓iIff_t, ↓iIff_f, ↓iNot_t, ↓iNot_f, ↓iTrue, ↓iFalse, ↓ckN, ↓ckJ, ↓gIT, ↓gLT, ↓gRT, ↓cvT, ↓pIT, ↓pLT, ↓pZT, ↓asZ, ↓aNT, ↓arL, ↓asL, ↓arI, ↓asI, ↓aR_1, ↓bnd_some, ↓wh_eq, ↓on_some, ↓on_none, asZ, arL, asL, arI, asI, aR_1, bnd_some, wh_eq, on_some, on_none, tnT, tnU, tnL, nk, jk, N_add, N_mul, N_sub, N_neg, J_add, J_mul, J_sub, J_neg, N_J, w1_s, ↓bq u0, ↓bq u1, ↓bq v0, ↓bq v1, ↓b_small, ↓iIb]
theorem q_last {p : Nat → Int} {n0 : Nat} (hn0 : n0 ≤ 60) : fX2_lastForSpan 20 (hq (w1 i 20 2 (nK p n0 0 : Nat)) (neL l p (nK p n0 0)) x y) = some (N ((sK p n0 0 : Int) - 1), hq (w1 i 20 2 (nK p n0 0 : Nat)) (neL l p (nK p n0 0)) x y) := q_lastL hn0 n0 0 1000 (by omega) (by omega) (by omega) rfl
end SPN
/-- what figure answers -/
def figV (p : Nat → Int) (n0 : Nat) (en b : Int) (k : Nat) : Int :=
  if en = 1 then (if nK p n0 0 < n0 ∨ 1000000000000000 < 36 * (ne p n0).1.2 then -2000000000000000005 else fgr (ne p n0).1.2 b k (ne p n0).1.1)
  else if sK p n0 0 = 0 then -2000000000000000006
  else if sK p n0 0 % 2 = 1 then smV (ne p (sK p n0 0)).1.2 ((ne p (sK p n0 0)).1.2 + (ne p (sK p n0 0)).2.2) b k (ne p (sK p n0 0)).1.1 ((ne p (sK p n0 0)).1.1 + (ne p (sK p n0 0)).2.1)
  else smV ((ne p (sK p n0 0)).1.2 + (ne p (sK p n0 0)).2.2) (ne p (sK p n0 0)).1.2 b k ((ne p (sK p n0 0)).1.1 + (ne p (sK p n0 0)).2.1) (ne p (sK p n0 0)).1.1
section SPM
variable {ρ : Type} {i l : Nat → Nat → Int} {x y : Option Nat}
theorem q_upperF {p : Nat → Int} {k j : Nat} (hk : k ≤ 60) (hj : j < k) (a b c d : Int) : fX2_upperAt 20 (N j) (hq i (fiL (neL l p k) a b c d) x y) = some (J (ne p (j + 1)).1.1, hq i (fiL (neL l p k) a b c d) x y) := by
  unfold fX2_upperAt
  simp only [nk, jk, N_add, N_mul, N_sub, N_neg, J_add, J_mul, J_sub, J_neg]
  simp (disch := omega) only [↓iNlt_t, ↓iNlt_f, ↓iNle_t, ↓iNle_f, ↓iNeq_t, ↓iNeq_f, ↓iJlt_t, ↓iJlt_f, ↓iJle_t, ↓iJle_f, ↓iJeq_t, ↓iJeq_f, ↓iZlt_t, ↓iZlt_f, ↓iZle_t, ↓iZle_f, ↓iZeq_t, ↓iZeq_f, ↓iQlt_t, ↓iQlt_f, ↓iQle_t, ↓iQle_f, ↓iQeq_t, ↓iQeq_f, ↓iAnd_t, ↓iAnd_f, ↓iOr_t, ↓iOr_f, ↓iIff_t, ↓iIff_f, ↓iNot_t, ↓iNot_f, ↓iTrue, ↓iFalse, ↓ckN, ↓ckJ, ↓gIT, ↓gLT, ↓gRT, ↓cvT, ↓pIT, ↓pLT, ↓pZT, ↓asZ, ↓aNT, ↓arL, ↓asL, ↓arI, ↓asI, ↓aR_1, ↓bnd_some, ↓wh_eq, ↓on_some, ↓on_none, asZ, arL, asL, arI, asI, aR_1, bnd_some, wh_eq, on_some, on_none, tnT, tnU, tnL, nk, jk, N_add, N_mul, N_sub, N_neg, J_add, J_mul, J_sub, J_neg, N_J, fiL_n, neL_21 l p hj]
/-- the class's figure, of one that ends -/
theorem q_ofRatio {s : Nat} (hs : s < 40) {p : Nat → Int} {n0 : Nat} (h1 : 1 ≤ n0) (hn0 : n0 ≤ 60) (hn : i (2 * s + 28) 3 = n0) (hpos : ∀ j, 0 < j → j < n0 → 1 ≤ p j) {b : Int} (hb : 2 ≤ b ∧ b ≤ 36) {k : Nat} (hk : k ≤ 40) :
    ∃ c1 c2 c3 c4 : Int, fX0_ofRatio 27 (2 * s + 28) 20 (N b) (N k) (hq (w1 i 20 2 (nK p n0 0 : Nat)) (neL l p (nK p n0 0)) x y) = some (J (figV p n0 1 b k), hq (w1 i 20 2 (nK p n0 0 : Nat)) (fiL (neL l p (nK p n0 0)) c1 c2 c3 c4) x y) := by
  have hK := nK_le p n0 0
  have st := (St_s hs).1.1
  have e : w1 i 20 2 (nK p n0 0 : Nat) (2 * s + 28) 3 = n0 := by rw [w1_na _ _ _ _ (by omega)]; exact hn
  have hid := fiL_id (neL l p (nK p n0 0))
  unfold figV
  rw [if_pos rfl]
  by_cases c : nK p n0 0 < n0
  · refine ⟨neL l p (nK p n0 0) 27 0, neL l p (nK p n0 0) 27 1, neL l p (nK p n0 0) 27 2, neL l p (nK p n0 0) 27 3, ?_⟩
    rw [← hid, if_pos (Or.inl c)]
    unfold fX0_ofRatio
    simp only [nk, jk, N_add, N_mul, N_sub, N_neg, J_add, J_mul, J_sub, J_neg]
    simp (disch := omega) only [↓iNlt_t, ↓iNlt_f, ↓iNle_t, ↓iNle_f, ↓iNeq_t, ↓iNeq_f, ↓iJlt_t, ↓iJlt_f, ↓iJle_t, ↓iJle_f, ↓iJeq_t, ↓iJeq_f, ↓iZlt_t, ↓iZlt_f, ↓iZle_t, ↓iZle_f, ↓iZeq_t, ↓iZeq_f, ↓iQlt_t, ↓iQlt_f, ↓iQle_t, ↓iQle_f, ↓iQeq_t, ↓iQeq_f, ↓iAnd_t, ↓iAnd_f, ↓iOr_t, ↓iOr_f, ↓iIff_t, ↓iIff_f, ↓iNot_t, ↓iNot_f, ↓iTrue, ↓iFalse, ↓ckN, ↓ckJ, ↓gIT, ↓gLT, ↓gRT, ↓cvT, ↓pIT, ↓pLT, ↓pZT, ↓asZ, ↓aNT, ↓arL, ↓asL, ↓arI, ↓asI, ↓aR_1, ↓bnd_some, ↓wh_eq, ↓on_some, ↓on_none, asZ, arL, asL, arI, asI, aR_1, bnd_some, wh_eq, on_some, on_none, tnT, tnU, tnL, nk, jk, N_add, N_mul, N_sub, N_neg, J_add, J_mul, J_sub, J_neg, N_J, ↓gI_q st, w1_s, e, Jc5]
  · have hKn : nK p n0 0 = n0 := by omega
    obtain ⟨⟨f1, f2⟩, f3, f4⟩ := ne_far p n0 (fun q hq => nK_no p n0 0 q (by omega) (by omega))
    obtain ⟨-, -, -, tp⟩ := ne_pos p n0 (fun j z1 z2 => hpos j z1 z2)
    have tp := tp (by omega)
    obtain ⟨u1, -⟩ := q_up1 (i := w1 i 20 2 (nK p n0 0 : Nat)) (l := l) (x := x) (y := y) (p := p) (k := n0) (q := nK p n0 0) (by omega) (by omega)
    obtain ⟨v1, -⟩ := q_lo1 (i := w1 i 20 2 (nK p n0 0 : Nat)) (l := l) (x := x) (y := y) (p := p) (k := n0) (q := nK p n0 0) (by omega) (by omega)
    rw [hKn] at e hid u1 v1 ⊢
    have tm36 : tm 36 (ne p n0).1.2 = if 1000000000000000 < 36 * (ne p n0).1.2 then 4000000000000000000 else 36 * (ne p n0).1.2 := by
      unfold tm
      by_cases q : 1000000000000000 < 36 * (ne p n0).1.2
      · rw [if_pos q, if_pos (by omega)]
      · rw [if_neg q, if_neg (by omega)]
    by_cases c2 : 1000000000000000 < 36 * (ne p n0).1.2
    · refine ⟨neL l p n0 27 0, neL l p n0 27 1, neL l p n0 27 2, neL l p n0 27 3, ?_⟩
      rw [← hid, if_pos (Or.inr c2)]
      rw [if_pos c2] at tm36
      unfold fX0_ofRatio
      simp only [nk, jk, N_add, N_mul, N_sub, N_neg, J_add, J_mul, J_sub, J_neg]
      simp (disch := omega) only [↓iNlt_t, ↓iNlt_f, ↓iNle_t, ↓iNle_f, ↓iNeq_t, ↓iNeq_f, ↓iJlt_t, ↓iJlt_f, ↓iJle_t, ↓iJle_f, ↓iJeq_t, ↓iJeq_f, ↓iZlt_t, ↓iZlt_f, ↓iZle_t, ↓iZle_f, ↓iZeq_t, ↓iZeq_f, ↓iQlt_t, ↓iQlt_f, ↓iQle_t, ↓iQle_f, ↓iQeq_t, ↓iQeq_f, ↓iAnd_t, ↓iAnd_f, ↓iOr_t, ↓iOr_f, ↓iIff_t, ↓iIff_f, ↓iNot_t, ↓iNot_f, ↓iTrue, ↓iFalse, ↓ckN, ↓ckJ, ↓gIT, ↓gLT, ↓gRT, ↓cvT, ↓pIT, ↓pLT, ↓pZT, ↓asZ, ↓aNT, ↓arL, ↓asL, ↓arI, ↓asI, ↓aR_1, ↓bnd_some, ↓wh_eq, ↓on_some, ↓on_none, asZ, arL, asL, arI, asI, aR_1, bnd_some, wh_eq, on_some, on_none, tnT, tnU, tnL, nk, jk, N_add, N_mul, N_sub, N_neg, J_add, J_mul, J_sub, J_neg, N_J, ↓gI_q st, w1_s, e, Jc5, ↓bq v1, ↓b_times, tm36, ↓b_isFar, ↓iIb]
    · rw [if_neg (by omega)]
      rw [if_neg c2] at tm36
      obtain ⟨e', f', R⟩ := q_ofRL (i := w1 i 20 2 ((n0 : Nat) : Int)) (l := neL l p n0) (x := x) (y := y) (t := (ne p n0).1.2) (b := b) (by omega) hb hk (neL l p n0 27 2) (neL l p n0 27 3) k 0 1000 (ne p n0).1.1 (by omega) (by omega) (by omega)
      refine ⟨e', f', neL l p n0 27 2, neL l p n0 27 3, ?_⟩
      have S := q_splitLow (i := w1 i 20 2 ((n0 : Nat) : Int)) (l := neL l p n0) (x := x) (y := y) (a := neL l p n0 27 0) (b := neL l p n0 27 1) (c := neL l p n0 27 2) (d := neL l p n0 27 3) (u := (ne p n0).1.1) (t := (ne p n0).1.2) (by omega) (by omega)
      rw [← hid] at S
      unfold fX0_ofRatio
      simp only [nk, jk, N_add, N_mul, N_sub, N_neg, J_add, J_mul, J_sub, J_neg]
      simp (disch := omega) only [↓iNlt_t, ↓iNlt_f, ↓iNle_t, ↓iNle_f, ↓iNeq_t, ↓iNeq_f, ↓iJlt_t, ↓iJlt_f, ↓iJle_t, ↓iJle_f, ↓iJeq_t, ↓iJeq_f, ↓iZlt_t, ↓iZlt_f, ↓iZle_t, ↓iZle_f, ↓iZeq_t, ↓iZeq_f, ↓iQlt_t, ↓iQlt_f, ↓iQle_t, ↓iQle_f, ↓iQeq_t, ↓iQeq_f, ↓iAnd_t, ↓iAnd_f, ↓iOr_t, ↓iOr_f, ↓iIff_t, ↓iIff_f, ↓iNot_t, ↓iNot_f, ↓iTrue, ↓iFalse, ↓ckN, ↓ckJ, ↓gIT, ↓gLT, ↓gRT, ↓cvT, ↓pIT, ↓pLT, ↓pZT, ↓asZ, ↓aNT, ↓arL, ↓asL, ↓arI, ↓asI, ↓aR_1, ↓bnd_some, ↓wh_eq, ↓on_some, ↓on_none, asZ, arL, asL, arI, asI, aR_1, bnd_some, wh_eq, on_some, on_none, tnT, tnU, tnL, nk, jk, N_add, N_mul, N_sub, N_neg, J_add, J_mul, J_sub, J_neg, N_J, ↓gI_q st, w1_s, e, Jc5, ↓bq u1, ↓bq v1, ↓b_times, tm36, ↓b_isFar, ↓iIb, ↓bq S]
      exact R
/-- the class's figure, within the span -/
theorem q_ofSpan {p : Nat → Int} {n0 : Nat} (hn0 : n0 ≤ 60) (hpos : ∀ j, 0 < j → j < n0 → 1 ≤ p j) {b : Int} (hb : 2 ≤ b ∧ b ≤ 36) {k : Nat} (hk : k ≤ 40) :
    ∃ c1 c2 c3 c4 : Int, fX0_ofSpan 27 20 (N b) (N k) (hq (w1 i 20 2 (nK p n0 0 : Nat)) (neL l p (nK p n0 0)) x y) = some (J (figV p n0 0 b k), hq (w1 i 20 2 (nK p n0 0 : Nat)) (fiL (neL l p (nK p n0 0)) c1 c2 c3 c4) x y) := by
  have hK := nK_le p n0 0
  have hS := sK_le p n0 0
  have hSK := sK_nK p n0 0
  have hid := fiL_id (neL l p (nK p n0 0))
  have La := q_last (i := i) (l := l) (x := x) (y := y) (p := p) hn0
  unfold figV
  rw [if_neg (by decide)]
  by_cases c : sK p n0 0 = 0
  · refine ⟨neL l p (nK p n0 0) 27 0, neL l p (nK p n0 0) 27 1, neL l p (nK p n0 0) 27 2, neL l p (nK p n0 0) 27 3, ?_⟩
    rw [← hid, if_pos c]
    unfold fX0_ofSpan
    simp only [nk, jk, N_add, N_mul, N_sub, N_neg, J_add, J_mul, J_sub, J_neg]
    simp (disch := omega) only [↓iNlt_t, ↓iNlt_f, ↓iNle_t, ↓iNle_f, ↓iNeq_t, ↓iNeq_f, ↓iJlt_t, ↓iJlt_f, ↓iJle_t, ↓iJle_f, ↓iJeq_t, ↓iJeq_f, ↓iZlt_t, ↓iZlt_f, ↓iZle_t, ↓iZle_f, ↓iZeq_t, ↓iZeq_f, ↓iQlt_t, ↓iQlt_f, ↓iQle_t, ↓iQle_f, ↓iQeq_t, ↓iQeq_f, ↓iAnd_t, ↓iAnd_f, ↓iOr_t, ↓iOr_f, ↓iIff_t, ↓iIff_f, ↓iNot_t, ↓iNot_f, ↓iTrue, ↓iFalse, ↓ckN, ↓ckJ, ↓gIT, ↓gLT, ↓gRT, ↓cvT, ↓pIT, ↓pLT, ↓pZT, ↓asZ, ↓aNT, ↓arL, ↓asL, ↓arI, ↓asI, ↓aR_1, ↓bnd_some, ↓wh_eq, ↓on_some, ↓on_none, asZ, arL, asL, arI, asI, aR_1, bnd_some, wh_eq, on_some, on_none, tnT, tnU, tnL, nk, jk, N_add, N_mul, N_sub, N_neg, J_add, J_mul, J_sub, J_neg, N_J, ↓bq La, Jc5]
  · rw [if_neg c]
    obtain ⟨k0, hk0⟩ : ∃ k0, sK p n0 0 = k0 + 1 := ⟨sK p n0 0 - 1, by omega⟩
    have hnar := sK_no p n0 0 k0 (by omega) (by omega)
    obtain ⟨⟨g1, g2⟩, g3, g4⟩ : nar p k0 := by
      rcases Classical.em (nar p k0) with z | z
      · exact z
      · exact absurd (Or.inr z) hnar
    have u0 := q_upper (i := w1 i 20 2 (nK p n0 0 : Nat)) (l := l) (x := x) (y := y) (p := p) (k := nK p n0 0) (j := k0) (by omega) (by omega)
    have v0 := q_lower (i := w1 i 20 2 (nK p n0 0 : Nat)) (l := l) (x := x) (y := y) (p := p) (k := nK p n0 0) (j := k0) (by omega) (by omega)
    obtain ⟨u1, -⟩ := q_up1 (i := w1 i 20 2 (nK p n0 0 : Nat)) (l := l) (x := x) (y := y) (p := p) (k := k0) (q := nK p n0 0) (by omega) (by omega)
    obtain ⟨v1, -⟩ := q_lo1 (i := w1 i 20 2 (nK p n0 0 : Nat)) (l := l) (x := x) (y := y) (p := p) (k := k0) (q := nK p n0 0) (by omega) (by omega)
    obtain ⟨t1, t2, t3, t4⟩ := ne_pos p (k0 + 1) (fun j z1 z2 => hpos j z1 (by omega))
    have t4 := t4 (by omega)
    have n2 : (ne p (k0 + 1)).2 = (ne p k0).1 := rfl
    rw [n2] at t2 t3
    have rm := k2N k0 (by omega)
    have uf := fun a b' c' d' => q_upperF (i := w1 i 20 2 (nK p n0 0 : Nat)) (l := l) (x := x) (y := y) (p := p) (k := nK p n0 0) (j := k0) (by omega) (by omega) a b' c' d'
    rw [hk0, n2]
    have kk : (((k0 + 1 : Nat) : Int) - 1) = (k0 : Int) := by omega
    rw [hk0, kk] at La
    generalize (ne p (k0 + 1)).1.1 = sv at *
    generalize (ne p (k0 + 1)).1.2 = tv at *
    generalize (ne p k0).1.1 = s1 at *
    generalize (ne p k0).1.2 = t1' at *
    generalize neL l p (nK p n0 0) = ln at *
    generalize w1 i 20 2 (nK p n0 0 : Nat) = il at *
    by_cases ev : k0 % 2 = 0
    · rw [if_pos (by omega)]
      have S1 := q_splitLow (i := il) (l := ln) (x := x) (y := y) (a := ln 27 0) (b := ln 27 1) (c := ln 27 2) (d := ln 27 3) (u := sv) (t := tv) (by omega) (by omega)
      rw [← hid] at S1
      have S2 := fun a b' c d => q_splitHigh (i := il) (l := ln) (x := x) (y := y) (a := a) (b := b') (c := c) (d := d) (u := sv + s1) (t := tv + t1') (by omega) (by omega)
      obtain ⟨c1, c2, c3, c4, R⟩ := q_ofSL (i := il) (l := ln) (x := x) (y := y) (v := tv) (y' := tv + t1') (by omega) (by omega) hb hk k 0 1000 sv (sv + s1) (by omega) (by omega) (by omega) (by omega)
      refine ⟨c1, c2, c3, c4, ?_⟩
      rw [← R]
      unfold fX0_ofSpan fX0_ofSpan_27 fX0_ofSpan_79 fX0_ofSpan_116
      simp only [nk, jk, N_add, N_mul, N_sub, N_neg, J_add, J_mul, J_sub, J_neg]
      simp (disch := omega) only [↓iNlt_t, ↓iNlt_f, ↓iNle_t, ↓iNle_f, ↓iNeq_t, ↓iNeq_f, ↓iJlt_t, ↓iJlt_f, ↓iJle_t, ↓iJle_f, ↓iJeq_t, ↓iJeq_f, ↓iZlt_t, ↓iZlt_f, ↓iZle_t, ↓iZle_f, ↓iZeq_t, ↓iZeq_f, ↓iQlt_t, ↓iQlt_f, ↓iQle_t, ↓iQle_f, ↓iQeq_t, ↓iQeq_f, ↓iAnd_t, ↓iAnd_f, ↓iOr_t, ↓iOr_f, ↓iIff_t, ↓iIff_f, ↓iNot_t, ↓iNot_f, ↓iTrue, ↓iFalse, ↓ckN, ↓ckJ, ↓gIT, ↓gLT, ↓gRT, ↓cvT, ↓pIT, ↓pLT, ↓pZT, ↓asZ, ↓aNT, ↓arL, ↓asL, ↓arI, ↓asI, ↓aR_1, ↓bnd_some, ↓wh_eq, ↓on_some, ↓on_none, asZ, arL, asL, arI, asI, aR_1, bnd_some, wh_eq, on_some, on_none, tnT, tnU, tnL, nk, jk, N_add, N_mul, N_sub, N_neg, J_add, J_mul, J_sub, J_neg, N_J, ↓bq La, rm, ev, ↓bq u0, ↓bq v0, ↓bq u1, ↓bq v1, ↓bq S1, ↓bq (S2 _ _ _ _)]
      rfl
    · rw [if_neg (by omega)]
      have S1 := q_splitLow (i := il) (l := ln) (x := x) (y := y) (a := ln 27 0) (b := ln 27 1) (c := ln 27 2) (d := ln 27 3) (u := sv + s1) (t := tv + t1') (by omega) (by omega)
      rw [← hid] at S1
      have S2 := fun a b' c d => q_splitHigh (i := il) (l := ln) (x := x) (y := y) (a := a) (b := b') (c := c) (d := d) (u := sv) (t := tv) (by omega) (by omega)
      obtain ⟨c1, c2, c3, c4, R⟩ := q_ofSL (i := il) (l := ln) (x := x) (y := y) (v := tv + t1') (y' := tv) (by omega) (by omega) hb hk k 0 1000 (sv + s1) sv (by omega) (by omega) (by omega) (by omega)
      refine ⟨c1, c2, c3, c4, ?_⟩
      rw [← R]
      unfold fX0_ofSpan fX0_ofSpan_27 fX0_ofSpan_79 fX0_ofSpan_116
      simp only [nk, jk, N_add, N_mul, N_sub, N_neg, J_add, J_mul, J_sub, J_neg]
      simp (disch := omega) only [↓iNlt_t, ↓iNlt_f, ↓iNle_t, ↓iNle_f, ↓iNeq_t, ↓iNeq_f, ↓iJlt_t, ↓iJlt_f, ↓iJle_t, ↓iJle_f, ↓iJeq_t, ↓iJeq_f, ↓iZlt_t, ↓iZlt_f, ↓iZle_t, ↓iZle_f, ↓iZeq_t, ↓iZeq_f, ↓iQlt_t, ↓iQlt_f, ↓iQle_t, ↓iQle_f, ↓iQeq_t, ↓iQeq_f, ↓iAnd_t, ↓iAnd_f, ↓iOr_t, ↓iOr_f, ↓iIff_t, ↓iIff_f, ↓iNot_t, ↓iNot_f, ↓iTrue, ↓iFalse, ↓ckN, ↓ckJ, ↓gIT, ↓gLT, ↓gRT, ↓cvT, ↓pIT, ↓pLT, ↓pZT, ↓asZ, ↓aNT, ↓arL, ↓asL, ↓arI, ↓asI, ↓aR_1, ↓bnd_some, ↓wh_eq, ↓on_some, ↓on_none, asZ, arL, asL, arI, asI, aR_1, bnd_some, wh_eq, on_some, on_none, tnT, tnU, tnL, nk, jk, N_add, N_mul, N_sub, N_neg, J_add, J_mul, J_sub, J_neg, N_J, ↓bq La, rm, ↓bq u0, ↓bq v0, ↓bq u1, ↓bq v1, ↓bq S1, ↓bq (uf _ _ _ _), ↓bq (S2 _ _ _ _)]
      rfl
end SPM
