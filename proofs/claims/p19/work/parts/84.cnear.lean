/-! ===== NEAR numbers of the reference; near ===== -/
def gnL (l : Nat → Nat → Int) (a b c d e f : Int) : Nat → Nat → Int := wr l 108 (fun j => if j = 26 then a else if j = 27 then b else if j = 28 then c else if j = 29 then d else if j = 30 then e else if j = 31 then f else l 108 j)
theorem gnL_n (l : Nat → Nat → Int) (a b c d e f : Int) {q : Nat} (h : q ≠ 108) : gnL l a b c d e f q = l q := wr_n _ _ h
theorem gnL_g (l : Nat → Nat → Int) (a b c d e f : Int) : gnL l a b c d e f 108 26 = a ∧ gnL l a b c d e f 108 27 = b ∧ gnL l a b c d e f 108 28 = c ∧ gnL l a b c d e f 108 29 = d ∧ gnL l a b c d e f 108 30 = e ∧ gnL l a b c d e f 108 31 = f := by
  unfold gnL
  rw [wr_s]
  simp
theorem gnL_o (l : Nat → Nat → Int) (a b c d e f : Int) {j : Nat} (h : j < 26 ∨ 31 < j) : gnL l a b c d e f 108 j = l 108 j := by
  unfold gnL
  rw [wr_s]
  rw [if_neg (by omega), if_neg (by omega), if_neg (by omega), if_neg (by omega), if_neg (by omega), if_neg (by omega)]
theorem gnL_w (l : Nat → Nat → Int) (a b c d e f v : Int) : w1 (gnL l a b c d e f) 108 26 v = gnL l v b c d e f ∧ w1 (gnL l a b c d e f) 108 27 v = gnL l a v c d e f ∧ w1 (gnL l a b c d e f) 108 28 v = gnL l a b v d e f ∧ w1 (gnL l a b c d e f) 108 29 v = gnL l a b c v e f ∧ w1 (gnL l a b c d e f) 108 30 v = gnL l a b c d v f ∧ w1 (gnL l a b c d e f) 108 31 v = gnL l a b c d e v := by
  unfold gnL
  simp only [w1_wr_s]
  refine ⟨?_, ?_, ?_, ?_, ?_, ?_⟩ <;> congr 1 <;> funext j
  all_goals
    by_cases h1 : j = 26
    · simp [h1]
    · by_cases h2 : j = 27
      · simp [h2]
      · by_cases h3 : j = 28
        · simp [h3]
        · by_cases h4 : j = 29
          · simp [h4]
          · by_cases h5 : j = 30
            · simp [h5]
            · by_cases h6 : j = 31 <;> simp [h1, h2, h3, h4, h5, h6]
theorem gnL_id (l : Nat → Nat → Int) : l = gnL l (l 108 26) (l 108 27) (l 108 28) (l 108 29) (l 108 30) (l 108 31) := by
  unfold gnL
  have : (fun j => if j = 26 then l 108 26 else if j = 27 then l 108 27 else if j = 28 then l 108 28 else if j = 29 then l 108 29 else if j = 30 then l 108 30 else if j = 31 then l 108 31 else l 108 j) = l 108 := by
    funext j
    by_cases h1 : j = 26
    · simp [h1]
    · by_cases h2 : j = 27
      · simp [h2]
      · by_cases h3 : j = 28
        · simp [h3]
        · by_cases h4 : j = 29
          · simp [h4]
          · by_cases h5 : j = 30
            · simp [h5]
            · by_cases h6 : j = 31 <;> simp [h1, h2, h3, h4, h5, h6]
  rw [this, wr_id]
theorem goF {p s s1 t t1 : Int} : ((((False ∨ far (p * s)) ∨ far (mu p s + s1)) ∨ far (p * t)) ∨ far (mu p t + t1)) ↔ ((far (p * s) ∨ far (p * s + s1)) ∨ far (p * t) ∨ far (p * t + t1)) := by
  by_cases c1 : far (p * s)
  · exact ⟨fun _ => Or.inl (Or.inl c1), fun _ => Or.inl (Or.inl (Or.inl (Or.inr c1)))⟩
  · by_cases c2 : far (p * t)
    · exact ⟨fun _ => Or.inr (Or.inl c2), fun _ => Or.inl (Or.inr c2)⟩
    · rw [mu_ok c1, mu_ok c2]
      constructor
      · rintro ((((z | z) | z) | z) | z)
        · exact z.elim
        · exact Or.inl (Or.inl z)
        · exact Or.inl (Or.inr z)
        · exact Or.inr (Or.inl z)
        · exact Or.inr (Or.inr z)
      · rintro ((z | z) | z | z)
        · exact Or.inl (Or.inl (Or.inl (Or.inr z)))
        · exact Or.inl (Or.inl (Or.inr z))
        · exact Or.inl (Or.inr z)
        · exact Or.inr z
section GN
variable {ρ : Type} {i l : Nat → Nat → Int} {x y : Option Nat}
theorem q_goNear {p s t s1 t1 : Int} (e f : Int) (hp : ¬ far p) (hs : ¬ far s) (ht : ¬ far t) (hs1 : ¬ far s1) (ht1 : ¬ far t1) :
    ∃ v w : Int, fX9_goNear 108 (J p) (hq (w1 i 108 0 0) (gnL l s t s1 t1 e f) x y) = some ((), hq (w1 i 108 0 (ib ((far (p * s) ∨ far (p * s + s1)) ∨ far (p * t) ∨ far (p * t + t1)))) (gnL l v w s t s1 t1) x y) ∧ (¬ ((far (p * s) ∨ far (p * s + s1)) ∨ far (p * t) ∨ far (p * t + t1)) → v = p * s + s1 ∧ w = p * t + t1) := by
  refine ⟨ad (False ∨ far (p * s)) (mu p s) s1, ad (((False ∨ far (p * s)) ∨ far (mu p s + s1)) ∨ far (p * t)) (mu p t) t1, ?_, fun h => ?_⟩
  · have m1 := mu_far p s
    have m2 := mu_far p t
    unfold fX9_goNear
    rw [show w1 i 108 0 0 = w1 i 108 0 (ib False) from rfl]
    simp (disch := omega) only [↓iNlt_t, ↓iNlt_f, ↓iNle_t, ↓iNle_f, ↓iNeq_t, ↓iNeq_f, ↓iJlt_t, ↓iJlt_f, ↓iJle_t, ↓iJle_f, ↓iJeq_t, ↓iJeq_f, ↓iZlt_t, ↓iZlt_f, ↓iZle_t, ↓iZle_f, ↓iZeq_t, ↓iZeq_f, ↓iQlt_t, ↓iQlt_f, ↓iQle_t, ↓iQle_f, ↓iQeq_t, ↓iQeq_f, ↓iAnd_t, ↓iAnd_f, ↓iOr_t, ↓iOr_f, ↓iIff_t, ↓iIff_f, ↓iNot_t, ↓iNot_f, ↓iTrue, ↓iFalse, ↓ckN, ↓ckJ, ↓gIT, ↓gLT, ↓gRT, ↓cvT, ↓pIT, ↓pLT, ↓pZT, ↓asZ, ↓aNT, ↓arL, ↓asL, ↓arI, ↓asI, ↓aR_1, ↓bnd_some, ↓wh_eq, ↓on_some, ↓on_none, asZ, arL, asL, arI, asI, aR_1, bnd_some, wh_eq, on_some, on_none, tnT, tnU, tnL, nk, jk, N_add, N_mul, N_sub, N_neg, J_add, J_mul, J_sub, J_neg, N_J, gnL_g, gnL_w, ↓b_mul, ↓b_add]
    rw [ib_congr goF]
  · have h' := fun z => h (goF.mp z)
    have c1 : ¬ far (p * s) := fun z => h (Or.inl (Or.inl z))
    have c2 : ¬ far (p * t) := fun z => h (Or.inr (Or.inl z))
    rw [ad_ok (fun z => h' (by rcases z with z | z <;> simp only [z, true_or, or_true])), ad_ok (fun z => h' z), mu_ok c1, mu_ok c2]
    exact ⟨rfl, rfl⟩
theorem q_beginNear : fX9_beginNear 108 (hq i l x y) = some ((), hq (w1 i 108 0 0) (gnL l 1 0 0 1 (l 108 30) (l 108 31)) x y) := by
  unfold fX9_beginNear
  simp only [nk, jk, N_add, N_mul, N_sub, N_neg, J_add, J_mul, J_sub, J_neg]
  rw [pZ90]
  simp (disch := omega) only [↓iNlt_t, ↓iNlt_f, ↓iNle_t, ↓iNle_f, ↓iNeq_t, ↓iNeq_f, ↓iJlt_t, ↓iJlt_f, ↓iJle_t, ↓iJle_f, ↓iJeq_t, ↓iJeq_f, ↓iZlt_t, ↓iZlt_f, ↓iZle_t, ↓iZle_f, ↓iZeq_t, ↓iZeq_f, ↓iQlt_t, ↓iQlt_f, ↓iQle_t, ↓iQle_f, ↓iQeq_t, ↓iQeq_f, ↓iAnd_t, ↓iAnd_f, ↓iOr_t, ↓iOr_f, ↓iIff_t, ↓iIff_f, ↓iNot_t, ↓iNot_f, ↓iTrue, ↓iFalse, ↓ckN, ↓ckJ, ↓gIT, ↓gLT, ↓gRT, ↓cvT, ↓pIT, ↓pLT, ↓pZT, ↓asZ, ↓aNT, ↓arL, ↓asL, ↓arI, ↓asI, ↓aR_1, ↓bnd_some, ↓wh_eq, ↓on_some, ↓on_none, asZ, arL, asL, arI, asI, aR_1, bnd_some, wh_eq, on_some, on_none, tnT, tnU, tnL, nk, jk, N_add, N_mul, N_sub, N_neg, J_add, J_mul, J_sub, J_neg, N_J]
  have e := gnL_id l
  generalize l 108 30 = e' at *
  generalize l 108 31 = f' at *
  rw [e]
  simp only [gnL_w]
  congr 3
  unfold gnL
  rw [wr_wr, wr_s]
  congr 1
  funext j
  by_cases h1 : j = 26
  · simp [h1]
  · by_cases h2 : j = 27
    · simp [h2]
    · by_cases h3 : j = 28
      · simp [h3]
      · by_cases h4 : j = 29
        · simp [h4]
        · by_cases h5 : j = 30
          · simp [h5]
          · by_cases h6 : j = 31 <;> simp [h1, h2, h3, h4, h5, h6]
/-- what near answers -/
def nearV (p : Nat → Int) (n0 : Nat) (k w : Int) : Int := if (nK p n0 0 : Int) ≤ k ∧ nK p n0 0 < n0 then -2000000000000000005 else if (n0 : Int) ≤ k then -2000000000000000006 else if w = 0 then (ne p (k.toNat + 1)).1.1 else (ne p (k.toNat + 1)).1.2
theorem q_nearL {s : Nat} (hs : s < 40) {p : Nat → Int} {n0 : Nat} (hn0 : n0 ≤ 60) (hn : i 111 s = n0) (hp : ∀ k, k < n0 → l 113 (60 * s + k) = p k ∧ ¬ far (p k)) {k w : Int} (hk : 0 ≤ k ∧ k ≤ 2147483647) (hw : 0 ≤ w ∧ w ≤ 1) : ∀ (m j n : Nat), j + m = n0 → m + 1 ≤ n → (j : Int) ≤ k + 1 → j ≤ nK p n0 0 → ∀ e f : Int,
    ∃ b c1 c2 c3 c4 c5 c6 : Int, fX9_near_42L n 108 (N s) (N k) (N w) (N j) (hq (w1 i 108 0 0) (gnL l (ne p j).1.1 (ne p j).1.2 (ne p j).2.1 (ne p j).2.2 e f) x y) = some (J (nearV p n0 k w), hq (w1 i 108 0 b) (gnL l c1 c2 c3 c4 c5 c6) x y) ∧ a01 b := by
  have hK := nK_le p n0 0
  have n111 : ∀ v, w1 i 108 0 v 111 s = n0 := fun v => by rw [w1_na _ _ _ _ (by omega)]; exact hn
  -- the end without FAR
  have E : ∀ (j : Nat) (e f : Int), j ≤ nK p n0 0 → ((j : Int) = k + 1 ∨ (j : Int) ≤ k ∧ j = n0) → fX9_near_88 108 (N s) (N k) (N w) (hq (w1 i 108 0 0) (gnL l (ne p j).1.1 (ne p j).1.2 (ne p j).2.1 (ne p j).2.2 e f) x y) = some (J (nearV p n0 k w), hq (w1 i 108 0 0) (gnL l (ne p j).1.1 (ne p j).1.2 (ne p j).2.1 (ne p j).2.2 e f) x y) := by
    intro j e f h1 h2
    unfold fX9_near_88
    simp only [nk, jk, N_add, N_mul, N_sub, N_neg, J_add, J_mul, J_sub, J_neg]
    rcases h2 with h2 | h2
    · obtain rfl : j = k.toNat + 1 := by omega
      have V : nearV p n0 k w = if w = 0 then (ne p (k.toNat + 1)).1.1 else (ne p (k.toNat + 1)).1.2 := by
        unfold nearV
        rw [if_neg (by omega), if_neg (by omega)]
      rw [V]
      by_cases c : w = 0
      · simp (disch := omega) only [↓iNlt_t, ↓iNlt_f, ↓iNle_t, ↓iNle_f, ↓iNeq_t, ↓iNeq_f, ↓iJlt_t, ↓iJlt_f, ↓iJle_t, ↓iJle_f, ↓iJeq_t, ↓iJeq_f, ↓iZlt_t, ↓iZlt_f, ↓iZle_t, ↓iZle_f, ↓iZeq_t, ↓iZeq_f, ↓iQlt_t, ↓iQlt_f, ↓iQle_t, ↓iQle_f, ↓iQeq_t, ↓iQeq_f, ↓iAnd_t, ↓iAnd_f, ↓iOr_t, ↓iOr_f, ↓iIff_t, ↓iIff_f, ↓iNot_t, ↓iNot_f, ↓iTrue, ↓iFalse, ↓ckN, ↓ckJ, ↓gIT, ↓gLT, ↓gRT, ↓cvT, ↓pIT, ↓pLT, ↓pZT, ↓asZ, ↓aNT, ↓arL, ↓asL, ↓arI, ↓asI, ↓aR_1, ↓bnd_some, ↓wh_eq, ↓on_some, ↓on_none, asZ, arL, asL, arI, asI, aR_1, bnd_some, wh_eq, on_some, on_none, tnT, tnU, tnL, nk, jk, N_add, N_mul, N_sub, N_neg, J_add, J_mul, J_sub, J_neg, N_J, w1_s, n111, gnL_g]
      · simp (disch := omega) only [↓iNlt_t, ↓iNlt_f, ↓iNle_t, ↓iNle_f, ↓iNeq_t, ↓iNeq_f, ↓iJlt_t, ↓iJlt_f, ↓iJle_t, ↓iJle_f, ↓iJeq_t, ↓iJeq_f, ↓iZlt_t, ↓iZlt_f, ↓iZle_t, ↓iZle_f, ↓iZeq_t, ↓iZeq_f, ↓iQlt_t, ↓iQlt_f, ↓iQle_t, ↓iQle_f, ↓iQeq_t, ↓iQeq_f, ↓iAnd_t, ↓iAnd_f, ↓iOr_t, ↓iOr_f, ↓iIff_t, ↓iIff_f, ↓iNot_t, ↓iNot_f, ↓iTrue, ↓iFalse, ↓ckN, ↓ckJ, ↓gIT, ↓gLT, ↓gRT, ↓cvT, ↓pIT, ↓pLT, ↓pZT, ↓asZ, ↓aNT, ↓arL, ↓asL, ↓arI, ↓asI, ↓aR_1, ↓bnd_some, ↓wh_eq, ↓on_some, ↓on_none, asZ, arL, asL, arI, asI, aR_1, bnd_some, wh_eq, on_some, on_none, tnT, tnU, tnL, nk, jk, N_add, N_mul, N_sub, N_neg, J_add, J_mul, J_sub, J_neg, N_J, w1_s, n111, gnL_g]
    · have V : nearV p n0 k w = -2000000000000000006 := by
        unfold nearV
        rw [if_neg (by omega), if_pos (by omega)]
      rw [V]
      simp (disch := omega) only [↓iNlt_t, ↓iNlt_f, ↓iNle_t, ↓iNle_f, ↓iNeq_t, ↓iNeq_f, ↓iJlt_t, ↓iJlt_f, ↓iJle_t, ↓iJle_f, ↓iJeq_t, ↓iJeq_f, ↓iZlt_t, ↓iZlt_f, ↓iZle_t, ↓iZle_f, ↓iZeq_t, ↓iZeq_f, ↓iQlt_t, ↓iQlt_f, ↓iQle_t, ↓iQle_f, ↓iQeq_t, ↓iQeq_f, ↓iAnd_t, ↓iAnd_f, ↓iOr_t, ↓iOr_f, ↓iIff_t, ↓iIff_f, ↓iNot_t, ↓iNot_f, ↓iTrue, ↓iFalse, ↓ckN, ↓ckJ, ↓gIT, ↓gLT, ↓gRT, ↓cvT, ↓pIT, ↓pLT, ↓pZT, ↓asZ, ↓aNT, ↓arL, ↓asL, ↓arI, ↓asI, ↓aR_1, ↓bnd_some, ↓wh_eq, ↓on_some, ↓on_none, asZ, arL, asL, arI, asI, aR_1, bnd_some, wh_eq, on_some, on_none, tnT, tnU, tnL, nk, jk, N_add, N_mul, N_sub, N_neg, J_add, J_mul, J_sub, J_neg, N_J, w1_s, n111, gnL_g, Jc5]
  intro m
  induction m with
  | zero =>
    intro j n hj hn' h1 h2 e f
    obtain ⟨z, rfl⟩ : ∃ z, n = z + 1 := ⟨n - 1, by omega⟩
    refine ⟨0, (ne p j).1.1, (ne p j).1.2, (ne p j).2.1, (ne p j).2.2, e, f, ?_, Or.inl rfl⟩
    rw [← E j e f h2 (by omega)]
    show fX9_near_42 (fX9_near_42L z) 108 _ _ _ _ _ = _
    unfold fX9_near_42
    simp only [nk, jk, N_add, N_mul, N_sub, N_neg, J_add, J_mul, J_sub, J_neg]
    by_cases c : k < j
    · simp (disch := omega) only [↓iNlt_t, ↓iNlt_f, ↓iNle_t, ↓iNle_f, ↓iNeq_t, ↓iNeq_f, ↓iJlt_t, ↓iJlt_f, ↓iJle_t, ↓iJle_f, ↓iJeq_t, ↓iJeq_f, ↓iZlt_t, ↓iZlt_f, ↓iZle_t, ↓iZle_f, ↓iZeq_t, ↓iZeq_f, ↓iQlt_t, ↓iQlt_f, ↓iQle_t, ↓iQle_f, ↓iQeq_t, ↓iQeq_f, ↓iAnd_t, ↓iAnd_f, ↓iOr_t, ↓iOr_f, ↓iIff_t, ↓iIff_f, ↓iNot_t, ↓iNot_f, ↓iTrue, ↓iFalse, ↓ckN, ↓ckJ, ↓gIT, ↓gLT, ↓gRT, ↓cvT, ↓pIT, ↓pLT, ↓pZT, ↓asZ, ↓aNT, ↓arL, ↓asL, ↓arI, ↓asI, ↓aR_1, ↓bnd_some, ↓wh_eq, ↓on_some, ↓on_none, asZ, arL, asL, arI, asI, aR_1, bnd_some, wh_eq, on_some, on_none, tnT, tnU, tnL, nk, jk, N_add, N_mul, N_sub, N_neg, J_add, J_mul, J_sub, J_neg, N_J]
    · simp (disch := omega) only [↓iNlt_t, ↓iNlt_f, ↓iNle_t, ↓iNle_f, ↓iNeq_t, ↓iNeq_f, ↓iJlt_t, ↓iJlt_f, ↓iJle_t, ↓iJle_f, ↓iJeq_t, ↓iJeq_f, ↓iZlt_t, ↓iZlt_f, ↓iZle_t, ↓iZle_f, ↓iZeq_t, ↓iZeq_f, ↓iQlt_t, ↓iQlt_f, ↓iQle_t, ↓iQle_f, ↓iQeq_t, ↓iQeq_f, ↓iAnd_t, ↓iAnd_f, ↓iOr_t, ↓iOr_f, ↓iIff_t, ↓iIff_f, ↓iNot_t, ↓iNot_f, ↓iTrue, ↓iFalse, ↓ckN, ↓ckJ, ↓gIT, ↓gLT, ↓gRT, ↓cvT, ↓pIT, ↓pLT, ↓pZT, ↓asZ, ↓aNT, ↓arL, ↓asL, ↓arI, ↓asI, ↓aR_1, ↓bnd_some, ↓wh_eq, ↓on_some, ↓on_none, asZ, arL, asL, arI, asI, aR_1, bnd_some, wh_eq, on_some, on_none, tnT, tnU, tnL, nk, jk, N_add, N_mul, N_sub, N_neg, J_add, J_mul, J_sub, J_neg, N_J, n111]
  | succ m ih =>
    intro j n hj hn' h1 h2 e f
    obtain ⟨z, rfl⟩ : ∃ z, n = z + 1 := ⟨n - 1, by omega⟩
    by_cases c : k < j
    · refine ⟨0, (ne p j).1.1, (ne p j).1.2, (ne p j).2.1, (ne p j).2.2, e, f, ?_, Or.inl rfl⟩
      rw [← E j e f h2 (by omega)]
      show fX9_near_42 (fX9_near_42L z) 108 _ _ _ _ _ = _
      unfold fX9_near_42
      simp only [nk, jk, N_add, N_mul, N_sub, N_neg, J_add, J_mul, J_sub, J_neg]
      simp (disch := omega) only [↓iNlt_t, ↓iNlt_f, ↓iNle_t, ↓iNle_f, ↓iNeq_t, ↓iNeq_f, ↓iJlt_t, ↓iJlt_f, ↓iJle_t, ↓iJle_f, ↓iJeq_t, ↓iJeq_f, ↓iZlt_t, ↓iZlt_f, ↓iZle_t, ↓iZle_f, ↓iZeq_t, ↓iZeq_f, ↓iQlt_t, ↓iQlt_f, ↓iQle_t, ↓iQle_f, ↓iQeq_t, ↓iQeq_f, ↓iAnd_t, ↓iAnd_f, ↓iOr_t, ↓iOr_f, ↓iIff_t, ↓iIff_f, ↓iNot_t, ↓iNot_f, ↓iTrue, ↓iFalse, ↓ckN, ↓ckJ, ↓gIT, ↓gLT, ↓gRT, ↓cvT, ↓pIT, ↓pLT, ↓pZT, ↓asZ, ↓aNT, ↓arL, ↓asL, ↓arI, ↓asI, ↓aR_1, ↓bnd_some, ↓wh_eq, ↓on_some, ↓on_none, asZ, arL, asL, arI, asI, aR_1, bnd_some, wh_eq, on_some, on_none, tnT, tnU, tnL, nk, jk, N_add, N_mul, N_sub, N_neg, J_add, J_mul, J_sub, J_neg, N_J]
    · obtain ⟨p1, p2⟩ := hp j (by omega)
      have p1' : ∀ a b c d e f, gnL l a b c d e f 113 (60 * s + j) = p j := fun a b c d e f => by rw [gnL_n _ _ _ _ _ _ _ (by omega)]; exact p1
      obtain ⟨⟨f1, f2⟩, f3, f4⟩ := ne_far p j (fun q hq => nK_no p n0 0 q (by omega) (by omega))
      obtain ⟨v, w', G, hv⟩ := q_goNear (i := i) (l := l) (x := x) (y := y) e f p2 f1 f2 f3 f4
      by_cases cF : neF p j
      · have hKj : nK p n0 0 = j := by
          rcases Nat.lt_or_ge j (nK p n0 0) with z | z
          · exact absurd cF (nK_no p n0 0 j (by omega) z)
          · omega
        rw [ibT cF] at G
        obtain ⟨z, rfl⟩ : ∃ q, z = q + 1 := ⟨z - 1, by omega⟩
        refine ⟨1, v, w', (ne p j).1.1, (ne p j).1.2, (ne p j).2.1, (ne p j).2.2, ?_, Or.inr rfl⟩
        have V : nearV p n0 k w = -2000000000000000005 := by unfold nearV; rw [if_pos (by omega)]
        have T : fX9_near_42L (z + 1) 108 (N s) (N k) (N w) (N ((j : Int) + 1)) (hq (w1 i 108 0 1) (gnL l v w' (ne p j).1.1 (ne p j).1.2 (ne p j).2.1 (ne p j).2.2) x y) = some (J (nearV p n0 k w), hq (w1 i 108 0 1) (gnL l v w' (ne p j).1.1 (ne p j).1.2 (ne p j).2.1 (ne p j).2.2) x y) := by
          show fX9_near_42 (fX9_near_42L z) 108 _ _ _ _ _ = _
          unfold fX9_near_42 fX9_near_88
          simp only [nk, jk, N_add, N_mul, N_sub, N_neg, J_add, J_mul, J_sub, J_neg]
          by_cases q1 : k < j + 1
          · simp (disch := omega) only [↓iNlt_t, ↓iNlt_f, ↓iNle_t, ↓iNle_f, ↓iNeq_t, ↓iNeq_f, ↓iJlt_t, ↓iJlt_f, ↓iJle_t, ↓iJle_f, ↓iJeq_t, ↓iJeq_f, ↓iZlt_t, ↓iZlt_f, ↓iZle_t, ↓iZle_f, ↓iZeq_t, ↓iZeq_f, ↓iQlt_t, ↓iQlt_f, ↓iQle_t, ↓iQle_f, ↓iQeq_t, ↓iQeq_f, ↓iAnd_t, ↓iAnd_f, ↓iOr_t, ↓iOr_f, ↓iIff_t, ↓iIff_f, ↓iNot_t, ↓iNot_f, ↓iTrue, ↓iFalse, ↓ckN, ↓ckJ, ↓gIT, ↓gLT, ↓gRT, ↓cvT, ↓pIT, ↓pLT, ↓pZT, ↓asZ, ↓aNT, ↓arL, ↓asL, ↓arI, ↓asI, ↓aR_1, ↓bnd_some, ↓wh_eq, ↓on_some, ↓on_none, asZ, arL, asL, arI, asI, aR_1, bnd_some, wh_eq, on_some, on_none, tnT, tnU, tnL, nk, jk, N_add, N_mul, N_sub, N_neg, J_add, J_mul, J_sub, J_neg, N_J, w1_s, V, Jc5]
          · by_cases q2 : n0 ≤ j + 1
            · simp (disch := omega) only [↓iNlt_t, ↓iNlt_f, ↓iNle_t, ↓iNle_f, ↓iNeq_t, ↓iNeq_f, ↓iJlt_t, ↓iJlt_f, ↓iJle_t, ↓iJle_f, ↓iJeq_t, ↓iJeq_f, ↓iZlt_t, ↓iZlt_f, ↓iZle_t, ↓iZle_f, ↓iZeq_t, ↓iZeq_f, ↓iQlt_t, ↓iQlt_f, ↓iQle_t, ↓iQle_f, ↓iQeq_t, ↓iQeq_f, ↓iAnd_t, ↓iAnd_f, ↓iOr_t, ↓iOr_f, ↓iIff_t, ↓iIff_f, ↓iNot_t, ↓iNot_f, ↓iTrue, ↓iFalse, ↓ckN, ↓ckJ, ↓gIT, ↓gLT, ↓gRT, ↓cvT, ↓pIT, ↓pLT, ↓pZT, ↓asZ, ↓aNT, ↓arL, ↓asL, ↓arI, ↓asI, ↓aR_1, ↓bnd_some, ↓wh_eq, ↓on_some, ↓on_none, asZ, arL, asL, arI, asI, aR_1, bnd_some, wh_eq, on_some, on_none, tnT, tnU, tnL, nk, jk, N_add, N_mul, N_sub, N_neg, J_add, J_mul, J_sub, J_neg, N_J, w1_s, n111, V, Jc5]
            · simp (disch := omega) only [↓iNlt_t, ↓iNlt_f, ↓iNle_t, ↓iNle_f, ↓iNeq_t, ↓iNeq_f, ↓iJlt_t, ↓iJlt_f, ↓iJle_t, ↓iJle_f, ↓iJeq_t, ↓iJeq_f, ↓iZlt_t, ↓iZlt_f, ↓iZle_t, ↓iZle_f, ↓iZeq_t, ↓iZeq_f, ↓iQlt_t, ↓iQlt_f, ↓iQle_t, ↓iQle_f, ↓iQeq_t, ↓iQeq_f, ↓iAnd_t, ↓iAnd_f, ↓iOr_t, ↓iOr_f, ↓iIff_t, ↓iIff_f, ↓iNot_t, ↓iNot_f, ↓iTrue, ↓iFalse, ↓ckN, ↓ckJ, ↓gIT, ↓gLT, ↓gRT, ↓cvT, ↓pIT, ↓pLT, ↓pZT, ↓asZ, ↓aNT, ↓arL, ↓asL, ↓arI, ↓asI, ↓aR_1, ↓bnd_some, ↓wh_eq, ↓on_some, ↓on_none, asZ, arL, asL, arI, asI, aR_1, bnd_some, wh_eq, on_some, on_none, tnT, tnU, tnL, nk, jk, N_add, N_mul, N_sub, N_neg, J_add, J_mul, J_sub, J_neg, N_J, w1_s, n111, V, Jc5]
        show fX9_near_42 (fX9_near_42L (z + 1)) 108 _ _ _ _ _ = _
        unfold fX9_near_42
        simp only [nk, jk, N_add, N_mul, N_sub, N_neg, J_add, J_mul, J_sub, J_neg]
        simp (disch := omega) only [↓iNlt_t, ↓iNlt_f, ↓iNle_t, ↓iNle_f, ↓iNeq_t, ↓iNeq_f, ↓iJlt_t, ↓iJlt_f, ↓iJle_t, ↓iJle_f, ↓iJeq_t, ↓iJeq_f, ↓iZlt_t, ↓iZlt_f, ↓iZle_t, ↓iZle_f, ↓iZeq_t, ↓iZeq_f, ↓iQlt_t, ↓iQlt_f, ↓iQle_t, ↓iQle_f, ↓iQeq_t, ↓iQeq_f, ↓iAnd_t, ↓iAnd_f, ↓iOr_t, ↓iOr_f, ↓iIff_t, ↓iIff_f, ↓iNot_t, ↓iNot_f, ↓iTrue, ↓iFalse, ↓ckN, ↓ckJ, ↓gIT, ↓gLT, ↓gRT, ↓cvT, ↓pIT, ↓pLT, ↓pZT, ↓asZ, ↓aNT, ↓arL, ↓asL, ↓arI, ↓asI, ↓aR_1, ↓bnd_some, ↓wh_eq, ↓on_some, ↓on_none, asZ, arL, asL, arI, asI, aR_1, bnd_some, wh_eq, on_some, on_none, tnT, tnU, tnL, nk, jk, N_add, N_mul, N_sub, N_neg, J_add, J_mul, J_sub, J_neg, N_J, w1_s, n111, p1', ↓bq G]
        exact T
      · rw [ibF cF] at G
        obtain ⟨hv1, hv2⟩ := hv cF
        subst hv1 hv2
        have hKj : j + 1 ≤ nK p n0 0 := by
          rcases Nat.lt_or_ge j (nK p n0 0) with z | z
          · omega
          · exact absurd (by rw [show j = nK p n0 0 by omega]; exact nK_at p n0 0 (by omega)) cF
        obtain ⟨b, c1, c2, c3, c4, c5, c6, h, hb⟩ := ih (j + 1) z (by omega) (by omega) (by omega) hKj (ne p j).2.1 (ne p j).2.2
        refine ⟨b, c1, c2, c3, c4, c5, c6, ?_, hb⟩
        rw [← h]
        show fX9_near_42 (fX9_near_42L z) 108 _ _ _ _ _ = _
        unfold fX9_near_42
        simp only [nk, jk, N_add, N_mul, N_sub, N_neg, J_add, J_mul, J_sub, J_neg]
        simp (disch := omega) only [↓iNlt_t, ↓iNlt_f, ↓iNle_t, ↓iNle_f, ↓iNeq_t, ↓iNeq_f, ↓iJlt_t, ↓iJlt_f, ↓iJle_t, ↓iJle_f, ↓iJeq_t, ↓iJeq_f, ↓iZlt_t, ↓iZlt_f, ↓iZle_t, ↓iZle_f, ↓iZeq_t, ↓iZeq_f, ↓iQlt_t, ↓iQlt_f, ↓iQle_t, ↓iQle_f, ↓iQeq_t, ↓iQeq_f, ↓iAnd_t, ↓iAnd_f, ↓iOr_t, ↓iOr_f, ↓iIff_t, ↓iIff_f, ↓iNot_t, ↓iNot_f, ↓iTrue, ↓iFalse, ↓ckN, ↓ckJ, ↓gIT, ↓gLT, ↓gRT, ↓cvT, ↓pIT, ↓pLT, ↓pZT, ↓asZ, ↓aNT, ↓arL, ↓asL, ↓arI, ↓asI, ↓aR_1, ↓bnd_some, ↓wh_eq, ↓on_some, ↓on_none, asZ, arL, asL, arI, asI, aR_1, bnd_some, wh_eq, on_some, on_none, tnT, tnU, tnL, nk, jk, N_add, N_mul, N_sub, N_neg, J_add, J_mul, J_sub, J_neg, N_J, w1_s, n111, p1', ↓bq G]
        rfl
end GN
theorem Rel.near {i l : Nat → Nat → Int} (h : Rel i l) (p : Nat → Int) (q : Nat) {b v : Int} (hb : a01 b) (c1 c2 c3 c4 c5 c6 : Int) : Rel (w1 (w1 i 20 2 v) 108 0 b) (gnL (neL l p q) c1 c2 c3 c4 c5 c6) := by
  have e : ∀ c, c ≠ 108 → c ≠ 21 → c ≠ 22 → gnL (neL l p q) c1 c2 c3 c4 c5 c6 c = l c := fun c h1 h2 h3 => by rw [gnL_n _ _ _ _ _ _ _ h1, neL_n _ _ _ h2 h3]
  refine h.keep (fun s hs => ⟨by simp (disch := omega) only [w1_r, w1_n, w1_s, true_and, and_true], e _ (by omega) (by omega) (by omega), e _ (by omega) (by omega) (by omega)⟩) ⟨⟨by simp (disch := omega) only [w1_r, w1_n, w1_s, true_and, and_true], by simp (disch := omega) only [w1_r, w1_n, w1_s, true_and, and_true], by simp (disch := omega) only [w1_r, w1_n, w1_s, true_and, and_true], by simp (disch := omega) only [w1_r, w1_n, w1_s, true_and, and_true], by simp (disch := omega) only [w1_r, w1_n, w1_s, true_and, and_true], by simp (disch := omega) only [w1_r, w1_n, w1_s, true_and, and_true], by simp (disch := omega) only [w1_r, w1_n, w1_s, true_and, and_true]⟩, ⟨e _ (by omega) (by omega) (by omega), e _ (by omega) (by omega) (by omega), e _ (by omega) (by omega) (by omega), e _ (by omega) (by omega) (by omega), e _ (by omega) (by omega) (by omega), e _ (by omega) (by omega) (by omega)⟩, e _ (by omega) (by omega) (by omega), e _ (by omega) (by omega) (by omega), e _ (by omega) (by omega) (by omega), e _ (by omega) (by omega) (by omega), e _ (by omega) (by omega) (by omega)⟩ ⟨by simp (disch := omega) only [w1_r, w1_n, w1_s, true_and, and_true], by simp (disch := omega) only [w1_r, w1_n, w1_s, true_and, and_true], by simp (disch := omega) only [w1_r, w1_n, w1_s, true_and, and_true], by simp (disch := omega) only [w1_r, w1_n, w1_s, true_and, and_true], by simp (disch := omega) only [w1_r, w1_n, w1_s, true_and, and_true], by simp (disch := omega) only [w1_r, w1_n, w1_s, true_and, and_true], by simp (disch := omega) only [w1_r, w1_n, w1_s, true_and, and_true], by simp (disch := omega) only [w1_r, w1_n, w1_s, true_and, and_true], by simp (disch := omega) only [w1_r, w1_n, w1_s, true_and, and_true], by simp (disch := omega) only [w1_r, w1_n, w1_s, true_and, and_true]⟩ ?_
  rw [w1_s]
  exact hb
section NRC
variable {i l : Nat → Nat → Int} {x y : Option Nat}
theorem SD.isBeyond {s : Nat} (hs : s < 40) (sd : SD i l s) {k : Int} (hk : -2147483648 ≤ k ∧ k ≤ 2147483647) : fX7_isBeyond (2 * s + 28) (N k) (hq i l x y) = some (N (ib (k < 0 ∨ (i 112 s = 1 ∧ i 111 s ≤ k))), hq i l x y) := by
  obtain ⟨-, ⟨n1, n2, n3⟩, ⟨d1, d2⟩, -⟩ := sd
  have st := (St_s hs).1.1
  unfold fX7_isBeyond ib
  simp only [nk, jk, N_add, N_mul, N_sub, N_neg, J_add, J_mul, J_sub, J_neg]
  by_cases c1 : k < 0
  · simp (disch := omega) only [↓iNlt_t, ↓iNlt_f, ↓iNle_t, ↓iNle_f, ↓iNeq_t, ↓iNeq_f, ↓iJlt_t, ↓iJlt_f, ↓iJle_t, ↓iJle_f, ↓iJeq_t, ↓iJeq_f, ↓iZlt_t, ↓iZlt_f, ↓iZle_t, ↓iZle_f, ↓iZeq_t, ↓iZeq_f, ↓iQlt_t, ↓iQlt_f, ↓iQle_t, ↓iQle_f, ↓iQeq_t, ↓iQeq_f, ↓iAnd_t, ↓iAnd_f, ↓iOr_t, ↓iOr_f, ↓iIff_t, ↓iIff_f, ↓iNot_t, ↓iNot_f, ↓iTrue, ↓iFalse, ↓ckN, ↓ckJ, ↓gIT, ↓gLT, ↓gRT, ↓cvT, ↓pIT, ↓pLT, ↓pZT, ↓asZ, ↓aNT, ↓arL, ↓asL, ↓arI, ↓asI, ↓aR_1, ↓bnd_some, ↓wh_eq, ↓on_some, ↓on_none, asZ, arL, asL, arI, asI, aR_1, bnd_some, wh_eq, on_some, on_none, tnT, tnU, tnL, nk, jk, N_add, N_mul, N_sub, N_neg, J_add, J_mul, J_sub, J_neg, N_J]
  · by_cases c2 : i 112 s = 1
    · by_cases c3 : i 111 s ≤ k
      · simp (disch := omega) only [↓iNlt_t, ↓iNlt_f, ↓iNle_t, ↓iNle_f, ↓iNeq_t, ↓iNeq_f, ↓iJlt_t, ↓iJlt_f, ↓iJle_t, ↓iJle_f, ↓iJeq_t, ↓iJeq_f, ↓iZlt_t, ↓iZlt_f, ↓iZle_t, ↓iZle_f, ↓iZeq_t, ↓iZeq_f, ↓iQlt_t, ↓iQlt_f, ↓iQle_t, ↓iQle_f, ↓iQeq_t, ↓iQeq_f, ↓iAnd_t, ↓iAnd_f, ↓iOr_t, ↓iOr_f, ↓iIff_t, ↓iIff_f, ↓iNot_t, ↓iNot_f, ↓iTrue, ↓iFalse, ↓ckN, ↓ckJ, ↓gIT, ↓gLT, ↓gRT, ↓cvT, ↓pIT, ↓pLT, ↓pZT, ↓asZ, ↓aNT, ↓arL, ↓asL, ↓arI, ↓asI, ↓aR_1, ↓bnd_some, ↓wh_eq, ↓on_some, ↓on_none, asZ, arL, asL, arI, asI, aR_1, bnd_some, wh_eq, on_some, on_none, tnT, tnU, tnL, nk, jk, N_add, N_mul, N_sub, N_neg, J_add, J_mul, J_sub, J_neg, N_J, ↓gI_q st, d1, n1]
      · simp (disch := omega) only [↓iNlt_t, ↓iNlt_f, ↓iNle_t, ↓iNle_f, ↓iNeq_t, ↓iNeq_f, ↓iJlt_t, ↓iJlt_f, ↓iJle_t, ↓iJle_f, ↓iJeq_t, ↓iJeq_f, ↓iZlt_t, ↓iZlt_f, ↓iZle_t, ↓iZle_f, ↓iZeq_t, ↓iZeq_f, ↓iQlt_t, ↓iQlt_f, ↓iQle_t, ↓iQle_f, ↓iQeq_t, ↓iQeq_f, ↓iAnd_t, ↓iAnd_f, ↓iOr_t, ↓iOr_f, ↓iIff_t, ↓iIff_f, ↓iNot_t, ↓iNot_f, ↓iTrue, ↓iFalse, ↓ckN, ↓ckJ, ↓gIT, ↓gLT, ↓gRT, ↓cvT, ↓pIT, ↓pLT, ↓pZT, ↓asZ, ↓aNT, ↓arL, ↓asL, ↓arI, ↓asI, ↓aR_1, ↓bnd_some, ↓wh_eq, ↓on_some, ↓on_none, asZ, arL, asL, arI, asI, aR_1, bnd_some, wh_eq, on_some, on_none, tnT, tnU, tnL, nk, jk, N_add, N_mul, N_sub, N_neg, J_add, J_mul, J_sub, J_neg, N_J, ↓gI_q st, d1, n1]
    · simp (disch := omega) only [↓iNlt_t, ↓iNlt_f, ↓iNle_t, ↓iNle_f, ↓iNeq_t, ↓iNeq_f, ↓iJlt_t, ↓iJlt_f, ↓iJle_t, ↓iJle_f, ↓iJeq_t, ↓iJeq_f, ↓iZlt_t, ↓iZlt_f, ↓iZle_t, ↓iZle_f, ↓iZeq_t, ↓iZeq_f, ↓iQlt_t, ↓iQlt_f, ↓iQle_t, ↓iQle_f, ↓iQeq_t, ↓iQeq_f, ↓iAnd_t, ↓iAnd_f, ↓iOr_t, ↓iOr_f, ↓iIff_t, ↓iIff_f, ↓iNot_t, ↓iNot_f, ↓iTrue, ↓iFalse, ↓ckN, ↓ckJ, ↓gIT, ↓gLT, ↓gRT, ↓cvT, ↓pIT, ↓pLT, ↓pZT, ↓asZ, ↓aNT, ↓arL, ↓asL, ↓arI, ↓asI, ↓aR_1, ↓bnd_some, ↓wh_eq, ↓on_some, ↓on_none, asZ, arL, asL, arI, asI, aR_1, bnd_some, wh_eq, on_some, on_none, tnT, tnU, tnL, nk, jk, N_add, N_mul, N_sub, N_neg, J_add, J_mul, J_sub, J_neg, N_J, ↓gI_q st, d1, n1]
theorem q_isBehind {s : Nat} (hs : s < 40) {k : Int} (h1 : 0 ≤ i 111 s ∧ i 111 s ≤ 60) (h2 : a01 (i 112 s)) (hk : -2147483648 ≤ k ∧ k ≤ 2147483647) : fX9_isBehind 108 (N s) (N k) (hq i l x y) = some (N (ib (k < 0 ∨ (i 112 s = 1 ∧ i 111 s ≤ k))), hq i l x y) := by
  unfold fX9_isBehind ib
  simp only [nk, jk, N_add, N_mul, N_sub, N_neg, J_add, J_mul, J_sub, J_neg]
  by_cases c1 : k < 0
  · simp (disch := omega) only [↓iNlt_t, ↓iNlt_f, ↓iNle_t, ↓iNle_f, ↓iNeq_t, ↓iNeq_f, ↓iJlt_t, ↓iJlt_f, ↓iJle_t, ↓iJle_f, ↓iJeq_t, ↓iJeq_f, ↓iZlt_t, ↓iZlt_f, ↓iZle_t, ↓iZle_f, ↓iZeq_t, ↓iZeq_f, ↓iQlt_t, ↓iQlt_f, ↓iQle_t, ↓iQle_f, ↓iQeq_t, ↓iQeq_f, ↓iAnd_t, ↓iAnd_f, ↓iOr_t, ↓iOr_f, ↓iIff_t, ↓iIff_f, ↓iNot_t, ↓iNot_f, ↓iTrue, ↓iFalse, ↓ckN, ↓ckJ, ↓gIT, ↓gLT, ↓gRT, ↓cvT, ↓pIT, ↓pLT, ↓pZT, ↓asZ, ↓aNT, ↓arL, ↓asL, ↓arI, ↓asI, ↓aR_1, ↓bnd_some, ↓wh_eq, ↓on_some, ↓on_none, asZ, arL, asL, arI, asI, aR_1, bnd_some, wh_eq, on_some, on_none, tnT, tnU, tnL, nk, jk, N_add, N_mul, N_sub, N_neg, J_add, J_mul, J_sub, J_neg, N_J]
  · by_cases c2 : i 112 s = 1
    · by_cases c3 : i 111 s ≤ k
      · simp (disch := omega) only [↓iNlt_t, ↓iNlt_f, ↓iNle_t, ↓iNle_f, ↓iNeq_t, ↓iNeq_f, ↓iJlt_t, ↓iJlt_f, ↓iJle_t, ↓iJle_f, ↓iJeq_t, ↓iJeq_f, ↓iZlt_t, ↓iZlt_f, ↓iZle_t, ↓iZle_f, ↓iZeq_t, ↓iZeq_f, ↓iQlt_t, ↓iQlt_f, ↓iQle_t, ↓iQle_f, ↓iQeq_t, ↓iQeq_f, ↓iAnd_t, ↓iAnd_f, ↓iOr_t, ↓iOr_f, ↓iIff_t, ↓iIff_f, ↓iNot_t, ↓iNot_f, ↓iTrue, ↓iFalse, ↓ckN, ↓ckJ, ↓gIT, ↓gLT, ↓gRT, ↓cvT, ↓pIT, ↓pLT, ↓pZT, ↓asZ, ↓aNT, ↓arL, ↓asL, ↓arI, ↓asI, ↓aR_1, ↓bnd_some, ↓wh_eq, ↓on_some, ↓on_none, asZ, arL, asL, arI, asI, aR_1, bnd_some, wh_eq, on_some, on_none, tnT, tnU, tnL, nk, jk, N_add, N_mul, N_sub, N_neg, J_add, J_mul, J_sub, J_neg, N_J]
      · simp (disch := omega) only [↓iNlt_t, ↓iNlt_f, ↓iNle_t, ↓iNle_f, ↓iNeq_t, ↓iNeq_f, ↓iJlt_t, ↓iJlt_f, ↓iJle_t, ↓iJle_f, ↓iJeq_t, ↓iJeq_f, ↓iZlt_t, ↓iZlt_f, ↓iZle_t, ↓iZle_f, ↓iZeq_t, ↓iZeq_f, ↓iQlt_t, ↓iQlt_f, ↓iQle_t, ↓iQle_f, ↓iQeq_t, ↓iQeq_f, ↓iAnd_t, ↓iAnd_f, ↓iOr_t, ↓iOr_f, ↓iIff_t, ↓iIff_f, ↓iNot_t, ↓iNot_f, ↓iTrue, ↓iFalse, ↓ckN, ↓ckJ, ↓gIT, ↓gLT, ↓gRT, ↓cvT, ↓pIT, ↓pLT, ↓pZT, ↓asZ, ↓aNT, ↓arL, ↓asL, ↓arI, ↓asI, ↓aR_1, ↓bnd_some, ↓wh_eq, ↓on_some, ↓on_none, asZ, arL, asL, arI, asI, aR_1, bnd_some, wh_eq, on_some, on_none, tnT, tnU, tnL, nk, jk, N_add, N_mul, N_sub, N_neg, J_add, J_mul, J_sub, J_neg, N_J]
    · simp (disch := omega) only [↓iNlt_t, ↓iNlt_f, ↓iNle_t, ↓iNle_f, ↓iNeq_t, ↓iNeq_f, ↓iJlt_t, ↓iJlt_f, ↓iJle_t, ↓iJle_f, ↓iJeq_t, ↓iJeq_f, ↓iZlt_t, ↓iZlt_f, ↓iZle_t, ↓iZle_f, ↓iZeq_t, ↓iZeq_f, ↓iQlt_t, ↓iQlt_f, ↓iQle_t, ↓iQle_f, ↓iQeq_t, ↓iQeq_f, ↓iAnd_t, ↓iAnd_f, ↓iOr_t, ↓iOr_f, ↓iIff_t, ↓iIff_f, ↓iNot_t, ↓iNot_f, ↓iTrue, ↓iFalse, ↓ckN, ↓ckJ, ↓gIT, ↓gLT, ↓gRT, ↓cvT, ↓pIT, ↓pLT, ↓pZT, ↓asZ, ↓aNT, ↓arL, ↓asL, ↓arI, ↓asI, ↓aR_1, ↓bnd_some, ↓wh_eq, ↓on_some, ↓on_none, asZ, arL, asL, arI, asI, aR_1, bnd_some, wh_eq, on_some, on_none, tnT, tnU, tnL, nk, jk, N_add, N_mul, N_sub, N_neg, J_add, J_mul, J_sub, J_neg, N_J]
end NRC
theorem c_near (a b c : Int32) : Agree (fX8_near 0 a b c) (fX9_near 108 a b c) := by
  intro i l x y r
  rcases r.who (x := x) (y := y) a with ⟨f, g⟩ | ⟨s, hs, rfl, h1, sd, f, g⟩
  · refine agree_of (-2000000000000000001) r ?_ ?_
    · unfold fX8_near
      rw [cv_q s0T, f, bnd_some, on_none]
    · unfold fX9_near
      rw [cv_q s9T, g, bnd_some, if10]
  · have hb := N_rng b
    have hc := N_rng c
    rw [N_of b, N_of c]
    generalize b.toInt = k at *
    generalize c.toInt = w at *
    have st := (St_s hs).1.1
    have B := sd.isBeyond (x := x) (y := y) hs hb
    obtain ⟨-, ⟨n1, n2, n3⟩, ⟨d1, d2⟩, -, hp, -⟩ := sd
    have B2 := fun (i' l' : Nat → Nat → Int) (e1 : i' 111 = i 111) (e2 : i' 112 = i 112) => q_isBehind (i := i') (l := l') (x := x) (y := y) hs (k := k) (by rw [e1]; omega) (by rw [e2]; exact d2) hb
    by_cases cb : k < 0 ∨ (i 112 s = 1 ∧ i 111 s ≤ k)
    · rw [ibT cb] at B
      have B3 := B2 i l rfl rfl
      rw [ibT cb] at B3
      refine agree_of (-2000000000000000002) r ?_ ?_
      · unfold fX8_near
        rw [cv_q s0T, f, bnd_some, on_some]
        simp only [nk, jk, N_add, N_mul, N_sub, N_neg, J_add, J_mul, J_sub, J_neg]
        simp (disch := omega) only [↓iNlt_t, ↓iNlt_f, ↓iNle_t, ↓iNle_f, ↓iNeq_t, ↓iNeq_f, ↓iJlt_t, ↓iJlt_f, ↓iJle_t, ↓iJle_f, ↓iJeq_t, ↓iJeq_f, ↓iZlt_t, ↓iZlt_f, ↓iZle_t, ↓iZle_f, ↓iZeq_t, ↓iZeq_f, ↓iQlt_t, ↓iQlt_f, ↓iQle_t, ↓iQle_f, ↓iQeq_t, ↓iQeq_f, ↓iAnd_t, ↓iAnd_f, ↓iOr_t, ↓iOr_f, ↓iIff_t, ↓iIff_f, ↓iNot_t, ↓iNot_f, ↓iTrue, ↓iFalse, ↓ckN, ↓ckJ, ↓gIT, ↓gLT, ↓gRT, ↓cvT, ↓pIT, ↓pLT, ↓pZT, ↓asZ, ↓aNT, ↓arL, ↓asL, ↓arI, ↓asI, ↓aR_1, ↓bnd_some, ↓wh_eq, ↓on_some, ↓on_none, asZ, arL, asL, arI, asI, aR_1, bnd_some, wh_eq, on_some, on_none, tnT, tnU, tnL, nk, jk, N_add, N_mul, N_sub, N_neg, J_add, J_mul, J_sub, J_neg, N_J, ↓cv_q st, ↓bq B]
      · unfold fX9_near
        rw [cv_q s9T, g, bnd_some, if_pos rfl]
        simp only [nk, jk, N_add, N_mul, N_sub, N_neg, J_add, J_mul, J_sub, J_neg]
        simp (disch := omega) only [↓iNlt_t, ↓iNlt_f, ↓iNle_t, ↓iNle_f, ↓iNeq_t, ↓iNeq_f, ↓iJlt_t, ↓iJlt_f, ↓iJle_t, ↓iJle_f, ↓iJeq_t, ↓iJeq_f, ↓iZlt_t, ↓iZlt_f, ↓iZle_t, ↓iZle_f, ↓iZeq_t, ↓iZeq_f, ↓iQlt_t, ↓iQlt_f, ↓iQle_t, ↓iQle_f, ↓iQeq_t, ↓iQeq_f, ↓iAnd_t, ↓iAnd_f, ↓iOr_t, ↓iOr_f, ↓iIff_t, ↓iIff_f, ↓iNot_t, ↓iNot_f, ↓iTrue, ↓iFalse, ↓ckN, ↓ckJ, ↓gIT, ↓gLT, ↓gRT, ↓cvT, ↓pIT, ↓pLT, ↓pZT, ↓asZ, ↓aNT, ↓arL, ↓asL, ↓arI, ↓asI, ↓aR_1, ↓bnd_some, ↓wh_eq, ↓on_some, ↓on_none, asZ, arL, asL, arI, asI, aR_1, bnd_some, wh_eq, on_some, on_none, tnT, tnU, tnL, nk, jk, N_add, N_mul, N_sub, N_neg, J_add, J_mul, J_sub, J_neg, N_J, ↓bq B3]
    · rw [ibF cb] at B
      by_cases cw : 0 ≤ w ∧ w ≤ 1
      · obtain ⟨p, hpe⟩ : ∃ p : Nat → Int, ∀ k, p k = l 113 (60 * s + k) := ⟨fun k => l 113 (60 * s + k), fun _ => rfl⟩
        obtain ⟨n0, hn0⟩ : ∃ n0 : Nat, i 111 s = n0 := ⟨(i 111 s).toNat, by omega⟩
        have W := q_workOut (i := i) (l := l) (x := x) (y := y) (St_s hs) (by omega) (p := p) (n0 := n0) (by omega) (by omega) (fun k hk => by rw [hpe]; exact ⟨(hp k (by omega)).1, (hp k (by omega)).2.1⟩)
        have hK := nK_le p n0 0
        have hw1 : ∀ v, w1 i 20 2 v (2 * s + 28) = i (2 * s + 28) := fun v => w1_r _ _ _ (by omega)
        have hv : ∀ v c, c ≠ 20 → w1 i 20 2 v c = i c := fun v c hc => w1_r _ _ _ hc
        have l113 : neL l p (nK p n0 0) 113 = l 113 := neL_n _ _ _ (by omega) (by omega)
        obtain ⟨b', c1, c2, c3, c4, c5, c6, G, hb'⟩ := q_nearL (i := w1 i 20 2 (nK p n0 0 : Nat)) (l := neL l p (nK p n0 0)) (x := x) (y := y) hs (p := p) (n0 := n0) (by omega) (by rw [hv _ _ (by omega)]; omega) (fun k hk => by rw [l113, hpe]; exact ⟨rfl, (hp k (by omega)).2.1⟩) (k := k) (w := w) (by omega) cw n0 0 1000 (by omega) (by omega) (by omega) (by omega) (neL l p (nK p n0 0) 108 30) (neL l p (nK p n0 0) 108 31)
        refine ⟨J (nearV p n0 k w), w1 i 20 2 (nK p n0 0 : Nat), neL l p (nK p n0 0), x, y, w1 (w1 i 20 2 (nK p n0 0 : Nat)) 108 0 b', gnL (neL l p (nK p n0 0)) c1 c2 c3 c4 c5 c6, x, y, ?_, ?_, r.near _ _ hb' c1 c2 c3 c4 c5 c6⟩
        · have U := fun (j : Nat) (hj : j < nK p n0 0) => q_upper (i := w1 i 20 2 (nK p n0 0 : Nat)) (l := l) (x := x) (y := y) (p := p) (k := nK p n0 0) (j := j) (by omega) hj
          have V := fun (j : Nat) (hj : j < nK p n0 0) => q_lower (i := w1 i 20 2 (nK p n0 0 : Nat)) (l := l) (x := x) (y := y) (p := p) (k := nK p n0 0) (j := j) (by omega) hj
          unfold fX8_near fX8_near_77 nearV
          rw [cv_q s0T, f, bnd_some, on_some]
          generalize nK p n0 0 = K at *
          simp only [nk, jk, N_add, N_mul, N_sub, N_neg, J_add, J_mul, J_sub, J_neg]
          by_cases q1 : (K : Int) ≤ k ∧ K < n0
          · simp (disch := omega) only [↓iNlt_t, ↓iNlt_f, ↓iNle_t, ↓iNle_f, ↓iNeq_t, ↓iNeq_f, ↓iJlt_t, ↓iJlt_f, ↓iJle_t, ↓iJle_f, ↓iJeq_t, ↓iJeq_f, ↓iZlt_t, ↓iZlt_f, ↓iZle_t, ↓iZle_f, ↓iZeq_t, ↓iZeq_f, ↓iQlt_t, ↓iQlt_f, ↓iQle_t, ↓iQle_f, ↓iQeq_t, ↓iQeq_f, ↓iAnd_t, ↓iAnd_f, ↓iOr_t, ↓iOr_f, ↓iIff_t, ↓iIff_f, ↓iNot_t, ↓iNot_f, ↓iTrue, ↓iFalse, ↓ckN, ↓ckJ, ↓gIT, ↓gLT, ↓gRT, ↓cvT, ↓pIT, ↓pLT, ↓pZT, ↓asZ, ↓aNT, ↓arL, ↓asL, ↓arI, ↓asI, ↓aR_1, ↓bnd_some, ↓wh_eq, ↓on_some, ↓on_none, asZ, arL, asL, arI, asI, aR_1, bnd_some, wh_eq, on_some, on_none, tnT, tnU, tnL, nk, jk, N_add, N_mul, N_sub, N_neg, J_add, J_mul, J_sub, J_neg, N_J, ↓cv_q st, ↓gI_q st, ↓bq B, ↓bq W, w1_s, hw1, n1, hn0, Jc5]
          · have tk : N k = N ((k.toNat : Nat) : Int) := by congr 1; omega
            by_cases q2 : i 111 s ≤ k
            · by_cases q3 : (K : Int) ≤ k
              · simp (disch := omega) only [↓iNlt_t, ↓iNlt_f, ↓iNle_t, ↓iNle_f, ↓iNeq_t, ↓iNeq_f, ↓iJlt_t, ↓iJlt_f, ↓iJle_t, ↓iJle_f, ↓iJeq_t, ↓iJeq_f, ↓iZlt_t, ↓iZlt_f, ↓iZle_t, ↓iZle_f, ↓iZeq_t, ↓iZeq_f, ↓iQlt_t, ↓iQlt_f, ↓iQle_t, ↓iQle_f, ↓iQeq_t, ↓iQeq_f, ↓iAnd_t, ↓iAnd_f, ↓iOr_t, ↓iOr_f, ↓iIff_t, ↓iIff_f, ↓iNot_t, ↓iNot_f, ↓iTrue, ↓iFalse, ↓ckN, ↓ckJ, ↓gIT, ↓gLT, ↓gRT, ↓cvT, ↓pIT, ↓pLT, ↓pZT, ↓asZ, ↓aNT, ↓arL, ↓asL, ↓arI, ↓asI, ↓aR_1, ↓bnd_some, ↓wh_eq, ↓on_some, ↓on_none, asZ, arL, asL, arI, asI, aR_1, bnd_some, wh_eq, on_some, on_none, tnT, tnU, tnL, nk, jk, N_add, N_mul, N_sub, N_neg, J_add, J_mul, J_sub, J_neg, N_J, ↓cv_q st, ↓gI_q st, ↓bq B, ↓bq W, w1_s, hw1, n1, hn0, Jc5]
              · exfalso
                omega
            · have U := U k.toNat (by omega)
              have V := V k.toNat (by omega)
              rw [← tk] at U V
              by_cases q4 : w = 0
              · simp (disch := omega) only [↓iNlt_t, ↓iNlt_f, ↓iNle_t, ↓iNle_f, ↓iNeq_t, ↓iNeq_f, ↓iJlt_t, ↓iJlt_f, ↓iJle_t, ↓iJle_f, ↓iJeq_t, ↓iJeq_f, ↓iZlt_t, ↓iZlt_f, ↓iZle_t, ↓iZle_f, ↓iZeq_t, ↓iZeq_f, ↓iQlt_t, ↓iQlt_f, ↓iQle_t, ↓iQle_f, ↓iQeq_t, ↓iQeq_f, ↓iAnd_t, ↓iAnd_f, ↓iOr_t, ↓iOr_f, ↓iIff_t, ↓iIff_f, ↓iNot_t, ↓iNot_f, ↓iTrue, ↓iFalse, ↓ckN, ↓ckJ, ↓gIT, ↓gLT, ↓gRT, ↓cvT, ↓pIT, ↓pLT, ↓pZT, ↓asZ, ↓aNT, ↓arL, ↓asL, ↓arI, ↓asI, ↓aR_1, ↓bnd_some, ↓wh_eq, ↓on_some, ↓on_none, asZ, arL, asL, arI, asI, aR_1, bnd_some, wh_eq, on_some, on_none, tnT, tnU, tnL, nk, jk, N_add, N_mul, N_sub, N_neg, J_add, J_mul, J_sub, J_neg, N_J, ↓cv_q st, ↓gI_q st, ↓bq B, ↓bq W, w1_s, hw1, n1, hn0, Jc5, ↓bq U]
              · simp (disch := omega) only [↓iNlt_t, ↓iNlt_f, ↓iNle_t, ↓iNle_f, ↓iNeq_t, ↓iNeq_f, ↓iJlt_t, ↓iJlt_f, ↓iJle_t, ↓iJle_f, ↓iJeq_t, ↓iJeq_f, ↓iZlt_t, ↓iZlt_f, ↓iZle_t, ↓iZle_f, ↓iZeq_t, ↓iZeq_f, ↓iQlt_t, ↓iQlt_f, ↓iQle_t, ↓iQle_f, ↓iQeq_t, ↓iQeq_f, ↓iAnd_t, ↓iAnd_f, ↓iOr_t, ↓iOr_f, ↓iIff_t, ↓iIff_f, ↓iNot_t, ↓iNot_f, ↓iTrue, ↓iFalse, ↓ckN, ↓ckJ, ↓gIT, ↓gLT, ↓gRT, ↓cvT, ↓pIT, ↓pLT, ↓pZT, ↓asZ, ↓aNT, ↓arL, ↓asL, ↓arI, ↓asI, ↓aR_1, ↓bnd_some, ↓wh_eq, ↓on_some, ↓on_none, asZ, arL, asL, arI, asI, aR_1, bnd_some, wh_eq, on_some, on_none, tnT, tnU, tnL, nk, jk, N_add, N_mul, N_sub, N_neg, J_add, J_mul, J_sub, J_neg, N_J, ↓cv_q st, ↓gI_q st, ↓bq B, ↓bq W, w1_s, hw1, n1, hn0, Jc5, ↓bq V]
        · have g' := q_noStream (i := w1 i 20 2 (nK p n0 0 : Nat)) (l := neL l p (nK p n0 0)) (x := x) (y := y) (s := (s : Int)) (by rw [hv _ _ (by omega)]; exact r.m) (by omega) (by omega)
          rw [(tnT s).1, hv _ _ (by omega), if_pos (by omega)] at g'
          have B3 := B2 (w1 i 20 2 (nK p n0 0 : Nat)) (neL l p (nK p n0 0)) (hv _ _ (by omega)) (hv _ _ (by omega))
          rw [hv _ _ (by omega), hv _ _ (by omega), ibF cb] at B3
          unfold fX9_near
          rw [cv_q s9T, g', bnd_some, if_pos rfl]
          simp only [nk, jk, N_add, N_mul, N_sub, N_neg, J_add, J_mul, J_sub, J_neg]
          simp (disch := omega) only [↓iNlt_t, ↓iNlt_f, ↓iNle_t, ↓iNle_f, ↓iNeq_t, ↓iNeq_f, ↓iJlt_t, ↓iJlt_f, ↓iJle_t, ↓iJle_f, ↓iJeq_t, ↓iJeq_f, ↓iZlt_t, ↓iZlt_f, ↓iZle_t, ↓iZle_f, ↓iZeq_t, ↓iZeq_f, ↓iQlt_t, ↓iQlt_f, ↓iQle_t, ↓iQle_f, ↓iQeq_t, ↓iQeq_f, ↓iAnd_t, ↓iAnd_f, ↓iOr_t, ↓iOr_f, ↓iIff_t, ↓iIff_f, ↓iNot_t, ↓iNot_f, ↓iTrue, ↓iFalse, ↓ckN, ↓ckJ, ↓gIT, ↓gLT, ↓gRT, ↓cvT, ↓pIT, ↓pLT, ↓pZT, ↓asZ, ↓aNT, ↓arL, ↓asL, ↓arI, ↓asI, ↓aR_1, ↓bnd_some, ↓wh_eq, ↓on_some, ↓on_none, asZ, arL, asL, arI, asI, aR_1, bnd_some, wh_eq, on_some, on_none, tnT, tnU, tnL, nk, jk, N_add, N_mul, N_sub, N_neg, J_add, J_mul, J_sub, J_neg, N_J, ↓bq B3, ↓b_in, ↓iIb, ↓bq q_beginNear]
          exact G
      · refine agree_of (-2000000000000000002) r ?_ ?_
        · unfold fX8_near
          rw [cv_q s0T, f, bnd_some, on_some]
          simp only [nk, jk, N_add, N_mul, N_sub, N_neg, J_add, J_mul, J_sub, J_neg]
          by_cases q : w < 0
          · simp (disch := omega) only [↓iNlt_t, ↓iNlt_f, ↓iNle_t, ↓iNle_f, ↓iNeq_t, ↓iNeq_f, ↓iJlt_t, ↓iJlt_f, ↓iJle_t, ↓iJle_f, ↓iJeq_t, ↓iJeq_f, ↓iZlt_t, ↓iZlt_f, ↓iZle_t, ↓iZle_f, ↓iZeq_t, ↓iZeq_f, ↓iQlt_t, ↓iQlt_f, ↓iQle_t, ↓iQle_f, ↓iQeq_t, ↓iQeq_f, ↓iAnd_t, ↓iAnd_f, ↓iOr_t, ↓iOr_f, ↓iIff_t, ↓iIff_f, ↓iNot_t, ↓iNot_f, ↓iTrue, ↓iFalse, ↓ckN, ↓ckJ, ↓gIT, ↓gLT, ↓gRT, ↓cvT, ↓pIT, ↓pLT, ↓pZT, ↓asZ, ↓aNT, ↓arL, ↓asL, ↓arI, ↓asI, ↓aR_1, ↓bnd_some, ↓wh_eq, ↓on_some, ↓on_none, asZ, arL, asL, arI, asI, aR_1, bnd_some, wh_eq, on_some, on_none, tnT, tnU, tnL, nk, jk, N_add, N_mul, N_sub, N_neg, J_add, J_mul, J_sub, J_neg, N_J, ↓cv_q st, ↓bq B]
          · simp (disch := omega) only [↓iNlt_t, ↓iNlt_f, ↓iNle_t, ↓iNle_f, ↓iNeq_t, ↓iNeq_f, ↓iJlt_t, ↓iJlt_f, ↓iJle_t, ↓iJle_f, ↓iJeq_t, ↓iJeq_f, ↓iZlt_t, ↓iZlt_f, ↓iZle_t, ↓iZle_f, ↓iZeq_t, ↓iZeq_f, ↓iQlt_t, ↓iQlt_f, ↓iQle_t, ↓iQle_f, ↓iQeq_t, ↓iQeq_f, ↓iAnd_t, ↓iAnd_f, ↓iOr_t, ↓iOr_f, ↓iIff_t, ↓iIff_f, ↓iNot_t, ↓iNot_f, ↓iTrue, ↓iFalse, ↓ckN, ↓ckJ, ↓gIT, ↓gLT, ↓gRT, ↓cvT, ↓pIT, ↓pLT, ↓pZT, ↓asZ, ↓aNT, ↓arL, ↓asL, ↓arI, ↓asI, ↓aR_1, ↓bnd_some, ↓wh_eq, ↓on_some, ↓on_none, asZ, arL, asL, arI, asI, aR_1, bnd_some, wh_eq, on_some, on_none, tnT, tnU, tnL, nk, jk, N_add, N_mul, N_sub, N_neg, J_add, J_mul, J_sub, J_neg, N_J, ↓cv_q st, ↓bq B]
        · have B3 := B2 i l rfl rfl
          rw [ibF cb] at B3
          unfold fX9_near
          rw [cv_q s9T, g, bnd_some, if_pos rfl]
          simp only [nk, jk, N_add, N_mul, N_sub, N_neg, J_add, J_mul, J_sub, J_neg]
          simp (disch := omega) only [↓iNlt_t, ↓iNlt_f, ↓iNle_t, ↓iNle_f, ↓iNeq_t, ↓iNeq_f, ↓iJlt_t, ↓iJlt_f, ↓iJle_t, ↓iJle_f, ↓iJeq_t, ↓iJeq_f, ↓iZlt_t, ↓iZlt_f, ↓iZle_t, ↓iZle_f, ↓iZeq_t, ↓iZeq_f, ↓iQlt_t, ↓iQlt_f, ↓iQle_t, ↓iQle_f, ↓iQeq_t, ↓iQeq_f, ↓iAnd_t, ↓iAnd_f, ↓iOr_t, ↓iOr_f, ↓iIff_t, ↓iIff_f, ↓iNot_t, ↓iNot_f, ↓iTrue, ↓iFalse, ↓ckN, ↓ckJ, ↓gIT, ↓gLT, ↓gRT, ↓cvT, ↓pIT, ↓pLT, ↓pZT, ↓asZ, ↓aNT, ↓arL, ↓asL, ↓arI, ↓asI, ↓aR_1, ↓bnd_some, ↓wh_eq, ↓on_some, ↓on_none, asZ, arL, asL, arI, asI, aR_1, bnd_some, wh_eq, on_some, on_none, tnT, tnU, tnL, nk, jk, N_add, N_mul, N_sub, N_neg, J_add, J_mul, J_sub, J_neg, N_J, ↓bq B3, ↓b_in, ↓iIb]
