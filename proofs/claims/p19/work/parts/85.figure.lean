/-! ===== figures ===== -/
def fgr (t b : Int) : Nat → Int → Int
  | 0, u => u.fdiv t
  | m + 1, u => fgr t b m ((u - u.fdiv t * t) * b)
def smV (v y b : Int) : Nat → Int → Int → Int
  | 0, u, x => if u.fdiv v = (x - 1).fdiv y then u.fdiv v else -2000000000000000006
  | m + 1, u, x => if u.fdiv v = (x - 1).fdiv y then smV v y b m ((u - u.fdiv v * v) * b) ((x - u.fdiv v * y) * b) else -2000000000000000006
def fiL (l : Nat → Nat → Int) (a b c d : Int) : Nat → Nat → Int := wr l 27 (fun j => if j = 0 then a else if j = 1 then b else if j = 2 then c else if j = 3 then d else l 27 j)
theorem fiL_n (l : Nat → Nat → Int) (a b c d : Int) {q : Nat} (h : q ≠ 27) : fiL l a b c d q = l q := wr_n _ _ h
theorem fiL_g (l : Nat → Nat → Int) (a b c d : Int) : fiL l a b c d 27 0 = a ∧ fiL l a b c d 27 1 = b ∧ fiL l a b c d 27 2 = c ∧ fiL l a b c d 27 3 = d := by
  unfold fiL
  rw [wr_s]
  simp
theorem fiL_w (l : Nat → Nat → Int) (a b c d v : Int) : w1 (fiL l a b c d) 27 0 v = fiL l v b c d ∧ w1 (fiL l a b c d) 27 1 v = fiL l a v c d ∧ w1 (fiL l a b c d) 27 2 v = fiL l a b v d ∧ w1 (fiL l a b c d) 27 3 v = fiL l a b c v := by
  unfold fiL
  simp only [w1_wr_s]
  refine ⟨?_, ?_, ?_, ?_⟩ <;> congr 1 <;> funext j
  all_goals
    by_cases h1 : j = 0
    · simp [h1]
    · by_cases h2 : j = 1
      · simp [h2]
      · by_cases h3 : j = 2
        · simp [h3]
        · by_cases h4 : j = 3 <;> simp [h1, h2, h3, h4]
theorem fiL_id (l : Nat → Nat → Int) : l = fiL l (l 27 0) (l 27 1) (l 27 2) (l 27 3) := by
  unfold fiL
  have : (fun j => if j = 0 then l 27 0 else if j = 1 then l 27 1 else if j = 2 then l 27 2 else if j = 3 then l 27 3 else l 27 j) = l 27 := by
    funext j
    by_cases h1 : j = 0
    · simp [h1]
    · by_cases h2 : j = 1
      · simp [h2]
      · by_cases h3 : j = 2
        · simp [h3]
        · by_cases h4 : j = 3 <;> simp [h1, h2, h3, h4]
  rw [this, wr_id]
theorem fdiv_rest {u t : Int} (ht : 0 < t) : 0 ≤ u - u.fdiv t * t ∧ u - u.fdiv t * t < t := by
  have := fdiv_rng (a := u) ht
  omega
theorem fdiv_bnd {u t B : Int} (ht : 0 < t) (hu : -B ≤ u ∧ u ≤ B) : -B ≤ u.fdiv t ∧ u.fdiv t ≤ B := by
  have := fdiv_abs (a := u) ht
  omega
theorem tdiv_fdiv {q t : Int} (hq : 0 ≤ q) (ht : 0 < t) : q.tdiv t = q.fdiv t := by
  rw [Int.tdiv_eq_ediv_of_nonneg hq, Int.fdiv_eq_ediv_of_nonneg _ (by omega)]
theorem under_eq {u d : Int} (hd : 0 < d) : -((-u).fdiv d) - 1 = (u - 1).fdiv d := by
  have := fdiv_neg1 (m := -u) hd
  rw [← this]
  congr 1
  omega
section FIG
variable {ρ : Type} {i l : Nat → Nat → Int} {x y : Option Nat}
theorem q_splitLow {a b c d : Int} {u t : Int} (ht : 0 < t ∧ t ≤ 1000000000000000) (hu : -1000000000000000 ≤ u ∧ u ≤ 1000000000000000) : fX0_splitLow 27 (J u) (J t) (hq i (fiL l a b c d) x y) = some ((), hq i (fiL l (u.fdiv t) (u - u.fdiv t * t) c d) x y) := by
  unfold fX0_splitLow
  simp (disch := omega) only [↓iNlt_t, ↓iNlt_f, ↓iNle_t, ↓iNle_f, ↓iNeq_t, ↓iNeq_f, ↓iJlt_t, ↓iJlt_f, ↓iJle_t, ↓iJle_f, ↓iJeq_t, ↓iJeq_f, ↓iZlt_t, ↓iZlt_f, ↓iZle_t, ↓iZle_f, ↓iZeq_t, ↓iZeq_f, ↓iQlt_t, ↓iQlt_f, ↓iQle_t, ↓iQle_f, ↓iQeq_t, ↓iQeq_f, ↓iAnd_t, ↓iAnd_f, ↓iOr_t, ↓iOr_f, ↓iIff_t, ↓iIff_f, ↓iNot_t, ↓iNot_f, ↓iTrue, ↓iFalse, ↓ckN, ↓ckJ, ↓gIT, ↓gLT, ↓gRT, ↓cvT, ↓pIT, ↓pLT, ↓pZT, ↓asZ, ↓aNT, ↓arL, ↓asL, ↓arI, ↓asI, ↓aR_1, ↓bnd_some, ↓wh_eq, ↓on_some, ↓on_none, asZ, arL, asL, arI, asI, aR_1, bnd_some, wh_eq, on_some, on_none, tnT, tnU, tnL, nk, jk, N_add, N_mul, N_sub, N_neg, J_add, J_mul, J_sub, J_neg, N_J, ↓b_floorOf, fiL_g, fiL_w]
theorem q_splitHigh {a b c d : Int} {u t : Int} (ht : 0 < t ∧ t ≤ 1000000000000000) (hu : -1000000000000000 ≤ u ∧ u ≤ 1000000000000000) : fX0_splitHigh 27 (J u) (J t) (hq i (fiL l a b c d) x y) = some ((), hq i (fiL l a b ((u - 1).fdiv t) (u - (u - 1).fdiv t * t)) x y) := by
  unfold fX0_splitHigh
  simp only [nk, jk, N_add, N_mul, N_sub, N_neg, J_add, J_mul, J_sub, J_neg]
  simp (disch := omega) only [↓iNlt_t, ↓iNlt_f, ↓iNle_t, ↓iNle_f, ↓iNeq_t, ↓iNeq_f, ↓iJlt_t, ↓iJlt_f, ↓iJle_t, ↓iJle_f, ↓iJeq_t, ↓iJeq_f, ↓iZlt_t, ↓iZlt_f, ↓iZle_t, ↓iZle_f, ↓iZeq_t, ↓iZeq_f, ↓iQlt_t, ↓iQlt_f, ↓iQle_t, ↓iQle_f, ↓iQeq_t, ↓iQeq_f, ↓iAnd_t, ↓iAnd_f, ↓iOr_t, ↓iOr_f, ↓iIff_t, ↓iIff_f, ↓iNot_t, ↓iNot_f, ↓iTrue, ↓iFalse, ↓ckN, ↓ckJ, ↓gIT, ↓gLT, ↓gRT, ↓cvT, ↓pIT, ↓pLT, ↓pZT, ↓asZ, ↓aNT, ↓arL, ↓asL, ↓arI, ↓asI, ↓aR_1, ↓bnd_some, ↓wh_eq, ↓on_some, ↓on_none, asZ, arL, asL, arI, asI, aR_1, bnd_some, wh_eq, on_some, on_none, tnT, tnU, tnL, nk, jk, N_add, N_mul, N_sub, N_neg, J_add, J_mul, J_sub, J_neg, N_J, ↓b_floorOf, fiL_g, fiL_w]
  rw [under_eq ht.1]
theorem mul36 {r t b : Int} (hr : 0 ≤ r ∧ r ≤ t) (hb : 2 ≤ b ∧ b ≤ 36) : 0 ≤ r * b ∧ r * b ≤ 36 * t := by
  have h1 := Int.mul_nonneg (a := r) (b := b) hr.1 (by omega)
  have h2 := Int.mul_le_mul (a := r) (b := b) (c := t) (d := 36) hr.2 hb.2 (by omega) (by omega)
  omega
theorem q_ofRL {t b : Int} (ht : 0 < t ∧ 36 * t ≤ 1000000000000000) (hb : 2 ≤ b ∧ b ≤ 36) {k : Nat} (hk : k ≤ 40) (c d : Int) : ∀ (m j n : Nat) (u : Int), j + m = k → m + 1 ≤ n → (-1000000000000000 ≤ u ∧ u ≤ 1000000000000000) →
    ∃ e f : Int, fX0_ofRatio_64L n 27 (N b) (N k) (J t) (N ((j + 1 : Nat) : Int)) (hq i (fiL l (u.fdiv t) (u - u.fdiv t * t) c d) x y) = some (J (fgr t b m u), hq i (fiL l e f c d) x y) := by
  intro m
  induction m with
  | zero =>
    intro j n u hj hn hu
    obtain ⟨z, rfl⟩ : ∃ z, n = z + 1 := ⟨n - 1, by omega⟩
    refine ⟨u.fdiv t, u - u.fdiv t * t, ?_⟩
    show fX0_ofRatio_64 (fX0_ofRatio_64L z) 27 _ _ _ _ _ = _
    unfold fX0_ofRatio_64 fgr
    simp (disch := omega) only [↓iNlt_t, ↓iNlt_f, ↓iNle_t, ↓iNle_f, ↓iNeq_t, ↓iNeq_f, ↓iJlt_t, ↓iJlt_f, ↓iJle_t, ↓iJle_f, ↓iJeq_t, ↓iJeq_f, ↓iZlt_t, ↓iZlt_f, ↓iZle_t, ↓iZle_f, ↓iZeq_t, ↓iZeq_f, ↓iQlt_t, ↓iQlt_f, ↓iQle_t, ↓iQle_f, ↓iQeq_t, ↓iQeq_f, ↓iAnd_t, ↓iAnd_f, ↓iOr_t, ↓iOr_f, ↓iIff_t, ↓iIff_f, ↓iNot_t, ↓iNot_f, ↓iTrue, ↓iFalse, ↓ckN, ↓ckJ, ↓gIT, ↓gLT, ↓gRT, ↓cvT, ↓pIT, ↓pLT, ↓pZT, ↓asZ, ↓aNT, ↓arL, ↓asL, ↓arI, ↓asI, ↓aR_1, ↓bnd_some, ↓wh_eq, ↓on_some, ↓on_none, asZ, arL, asL, arI, asI, aR_1, bnd_some, wh_eq, on_some, on_none, tnT, tnU, tnL, nk, jk, N_add, N_mul, N_sub, N_neg, J_add, J_mul, J_sub, J_neg, N_J, fiL_g]
  | succ m ih =>
    intro j n u hj hn hu
    obtain ⟨z, rfl⟩ : ∃ z, n = z + 1 := ⟨n - 1, by omega⟩
    have hr := fdiv_rest (u := u) (t := t) ht.1
    have hm := mul36 (r := u - u.fdiv t * t) (t := t) (b := b) (by omega) hb
    obtain ⟨e, f, h⟩ := ih (j + 1) z ((u - u.fdiv t * t) * b) (by omega) (by omega) (by omega)
    refine ⟨e, f, ?_⟩
    have S := q_splitLow (i := i) (l := l) (x := x) (y := y) (a := u.fdiv t) (b := u - u.fdiv t * t) (c := c) (d := d) (u := (u - u.fdiv t * t) * b) (t := t) (by omega) (by omega)
    show fX0_ofRatio_64 (fX0_ofRatio_64L z) 27 _ _ _ _ _ = _
    unfold fX0_ofRatio_64 fgr
    rw [← h]
    simp only [nk, jk, N_add, N_mul, N_sub, N_neg, J_add, J_mul, J_sub, J_neg]
    simp (disch := omega) only [↓iNlt_t, ↓iNlt_f, ↓iNle_t, ↓iNle_f, ↓iNeq_t, ↓iNeq_f, ↓iJlt_t, ↓iJlt_f, ↓iJle_t, ↓iJle_f, ↓iJeq_t, ↓iJeq_f, ↓iZlt_t, ↓iZlt_f, ↓iZle_t, ↓iZle_f, ↓iZeq_t, ↓iZeq_f, ↓iQlt_t, ↓iQlt_f, ↓iQle_t, ↓iQle_f, ↓iQeq_t, ↓iQeq_f, ↓iAnd_t, ↓iAnd_f, ↓iOr_t, ↓iOr_f, ↓iIff_t, ↓iIff_f, ↓iNot_t, ↓iNot_f, ↓iTrue, ↓iFalse, ↓ckN, ↓ckJ, ↓gIT, ↓gLT, ↓gRT, ↓cvT, ↓pIT, ↓pLT, ↓pZT, ↓asZ, ↓aNT, ↓arL, ↓asL, ↓arI, ↓asI, ↓aR_1, ↓bnd_some, ↓wh_eq, ↓on_some, ↓on_none, asZ, arL, asL, arI, asI, aR_1, bnd_some, wh_eq, on_some, on_none, tnT, tnU, tnL, nk, jk, N_add, N_mul, N_sub, N_neg, J_add, J_mul, J_sub, J_neg, N_J, fiL_g, ↓bq S]
    rfl
theorem q_figL {t b : Int} (ht : 0 < t ∧ 36 * t ≤ 1000000000000000) (hb : 2 ≤ b ∧ b ≤ 36) (hl : l 108 27 = t) {k : Nat} (hk : k ≤ 40) : ∀ (m j n : Nat) (u : Int), j + m = k → m + 1 ≤ n → (-1000000000000000 ≤ u ∧ u ≤ 1000000000000000) →
    fX9_figureOf_28L n 108 (N b) (N k) (J (u.fdiv t)) (J (u - u.fdiv t * t)) (N j) (hq i l x y) = some (J (fgr t b m u), hq i l x y) := by
  intro m
  induction m with
  | zero =>
    intro j n u hj hn hu
    obtain ⟨z, rfl⟩ : ∃ z, n = z + 1 := ⟨n - 1, by omega⟩
    show fX9_figureOf_28 (fX9_figureOf_28L z) 108 _ _ _ _ _ _ = _
    unfold fX9_figureOf_28 fgr
    simp (disch := omega) only [↓iNlt_t, ↓iNlt_f, ↓iNle_t, ↓iNle_f, ↓iNeq_t, ↓iNeq_f, ↓iJlt_t, ↓iJlt_f, ↓iJle_t, ↓iJle_f, ↓iJeq_t, ↓iJeq_f, ↓iZlt_t, ↓iZlt_f, ↓iZle_t, ↓iZle_f, ↓iZeq_t, ↓iZeq_f, ↓iQlt_t, ↓iQlt_f, ↓iQle_t, ↓iQle_f, ↓iQeq_t, ↓iQeq_f, ↓iAnd_t, ↓iAnd_f, ↓iOr_t, ↓iOr_f, ↓iIff_t, ↓iIff_f, ↓iNot_t, ↓iNot_f, ↓iTrue, ↓iFalse, ↓ckN, ↓ckJ, ↓gIT, ↓gLT, ↓gRT, ↓cvT, ↓pIT, ↓pLT, ↓pZT, ↓asZ, ↓aNT, ↓arL, ↓asL, ↓arI, ↓asI, ↓aR_1, ↓bnd_some, ↓wh_eq, ↓on_some, ↓on_none, asZ, arL, asL, arI, asI, aR_1, bnd_some, wh_eq, on_some, on_none, tnT, tnU, tnL, nk, jk, N_add, N_mul, N_sub, N_neg, J_add, J_mul, J_sub, J_neg, N_J]
  | succ m ih =>
    intro j n u hj hn hu
    obtain ⟨z, rfl⟩ : ∃ z, n = z + 1 := ⟨n - 1, by omega⟩
    have hr := fdiv_rest (u := u) (t := t) ht.1
    have hm := mul36 (r := u - u.fdiv t * t) (t := t) (b := b) (by omega) hb
    have h := ih (j + 1) z ((u - u.fdiv t * t) * b) (by omega) (by omega) (by omega)
    have e1 : ((u - u.fdiv t * t) * b).tdiv t = ((u - u.fdiv t * t) * b).fdiv t := by
      exact tdiv_fdiv hm.1 ht.1
    have D : J ((u - u.fdiv t * t) * b) / J t = J (((u - u.fdiv t * t) * b).fdiv t) := by
      rw [J_div (by omega) (by omega) (by omega) (by omega), e1]
    show fX9_figureOf_28 (fX9_figureOf_28L z) 108 _ _ _ _ _ _ = _
    unfold fX9_figureOf_28 fgr
    rw [← h]
    simp only [nk, jk, N_add, N_mul, N_sub, N_neg, J_add, J_mul, J_sub, J_neg]
    simp (disch := omega) only [↓iNlt_t, ↓iNlt_f, ↓iNle_t, ↓iNle_f, ↓iNeq_t, ↓iNeq_f, ↓iJlt_t, ↓iJlt_f, ↓iJle_t, ↓iJle_f, ↓iJeq_t, ↓iJeq_f, ↓iZlt_t, ↓iZlt_f, ↓iZle_t, ↓iZle_f, ↓iZeq_t, ↓iZeq_f, ↓iQlt_t, ↓iQlt_f, ↓iQle_t, ↓iQle_f, ↓iQeq_t, ↓iQeq_f, ↓iAnd_t, ↓iAnd_f, ↓iOr_t, ↓iOr_f, ↓iIff_t, ↓iIff_f, ↓iNot_t, ↓iNot_f, ↓iTrue, ↓iFalse, ↓ckN, ↓ckJ, ↓gIT, ↓gLT, ↓gRT, ↓cvT, ↓pIT, ↓pLT, ↓pZT, ↓asZ, ↓aNT, ↓arL, ↓asL, ↓arI, ↓asI, ↓aR_1, ↓bnd_some, ↓wh_eq, ↓on_some, ↓on_none, asZ, arL, asL, arI, asI, aR_1, bnd_some, wh_eq, on_some, on_none, tnT, tnU, tnL, nk, jk, N_add, N_mul, N_sub, N_neg, J_add, J_mul, J_sub, J_neg, N_J, hl, D]
    rfl
theorem q_figureOf {t b u : Int} (ht : 0 < t ∧ 36 * t ≤ 1000000000000000) (hb : 2 ≤ b ∧ b ≤ 36) (hl : l 108 27 = t) (hu : l 108 26 = u) (hu2 : -1000000000000000 ≤ u ∧ u ≤ 1000000000000000) {k : Nat} (hk : k ≤ 40) : fX9_figureOf 108 (N b) (N k) (hq i l x y) = some (J (fgr t b k u), hq i l x y) := by
  have h := q_figL (i := i) (x := x) (y := y) ht hb hl hk k 0 1000 u (by omega) (by omega) hu2
  unfold fX9_figureOf
  simp only [nk, jk, N_add, N_mul, N_sub, N_neg, J_add, J_mul, J_sub, J_neg]
  simp (disch := omega) only [↓iNlt_t, ↓iNlt_f, ↓iNle_t, ↓iNle_f, ↓iNeq_t, ↓iNeq_f, ↓iJlt_t, ↓iJlt_f, ↓iJle_t, ↓iJle_f, ↓iJeq_t, ↓iJeq_f, ↓iZlt_t, ↓iZlt_f, ↓iZle_t, ↓iZle_f, ↓iZeq_t, ↓iZeq_f, ↓iQlt_t, ↓iQlt_f, ↓iQle_t, ↓iQle_f, ↓iQeq_t, ↓iQeq_f, ↓iAnd_t, ↓iAnd_f, ↓iOr_t, ↓iOr_f, ↓iIff_t, ↓iIff_f, ↓iNot_t, ↓iNot_f, ↓iTrue, ↓iFalse, ↓ckN, ↓ckJ, ↓gIT, ↓gLT, ↓gRT, ↓cvT, ↓pIT, ↓pLT, ↓pZT, ↓asZ, ↓aNT, ↓arL, ↓asL, ↓arI, ↓asI, ↓aR_1, ↓bnd_some, ↓wh_eq, ↓on_some, ↓on_none, asZ, arL, asL, arI, asI, aR_1, bnd_some, wh_eq, on_some, on_none, tnT, tnU, tnL, nk, jk, N_add, N_mul, N_sub, N_neg, J_add, J_mul, J_sub, J_neg, N_J, hl, hu, ↓b_floor]
  exact h
theorem q_sameL {v y' b : Int} (hv : 0 < v ∧ v ≤ 10000000000000) (hy : 0 < y' ∧ y' ≤ 10000000000000) (hb : 2 ≤ b ∧ b ≤ 36) {k : Nat} (hk : k ≤ 40) (h : AH) : ∀ (m j n : Nat) (u w : Int), j + m = k → m + 1 ≤ n → (-1000000000000000 ≤ u ∧ u ≤ 1000000000000000) → (-1000000000000000 ≤ w ∧ w ≤ 1000000000000000) → u.fdiv v = (w - 1).fdiv y' →
    fX9_same_45L n (J v) (J y') (N b) (N k) (J (u.fdiv v)) (J (u - u.fdiv v * v)) (J (w - u.fdiv v * y')) (N j) h = some (J (smV v y' b m u w), h) := by
  intro m
  induction m with
  | zero =>
    intro j n u w hj hn hu hw he
    obtain ⟨z, rfl⟩ : ∃ z, n = z + 1 := ⟨n - 1, by omega⟩
    show fX9_same_45 (fX9_same_45L z) _ _ _ _ _ _ _ _ _ = _
    unfold fX9_same_45 smV
    rw [if_pos he]
    simp (disch := omega) only [↓iNlt_t, ↓iNlt_f, ↓iNle_t, ↓iNle_f, ↓iNeq_t, ↓iNeq_f, ↓iJlt_t, ↓iJlt_f, ↓iJle_t, ↓iJle_f, ↓iJeq_t, ↓iJeq_f, ↓iZlt_t, ↓iZlt_f, ↓iZle_t, ↓iZle_f, ↓iZeq_t, ↓iZeq_f, ↓iQlt_t, ↓iQlt_f, ↓iQle_t, ↓iQle_f, ↓iQeq_t, ↓iQeq_f, ↓iAnd_t, ↓iAnd_f, ↓iOr_t, ↓iOr_f, ↓iIff_t, ↓iIff_f, ↓iNot_t, ↓iNot_f, ↓iTrue, ↓iFalse, ↓ckN, ↓ckJ, ↓gIT, ↓gLT, ↓gRT, ↓cvT, ↓pIT, ↓pLT, ↓pZT, ↓asZ, ↓aNT, ↓arL, ↓asL, ↓arI, ↓asI, ↓aR_1, ↓bnd_some, ↓wh_eq, ↓on_some, ↓on_none, asZ, arL, asL, arI, asI, aR_1, bnd_some, wh_eq, on_some, on_none, tnT, tnU, tnL, nk, jk, N_add, N_mul, N_sub, N_neg, J_add, J_mul, J_sub, J_neg, N_J]
  | succ m ih =>
    intro j n u w hj hn hu hw he
    obtain ⟨z, rfl⟩ : ∃ z, n = z + 1 := ⟨n - 1, by omega⟩
    have hr := fdiv_rest (u := u) (t := v) hv.1
    have hr2 := fdiv_rest (u := w - 1) (t := y') hy.1
    rw [← he] at hr2
    have hm := mul36 (r := u - u.fdiv v * v) (t := v) (b := b) (by omega) hb
    have hm2 := mul36 (r := w - u.fdiv v * y') (t := y') (b := b) (by omega) hb
    have ih := ih (j + 1) z ((u - u.fdiv v * v) * b) ((w - u.fdiv v * y') * b) (by omega) (by omega) (by omega) (by omega)
    have hb1 := fdiv_bnd (u := (u - u.fdiv v * v) * b) (t := v) (B := 1000000000000000) hv.1 (by omega)
    have hb2 := fdiv_bnd (u := (w - u.fdiv v * y') * b - 1) (t := y') (B := 1000000000000001) hy.1 (by omega)
    show fX9_same_45 (fX9_same_45L z) _ _ _ _ _ _ _ _ _ = _
    unfold fX9_same_45 smV fX9_under
    rw [if_pos he]
    simp only [nk, jk, N_add, N_mul, N_sub, N_neg, J_add, J_mul, J_sub, J_neg]
    by_cases c : ((u - u.fdiv v * v) * b).fdiv v = ((w - u.fdiv v * y') * b - 1).fdiv y'
    · simp (disch := omega) only [↓iNlt_t, ↓iNlt_f, ↓iNle_t, ↓iNle_f, ↓iNeq_t, ↓iNeq_f, ↓iJlt_t, ↓iJlt_f, ↓iJle_t, ↓iJle_f, ↓iJeq_t, ↓iJeq_f, ↓iZlt_t, ↓iZlt_f, ↓iZle_t, ↓iZle_f, ↓iZeq_t, ↓iZeq_f, ↓iQlt_t, ↓iQlt_f, ↓iQle_t, ↓iQle_f, ↓iQeq_t, ↓iQeq_f, ↓iAnd_t, ↓iAnd_f, ↓iOr_t, ↓iOr_f, ↓iIff_t, ↓iIff_f, ↓iNot_t, ↓iNot_f, ↓iTrue, ↓iFalse, ↓ckN, ↓ckJ, ↓gIT, ↓gLT, ↓gRT, ↓cvT, ↓pIT, ↓pLT, ↓pZT, ↓asZ, ↓aNT, ↓arL, ↓asL, ↓arI, ↓asI, ↓aR_1, ↓bnd_some, ↓wh_eq, ↓on_some, ↓on_none, asZ, arL, asL, arI, asI, aR_1, bnd_some, wh_eq, on_some, on_none, tnT, tnU, tnL, nk, jk, N_add, N_mul, N_sub, N_neg, J_add, J_mul, J_sub, J_neg, N_J, ↓b_floor]
      exact ih c
    · have e : smV v y' b m ((u - u.fdiv v * v) * b) ((w - u.fdiv v * y') * b) = -2000000000000000006 := by
        cases m <;> (unfold smV; rw [if_neg c])
      simp (disch := omega) only [↓iNlt_t, ↓iNlt_f, ↓iNle_t, ↓iNle_f, ↓iNeq_t, ↓iNeq_f, ↓iJlt_t, ↓iJlt_f, ↓iJle_t, ↓iJle_f, ↓iJeq_t, ↓iJeq_f, ↓iZlt_t, ↓iZlt_f, ↓iZle_t, ↓iZle_f, ↓iZeq_t, ↓iZeq_f, ↓iQlt_t, ↓iQlt_f, ↓iQle_t, ↓iQle_f, ↓iQeq_t, ↓iQeq_f, ↓iAnd_t, ↓iAnd_f, ↓iOr_t, ↓iOr_f, ↓iIff_t, ↓iIff_f, ↓iNot_t, ↓iNot_f, ↓iTrue, ↓iFalse, ↓ckN, ↓ckJ, ↓gIT, ↓gLT, ↓gRT, ↓cvT, ↓pIT, ↓pLT, ↓pZT, ↓asZ, ↓aNT, ↓arL, ↓asL, ↓arI, ↓asI, ↓aR_1, ↓bnd_some, ↓wh_eq, ↓on_some, ↓on_none, asZ, arL, asL, arI, asI, aR_1, bnd_some, wh_eq, on_some, on_none, tnT, tnU, tnL, nk, jk, N_add, N_mul, N_sub, N_neg, J_add, J_mul, J_sub, J_neg, N_J, ↓b_floor, e, Jc5]
theorem q_sameF {v y' b u w : Int} (hv : 0 < v ∧ v ≤ 10000000000000) (hy : 0 < y' ∧ y' ≤ 10000000000000) (hb : 2 ≤ b ∧ b ≤ 36) {k : Nat} (hk : k ≤ 40) (hu : -1000000000000000 ≤ u ∧ u ≤ 1000000000000000) (hw : -1000000000000000 ≤ w ∧ w ≤ 1000000000000000) (h : AH) : fX9_same (J u) (J v) (J w) (J y') (N b) (N k) h = some (J (smV v y' b k u w), h) := by
  have hb1 := fdiv_bnd (u := u) (t := v) (B := 1000000000000000) hv.1 (by omega)
  have hb2 := fdiv_bnd (u := w - 1) (t := y') (B := 1000000000000001) hy.1 (by omega)
  have L := q_sameL hv hy hb hk h k 0 1000 u w (by omega) (by omega) hu hw
  unfold fX9_same fX9_under
  simp only [nk, jk, N_add, N_mul, N_sub, N_neg, J_add, J_mul, J_sub, J_neg]
  by_cases c : u.fdiv v = (w - 1).fdiv y'
  · simp (disch := omega) only [↓iNlt_t, ↓iNlt_f, ↓iNle_t, ↓iNle_f, ↓iNeq_t, ↓iNeq_f, ↓iJlt_t, ↓iJlt_f, ↓iJle_t, ↓iJle_f, ↓iJeq_t, ↓iJeq_f, ↓iZlt_t, ↓iZlt_f, ↓iZle_t, ↓iZle_f, ↓iZeq_t, ↓iZeq_f, ↓iQlt_t, ↓iQlt_f, ↓iQle_t, ↓iQle_f, ↓iQeq_t, ↓iQeq_f, ↓iAnd_t, ↓iAnd_f, ↓iOr_t, ↓iOr_f, ↓iIff_t, ↓iIff_f, ↓iNot_t, ↓iNot_f, ↓iTrue, ↓iFalse, ↓ckN, ↓ckJ, ↓gIT, ↓gLT, ↓gRT, ↓cvT, ↓pIT, ↓pLT, ↓pZT, ↓asZ, ↓aNT, ↓arL, ↓asL, ↓arI, ↓asI, ↓aR_1, ↓bnd_some, ↓wh_eq, ↓on_some, ↓on_none, asZ, arL, asL, arI, asI, aR_1, bnd_some, wh_eq, on_some, on_none, tnT, tnU, tnL, nk, jk, N_add, N_mul, N_sub, N_neg, J_add, J_mul, J_sub, J_neg, N_J, ↓b_floor]
    exact L c
  · have e : smV v y' b k u w = -2000000000000000006 := by
      cases k <;> (unfold smV; rw [if_neg c])
    simp (disch := omega) only [↓iNlt_t, ↓iNlt_f, ↓iNle_t, ↓iNle_f, ↓iNeq_t, ↓iNeq_f, ↓iJlt_t, ↓iJlt_f, ↓iJle_t, ↓iJle_f, ↓iJeq_t, ↓iJeq_f, ↓iZlt_t, ↓iZlt_f, ↓iZle_t, ↓iZle_f, ↓iZeq_t, ↓iZeq_f, ↓iQlt_t, ↓iQlt_f, ↓iQle_t, ↓iQle_f, ↓iQeq_t, ↓iQeq_f, ↓iAnd_t, ↓iAnd_f, ↓iOr_t, ↓iOr_f, ↓iIff_t, ↓iIff_f, ↓iNot_t, ↓iNot_f, ↓iTrue, ↓iFalse, ↓ckN, ↓ckJ, ↓gIT, ↓gLT, ↓gRT, ↓cvT, ↓pIT, ↓pLT, ↓pZT, ↓asZ, ↓aNT, ↓arL, ↓asL, ↓arI, ↓asI, ↓aR_1, ↓bnd_some, ↓wh_eq, ↓on_some, ↓on_none, asZ, arL, asL, arI, asI, aR_1, bnd_some, wh_eq, on_some, on_none, tnT, tnU, tnL, nk, jk, N_add, N_mul, N_sub, N_neg, J_add, J_mul, J_sub, J_neg, N_J, ↓b_floor, e, Jc5]
theorem q_ofSL {v y' b : Int} (hv : 0 < v ∧ v ≤ 10000000000000) (hy : 0 < y' ∧ y' ≤ 10000000000000) (hb : 2 ≤ b ∧ b ≤ 36) {k : Nat} (hk : k ≤ 40) : ∀ (m j n : Nat) (u w : Int), j + m = k → m + 1 ≤ n → (-1000000000000000 ≤ u ∧ u ≤ 1000000000000000) → (-1000000000000000 ≤ w ∧ w ≤ 1000000000000000) →
    ∃ c1 c2 c3 c4 : Int, fX0_ofSpan_146L n 27 (N b) (N k) (J v) (J y') (N ((j + 1 : Nat) : Int)) (hq i (fiL l (u.fdiv v) (u - u.fdiv v * v) ((w - 1).fdiv y') (w - (w - 1).fdiv y' * y')) x y) = some (J (smV v y' b m u w), hq i (fiL l c1 c2 c3 c4) x y) := by
  intro m
  induction m with
  | zero =>
    intro j n u w hj hn hu hw
    obtain ⟨z, rfl⟩ : ∃ z, n = z + 1 := ⟨n - 1, by omega⟩
    have hb1 := fdiv_bnd (u := u) (t := v) (B := 1000000000000000) hv.1 (by omega)
    have hb2 := fdiv_bnd (u := w - 1) (t := y') (B := 1000000000000001) hy.1 (by omega)
    refine ⟨u.fdiv v, u - u.fdiv v * v, (w - 1).fdiv y', w - (w - 1).fdiv y' * y', ?_⟩
    show fX0_ofSpan_146 (fX0_ofSpan_146L z) 27 _ _ _ _ _ _ = _
    unfold fX0_ofSpan_146 fX0_ofSpan_196 smV
    by_cases c : u.fdiv v = (w - 1).fdiv y'
    · simp (disch := omega) only [↓iNlt_t, ↓iNlt_f, ↓iNle_t, ↓iNle_f, ↓iNeq_t, ↓iNeq_f, ↓iJlt_t, ↓iJlt_f, ↓iJle_t, ↓iJle_f, ↓iJeq_t, ↓iJeq_f, ↓iZlt_t, ↓iZlt_f, ↓iZle_t, ↓iZle_f, ↓iZeq_t, ↓iZeq_f, ↓iQlt_t, ↓iQlt_f, ↓iQle_t, ↓iQle_f, ↓iQeq_t, ↓iQeq_f, ↓iAnd_t, ↓iAnd_f, ↓iOr_t, ↓iOr_f, ↓iIff_t, ↓iIff_f, ↓iNot_t, ↓iNot_f, ↓iTrue, ↓iFalse, ↓ckN, ↓ckJ, ↓gIT, ↓gLT, ↓gRT, ↓cvT, ↓pIT, ↓pLT, ↓pZT, ↓asZ, ↓aNT, ↓arL, ↓asL, ↓arI, ↓asI, ↓aR_1, ↓bnd_some, ↓wh_eq, ↓on_some, ↓on_none, asZ, arL, asL, arI, asI, aR_1, bnd_some, wh_eq, on_some, on_none, tnT, tnU, tnL, nk, jk, N_add, N_mul, N_sub, N_neg, J_add, J_mul, J_sub, J_neg, N_J, fiL_g]
    · simp (disch := omega) only [↓iNlt_t, ↓iNlt_f, ↓iNle_t, ↓iNle_f, ↓iNeq_t, ↓iNeq_f, ↓iJlt_t, ↓iJlt_f, ↓iJle_t, ↓iJle_f, ↓iJeq_t, ↓iJeq_f, ↓iZlt_t, ↓iZlt_f, ↓iZle_t, ↓iZle_f, ↓iZeq_t, ↓iZeq_f, ↓iQlt_t, ↓iQlt_f, ↓iQle_t, ↓iQle_f, ↓iQeq_t, ↓iQeq_f, ↓iAnd_t, ↓iAnd_f, ↓iOr_t, ↓iOr_f, ↓iIff_t, ↓iIff_f, ↓iNot_t, ↓iNot_f, ↓iTrue, ↓iFalse, ↓ckN, ↓ckJ, ↓gIT, ↓gLT, ↓gRT, ↓cvT, ↓pIT, ↓pLT, ↓pZT, ↓asZ, ↓aNT, ↓arL, ↓asL, ↓arI, ↓asI, ↓aR_1, ↓bnd_some, ↓wh_eq, ↓on_some, ↓on_none, asZ, arL, asL, arI, asI, aR_1, bnd_some, wh_eq, on_some, on_none, tnT, tnU, tnL, nk, jk, N_add, N_mul, N_sub, N_neg, J_add, J_mul, J_sub, J_neg, N_J, fiL_g, Jc5]
  | succ m ih =>
    intro j n u w hj hn hu hw
    obtain ⟨z, rfl⟩ : ∃ z, n = z + 1 := ⟨n - 1, by omega⟩
    have hb1 := fdiv_bnd (u := u) (t := v) (B := 1000000000000000) hv.1 (by omega)
    have hb2 := fdiv_bnd (u := w - 1) (t := y') (B := 1000000000000001) hy.1 (by omega)
    by_cases c : u.fdiv v = (w - 1).fdiv y'
    · have hr := fdiv_rest (u := u) (t := v) hv.1
      have hr2 := fdiv_rest (u := w - 1) (t := y') hy.1
      rw [← c] at hr2
      have hm := mul36 (r := u - u.fdiv v * v) (t := v) (b := b) (by omega) hb
      have hm2 := mul36 (r := w - u.fdiv v * y') (t := y') (b := b) (by omega) hb
      obtain ⟨c1, c2, c3, c4, h⟩ := ih (j + 1) z ((u - u.fdiv v * v) * b) ((w - u.fdiv v * y') * b) (by omega) (by omega) (by omega) (by omega)
      refine ⟨c1, c2, c3, c4, ?_⟩
      have S1 := fun a b' c d => q_splitLow (i := i) (l := l) (x := x) (y := y) (a := a) (b := b') (c := c) (d := d) (u := (u - u.fdiv v * v) * b) (t := v) (by omega) (by omega)
      have S2 := fun a b' c d => q_splitHigh (i := i) (l := l) (x := x) (y := y) (a := a) (b := b') (c := c) (d := d) (u := (w - u.fdiv v * y') * b) (t := y') (by omega) (by omega)
      have sv : smV v y' b (m + 1) u w = smV v y' b m ((u - u.fdiv v * v) * b) ((w - u.fdiv v * y') * b) := by
        show (if u.fdiv v = (w - 1).fdiv y' then _ else _) = _
        rw [if_pos c]
      rw [sv, ← h, ← c]
      show fX0_ofSpan_146 (fX0_ofSpan_146L z) 27 _ _ _ _ _ _ = _
      unfold fX0_ofSpan_146
      simp only [nk, jk, N_add, N_mul, N_sub, N_neg, J_add, J_mul, J_sub, J_neg]
      simp (disch := omega) only [↓iNlt_t, ↓iNlt_f, ↓iNle_t, ↓iNle_f, ↓iNeq_t, ↓iNeq_f, ↓iJlt_t, ↓iJlt_f, ↓iJle_t, ↓iJle_f, ↓iJeq_t, ↓iJeq_f, ↓iZlt_t, ↓iZlt_f, ↓iZle_t, ↓iZle_f, ↓iZeq_t, ↓iZeq_f, ↓iQlt_t, ↓iQlt_f, ↓iQle_t, ↓iQle_f, ↓iQeq_t, ↓iQeq_f, ↓iAnd_t, ↓iAnd_f, ↓iOr_t, ↓iOr_f, ↓iIff_t, ↓iIff_f, ↓iNot_t, ↓iNot_f, ↓iTrue, ↓iFalse, ↓ckN, ↓ckJ, ↓gIT, ↓gLT, ↓gRT, ↓cvT, ↓pIT, ↓pLT, ↓pZT, ↓asZ, ↓aNT, ↓arL, ↓asL, ↓arI, ↓asI, ↓aR_1, ↓bnd_some, ↓wh_eq, ↓on_some, ↓on_none, asZ, arL, asL, arI, asI, aR_1, bnd_some, wh_eq, on_some, on_none, tnT, tnU, tnL, nk, jk, N_add, N_mul, N_sub, N_neg, J_add, J_mul, J_sub, J_neg, N_J, fiL_g, ↓bq (S1 _ _ _ _), ↓bq (S2 _ _ _ _)]
      rfl
    · refine ⟨u.fdiv v, u - u.fdiv v * v, (w - 1).fdiv y', w - (w - 1).fdiv y' * y', ?_⟩
      have e : smV v y' b (m + 1) u w = -2000000000000000006 := by
        unfold smV
        rw [if_neg c]
      show fX0_ofSpan_146 (fX0_ofSpan_146L z) 27 _ _ _ _ _ _ = _
      unfold fX0_ofSpan_146 fX0_ofSpan_196
      simp only [nk, jk, N_add, N_mul, N_sub, N_neg, J_add, J_mul, J_sub, J_neg]
      simp (disch := omega) only [↓iNlt_t, ↓iNlt_f, ↓iNle_t, ↓iNle_f, ↓iNeq_t, ↓iNeq_f, ↓iJlt_t, ↓iJlt_f, ↓iJle_t, ↓iJle_f, ↓iJeq_t, ↓iJeq_f, ↓iZlt_t, ↓iZlt_f, ↓iZle_t, ↓iZle_f, ↓iZeq_t, ↓iZeq_f, ↓iQlt_t, ↓iQlt_f, ↓iQle_t, ↓iQle_f, ↓iQeq_t, ↓iQeq_f, ↓iAnd_t, ↓iAnd_f, ↓iOr_t, ↓iOr_f, ↓iIff_t, ↓iIff_f, ↓iNot_t, ↓iNot_f, ↓iTrue, ↓iFalse, ↓ckN, ↓ckJ, ↓gIT, ↓gLT, ↓gRT, ↓cvT, ↓pIT, ↓pLT, ↓pZT, ↓asZ, ↓aNT, ↓arL, ↓asL, ↓arI, ↓asI, ↓aR_1, ↓bnd_some, ↓wh_eq, ↓on_some, ↓on_none, asZ, arL, asL, arI, asI, aR_1, bnd_some, wh_eq, on_some, on_none, tnT, tnU, tnL, nk, jk, N_add, N_mul, N_sub, N_neg, J_add, J_mul, J_sub, J_neg, N_J, fiL_g, e, Jc5]
end FIG
