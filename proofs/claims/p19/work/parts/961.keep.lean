/-! ===== making: the eight numbers, and a step that is kept ===== -/
def v8 (a b c d e f g h : Int) : Nat → Int := fun j => if j = 0 then a else if j = 1 then b else if j = 2 then c else if j = 3 then d else if j = 4 then e else if j = 5 then f else if j = 6 then g else h
theorem v8_g (a b c d e f g h : Int) : v8 a b c d e f g h 0 = a ∧ v8 a b c d e f g h 1 = b ∧ v8 a b c d e f g h 2 = c ∧ v8 a b c d e f g h 3 = d ∧ v8 a b c d e f g h 4 = e ∧ v8 a b c d e f g h 5 = f ∧ v8 a b c d e f g h 6 = g ∧ v8 a b c d e f g h 7 = h := by
  unfold v8
  simp
theorem all8 {P : Nat → Prop} : (∀ j, j < 8 → P j) ↔ P 0 ∧ P 1 ∧ P 2 ∧ P 3 ∧ P 4 ∧ P 5 ∧ P 6 ∧ P 7 := by
  constructor
  · intro h
    exact ⟨h 0 (by omega), h 1 (by omega), h 2 (by omega), h 3 (by omega), h 4 (by omega), h 5 (by omega), h 6 (by omega), h 7 (by omega)⟩
  · rintro ⟨h0, h1, h2, h3, h4, h5, h6, h7⟩ j hj
    rcases (by omega : j = 0 ∨ j = 1 ∨ j = 2 ∨ j = 3 ∨ j = 4 ∨ j = 5 ∨ j = 6 ∨ j = 7) with rfl | rfl | rfl | rfl | rfl | rfl | rfl | rfl <;> assumption
/-- the greatest common divisor of the first k -/
def gk (w : Nat → Int) : Nat → Nat
  | 0 => 0
  | k + 1 => Int.gcd ((gk w k : Nat) : Int) (w k)
theorem gk_dvd (w : Nat → Int) : ∀ k j, j < k → ((gk w k : Nat) : Int) ∣ w j := by
  intro k
  induction k with
  | zero => intro j hj; omega
  | succ k ih =>
    intro j hj
    unfold gk
    by_cases e : j = k
    · rw [e]; exact Int.gcd_dvd_right ..
    · exact Int.dvd_trans (Int.gcd_dvd_left ..) (ih j (by omega))
theorem gk_le (w : Nat → Int) : ∀ k, (∀ j, j < k → ¬ far (w j)) → gk w k ≤ 1000000000000000 := by
  intro k
  induction k with
  | zero => intro _; exact Nat.zero_le _
  | succ k ih =>
    intro h
    have h1 := ih (fun j hj => h j (by omega))
    have h2 := h k (by omega)
    unfold gk
    have := gcd_nf (a := ((gk w k : Nat) : Int)) (b := w k) (by omega) h2
    omega
theorem gk_congr {w w' : Nat → Int} : ∀ k, (∀ j, j < k → w j = w' j) → gk w k = gk w' k := by
  intro k
  induction k with
  | zero => intro _; rfl
  | succ k ih =>
    intro h
    unfold gk
    rw [ih (fun j hj => h j (by omega)), h k (by omega)]
def gd (w : Nat → Int) : Int := if gk w 8 = 0 then 1 else (gk w 8 : Nat)
/-- all eight by their divisor -/
def gdv (w : Nat → Int) : Nat → Int := fun j => (w j).tdiv (gd w)
theorem gd_pos (w : Nat → Int) : 1 ≤ gd w := by
  unfold gd
  split <;> omega
theorem gdv_eq (w : Nat → Int) {j : Nat} (hj : j < 8) : gd w * gdv w j = w j := by
  unfold gdv gd
  by_cases c : gk w 8 = 0
  · rw [if_pos c, Int.tdiv_one, Int.one_mul]
  · rw [if_neg c]
    exact Int.mul_tdiv_cancel' (gk_dvd w 8 j hj)
theorem gdv_far (w : Nat → Int) {j : Nat} (h : ¬ far (w j)) : ¬ far (gdv w j) := tdiv_far h
theorem gdv_congr {w w' : Nat → Int} (h : ∀ j, j < 8 → w j = w' j) {j : Nat} (hj : j < 8) : gdv w j = gdv w' j := by
  unfold gdv gd
  rw [gk_congr 8 h, h j hj]
/-- the roll with a step more -/
def rlA (rl : Nat → Int) (n : Nat) (what p : Int) (v : Nat → Int) : Nat → Int := sg v (fun j => if j = 10 * n + 1 then p else if j = 10 * n then what else rl j) (10 * n + 2) 8
theorem rlA_congr {r r' v v' : Nat → Int} {n : Nat} (what p : Int) (h : ∀ j, j < 10 * n → r j = r' j) (hv : ∀ j, j < 8 → v j = v' j) : ∀ j, j < 10 * (n + 1) → rlA r n what p v j = rlA r' n what p v' j := by
  intro j hj
  unfold rlA sg
  by_cases c1 : 10 * n + 2 ≤ j ∧ j < 10 * n + 2 + 8
  · rw [if_pos c1, if_pos c1, hv _ (by omega)]
  · rw [if_neg c1, if_neg c1]
    dsimp only
    by_cases c2 : j = 10 * n + 1
    · rw [if_pos c2, if_pos c2]
    · rw [if_neg c2, if_neg c2]
      by_cases c3 : j = 10 * n
      · rw [if_pos c3, if_pos c3]
      · rw [if_neg c3, if_neg c3]
        exact h j (by omega)
section KS
variable {ρ : Type} {i l : Nat → Nat → Int} {x y : Option Nat}
theorem q_roll42 {n : Nat} (hn : n < 182) (hi : i 12 8 = n) (g : Nat → Int) : ∀ (m k q : Nat), k + m = 8 → m + 1 ≤ q → fX1_rollOn_42L q 12 (N ((10 * n : Nat) : Int)) (N k) (hq i (wr l 19 (sg (l 15) g (10 * n + 2) k)) x y) = some ((), hq (w1 i 12 8 ((n + 1 : Nat) : Int)) (wr l 19 (sg (l 15) g (10 * n + 2) 8)) x y) := by
  intro m
  induction m with
  | zero =>
    intro k q hk hq'
    obtain ⟨z, rfl⟩ : ∃ z, q = z + 1 := ⟨q - 1, by omega⟩
    obtain rfl : k = 8 := by omega
    show fX1_rollOn_42 (fX1_rollOn_42L z) 12 _ _ _ = _
    unfold fX1_rollOn_42 fX1_rollOn_74
    simp only [nk, jk, N_add, N_mul, N_sub, N_neg, J_add, J_mul, J_sub, J_neg]
    simp (disch := omega) only [↓iNlt_t, ↓iNlt_f, ↓iNle_t, ↓iNle_f, ↓iNeq_t, ↓iNeq_f, ↓iJlt_t, ↓iJlt_f, ↓iJle_t, ↓iJle_f, ↓iJeq_t, ↓iJeq_f, ↓iZlt_t, ↓iZlt_f, ↓iZle_t, ↓iZle_f, ↓iZeq_t, ↓iZeq_f, ↓iQlt_t, ↓iQlt_f, ↓iQle_t, ↓iQle_f, ↓iQeq_t, ↓iQeq_f, ↓iAnd_t, ↓iAnd_f, ↓iOr_t, ↓iOr_f, ↓iIff_t, ↓iIff_f, ↓iNot_t, ↓iNot_f, ↓iTrue, ↓iFalse, ↓ckN, ↓ckJ, ↓gIT, ↓gLT, ↓gRT, ↓cvT, ↓pIT, ↓pLT, ↓pZT, ↓asZ, ↓aNT, ↓arL, ↓asL, ↓arI, ↓asI, ↓aR_1, ↓bnd_some, ↓wh_eq, ↓on_some, ↓on_none, asZ, arL, asL, arI, asI, aR_1, bnd_some, wh_eq, on_some, on_none, tnT, tnU, tnL, nk, jk, N_add, N_mul, N_sub, N_neg, J_add, J_mul, J_sub, J_neg, N_J, hi]
    rfl
  | succ m ih =>
    intro k q hk hq'
    obtain ⟨z, rfl⟩ : ∃ z, q = z + 1 := ⟨q - 1, by omega⟩
    have ih := ih (k + 1) z (by omega) (by omega)
    have e := w1_sg l 19 (10 * n + 2) k (l 15) g
    have e15 : wr l 19 (sg (l 15) g (10 * n + 2) k) 15 k = l 15 k := by rw [wr_n _ _ (by omega)]
    have tn : (((10 * n : Nat) : Int) + 2 + (k : Int)).toNat = 10 * n + 2 + k := by omega
    show fX1_rollOn_42 (fX1_rollOn_42L z) 12 _ _ _ = _
    unfold fX1_rollOn_42
    simp only [nk, jk, N_add, N_mul, N_sub, N_neg, J_add, J_mul, J_sub, J_neg]
    simp (disch := omega) only [↓iNlt_t, ↓iNlt_f, ↓iNle_t, ↓iNle_f, ↓iNeq_t, ↓iNeq_f, ↓iJlt_t, ↓iJlt_f, ↓iJle_t, ↓iJle_f, ↓iJeq_t, ↓iJeq_f, ↓iZlt_t, ↓iZlt_f, ↓iZle_t, ↓iZle_f, ↓iZeq_t, ↓iZeq_f, ↓iQlt_t, ↓iQlt_f, ↓iQle_t, ↓iQle_f, ↓iQeq_t, ↓iQeq_f, ↓iAnd_t, ↓iAnd_f, ↓iOr_t, ↓iOr_f, ↓iIff_t, ↓iIff_f, ↓iNot_t, ↓iNot_f, ↓iTrue, ↓iFalse, ↓ckN, ↓ckJ, ↓gIT, ↓gLT, ↓gRT, ↓cvT, ↓pIT, ↓pLT, ↓pZT, ↓asZ, ↓aNT, ↓arL, ↓asL, ↓arI, ↓asI, ↓aR_1, ↓bnd_some, ↓wh_eq, ↓on_some, ↓on_none, asZ, arL, asL, arI, asI, aR_1, bnd_some, wh_eq, on_some, on_none, tnT, tnU, tnL, nk, jk, N_add, N_mul, N_sub, N_neg, J_add, J_mul, J_sub, J_neg, N_J, e15, tn, e]
    exact ih
theorem q_rollOn {n : Nat} (hn : n < 182) (hi : i 12 8 = n) {w : Int} (hw : 0 ≤ w ∧ w ≤ 4) (p : Int) : fX1_rollOn 12 (N w) (J p) (hq i l x y) = some ((), hq (w1 i 12 8 ((n + 1 : Nat) : Int)) (wr l 19 (rlA (l 19) n w p (l 15))) x y) := by
  have h := q_roll42 (i := i) (l := l) (x := x) (y := y) hn hi (fun j => if j = 10 * n + 1 then p else if j = 10 * n then w else l 19 j) 8 0 1000 (by omega) (by omega)
  rw [sg_0] at h
  have e1 : wr l 19 (fun j => if j = 10 * n + 1 then p else if j = 10 * n then w else l 19 j) = w1 (w1 l 19 (10 * n) w) 19 (10 * n + 1) p := by rw [w1_wr, w1_wr, wr_s, wr_wr]
  rw [e1] at h
  have e2 : N ((n : Int) * 10) = N ((10 * n : Nat) : Int) := by congr 1; omega
  have e3 : ((n : Int) * 10).toNat = 10 * n := by omega
  have e4 : ((n : Int) * 10 + 1).toNat = 10 * n + 1 := by omega
  unfold fX1_rollOn
  simp only [nk, jk, N_add, N_mul, N_sub, N_neg, J_add, J_mul, J_sub, J_neg]
  simp (disch := omega) only [↓iNlt_t, ↓iNlt_f, ↓iNle_t, ↓iNle_f, ↓iNeq_t, ↓iNeq_f, ↓iJlt_t, ↓iJlt_f, ↓iJle_t, ↓iJle_f, ↓iJeq_t, ↓iJeq_f, ↓iZlt_t, ↓iZlt_f, ↓iZle_t, ↓iZle_f, ↓iZeq_t, ↓iZeq_f, ↓iQlt_t, ↓iQlt_f, ↓iQle_t, ↓iQle_f, ↓iQeq_t, ↓iQeq_f, ↓iAnd_t, ↓iAnd_f, ↓iOr_t, ↓iOr_f, ↓iIff_t, ↓iIff_f, ↓iNot_t, ↓iNot_f, ↓iTrue, ↓iFalse, ↓ckN, ↓ckJ, ↓gIT, ↓gLT, ↓gRT, ↓cvT, ↓pIT, ↓pLT, ↓pZT, ↓asZ, ↓aNT, ↓arL, ↓asL, ↓arI, ↓asI, ↓aR_1, ↓bnd_some, ↓wh_eq, ↓on_some, ↓on_none, asZ, arL, asL, arI, asI, aR_1, bnd_some, wh_eq, on_some, on_none, tnT, tnU, tnL, nk, jk, N_add, N_mul, N_sub, N_neg, J_add, J_mul, J_sub, J_neg, N_J, hi, e3, e4]
  rw [e2]
  exact h
theorem q_keep58 {n : Nat} (hn : n < 182) (hi : i 12 8 = n) {w : Nat → Int} (hw : ∀ j, j < 8 → l 16 j = w j ∧ ¬ far (w j)) {st : Int} (hs : 0 ≤ st ∧ st ≤ 4) (p : Int) (g : Nat → Int) : ∀ (m k q : Nat), k + m = 8 → m + 1 ≤ q → fX1_keepStep_58L q 12 (N st) (J p) (J ((gk w 8 : Nat) : Int)) (N k) (hq i (wr l 15 (fl (gdv w) g k)) x y) = some (N 1, hq (w1 i 12 8 ((n + 1 : Nat) : Int)) (wr (wr l 15 (fl (gdv w) g 8)) 19 (rlA (l 19) n st p (fl (gdv w) g 8))) x y) := by
  have hgl := gk_le w 8 (fun j hj => (hw j hj).2)
  intro m
  induction m with
  | zero =>
    intro k q hk hq'
    obtain ⟨z, rfl⟩ : ∃ z, q = z + 1 := ⟨q - 1, by omega⟩
    obtain rfl : k = 8 := by omega
    have R := q_rollOn (i := i) (l := wr l 15 (fl (gdv w) g 8)) (x := x) (y := y) hn hi hs p
    rw [wr_s, wr_n _ _ (by omega)] at R
    show fX1_keepStep_58 (fX1_keepStep_58L z) 12 _ _ _ _ _ = _
    unfold fX1_keepStep_58 fX1_keepStep_105
    simp only [nk, jk, N_add, N_mul, N_sub, N_neg, J_add, J_mul, J_sub, J_neg]
    simp (disch := omega) only [↓iNlt_t, ↓iNlt_f, ↓iNle_t, ↓iNle_f, ↓iNeq_t, ↓iNeq_f, ↓iJlt_t, ↓iJlt_f, ↓iJle_t, ↓iJle_f, ↓iJeq_t, ↓iJeq_f, ↓iZlt_t, ↓iZlt_f, ↓iZle_t, ↓iZle_f, ↓iZeq_t, ↓iZeq_f, ↓iQlt_t, ↓iQlt_f, ↓iQle_t, ↓iQle_f, ↓iQeq_t, ↓iQeq_f, ↓iAnd_t, ↓iAnd_f, ↓iOr_t, ↓iOr_f, ↓iIff_t, ↓iIff_f, ↓iNot_t, ↓iNot_f, ↓iTrue, ↓iFalse, ↓ckN, ↓ckJ, ↓gIT, ↓gLT, ↓gRT, ↓cvT, ↓pIT, ↓pLT, ↓pZT, ↓asZ, ↓aNT, ↓arL, ↓asL, ↓arI, ↓asI, ↓aR_1, ↓bnd_some, ↓wh_eq, ↓on_some, ↓on_none, asZ, arL, asL, arI, asI, aR_1, bnd_some, wh_eq, on_some, on_none, tnT, tnU, tnL, nk, jk, N_add, N_mul, N_sub, N_neg, J_add, J_mul, J_sub, J_neg, N_J, ↓bq R]
  | succ m ih =>
    intro k q hk hq'
    obtain ⟨z, rfl⟩ : ∃ z, q = z + 1 := ⟨q - 1, by omega⟩
    have ih := ih (k + 1) z (by omega) (by omega)
    obtain ⟨w0, w2⟩ := hw k (by omega)
    have e16 : wr l 15 (fl (gdv w) g k) 16 k = w k := by rw [wr_n _ _ (by omega)]; exact w0
    have e := w1_fl l 15 k (gdv w) g
    show fX1_keepStep_58 (fX1_keepStep_58L z) 12 _ _ _ _ _ = _
    unfold fX1_keepStep_58
    simp only [nk, jk, N_add, N_mul, N_sub, N_neg, J_add, J_mul, J_sub, J_neg]
    by_cases c : gk w 8 ≤ 1
    · have eg : gdv w k = w k := by
        unfold gdv gd
        by_cases c0 : gk w 8 = 0
        · rw [if_pos c0, Int.tdiv_one]
        · rw [if_neg c0, show gk w 8 = 1 by omega]
          exact Int.tdiv_one _
      rw [eg] at e
      simp (disch := omega) only [↓iNlt_t, ↓iNlt_f, ↓iNle_t, ↓iNle_f, ↓iNeq_t, ↓iNeq_f, ↓iJlt_t, ↓iJlt_f, ↓iJle_t, ↓iJle_f, ↓iJeq_t, ↓iJeq_f, ↓iZlt_t, ↓iZlt_f, ↓iZle_t, ↓iZle_f, ↓iZeq_t, ↓iZeq_f, ↓iQlt_t, ↓iQlt_f, ↓iQle_t, ↓iQle_f, ↓iQeq_t, ↓iQeq_f, ↓iAnd_t, ↓iAnd_f, ↓iOr_t, ↓iOr_f, ↓iIff_t, ↓iIff_f, ↓iNot_t, ↓iNot_f, ↓iTrue, ↓iFalse, ↓ckN, ↓ckJ, ↓gIT, ↓gLT, ↓gRT, ↓cvT, ↓pIT, ↓pLT, ↓pZT, ↓asZ, ↓aNT, ↓arL, ↓asL, ↓arI, ↓asI, ↓aR_1, ↓bnd_some, ↓wh_eq, ↓on_some, ↓on_none, asZ, arL, asL, arI, asI, aR_1, bnd_some, wh_eq, on_some, on_none, tnT, tnU, tnL, nk, jk, N_add, N_mul, N_sub, N_neg, J_add, J_mul, J_sub, J_neg, N_J, e16, e]
      exact ih
    · have eg : J (w k) / J ((gk w 8 : Nat) : Int) = J (gdv w k) := by
        rw [J_div (by omega) (by omega) (by omega) (by omega)]
        unfold gdv gd
        rw [if_neg (by omega)]
      simp (disch := omega) only [↓iNlt_t, ↓iNlt_f, ↓iNle_t, ↓iNle_f, ↓iNeq_t, ↓iNeq_f, ↓iJlt_t, ↓iJlt_f, ↓iJle_t, ↓iJle_f, ↓iJeq_t, ↓iJeq_f, ↓iZlt_t, ↓iZlt_f, ↓iZle_t, ↓iZle_f, ↓iZeq_t, ↓iZeq_f, ↓iQlt_t, ↓iQlt_f, ↓iQle_t, ↓iQle_f, ↓iQeq_t, ↓iQeq_f, ↓iAnd_t, ↓iAnd_f, ↓iOr_t, ↓iOr_f, ↓iIff_t, ↓iIff_f, ↓iNot_t, ↓iNot_f, ↓iTrue, ↓iFalse, ↓ckN, ↓ckJ, ↓gIT, ↓gLT, ↓gRT, ↓cvT, ↓pIT, ↓pLT, ↓pZT, ↓asZ, ↓aNT, ↓arL, ↓asL, ↓arI, ↓asI, ↓aR_1, ↓bnd_some, ↓wh_eq, ↓on_some, ↓on_none, asZ, arL, asL, arI, asI, aR_1, bnd_some, wh_eq, on_some, on_none, tnT, tnU, tnL, nk, jk, N_add, N_mul, N_sub, N_neg, J_add, J_mul, J_sub, J_neg, N_J, e16, eg, e]
      exact ih
theorem q_keep6 {w : Nat → Int} (hw : ∀ j, j < 8 → l 16 j = w j ∧ ok64 (w j)) (st : Int32) (p : Int64) : ∀ (m k q : Nat), k + m = 8 → m + 1 ≤ q → (∀ j, j < k → ¬ far (w j)) →
    ((∀ j, k ≤ j → j < 8 → ¬ far (w j)) → fX1_keepStep_6L q 12 st p (J ((gk w k : Nat) : Int)) (N k) (hq i l x y) = fX1_keepStep_58L 1000 12 st p (J ((gk w 8 : Nat) : Int)) (N 0) (hq i l x y)) ∧ ((∃ j, k ≤ j ∧ j < 8 ∧ far (w j)) → fX1_keepStep_6L q 12 st p (J ((gk w k : Nat) : Int)) (N k) (hq i l x y) = some (N 0, hq i l x y)) := by
  intro m
  induction m with
  | zero =>
    intro k q hk hq' hf
    obtain ⟨z, rfl⟩ : ∃ z, q = z + 1 := ⟨q - 1, by omega⟩
    obtain rfl : k = 8 := by omega
    refine ⟨fun _ => ?_, fun ⟨j, h1, h2, _⟩ => by omega⟩
    show fX1_keepStep_6 (fX1_keepStep_6L z) 12 _ _ _ _ _ = _
    unfold fX1_keepStep_6
    simp only [nk, jk, N_add, N_mul, N_sub, N_neg, J_add, J_mul, J_sub, J_neg]
    simp (disch := omega) only [↓iNlt_t, ↓iNlt_f, ↓iNle_t, ↓iNle_f, ↓iNeq_t, ↓iNeq_f, ↓iJlt_t, ↓iJlt_f, ↓iJle_t, ↓iJle_f, ↓iJeq_t, ↓iJeq_f, ↓iZlt_t, ↓iZlt_f, ↓iZle_t, ↓iZle_f, ↓iZeq_t, ↓iZeq_f, ↓iQlt_t, ↓iQlt_f, ↓iQle_t, ↓iQle_f, ↓iQeq_t, ↓iQeq_f, ↓iAnd_t, ↓iAnd_f, ↓iOr_t, ↓iOr_f, ↓iIff_t, ↓iIff_f, ↓iNot_t, ↓iNot_f, ↓iTrue, ↓iFalse, ↓ckN, ↓ckJ, ↓gIT, ↓gLT, ↓gRT, ↓cvT, ↓pIT, ↓pLT, ↓pZT, ↓asZ, ↓aNT, ↓arL, ↓asL, ↓arI, ↓asI, ↓aR_1, ↓bnd_some, ↓wh_eq, ↓on_some, ↓on_none, asZ, arL, asL, arI, asI, aR_1, bnd_some, wh_eq, on_some, on_none, tnT, tnU, tnL, nk, jk, N_add, N_mul, N_sub, N_neg, J_add, J_mul, J_sub, J_neg, N_J]
  | succ m ih =>
    intro k q hk hq' hf
    obtain ⟨z, rfl⟩ : ∃ z, q = z + 1 := ⟨q - 1, by omega⟩
    obtain ⟨w0, w2⟩ := hw k (by omega)
    have hgl := gk_le w k hf
    have ih := ih (k + 1) z (by omega) (by omega)
    by_cases c : far (w k)
    · refine ⟨fun h => absurd c (h k (Nat.le_refl _) (by omega)), fun _ => ?_⟩
      show fX1_keepStep_6 (fX1_keepStep_6L z) 12 _ _ _ _ _ = _
      unfold fX1_keepStep_6
      simp only [nk, jk, N_add, N_mul, N_sub, N_neg, J_add, J_mul, J_sub, J_neg]
      simp (disch := omega) only [↓iNlt_t, ↓iNlt_f, ↓iNle_t, ↓iNle_f, ↓iNeq_t, ↓iNeq_f, ↓iJlt_t, ↓iJlt_f, ↓iJle_t, ↓iJle_f, ↓iJeq_t, ↓iJeq_f, ↓iZlt_t, ↓iZlt_f, ↓iZle_t, ↓iZle_f, ↓iZeq_t, ↓iZeq_f, ↓iQlt_t, ↓iQlt_f, ↓iQle_t, ↓iQle_f, ↓iQeq_t, ↓iQeq_f, ↓iAnd_t, ↓iAnd_f, ↓iOr_t, ↓iOr_f, ↓iIff_t, ↓iIff_f, ↓iNot_t, ↓iNot_f, ↓iTrue, ↓iFalse, ↓ckN, ↓ckJ, ↓gIT, ↓gLT, ↓gRT, ↓cvT, ↓pIT, ↓pLT, ↓pZT, ↓asZ, ↓aNT, ↓arL, ↓asL, ↓arI, ↓asI, ↓aR_1, ↓bnd_some, ↓wh_eq, ↓on_some, ↓on_none, asZ, arL, asL, arI, asI, aR_1, bnd_some, wh_eq, on_some, on_none, tnT, tnU, tnL, nk, jk, N_add, N_mul, N_sub, N_neg, J_add, J_mul, J_sub, J_neg, N_J, w0, ↓b_isFar, ↓iIb]
    · have ih := ih (fun j hj => by
        by_cases e : j = k
        · rw [e]; exact c
        · exact hf j (by omega))
      have G := q_gcd (a := ((gk w k : Nat) : Int)) (b := w k) (by omega) c (hq i l x y)
      have S : fX1_keepStep_6L (z + 1) 12 st p (J ((gk w k : Nat) : Int)) (N k) (hq i l x y) = fX1_keepStep_6L z 12 st p (J ((gk w (k + 1) : Nat) : Int)) (N ((k + 1 : Nat) : Int)) (hq i l x y) := by
        show fX1_keepStep_6 (fX1_keepStep_6L z) 12 _ _ _ _ _ = _
        unfold fX1_keepStep_6
        simp only [nk, jk, N_add, N_mul, N_sub, N_neg, J_add, J_mul, J_sub, J_neg]
        by_cases c1 : gk w k = 1
        · have e1 : gk w (k + 1) = 1 := by
            unfold gk
            rw [c1]
            simp
          rw [e1]
          simp (disch := omega) only [↓iNlt_t, ↓iNlt_f, ↓iNle_t, ↓iNle_f, ↓iNeq_t, ↓iNeq_f, ↓iJlt_t, ↓iJlt_f, ↓iJle_t, ↓iJle_f, ↓iJeq_t, ↓iJeq_f, ↓iZlt_t, ↓iZlt_f, ↓iZle_t, ↓iZle_f, ↓iZeq_t, ↓iZeq_f, ↓iQlt_t, ↓iQlt_f, ↓iQle_t, ↓iQle_f, ↓iQeq_t, ↓iQeq_f, ↓iAnd_t, ↓iAnd_f, ↓iOr_t, ↓iOr_f, ↓iIff_t, ↓iIff_f, ↓iNot_t, ↓iNot_f, ↓iTrue, ↓iFalse, ↓ckN, ↓ckJ, ↓gIT, ↓gLT, ↓gRT, ↓cvT, ↓pIT, ↓pLT, ↓pZT, ↓asZ, ↓aNT, ↓arL, ↓asL, ↓arI, ↓asI, ↓aR_1, ↓bnd_some, ↓wh_eq, ↓on_some, ↓on_none, asZ, arL, asL, arI, asI, aR_1, bnd_some, wh_eq, on_some, on_none, tnT, tnU, tnL, nk, jk, N_add, N_mul, N_sub, N_neg, J_add, J_mul, J_sub, J_neg, N_J, w0, c1, ↓b_isFar, ↓iIb]
          rfl
        · simp (disch := omega) only [↓iNlt_t, ↓iNlt_f, ↓iNle_t, ↓iNle_f, ↓iNeq_t, ↓iNeq_f, ↓iJlt_t, ↓iJlt_f, ↓iJle_t, ↓iJle_f, ↓iJeq_t, ↓iJeq_f, ↓iZlt_t, ↓iZlt_f, ↓iZle_t, ↓iZle_f, ↓iZeq_t, ↓iZeq_f, ↓iQlt_t, ↓iQlt_f, ↓iQle_t, ↓iQle_f, ↓iQeq_t, ↓iQeq_f, ↓iAnd_t, ↓iAnd_f, ↓iOr_t, ↓iOr_f, ↓iIff_t, ↓iIff_f, ↓iNot_t, ↓iNot_f, ↓iTrue, ↓iFalse, ↓ckN, ↓ckJ, ↓gIT, ↓gLT, ↓gRT, ↓cvT, ↓pIT, ↓pLT, ↓pZT, ↓asZ, ↓aNT, ↓arL, ↓asL, ↓arI, ↓asI, ↓aR_1, ↓bnd_some, ↓wh_eq, ↓on_some, ↓on_none, asZ, arL, asL, arI, asI, aR_1, bnd_some, wh_eq, on_some, on_none, tnT, tnU, tnL, nk, jk, N_add, N_mul, N_sub, N_neg, J_add, J_mul, J_sub, J_neg, N_J, w0, ↓b_isFar, ↓iIb, ↓bq G]
          rfl
      rw [S]
      refine ⟨fun h => ih.1 (fun j h1 h2 => h j (by omega) h2), fun ⟨j, h1, h2, h3⟩ => ih.2 ⟨j, ?_, h2, h3⟩⟩
      by_cases e : j = k
      · rw [e] at h3; exact absurd h3 c
      · omega
/-- a step is kept, or nothing is changed -/
theorem q_keepT {n : Nat} (hn : n < 182) (hi : i 12 8 = n) {w : Nat → Int} (hw : ∀ j, j < 8 → l 16 j = w j ∧ ¬ far (w j)) {st : Int} (hs : 0 ≤ st ∧ st ≤ 4) (p : Int) : fX1_keepStep 12 (N st) (J p) (hq i l x y) = some (N 1, hq (w1 i 12 8 ((n + 1 : Nat) : Int)) (wr (wr l 15 (fl (gdv w) (l 15) 8)) 19 (rlA (l 19) n st p (fl (gdv w) (l 15) 8))) x y) := by
  have h1 := (q_keep6 (i := i) (l := l) (x := x) (y := y) (w := w) (fun j hj => ⟨(hw j hj).1, by have := (hw j hj).2; omega⟩) (N st) (J p) 8 0 1000 (by omega) (by omega) (fun j hj => by omega)).1 (fun j _ hj => (hw j hj).2)
  have h2 := q_keep58 (i := i) (l := l) (x := x) (y := y) hn hi hw hs p (l 15) 8 0 1000 (by omega) (by omega)
  rw [fl_0, wr_id] at h2
  unfold fX1_keepStep
  simp only [nk, jk]
  exact h1.trans h2
theorem q_keepF {w : Nat → Int} (hw : ∀ j, j < 8 → l 16 j = w j ∧ ok64 (w j)) (hf : ∃ j, j < 8 ∧ far (w j)) (st : Int32) (p : Int64) : fX1_keepStep 12 st p (hq i l x y) = some (N 0, hq i l x y) := by
  obtain ⟨j, h1, h2⟩ := hf
  have h := (q_keep6 (i := i) (l := l) (x := x) (y := y) hw st p 8 0 1000 (by omega) (by omega) (fun j hj => by omega)).2 ⟨j, Nat.zero_le _, h1, h2⟩
  unfold fX1_keepStep
  simp only [nk, jk]
  exact h
end KS
