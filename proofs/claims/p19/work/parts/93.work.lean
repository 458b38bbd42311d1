/-! ===== exact acts: the class's work, the reference's exactly ===== -/
theorem oc_w2 (l : Nat → Nat → Int) (o : Nat) (a b n d v : Int) : w1 (oc l o a b n d) o 2 v = oc l o a b v d := by
  unfold oc
  rw [w1_wr_s]
  congr 1
  funext j
  by_cases h2 : j = 2
  · simp [h2]
  · by_cases h0 : j = 0
    · simp [h0]
    · by_cases h1 : j = 1 <;> simp [h0, h1, h2]
def wA (how a d b e g f n r : Int) : Int := if how = 0 then pl (tm a g) (tm e d) else if how = 1 then mi (tm a g) (tm e d) else if how = 2 then pl (tm a e) (tm (tm b f) n) else if r = 0 then tm a g else tm (mi (tm a e) (tm (tm b f) n)) g
def wB (how a d b e g f r : Int) : Int := if how = 0 then pl (tm b g) (tm f d) else if how = 1 then mi (tm b g) (tm f d) else if how = 2 then pl (tm a f) (tm e b) else if r = 0 then tm b g else tm (mi (tm b e) (tm a f)) g
def wD (how d e g f n r : Int) : Int := if how = 0 ∨ how = 1 ∨ how = 2 then tm d g else if r = 0 then tm d e else tm (mi (tm e e) (tm (tm f f) n)) d
section WRK
variable {ρ : Type} {i l : Nat → Nat → Int} {x y : Option Nat}
theorem q_work {X Y : Nat} (hX : St X) (hY : St Y) (h7 : X ≠ 7 ∧ Y ≠ 7) {how a b d e f g n : Int} (hh : 0 ≤ how ∧ how ≤ 3) (a1 : l X 6 = a) (a2 : l X 7 = b) (a3 : l X 9 = d) (b1 : l Y 6 = e) (b2 : l Y 7 = f) (b3 : l Y 9 = g) (kX : 0 ≤ i X 2 ∧ i X 2 ≤ 1) (kY : 0 ≤ i Y 2 ∧ i Y 2 ≤ 1) (hn : (if i X 2 = 1 then l X 8 else l Y 8) = n) (fa : ¬ far a) (fb : ¬ far b) (fd : ¬ far d) (fe : ¬ far e) (ff : ¬ far f) (fg : ¬ far g) (fn : ¬ far n) :
    fX3_work 7 (N how) X Y (hq i l x y) = some ((), hq i (oc l 7 (wA how a d b e g f n (i Y 2)) (wB how a d b e g f (i Y 2)) n (wD how d e g f n (i Y 2))) x y) := by
  have s7 : S0 7 = some (3, 0) := by simp only [shT]
  have s1 := hX.1.1
  have s2 := hY.1.1
  have e0 := (oc_id l 7).symm
  have gX : ∀ a b n d j, oc l 7 a b n d X j = l X j := fun _ _ _ _ _ => by rw [oc_n _ _ _ _ _ h7.1]
  have gY : ∀ a b n d j, oc l 7 a b n d Y j = l Y j := fun _ _ _ _ _ => by rw [oc_n _ _ _ _ _ h7.2]
  have key : fX3_work_20 7 (N how) X Y 7 (J n) (hq i l x y) = some ((), hq i (oc l 7 (wA how a d b e g f n (i Y 2)) (wB how a d b e g f (i Y 2)) n (wD how d e g f n (i Y 2))) x y) := by
    have o1 := tm_ok a g
    have o2 := tm_ok e d
    have o3 := tm_ok b g
    have o4 := tm_ok f d
    have o5 := tm_ok a e
    have o6 := tm_ok b f
    have o7 := tm_ok (tm b f) n
    have o8 := tm_ok a f
    have o9 := tm_ok e b
    have o10 := mi_ok (tm a e) (tm (tm b f) n)
    have o11 := tm_ok b e
    have o12 := mi_ok (tm b e) (tm a f)
    have o13 := tm_ok e e
    have o14 := tm_ok f f
    have o15 := tm_ok (tm f f) n
    have o16 := mi_ok (tm e e) (tm (tm f f) n)
    have eE : hq i l x y = hq i (oc l 7 (l 7 0) (l 7 1) (l 7 2) (l 7 3)) x y := by rw [← e0]
    rw [eE]
    unfold fX3_work_20 fX3_workOver wA wB wD
    simp only [nk, jk, N_add, N_mul, N_sub, N_neg, J_add, J_mul, J_sub, J_neg]
    generalize l 7 0 = c0 at *
    generalize l 7 1 = c1 at *
    generalize l 7 2 = c2 at *
    generalize l 7 3 = c3 at *
    rcases (by omega : how = 0 ∨ how = 1 ∨ how = 2 ∨ how = 3) with rfl | rfl | rfl | rfl
    · simp (disch := omega) only [↓iNlt_t, ↓iNlt_f, ↓iNle_t, ↓iNle_f, ↓iNeq_t, ↓iNeq_f, ↓iJlt_t, ↓iJlt_f, ↓iJle_t, ↓iJle_f, ↓iJeq_t, ↓iJeq_f, ↓iZlt_t, ↓iZlt_f, ↓iZle_t, ↓iZle_f, ↓iZeq_t, ↓iZeq_f, ↓iQlt_t, ↓iQlt_f, ↓iQle_t, ↓iQle_f, ↓iQeq_t, ↓iQeq_f, ↓iAnd_t, ↓iAnd_f, ↓iOr_t, ↓iOr_f, ↓iIff_t, ↓iIff_f, ↓iNot_t, ↓iNot_f, ↓iTrue, ↓iFalse, ↓ckN, ↓ckJ, ↓gIT, ↓gLT, ↓gRT, ↓cvT, ↓pIT, ↓pLT, ↓pZT, ↓asZ, ↓aNT, ↓arL, ↓asL, ↓arI, ↓asI, ↓aR_1, ↓bnd_some, ↓wh_eq, ↓on_some, ↓on_none, asZ, arL, asL, arI, asI, aR_1, bnd_some, wh_eq, on_some, on_none, tnT, tnU, tnL, nk, jk, N_add, N_mul, N_sub, N_neg, J_add, J_mul, J_sub, J_neg, N_J, ↓pL_q s7, ↓gL_q s1, ↓gL_q s2, oc_w0, oc_w1, oc_w2, oc_w3, gX, gY, a1, a2, a3, b1, b2, b3, ↓b_times, ↓b_plus, ↓b_minus, oc_2]
    · simp (disch := omega) only [↓iNlt_t, ↓iNlt_f, ↓iNle_t, ↓iNle_f, ↓iNeq_t, ↓iNeq_f, ↓iJlt_t, ↓iJlt_f, ↓iJle_t, ↓iJle_f, ↓iJeq_t, ↓iJeq_f, ↓iZlt_t, ↓iZlt_f, ↓iZle_t, ↓iZle_f, ↓iZeq_t, ↓iZeq_f, ↓iQlt_t, ↓iQlt_f, ↓iQle_t, ↓iQle_f, ↓iQeq_t, ↓iQeq_f, ↓iAnd_t, ↓iAnd_f, ↓iOr_t, ↓iOr_f, ↓iIff_t, ↓iIff_f, ↓iNot_t, ↓iNot_f, ↓iTrue, ↓iFalse, ↓ckN, ↓ckJ, ↓gIT, ↓gLT, ↓gRT, ↓cvT, ↓pIT, ↓pLT, ↓pZT, ↓asZ, ↓aNT, ↓arL, ↓asL, ↓arI, ↓asI, ↓aR_1, ↓bnd_some, ↓wh_eq, ↓on_some, ↓on_none, asZ, arL, asL, arI, asI, aR_1, bnd_some, wh_eq, on_some, on_none, tnT, tnU, tnL, nk, jk, N_add, N_mul, N_sub, N_neg, J_add, J_mul, J_sub, J_neg, N_J, ↓pL_q s7, ↓gL_q s1, ↓gL_q s2, oc_w0, oc_w1, oc_w2, oc_w3, gX, gY, a1, a2, a3, b1, b2, b3, ↓b_times, ↓b_plus, ↓b_minus, oc_2]
    · simp (disch := omega) only [↓iNlt_t, ↓iNlt_f, ↓iNle_t, ↓iNle_f, ↓iNeq_t, ↓iNeq_f, ↓iJlt_t, ↓iJlt_f, ↓iJle_t, ↓iJle_f, ↓iJeq_t, ↓iJeq_f, ↓iZlt_t, ↓iZlt_f, ↓iZle_t, ↓iZle_f, ↓iZeq_t, ↓iZeq_f, ↓iQlt_t, ↓iQlt_f, ↓iQle_t, ↓iQle_f, ↓iQeq_t, ↓iQeq_f, ↓iAnd_t, ↓iAnd_f, ↓iOr_t, ↓iOr_f, ↓iIff_t, ↓iIff_f, ↓iNot_t, ↓iNot_f, ↓iTrue, ↓iFalse, ↓ckN, ↓ckJ, ↓gIT, ↓gLT, ↓gRT, ↓cvT, ↓pIT, ↓pLT, ↓pZT, ↓asZ, ↓aNT, ↓arL, ↓asL, ↓arI, ↓asI, ↓aR_1, ↓bnd_some, ↓wh_eq, ↓on_some, ↓on_none, asZ, arL, asL, arI, asI, aR_1, bnd_some, wh_eq, on_some, on_none, tnT, tnU, tnL, nk, jk, N_add, N_mul, N_sub, N_neg, J_add, J_mul, J_sub, J_neg, N_J, ↓pL_q s7, ↓gL_q s1, ↓gL_q s2, oc_w0, oc_w1, oc_w2, oc_w3, gX, gY, a1, a2, a3, b1, b2, b3, ↓b_times, ↓b_plus, ↓b_minus, oc_2]
    · by_cases c : i Y 2 = 0
      · simp (disch := omega) only [↓iNlt_t, ↓iNlt_f, ↓iNle_t, ↓iNle_f, ↓iNeq_t, ↓iNeq_f, ↓iJlt_t, ↓iJlt_f, ↓iJle_t, ↓iJle_f, ↓iJeq_t, ↓iJeq_f, ↓iZlt_t, ↓iZlt_f, ↓iZle_t, ↓iZle_f, ↓iZeq_t, ↓iZeq_f, ↓iQlt_t, ↓iQlt_f, ↓iQle_t, ↓iQle_f, ↓iQeq_t, ↓iQeq_f, ↓iAnd_t, ↓iAnd_f, ↓iOr_t, ↓iOr_f, ↓iIff_t, ↓iIff_f, ↓iNot_t, ↓iNot_f, ↓iTrue, ↓iFalse, ↓ckN, ↓ckJ, ↓gIT, ↓gLT, ↓gRT, ↓cvT, ↓pIT, ↓pLT, ↓pZT, ↓asZ, ↓aNT, ↓arL, ↓asL, ↓arI, ↓asI, ↓aR_1, ↓bnd_some, ↓wh_eq, ↓on_some, ↓on_none, asZ, arL, asL, arI, asI, aR_1, bnd_some, wh_eq, on_some, on_none, tnT, tnU, tnL, nk, jk, N_add, N_mul, N_sub, N_neg, J_add, J_mul, J_sub, J_neg, N_J, ↓pL_q s7, ↓gL_q s1, ↓gL_q s2, ↓gI_q s2, oc_w0, oc_w1, oc_w2, oc_w3, gX, gY, a1, a2, a3, b1, b2, b3, ↓b_times, ↓b_plus, ↓b_minus, oc_2]
      · simp (disch := omega) only [↓iNlt_t, ↓iNlt_f, ↓iNle_t, ↓iNle_f, ↓iNeq_t, ↓iNeq_f, ↓iJlt_t, ↓iJlt_f, ↓iJle_t, ↓iJle_f, ↓iJeq_t, ↓iJeq_f, ↓iZlt_t, ↓iZlt_f, ↓iZle_t, ↓iZle_f, ↓iZeq_t, ↓iZeq_f, ↓iQlt_t, ↓iQlt_f, ↓iQle_t, ↓iQle_f, ↓iQeq_t, ↓iQeq_f, ↓iAnd_t, ↓iAnd_f, ↓iOr_t, ↓iOr_f, ↓iIff_t, ↓iIff_f, ↓iNot_t, ↓iNot_f, ↓iTrue, ↓iFalse, ↓ckN, ↓ckJ, ↓gIT, ↓gLT, ↓gRT, ↓cvT, ↓pIT, ↓pLT, ↓pZT, ↓asZ, ↓aNT, ↓arL, ↓asL, ↓arI, ↓asI, ↓aR_1, ↓bnd_some, ↓wh_eq, ↓on_some, ↓on_none, asZ, arL, asL, arI, asI, aR_1, bnd_some, wh_eq, on_some, on_none, tnT, tnU, tnL, nk, jk, N_add, N_mul, N_sub, N_neg, J_add, J_mul, J_sub, J_neg, N_J, ↓pL_q s7, ↓gL_q s1, ↓gL_q s2, ↓gI_q s2, oc_w0, oc_w1, oc_w2, oc_w3, gX, gY, a1, a2, a3, b1, b2, b3, ↓b_times, ↓b_plus, ↓b_minus, oc_2]
  rw [← key]
  unfold fX3_work
  simp only [nk, jk, N_add, N_mul, N_sub, N_neg, J_add, J_mul, J_sub, J_neg]
  by_cases c : i X 2 = 1
  · rw [if_pos c] at hn
    simp (disch := omega) only [↓iNlt_t, ↓iNlt_f, ↓iNle_t, ↓iNle_f, ↓iNeq_t, ↓iNeq_f, ↓iJlt_t, ↓iJlt_f, ↓iJle_t, ↓iJle_f, ↓iJeq_t, ↓iJeq_f, ↓iZlt_t, ↓iZlt_f, ↓iZle_t, ↓iZle_f, ↓iZeq_t, ↓iZeq_f, ↓iQlt_t, ↓iQlt_f, ↓iQle_t, ↓iQle_f, ↓iQeq_t, ↓iQeq_f, ↓iAnd_t, ↓iAnd_f, ↓iOr_t, ↓iOr_f, ↓iIff_t, ↓iIff_f, ↓iNot_t, ↓iNot_f, ↓iTrue, ↓iFalse, ↓ckN, ↓ckJ, ↓gIT, ↓gLT, ↓gRT, ↓cvT, ↓pIT, ↓pLT, ↓pZT, ↓asZ, ↓aNT, ↓arL, ↓asL, ↓arI, ↓asI, ↓aR_1, ↓bnd_some, ↓wh_eq, ↓on_some, ↓on_none, asZ, arL, asL, arI, asI, aR_1, bnd_some, wh_eq, on_some, on_none, tnT, tnU, tnL, nk, jk, N_add, N_mul, N_sub, N_neg, J_add, J_mul, J_sub, J_neg, N_J, ↓gI_q s1, ↓gL_q s1, hn]
  · rw [if_neg c] at hn
    simp (disch := omega) only [↓iNlt_t, ↓iNlt_f, ↓iNle_t, ↓iNle_f, ↓iNeq_t, ↓iNeq_f, ↓iJlt_t, ↓iJlt_f, ↓iJle_t, ↓iJle_f, ↓iJeq_t, ↓iJeq_f, ↓iZlt_t, ↓iZlt_f, ↓iZle_t, ↓iZle_f, ↓iZeq_t, ↓iZeq_f, ↓iQlt_t, ↓iQlt_f, ↓iQle_t, ↓iQle_f, ↓iQeq_t, ↓iQeq_f, ↓iAnd_t, ↓iAnd_f, ↓iOr_t, ↓iOr_f, ↓iIff_t, ↓iIff_f, ↓iNot_t, ↓iNot_f, ↓iTrue, ↓iFalse, ↓ckN, ↓ckJ, ↓gIT, ↓gLT, ↓gRT, ↓cvT, ↓pIT, ↓pLT, ↓pZT, ↓asZ, ↓aNT, ↓arL, ↓asL, ↓arI, ↓asI, ↓aR_1, ↓bnd_some, ↓wh_eq, ↓on_some, ↓on_none, asZ, arL, asL, arI, asI, aR_1, bnd_some, wh_eq, on_some, on_none, tnT, tnU, tnL, nk, jk, N_add, N_mul, N_sub, N_neg, J_add, J_mul, J_sub, J_neg, N_J, ↓gI_q s1, ↓gL_q s2, hn]
end WRK
