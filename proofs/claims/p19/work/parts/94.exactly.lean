/-! ===== the reference's exactly ===== -/
def ouL (l : Nat → Nat → Int) (a b c d : Int) : Nat → Nat → Int := wr l 108 (fun j => if j = 15 then a else if j = 16 then b else if j = 17 then c else if j = 18 then d else l 108 j)
theorem ouL_n (l : Nat → Nat → Int) (a b c d : Int) {q : Nat} (h : q ≠ 108) : ouL l a b c d q = l q := wr_n _ _ h
theorem ouL_g (l : Nat → Nat → Int) (a b c d : Int) : ouL l a b c d 108 15 = a ∧ ouL l a b c d 108 16 = b ∧ ouL l a b c d 108 17 = c ∧ ouL l a b c d 108 18 = d := by
  unfold ouL
  rw [wr_s]
  simp
theorem ouL_w (l : Nat → Nat → Int) (a b c d v : Int) : w1 (ouL l a b c d) 108 15 v = ouL l v b c d ∧ w1 (ouL l a b c d) 108 16 v = ouL l a v c d ∧ w1 (ouL l a b c d) 108 17 v = ouL l a b v d ∧ w1 (ouL l a b c d) 108 18 v = ouL l a b c v := by
  unfold ouL
  simp only [w1_wr_s]
  refine ⟨?_, ?_, ?_, ?_⟩ <;> congr 1 <;> funext j
  all_goals
    by_cases h1 : j = 15
    · simp [h1]
    · by_cases h2 : j = 16
      · simp [h2]
      · by_cases h3 : j = 17
        · simp [h3]
        · by_cases h4 : j = 18 <;> simp [h1, h2, h3, h4]
theorem ouL_id (l : Nat → Nat → Int) : l = ouL l (l 108 15) (l 108 16) (l 108 17) (l 108 18) := by
  unfold ouL
  have : (fun j => if j = 15 then l 108 15 else if j = 16 then l 108 16 else if j = 17 then l 108 17 else if j = 18 then l 108 18 else l 108 j) = l 108 := by
    funext j
    by_cases h1 : j = 15
    · simp [h1]
    · by_cases h2 : j = 16
      · simp [h2]
      · by_cases h3 : j = 17
        · simp [h3]
        · by_cases h4 : j = 18 <;> simp [h1, h2, h3, h4]
  rw [this, wr_id]
def chk (h : AH) : Fn Unit := cv h 108 9 (bnd (fX9_checkOut 108 h) (fun _ h119 => some ((), h119)))
/-- what exactly does, by the class's numbers -/
def RX (how a b d e f g n r A B D : Int) : Prop := ∀ (i l : Nat → Nat → Int) (x y : Option Nat),
  (far A ∨ far B ∨ far D → ∃ a2 b2 d2 : Int, fX9_exactly 108 (N how) (J a) (J b) (J d) (J e) (J f) (J g) (J n) (N r) (hq i l x y) = some ((), hq (w1 i 108 0 1) (ouL l a2 b2 n d2) x y)) ∧
  (¬ (far A ∨ far B ∨ far D) → fX9_exactly 108 (N how) (J a) (J b) (J d) (J e) (J f) (J g) (J n) (N r) (hq i l x y) = chk (hq (w1 i 108 0 0) (ouL l A B n D) x y))
theorem RX.of {how a b d e f g n r A B D : Int} {P : Prop} [Decidable P] {a' b' d' : Int} (h : P ↔ far A ∨ far B ∨ far D) (h2 : ¬ P → a' = A ∧ b' = B ∧ d' = D) (h3 : ∀ (i l : Nat → Nat → Int) (x y : Option Nat), fX9_exactly 108 (N how) (J a) (J b) (J d) (J e) (J f) (J g) (J n) (N r) (hq i l x y) = if P then some ((), hq (w1 i 108 0 (ib P)) (ouL l a' b' n d') x y) else chk (hq (w1 i 108 0 (ib P)) (ouL l a' b' n d') x y)) : RX how a b d e f g n r A B D := by
  intro i l x y
  rw [h3 i l x y]
  refine ⟨fun z => ⟨a', b', d', ?_⟩, fun z => ?_⟩
  · rw [if_pos (h.mpr z), ibT (h.mpr z)]
  · have q : ¬ P := fun w => z (h.mp w)
    obtain ⟨e1, e2, e3⟩ := h2 q
    rw [if_neg q, ibF q, e1, e2, e3]
section RXs
variable {a b d e f g n : Int}
theorem rx01 (how : Int) (hh : how = 0 ∨ how = 1) (r : Int) (fa : ¬ far a) (fb : ¬ far b) (fd : ¬ far d) (fe : ¬ far e) (ff : ¬ far f) (fg : ¬ far g) : RX how a b d e f g n r (wA how a d b e g f n r) (wB how a d b e g f r) (wD how d e g f n r) := by
  obtain ⟨s, hs, hs1⟩ : ∃ s : Int, (s = 1 ∨ s = -1) ∧ ((how = 0 ∧ s = 1) ∨ (how = 1 ∧ s = -1)) := by
    rcases hh with rfl | rfl
    · exact ⟨1, by omega, by omega⟩
    · exact ⟨-1, by omega, by omega⟩
  -- pure
  obtain ⟨p1, v1⟩ := RS.mul (P := False) (Q := False) (r := a) (r' := g) (v := a) (v' := g) Iff.rfl (fun _ => rfl) (fun _ => rfl)
  obtain ⟨p2, v2⟩ := RS.mul (r := e) (r' := d) (v := e) (v' := d) p1 (fun _ => rfl) (fun _ => rfl)
  obtain ⟨p3, v3⟩ := RS.add (r := mu a g) (r' := s * mu e d) (v := a * g) (v' := s * (e * d)) p2 (fun z => v1 (fun w => z (Or.inl w))) (fun z => by rw [v2 z])
  obtain ⟨p4, v4⟩ := RS.mul (r := b) (r' := g) (v := b) (v' := g) p3 (fun _ => rfl) (fun _ => rfl)
  obtain ⟨p5, v5⟩ := RS.mul (r := f) (r' := d) (v := f) (v' := d) p4 (fun _ => rfl) (fun _ => rfl)
  obtain ⟨p6, v6⟩ := RS.add (r := mu b g) (r' := s * mu f d) (v := b * g) (v' := s * (f * d)) p5 (fun z => v4 (fun w => z (Or.inl w))) (fun z => by rw [v5 z])
  obtain ⟨p7, v7⟩ := RS.mul (r := d) (r' := g) (v := d) (v' := g) p6 (fun _ => rfl) (fun _ => rfl)
  have K1 := (CV.lit fa).tms (CV.lit fg)
  have K2 := (CV.lit fe).tms (CV.lit fd)
  have K3 := (CV.lit fb).tms (CV.lit fg)
  have K4 := (CV.lit ff).tms (CV.lit fd)
  have KD := (CV.lit fd).tms (CV.lit fg)
  have m1 := mu_far e d
  have m2 := mu_far f d
  have m3 := mu_far a g
  have m4 := mu_far b g
  have m5 := ad_far (((False ∨ far (a * g)) ∨ far (e * d))) (mu a g) (s * mu e d)
  have R : ∀ (i l : Nat → Nat → Int) (x y : Option Nat), fX9_exactly 108 (N how) (J a) (J b) (J d) (J e) (J f) (J g) (J n) (N r) (hq i l x y) = if (((((((False ∨ far (a * g)) ∨ far (e * d)) ∨ far (mu a g + s * mu e d)) ∨ far (b * g)) ∨ far (f * d)) ∨ far (mu b g + s * mu f d)) ∨ far (d * g)) then some ((), hq (w1 i 108 0 (ib (((((((False ∨ far (a * g)) ∨ far (e * d)) ∨ far (mu a g + s * mu e d)) ∨ far (b * g)) ∨ far (f * d)) ∨ far (mu b g + s * mu f d)) ∨ far (d * g)))) (ouL l (ad ((False ∨ far (a * g)) ∨ far (e * d)) (mu a g) (s * mu e d)) (ad (((((False ∨ far (a * g)) ∨ far (e * d)) ∨ far (mu a g + s * mu e d)) ∨ far (b * g)) ∨ far (f * d)) (mu b g) (s * mu f d)) n (mu d g)) x y) else chk (hq (w1 i 108 0 (ib (((((((False ∨ far (a * g)) ∨ far (e * d)) ∨ far (mu a g + s * mu e d)) ∨ far (b * g)) ∨ far (f * d)) ∨ far (mu b g + s * mu f d)) ∨ far (d * g)))) (ouL l (ad ((False ∨ far (a * g)) ∨ far (e * d)) (mu a g) (s * mu e d)) (ad (((((False ∨ far (a * g)) ∨ far (e * d)) ∨ far (mu a g + s * mu e d)) ∨ far (b * g)) ∨ far (f * d)) (mu b g) (s * mu f d)) n (mu d g)) x y) := by
    intro i l x y
    have eE : hq i l x y = hq i (ouL l (l 108 15) (l 108 16) (l 108 17) (l 108 18)) x y := by rw [← ouL_id]
    rw [eE]
    generalize l 108 15 = c0
    generalize l 108 16 = c1
    generalize l 108 17 = c2
    generalize l 108 18 = c3
    unfold fX9_exactly fX9_exactly_31 chk
    simp only [nk, jk, J_neg]
    rcases hs1 with ⟨rfl, rfl⟩ | ⟨rfl, rfl⟩
    · simp (disch := omega) only [↓iNlt_t, ↓iNlt_f, ↓iNle_t, ↓iNle_f, ↓iNeq_t, ↓iNeq_f, ↓iJlt_t, ↓iJlt_f, ↓iJle_t, ↓iJle_f, ↓iJeq_t, ↓iJeq_f, ↓iZlt_t, ↓iZlt_f, ↓iZle_t, ↓iZle_f, ↓iZeq_t, ↓iZeq_f, ↓iQlt_t, ↓iQlt_f, ↓iQle_t, ↓iQle_f, ↓iQeq_t, ↓iQeq_f, ↓iAnd_t, ↓iAnd_f, ↓iOr_t, ↓iOr_f, ↓iIff_t, ↓iIff_f, ↓iNot_t, ↓iNot_f, ↓iTrue, ↓iFalse, ↓ckN, ↓ckJ, ↓gIT, ↓gLT, ↓gRT, ↓cvT, ↓pIT, ↓pLT, ↓pZT, ↓asZ, ↓aNT, ↓arL, ↓asL, ↓arI, ↓asI, ↓aR_1, ↓bnd_some, ↓wh_eq, ↓on_some, ↓on_none, asZ, arL, asL, arI, asI, aR_1, bnd_some, wh_eq, on_some, on_none, tnT, tnU, tnL, nk, jk, N_add, N_mul, N_sub, N_neg, J_add, J_mul, J_sub, J_neg, N_J, ↓pZ9, ouL_w, ↓b_mul, ↓b_add, ↓iIb, w1_s, iIb, cvT]
    · simp (disch := omega) only [↓iNlt_t, ↓iNlt_f, ↓iNle_t, ↓iNle_f, ↓iNeq_t, ↓iNeq_f, ↓iJlt_t, ↓iJlt_f, ↓iJle_t, ↓iJle_f, ↓iJeq_t, ↓iJeq_f, ↓iZlt_t, ↓iZlt_f, ↓iZle_t, ↓iZle_f, ↓iZeq_t, ↓iZeq_f, ↓iQlt_t, ↓iQlt_f, ↓iQle_t, ↓iQle_f, ↓iQeq_t, ↓iQeq_f, ↓iAnd_t, ↓iAnd_f, ↓iOr_t, ↓iOr_f, ↓iIff_t, ↓iIff_f, ↓iNot_t, ↓iNot_f, ↓iTrue, ↓iFalse, ↓ckN, ↓ckJ, ↓gIT, ↓gLT, ↓gRT, ↓cvT, ↓pIT, ↓pLT, ↓pZT, ↓asZ, ↓aNT, ↓arL, ↓asL, ↓arI, ↓asI, ↓aR_1, ↓bnd_some, ↓wh_eq, ↓on_some, ↓on_none, asZ, arL, asL, arI, asI, aR_1, bnd_some, wh_eq, on_some, on_none, tnT, tnU, tnL, nk, jk, N_add, N_mul, N_sub, N_neg, J_add, J_mul, J_sub, J_neg, N_J, ↓pZ9, ouL_w, ↓b_mul, ↓b_add, ↓iIb, w1_s, iIb, cvT]
  rcases hs1 with ⟨rfl, rfl⟩ | ⟨rfl, rfl⟩
  · have KA := K1.pls K2
    have KB := K3.pls K4
    have w1 : wA 0 a d b e g f n r = pl (tm a g) (tm e d) := rfl
    have w2 : wB 0 a d b e g f r = pl (tm b g) (tm f d) := rfl
    have w3 : wD 0 d e g f n r = tm d g := rfl
    rw [w1, w2, w3]
    simp only [Int.one_mul] at p3 v3 p4 v4 p5 v5 p6 v6 p7 v7 R
    have hQ : ((((((((False ∨ far (a * g)) ∨ far (e * d)) ∨ far (a * g + e * d)) ∨ far (b * g)) ∨ far (f * d)) ∨ far (b * g + f * d)) ∨ far (d * g))) ↔ far (pl (tm a g) (tm e d)) ∨ far (pl (tm b g) (tm f d)) ∨ far (tm d g) := by
      rw [KA.fars, KB.fars, KD.fars]
      simp only [or_assoc, false_or]
    refine RX.of (p7.trans hQ) (fun z => ?_) R
    have z' := fun q => z (p7.mpr q)
    have y3 := v3 (fun q => z' (Or.inl (Or.inl (Or.inl (Or.inl q)))))
    have y6 := v6 (fun q => z' (Or.inl q))
    have y7 := v7 z'
    have hn := fun q => z' (hQ.mpr q)
    refine ⟨?_, ?_, ?_⟩
    · rw [y3]
      exact ((KA.2 (fun q => hn (Or.inl (KA.fars.mpr q)))).1).symm
    · rw [y6]
      exact ((KB.2 (fun q => hn (Or.inr (Or.inl (KB.fars.mpr q))))).1).symm
    · rw [y7]
      exact ((KD.2 (fun q => hn (Or.inr (Or.inr (KD.fars.mpr q))))).1).symm
  · have KA := K1.mis K2
    have KB := K3.mis K4
    have w1 : wA 1 a d b e g f n r = mi (tm a g) (tm e d) := rfl
    have w2 : wB 1 a d b e g f r = mi (tm b g) (tm f d) := rfl
    have w3 : wD 1 d e g f n r = tm d g := rfl
    rw [w1, w2, w3]
    have q1 : a * g + -1 * (e * d) = a * g - e * d := by omega
    have q2 : b * g + -1 * (f * d) = b * g - f * d := by omega
    rw [q1] at p3 v3 p4 v4 p5 v5 p6 v6 p7 v7
    rw [q2] at p6 v6 p7 v7
    have hQ : ((((((((False ∨ far (a * g)) ∨ far (e * d)) ∨ far (a * g - e * d)) ∨ far (b * g)) ∨ far (f * d)) ∨ far (b * g - f * d)) ∨ far (d * g))) ↔ far (mi (tm a g) (tm e d)) ∨ far (mi (tm b g) (tm f d)) ∨ far (tm d g) := by
      rw [KA.fars, KB.fars, KD.fars]
      simp only [or_assoc, false_or]
    refine RX.of (p7.trans hQ) (fun z => ?_) R
    have z' := fun q => z (p7.mpr q)
    have y3 := v3 (fun q => z' (Or.inl (Or.inl (Or.inl (Or.inl q)))))
    have y6 := v6 (fun q => z' (Or.inl q))
    have y7 := v7 z'
    have hn := fun q => z' (hQ.mpr q)
    refine ⟨?_, ?_, ?_⟩
    · rw [y3]
      exact ((KA.2 (fun q => hn (Or.inl (KA.fars.mpr q)))).1).symm
    · rw [y6]
      exact ((KB.2 (fun q => hn (Or.inr (Or.inl (KB.fars.mpr q))))).1).symm
    · rw [y7]
      exact ((KD.2 (fun q => hn (Or.inr (Or.inr (KD.fars.mpr q))))).1).symm
end RXs
