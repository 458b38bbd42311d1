/-! ===== the reference's exactly, times and over: made by rx.py ===== -/
section RXt
variable {a b d e f g n : Int}
theorem rx2 (r : Int) (fa : ¬ far a) (fb : ¬ far b) (fd : ¬ far d) (fe : ¬ far e) (ff : ¬ far f) (fg : ¬ far g) (fn : ¬ far n) : RX 2 a b d e f g n r (pl (tm a e) (tm (tm b f) n)) (pl (tm a f) (tm e b)) (tm d g) := by
  obtain ⟨p1, v1⟩ := RS.mul (P := False) (Q := False) (r := a) (r' := e) (v := a) (v' := e) Iff.rfl (fun _ => rfl) (fun _ => rfl)
  have m1 := mu_far (a) (e)
  obtain ⟨p2, v2⟩ := RS.mul (r := b) (r' := f) (v := b) (v' := f) p1 (fun _ => rfl) (fun _ => rfl)
  have m2 := mu_far (b) (f)
  obtain ⟨p3, v3⟩ := RS.mul (r := mu (b) (f)) (r' := n) (v := (b) * (f)) (v' := n) p2 (fun z => v2 z) (fun _ => rfl)
  have m3 := mu_far (mu (b) (f)) (n)
  obtain ⟨p4, v4⟩ := RS.add (r := mu (a) (e)) (r' := mu (mu (b) (f)) (n)) (v := (a) * (e)) (v' := ((b) * (f)) * (n)) p3 (fun z => v1 (fun w => z (Or.inl (Or.inl w)))) (fun z => v3 z)
  have m4 := ad_far ((((False) ∨ far ((a) * (e))) ∨ far ((b) * (f))) ∨ far ((mu (b) (f)) * (n))) (mu (a) (e)) (mu (mu (b) (f)) (n))
  obtain ⟨p5, v5⟩ := RS.mul (r := a) (r' := f) (v := a) (v' := f) p4 (fun _ => rfl) (fun _ => rfl)
  have m5 := mu_far (a) (f)
  obtain ⟨p6, v6⟩ := RS.mul (r := b) (r' := e) (v := b) (v' := e) p5 (fun _ => rfl) (fun _ => rfl)
  have m6 := mu_far (b) (e)
  obtain ⟨p7, v7⟩ := RS.add (r := mu (a) (f)) (r' := mu (b) (e)) (v := (a) * (f)) (v' := (b) * (e)) p6 (fun z => v5 (fun w => z (Or.inl w))) (fun z => v6 z)
  have m7 := ad_far (((((((False) ∨ far ((a) * (e))) ∨ far ((b) * (f))) ∨ far ((mu (b) (f)) * (n))) ∨ far ((mu (a) (e)) + (mu (mu (b) (f)) (n)))) ∨ far ((a) * (f))) ∨ far ((b) * (e))) (mu (a) (f)) (mu (b) (e))
  obtain ⟨p8, v8⟩ := RS.mul (r := d) (r' := g) (v := d) (v' := g) p7 (fun _ => rfl) (fun _ => rfl)
  have m8 := mu_far (d) (g)
  have KA := ((CV.lit fa).tms (CV.lit fe)).pls (((CV.lit fb).tms (CV.lit ff)).tms (CV.lit fn))
  have KE := (CV.lit fe).tms (CV.lit fb)
  rw [Int.mul_comm e b] at KE
  have KB := ((CV.lit fa).tms (CV.lit ff)).pls KE
  have KD := (CV.lit fd).tms (CV.lit fg)
  have R : ∀ (i l : Nat → Nat → Int) (x y : Option Nat), fX9_exactly 108 (N 2) (J a) (J b) (J d) (J e) (J f) (J g) (J n) (N r) (hq i l x y) = if ((((((((False) ∨ far ((a) * (e))) ∨ far ((b) * (f))) ∨ far ((mu (b) (f)) * (n))) ∨ far ((mu (a) (e)) + (mu (mu (b) (f)) (n)))) ∨ far ((a) * (f))) ∨ far ((b) * (e))) ∨ far ((mu (a) (f)) + (mu (b) (e)))) ∨ far ((d) * (g)) then some ((), hq (w1 i 108 0 (ib (((((((((False) ∨ far ((a) * (e))) ∨ far ((b) * (f))) ∨ far ((mu (b) (f)) * (n))) ∨ far ((mu (a) (e)) + (mu (mu (b) (f)) (n)))) ∨ far ((a) * (f))) ∨ far ((b) * (e))) ∨ far ((mu (a) (f)) + (mu (b) (e)))) ∨ far ((d) * (g))))) (ouL l (ad ((((False) ∨ far ((a) * (e))) ∨ far ((b) * (f))) ∨ far ((mu (b) (f)) * (n))) (mu (a) (e)) (mu (mu (b) (f)) (n))) (ad (((((((False) ∨ far ((a) * (e))) ∨ far ((b) * (f))) ∨ far ((mu (b) (f)) * (n))) ∨ far ((mu (a) (e)) + (mu (mu (b) (f)) (n)))) ∨ far ((a) * (f))) ∨ far ((b) * (e))) (mu (a) (f)) (mu (b) (e))) n (mu (d) (g))) x y) else chk (hq (w1 i 108 0 (ib (((((((((False) ∨ far ((a) * (e))) ∨ far ((b) * (f))) ∨ far ((mu (b) (f)) * (n))) ∨ far ((mu (a) (e)) + (mu (mu (b) (f)) (n)))) ∨ far ((a) * (f))) ∨ far ((b) * (e))) ∨ far ((mu (a) (f)) + (mu (b) (e)))) ∨ far ((d) * (g))))) (ouL l (ad ((((False) ∨ far ((a) * (e))) ∨ far ((b) * (f))) ∨ far ((mu (b) (f)) * (n))) (mu (a) (e)) (mu (mu (b) (f)) (n))) (ad (((((((False) ∨ far ((a) * (e))) ∨ far ((b) * (f))) ∨ far ((mu (b) (f)) * (n))) ∨ far ((mu (a) (e)) + (mu (mu (b) (f)) (n)))) ∨ far ((a) * (f))) ∨ far ((b) * (e))) (mu (a) (f)) (mu (b) (e))) n (mu (d) (g))) x y) := by
    intro i l x y
    have eE : hq i l x y = hq i (ouL l (l 108 15) (l 108 16) (l 108 17) (l 108 18)) x y := by rw [← ouL_id]
    rw [eE]
    generalize l 108 15 = c0
    generalize l 108 16 = c1
    generalize l 108 17 = c2
    generalize l 108 18 = c3
    unfold fX9_exactly chk
    simp only [nk, jk]
    simp (disch := omega) only [↓iNlt_t, ↓iNlt_f, ↓iNle_t, ↓iNle_f, ↓iNeq_t, ↓iNeq_f, ↓iJlt_t, ↓iJlt_f, ↓iJle_t, ↓iJle_f, ↓iJeq_t, ↓iJeq_f, ↓iZlt_t, ↓iZlt_f, ↓iZle_t, ↓iZle_f, ↓iZeq_t, ↓iZeq_f, ↓iQlt_t, ↓iQlt_f, ↓iQle_t, ↓iQle_f, ↓iQeq_t, ↓iQeq_f, ↓iAnd_t, ↓iAnd_f, ↓iOr_t, ↓iOr_f, ↓iIff_t, ↓iIff_f, ↓iNot_t, ↓iNot_f, ↓iTrue, ↓iFalse, ↓ckN, ↓ckJ, ↓gIT, ↓gLT, ↓gRT, ↓cvT, ↓pIT, ↓pLT, ↓pZT, ↓asZ, ↓aNT, ↓arL, ↓asL, ↓arI, ↓asI, ↓aR_1, ↓bnd_some, ↓wh_eq, ↓on_some, ↓on_none, asZ, arL, asL, arI, asI, aR_1, bnd_some, wh_eq, on_some, on_none, tnT, tnU, tnL, nk, jk, N_add, N_mul, N_sub, N_neg, J_add, J_mul, J_sub, J_neg, N_J, ↓pZ9, ouL_w, ↓b_mul, ↓b_add, ↓iIb, w1_s, iIb, cvT]
  have hQ : (((((((((False) ∨ far ((a) * (e))) ∨ far ((b) * (f))) ∨ far (((b) * (f)) * (n))) ∨ far (((a) * (e)) + (((b) * (f)) * (n)))) ∨ far ((a) * (f))) ∨ far ((b) * (e))) ∨ far (((a) * (f)) + ((b) * (e)))) ∨ far ((d) * (g))) ↔ far (pl (tm a e) (tm (tm b f) n)) ∨ far (pl (tm a f) (tm e b)) ∨ far (tm d g) := by
    rw [KA.fars, KB.fars, KD.fars]
    simp only [or_assoc, false_or, or_false, ← Int.sub_eq_add_neg]
  refine RX.of (p8.trans hQ) (fun z => ?_) R
  have z' := fun q => z (p8.mpr q)
  have hn := fun q => z' (hQ.mpr q)
  refine ⟨?_, ?_, ?_⟩
  · rw [v4 (fun q => z' (Or.inl (Or.inl (Or.inl (Or.inl q)))))]
    have := ((KA.2 (fun q => hn (Or.inl (KA.fars.mpr q)))).1).symm
    exact this
  · rw [v7 (fun q => z' (Or.inl q))]
    have := ((KB.2 (fun q => hn (Or.inr (Or.inl (KB.fars.mpr q))))).1).symm
    exact this
  · rw [v8 (fun q => z' q)]
    have := ((KD.2 (fun q => hn (Or.inr (Or.inr (KD.fars.mpr q))))).1).symm
    exact this
theorem rx30 (fa : ¬ far a) (fb : ¬ far b) (fd : ¬ far d) (fe : ¬ far e) (ff : ¬ far f) (fg : ¬ far g) (fn : ¬ far n) : RX 3 a b d e f g n 0 (tm a g) (tm b g) (tm d e) := by
  obtain ⟨p1, v1⟩ := RS.mul (P := False) (Q := False) (r := a) (r' := g) (v := a) (v' := g) Iff.rfl (fun _ => rfl) (fun _ => rfl)
  have m1 := mu_far (a) (g)
  obtain ⟨p2, v2⟩ := RS.mul (r := b) (r' := g) (v := b) (v' := g) p1 (fun _ => rfl) (fun _ => rfl)
  have m2 := mu_far (b) (g)
  obtain ⟨p3, v3⟩ := RS.mul (r := d) (r' := e) (v := d) (v' := e) p2 (fun _ => rfl) (fun _ => rfl)
  have m3 := mu_far (d) (e)
  have KA := (CV.lit fa).tms (CV.lit fg)
  have KB := (CV.lit fb).tms (CV.lit fg)
  have KD := (CV.lit fd).tms (CV.lit fe)
  have R : ∀ (i l : Nat → Nat → Int) (x y : Option Nat), fX9_exactly 108 (N 3) (J a) (J b) (J d) (J e) (J f) (J g) (J n) (N 0) (hq i l x y) = if (((False) ∨ far ((a) * (g))) ∨ far ((b) * (g))) ∨ far ((d) * (e)) then some ((), hq (w1 i 108 0 (ib ((((False) ∨ far ((a) * (g))) ∨ far ((b) * (g))) ∨ far ((d) * (e))))) (ouL l (mu (a) (g)) (mu (b) (g)) n (mu (d) (e))) x y) else chk (hq (w1 i 108 0 (ib ((((False) ∨ far ((a) * (g))) ∨ far ((b) * (g))) ∨ far ((d) * (e))))) (ouL l (mu (a) (g)) (mu (b) (g)) n (mu (d) (e))) x y) := by
    intro i l x y
    have eE : hq i l x y = hq i (ouL l (l 108 15) (l 108 16) (l 108 17) (l 108 18)) x y := by rw [← ouL_id]
    rw [eE]
    generalize l 108 15 = c0
    generalize l 108 16 = c1
    generalize l 108 17 = c2
    generalize l 108 18 = c3
    unfold fX9_exactly chk
    simp only [nk, jk]
    simp (disch := omega) only [↓iNlt_t, ↓iNlt_f, ↓iNle_t, ↓iNle_f, ↓iNeq_t, ↓iNeq_f, ↓iJlt_t, ↓iJlt_f, ↓iJle_t, ↓iJle_f, ↓iJeq_t, ↓iJeq_f, ↓iZlt_t, ↓iZlt_f, ↓iZle_t, ↓iZle_f, ↓iZeq_t, ↓iZeq_f, ↓iQlt_t, ↓iQlt_f, ↓iQle_t, ↓iQle_f, ↓iQeq_t, ↓iQeq_f, ↓iAnd_t, ↓iAnd_f, ↓iOr_t, ↓iOr_f, ↓iIff_t, ↓iIff_f, ↓iNot_t, ↓iNot_f, ↓iTrue, ↓iFalse, ↓ckN, ↓ckJ, ↓gIT, ↓gLT, ↓gRT, ↓cvT, ↓pIT, ↓pLT, ↓pZT, ↓asZ, ↓aNT, ↓arL, ↓asL, ↓arI, ↓asI, ↓aR_1, ↓bnd_some, ↓wh_eq, ↓on_some, ↓on_none, asZ, arL, asL, arI, asI, aR_1, bnd_some, wh_eq, on_some, on_none, tnT, tnU, tnL, nk, jk, N_add, N_mul, N_sub, N_neg, J_add, J_mul, J_sub, J_neg, N_J, ↓pZ9, ouL_w, ↓b_mul, ↓b_add, ↓iIb, w1_s, iIb, cvT]
  have hQ : ((((False) ∨ far ((a) * (g))) ∨ far ((b) * (g))) ∨ far ((d) * (e))) ↔ far (tm a g) ∨ far (tm b g) ∨ far (tm d e) := by
    rw [KA.fars, KB.fars, KD.fars]
    simp only [or_assoc, false_or, or_false, ← Int.sub_eq_add_neg]
  refine RX.of (p3.trans hQ) (fun z => ?_) R
  have z' := fun q => z (p3.mpr q)
  have hn := fun q => z' (hQ.mpr q)
  refine ⟨?_, ?_, ?_⟩
  · rw [v1 (fun q => z' (Or.inl (Or.inl q)))]
    have := ((KA.2 (fun q => hn (Or.inl (KA.fars.mpr q)))).1).symm
    exact this
  · rw [v2 (fun q => z' (Or.inl q))]
    have := ((KB.2 (fun q => hn (Or.inr (Or.inl (KB.fars.mpr q))))).1).symm
    exact this
  · rw [v3 (fun q => z' q)]
    have := ((KD.2 (fun q => hn (Or.inr (Or.inr (KD.fars.mpr q))))).1).symm
    exact this
theorem rx31 (fa : ¬ far a) (fb : ¬ far b) (fd : ¬ far d) (fe : ¬ far e) (ff : ¬ far f) (fg : ¬ far g) (fn : ¬ far n) : RX 3 a b d e f g n 1 (tm (mi (tm a e) (tm (tm b f) n)) g) (tm (mi (tm b e) (tm a f)) g) (tm (mi (tm e e) (tm (tm f f) n)) d) := by
  obtain ⟨p1, v1⟩ := RS.mul (P := False) (Q := False) (r := a) (r' := e) (v := a) (v' := e) Iff.rfl (fun _ => rfl) (fun _ => rfl)
  have m1 := mu_far (a) (e)
  obtain ⟨p2, v2⟩ := RS.mul (r := b) (r' := f) (v := b) (v' := f) p1 (fun _ => rfl) (fun _ => rfl)
  have m2 := mu_far (b) (f)
  obtain ⟨p3, v3⟩ := RS.mul (r := mu (b) (f)) (r' := n) (v := (b) * (f)) (v' := n) p2 (fun z => v2 z) (fun _ => rfl)
  have m3 := mu_far (mu (b) (f)) (n)
  obtain ⟨p4, v4⟩ := RS.add (r := mu (a) (e)) (r' := -(mu (mu (b) (f)) (n))) (v := (a) * (e)) (v' := -(((b) * (f)) * (n))) p3 (fun z => v1 (fun w => z (Or.inl (Or.inl w)))) (fun z => by rw [v3 z])
  have m4 := ad_far ((((False) ∨ far ((a) * (e))) ∨ far ((b) * (f))) ∨ far ((mu (b) (f)) * (n))) (mu (a) (e)) (-(mu (mu (b) (f)) (n)))
  obtain ⟨p5, v5⟩ := RS.mul (r := ad ((((False) ∨ far ((a) * (e))) ∨ far ((b) * (f))) ∨ far ((mu (b) (f)) * (n))) (mu (a) (e)) (-(mu (mu (b) (f)) (n)))) (r' := g) (v := ((a) * (e)) + (-(((b) * (f)) * (n)))) (v' := g) p4 (fun z => v4 z) (fun _ => rfl)
  have m5 := mu_far (ad ((((False) ∨ far ((a) * (e))) ∨ far ((b) * (f))) ∨ far ((mu (b) (f)) * (n))) (mu (a) (e)) (-(mu (mu (b) (f)) (n)))) (g)
  obtain ⟨p6, v6⟩ := RS.mul (r := b) (r' := e) (v := b) (v' := e) p5 (fun _ => rfl) (fun _ => rfl)
  have m6 := mu_far (b) (e)
  obtain ⟨p7, v7⟩ := RS.mul (r := a) (r' := f) (v := a) (v' := f) p6 (fun _ => rfl) (fun _ => rfl)
  have m7 := mu_far (a) (f)
  obtain ⟨p8, v8⟩ := RS.add (r := mu (b) (e)) (r' := -(mu (a) (f))) (v := (b) * (e)) (v' := -((a) * (f))) p7 (fun z => v6 (fun w => z (Or.inl w))) (fun z => by rw [v7 z])
  have m8 := ad_far ((((((((False) ∨ far ((a) * (e))) ∨ far ((b) * (f))) ∨ far ((mu (b) (f)) * (n))) ∨ far ((mu (a) (e)) + (-(mu (mu (b) (f)) (n))))) ∨ far ((ad ((((False) ∨ far ((a) * (e))) ∨ far ((b) * (f))) ∨ far ((mu (b) (f)) * (n))) (mu (a) (e)) (-(mu (mu (b) (f)) (n)))) * (g))) ∨ far ((b) * (e))) ∨ far ((a) * (f))) (mu (b) (e)) (-(mu (a) (f)))
  obtain ⟨p9, v9⟩ := RS.mul (r := ad ((((((((False) ∨ far ((a) * (e))) ∨ far ((b) * (f))) ∨ far ((mu (b) (f)) * (n))) ∨ far ((mu (a) (e)) + (-(mu (mu (b) (f)) (n))))) ∨ far ((ad ((((False) ∨ far ((a) * (e))) ∨ far ((b) * (f))) ∨ far ((mu (b) (f)) * (n))) (mu (a) (e)) (-(mu (mu (b) (f)) (n)))) * (g))) ∨ far ((b) * (e))) ∨ far ((a) * (f))) (mu (b) (e)) (-(mu (a) (f)))) (r' := g) (v := ((b) * (e)) + (-((a) * (f)))) (v' := g) p8 (fun z => v8 z) (fun _ => rfl)
  have m9 := mu_far (ad ((((((((False) ∨ far ((a) * (e))) ∨ far ((b) * (f))) ∨ far ((mu (b) (f)) * (n))) ∨ far ((mu (a) (e)) + (-(mu (mu (b) (f)) (n))))) ∨ far ((ad ((((False) ∨ far ((a) * (e))) ∨ far ((b) * (f))) ∨ far ((mu (b) (f)) * (n))) (mu (a) (e)) (-(mu (mu (b) (f)) (n)))) * (g))) ∨ far ((b) * (e))) ∨ far ((a) * (f))) (mu (b) (e)) (-(mu (a) (f)))) (g)
  obtain ⟨p10, v10⟩ := RS.mul (r := e) (r' := e) (v := e) (v' := e) p9 (fun _ => rfl) (fun _ => rfl)
  have m10 := mu_far (e) (e)
  obtain ⟨p11, v11⟩ := RS.mul (r := f) (r' := f) (v := f) (v' := f) p10 (fun _ => rfl) (fun _ => rfl)
  have m11 := mu_far (f) (f)
  obtain ⟨p12, v12⟩ := RS.mul (r := mu (f) (f)) (r' := n) (v := (f) * (f)) (v' := n) p11 (fun z => v11 z) (fun _ => rfl)
  have m12 := mu_far (mu (f) (f)) (n)
  obtain ⟨p13, v13⟩ := RS.add (r := mu (e) (e)) (r' := -(mu (mu (f) (f)) (n))) (v := (e) * (e)) (v' := -(((f) * (f)) * (n))) p12 (fun z => v10 (fun w => z (Or.inl (Or.inl w)))) (fun z => by rw [v12 z])
  have m13 := ad_far (((((((((((((False) ∨ far ((a) * (e))) ∨ far ((b) * (f))) ∨ far ((mu (b) (f)) * (n))) ∨ far ((mu (a) (e)) + (-(mu (mu (b) (f)) (n))))) ∨ far ((ad ((((False) ∨ far ((a) * (e))) ∨ far ((b) * (f))) ∨ far ((mu (b) (f)) * (n))) (mu (a) (e)) (-(mu (mu (b) (f)) (n)))) * (g))) ∨ far ((b) * (e))) ∨ far ((a) * (f))) ∨ far ((mu (b) (e)) + (-(mu (a) (f))))) ∨ far ((ad ((((((((False) ∨ far ((a) * (e))) ∨ far ((b) * (f))) ∨ far ((mu (b) (f)) * (n))) ∨ far ((mu (a) (e)) + (-(mu (mu (b) (f)) (n))))) ∨ far ((ad ((((False) ∨ far ((a) * (e))) ∨ far ((b) * (f))) ∨ far ((mu (b) (f)) * (n))) (mu (a) (e)) (-(mu (mu (b) (f)) (n)))) * (g))) ∨ far ((b) * (e))) ∨ far ((a) * (f))) (mu (b) (e)) (-(mu (a) (f)))) * (g))) ∨ far ((e) * (e))) ∨ far ((f) * (f))) ∨ far ((mu (f) (f)) * (n))) (mu (e) (e)) (-(mu (mu (f) (f)) (n)))
  obtain ⟨p14, v14⟩ := RS.mul (r := ad (((((((((((((False) ∨ far ((a) * (e))) ∨ far ((b) * (f))) ∨ far ((mu (b) (f)) * (n))) ∨ far ((mu (a) (e)) + (-(mu (mu (b) (f)) (n))))) ∨ far ((ad ((((False) ∨ far ((a) * (e))) ∨ far ((b) * (f))) ∨ far ((mu (b) (f)) * (n))) (mu (a) (e)) (-(mu (mu (b) (f)) (n)))) * (g))) ∨ far ((b) * (e))) ∨ far ((a) * (f))) ∨ far ((mu (b) (e)) + (-(mu (a) (f))))) ∨ far ((ad ((((((((False) ∨ far ((a) * (e))) ∨ far ((b) * (f))) ∨ far ((mu (b) (f)) * (n))) ∨ far ((mu (a) (e)) + (-(mu (mu (b) (f)) (n))))) ∨ far ((ad ((((False) ∨ far ((a) * (e))) ∨ far ((b) * (f))) ∨ far ((mu (b) (f)) * (n))) (mu (a) (e)) (-(mu (mu (b) (f)) (n)))) * (g))) ∨ far ((b) * (e))) ∨ far ((a) * (f))) (mu (b) (e)) (-(mu (a) (f)))) * (g))) ∨ far ((e) * (e))) ∨ far ((f) * (f))) ∨ far ((mu (f) (f)) * (n))) (mu (e) (e)) (-(mu (mu (f) (f)) (n)))) (r' := d) (v := ((e) * (e)) + (-(((f) * (f)) * (n)))) (v' := d) p13 (fun z => v13 z) (fun _ => rfl)
  have m14 := mu_far (ad (((((((((((((False) ∨ far ((a) * (e))) ∨ far ((b) * (f))) ∨ far ((mu (b) (f)) * (n))) ∨ far ((mu (a) (e)) + (-(mu (mu (b) (f)) (n))))) ∨ far ((ad ((((False) ∨ far ((a) * (e))) ∨ far ((b) * (f))) ∨ far ((mu (b) (f)) * (n))) (mu (a) (e)) (-(mu (mu (b) (f)) (n)))) * (g))) ∨ far ((b) * (e))) ∨ far ((a) * (f))) ∨ far ((mu (b) (e)) + (-(mu (a) (f))))) ∨ far ((ad ((((((((False) ∨ far ((a) * (e))) ∨ far ((b) * (f))) ∨ far ((mu (b) (f)) * (n))) ∨ far ((mu (a) (e)) + (-(mu (mu (b) (f)) (n))))) ∨ far ((ad ((((False) ∨ far ((a) * (e))) ∨ far ((b) * (f))) ∨ far ((mu (b) (f)) * (n))) (mu (a) (e)) (-(mu (mu (b) (f)) (n)))) * (g))) ∨ far ((b) * (e))) ∨ far ((a) * (f))) (mu (b) (e)) (-(mu (a) (f)))) * (g))) ∨ far ((e) * (e))) ∨ far ((f) * (f))) ∨ far ((mu (f) (f)) * (n))) (mu (e) (e)) (-(mu (mu (f) (f)) (n)))) (d)
  have KA := (((CV.lit fa).tms (CV.lit fe)).mis (((CV.lit fb).tms (CV.lit ff)).tms (CV.lit fn))).tms (CV.lit fg)
  have KB := (((CV.lit fb).tms (CV.lit fe)).mis ((CV.lit fa).tms (CV.lit ff))).tms (CV.lit fg)
  have KD := (((CV.lit fe).tms (CV.lit fe)).mis (((CV.lit ff).tms (CV.lit ff)).tms (CV.lit fn))).tms (CV.lit fd)
  have R : ∀ (i l : Nat → Nat → Int) (x y : Option Nat), fX9_exactly 108 (N 3) (J a) (J b) (J d) (J e) (J f) (J g) (J n) (N 1) (hq i l x y) = if ((((((((((((((False) ∨ far ((a) * (e))) ∨ far ((b) * (f))) ∨ far ((mu (b) (f)) * (n))) ∨ far ((mu (a) (e)) + (-(mu (mu (b) (f)) (n))))) ∨ far ((ad ((((False) ∨ far ((a) * (e))) ∨ far ((b) * (f))) ∨ far ((mu (b) (f)) * (n))) (mu (a) (e)) (-(mu (mu (b) (f)) (n)))) * (g))) ∨ far ((b) * (e))) ∨ far ((a) * (f))) ∨ far ((mu (b) (e)) + (-(mu (a) (f))))) ∨ far ((ad ((((((((False) ∨ far ((a) * (e))) ∨ far ((b) * (f))) ∨ far ((mu (b) (f)) * (n))) ∨ far ((mu (a) (e)) + (-(mu (mu (b) (f)) (n))))) ∨ far ((ad ((((False) ∨ far ((a) * (e))) ∨ far ((b) * (f))) ∨ far ((mu (b) (f)) * (n))) (mu (a) (e)) (-(mu (mu (b) (f)) (n)))) * (g))) ∨ far ((b) * (e))) ∨ far ((a) * (f))) (mu (b) (e)) (-(mu (a) (f)))) * (g))) ∨ far ((e) * (e))) ∨ far ((f) * (f))) ∨ far ((mu (f) (f)) * (n))) ∨ far ((mu (e) (e)) + (-(mu (mu (f) (f)) (n))))) ∨ far ((ad (((((((((((((False) ∨ far ((a) * (e))) ∨ far ((b) * (f))) ∨ far ((mu (b) (f)) * (n))) ∨ far ((mu (a) (e)) + (-(mu (mu (b) (f)) (n))))) ∨ far ((ad ((((False) ∨ far ((a) * (e))) ∨ far ((b) * (f))) ∨ far ((mu (b) (f)) * (n))) (mu (a) (e)) (-(mu (mu (b) (f)) (n)))) * (g))) ∨ far ((b) * (e))) ∨ far ((a) * (f))) ∨ far ((mu (b) (e)) + (-(mu (a) (f))))) ∨ far ((ad ((((((((False) ∨ far ((a) * (e))) ∨ far ((b) * (f))) ∨ far ((mu (b) (f)) * (n))) ∨ far ((mu (a) (e)) + (-(mu (mu (b) (f)) (n))))) ∨ far ((ad ((((False) ∨ far ((a) * (e))) ∨ far ((b) * (f))) ∨ far ((mu (b) (f)) * (n))) (mu (a) (e)) (-(mu (mu (b) (f)) (n)))) * (g))) ∨ far ((b) * (e))) ∨ far ((a) * (f))) (mu (b) (e)) (-(mu (a) (f)))) * (g))) ∨ far ((e) * (e))) ∨ far ((f) * (f))) ∨ far ((mu (f) (f)) * (n))) (mu (e) (e)) (-(mu (mu (f) (f)) (n)))) * (d)) then some ((), hq (w1 i 108 0 (ib (((((((((((((((False) ∨ far ((a) * (e))) ∨ far ((b) * (f))) ∨ far ((mu (b) (f)) * (n))) ∨ far ((mu (a) (e)) + (-(mu (mu (b) (f)) (n))))) ∨ far ((ad ((((False) ∨ far ((a) * (e))) ∨ far ((b) * (f))) ∨ far ((mu (b) (f)) * (n))) (mu (a) (e)) (-(mu (mu (b) (f)) (n)))) * (g))) ∨ far ((b) * (e))) ∨ far ((a) * (f))) ∨ far ((mu (b) (e)) + (-(mu (a) (f))))) ∨ far ((ad ((((((((False) ∨ far ((a) * (e))) ∨ far ((b) * (f))) ∨ far ((mu (b) (f)) * (n))) ∨ far ((mu (a) (e)) + (-(mu (mu (b) (f)) (n))))) ∨ far ((ad ((((False) ∨ far ((a) * (e))) ∨ far ((b) * (f))) ∨ far ((mu (b) (f)) * (n))) (mu (a) (e)) (-(mu (mu (b) (f)) (n)))) * (g))) ∨ far ((b) * (e))) ∨ far ((a) * (f))) (mu (b) (e)) (-(mu (a) (f)))) * (g))) ∨ far ((e) * (e))) ∨ far ((f) * (f))) ∨ far ((mu (f) (f)) * (n))) ∨ far ((mu (e) (e)) + (-(mu (mu (f) (f)) (n))))) ∨ far ((ad (((((((((((((False) ∨ far ((a) * (e))) ∨ far ((b) * (f))) ∨ far ((mu (b) (f)) * (n))) ∨ far ((mu (a) (e)) + (-(mu (mu (b) (f)) (n))))) ∨ far ((ad ((((False) ∨ far ((a) * (e))) ∨ far ((b) * (f))) ∨ far ((mu (b) (f)) * (n))) (mu (a) (e)) (-(mu (mu (b) (f)) (n)))) * (g))) ∨ far ((b) * (e))) ∨ far ((a) * (f))) ∨ far ((mu (b) (e)) + (-(mu (a) (f))))) ∨ far ((ad ((((((((False) ∨ far ((a) * (e))) ∨ far ((b) * (f))) ∨ far ((mu (b) (f)) * (n))) ∨ far ((mu (a) (e)) + (-(mu (mu (b) (f)) (n))))) ∨ far ((ad ((((False) ∨ far ((a) * (e))) ∨ far ((b) * (f))) ∨ far ((mu (b) (f)) * (n))) (mu (a) (e)) (-(mu (mu (b) (f)) (n)))) * (g))) ∨ far ((b) * (e))) ∨ far ((a) * (f))) (mu (b) (e)) (-(mu (a) (f)))) * (g))) ∨ far ((e) * (e))) ∨ far ((f) * (f))) ∨ far ((mu (f) (f)) * (n))) (mu (e) (e)) (-(mu (mu (f) (f)) (n)))) * (d))))) (ouL l (mu (ad ((((False) ∨ far ((a) * (e))) ∨ far ((b) * (f))) ∨ far ((mu (b) (f)) * (n))) (mu (a) (e)) (-(mu (mu (b) (f)) (n)))) (g)) (mu (ad ((((((((False) ∨ far ((a) * (e))) ∨ far ((b) * (f))) ∨ far ((mu (b) (f)) * (n))) ∨ far ((mu (a) (e)) + (-(mu (mu (b) (f)) (n))))) ∨ far ((ad ((((False) ∨ far ((a) * (e))) ∨ far ((b) * (f))) ∨ far ((mu (b) (f)) * (n))) (mu (a) (e)) (-(mu (mu (b) (f)) (n)))) * (g))) ∨ far ((b) * (e))) ∨ far ((a) * (f))) (mu (b) (e)) (-(mu (a) (f)))) (g)) n (mu (ad (((((((((((((False) ∨ far ((a) * (e))) ∨ far ((b) * (f))) ∨ far ((mu (b) (f)) * (n))) ∨ far ((mu (a) (e)) + (-(mu (mu (b) (f)) (n))))) ∨ far ((ad ((((False) ∨ far ((a) * (e))) ∨ far ((b) * (f))) ∨ far ((mu (b) (f)) * (n))) (mu (a) (e)) (-(mu (mu (b) (f)) (n)))) * (g))) ∨ far ((b) * (e))) ∨ far ((a) * (f))) ∨ far ((mu (b) (e)) + (-(mu (a) (f))))) ∨ far ((ad ((((((((False) ∨ far ((a) * (e))) ∨ far ((b) * (f))) ∨ far ((mu (b) (f)) * (n))) ∨ far ((mu (a) (e)) + (-(mu (mu (b) (f)) (n))))) ∨ far ((ad ((((False) ∨ far ((a) * (e))) ∨ far ((b) * (f))) ∨ far ((mu (b) (f)) * (n))) (mu (a) (e)) (-(mu (mu (b) (f)) (n)))) * (g))) ∨ far ((b) * (e))) ∨ far ((a) * (f))) (mu (b) (e)) (-(mu (a) (f)))) * (g))) ∨ far ((e) * (e))) ∨ far ((f) * (f))) ∨ far ((mu (f) (f)) * (n))) (mu (e) (e)) (-(mu (mu (f) (f)) (n)))) (d))) x y) else chk (hq (w1 i 108 0 (ib (((((((((((((((False) ∨ far ((a) * (e))) ∨ far ((b) * (f))) ∨ far ((mu (b) (f)) * (n))) ∨ far ((mu (a) (e)) + (-(mu (mu (b) (f)) (n))))) ∨ far ((ad ((((False) ∨ far ((a) * (e))) ∨ far ((b) * (f))) ∨ far ((mu (b) (f)) * (n))) (mu (a) (e)) (-(mu (mu (b) (f)) (n)))) * (g))) ∨ far ((b) * (e))) ∨ far ((a) * (f))) ∨ far ((mu (b) (e)) + (-(mu (a) (f))))) ∨ far ((ad ((((((((False) ∨ far ((a) * (e))) ∨ far ((b) * (f))) ∨ far ((mu (b) (f)) * (n))) ∨ far ((mu (a) (e)) + (-(mu (mu (b) (f)) (n))))) ∨ far ((ad ((((False) ∨ far ((a) * (e))) ∨ far ((b) * (f))) ∨ far ((mu (b) (f)) * (n))) (mu (a) (e)) (-(mu (mu (b) (f)) (n)))) * (g))) ∨ far ((b) * (e))) ∨ far ((a) * (f))) (mu (b) (e)) (-(mu (a) (f)))) * (g))) ∨ far ((e) * (e))) ∨ far ((f) * (f))) ∨ far ((mu (f) (f)) * (n))) ∨ far ((mu (e) (e)) + (-(mu (mu (f) (f)) (n))))) ∨ far ((ad (((((((((((((False) ∨ far ((a) * (e))) ∨ far ((b) * (f))) ∨ far ((mu (b) (f)) * (n))) ∨ far ((mu (a) (e)) + (-(mu (mu (b) (f)) (n))))) ∨ far ((ad ((((False) ∨ far ((a) * (e))) ∨ far ((b) * (f))) ∨ far ((mu (b) (f)) * (n))) (mu (a) (e)) (-(mu (mu (b) (f)) (n)))) * (g))) ∨ far ((b) * (e))) ∨ far ((a) * (f))) ∨ far ((mu (b) (e)) + (-(mu (a) (f))))) ∨ far ((ad ((((((((False) ∨ far ((a) * (e))) ∨ far ((b) * (f))) ∨ far ((mu (b) (f)) * (n))) ∨ far ((mu (a) (e)) + (-(mu (mu (b) (f)) (n))))) ∨ far ((ad ((((False) ∨ far ((a) * (e))) ∨ far ((b) * (f))) ∨ far ((mu (b) (f)) * (n))) (mu (a) (e)) (-(mu (mu (b) (f)) (n)))) * (g))) ∨ far ((b) * (e))) ∨ far ((a) * (f))) (mu (b) (e)) (-(mu (a) (f)))) * (g))) ∨ far ((e) * (e))) ∨ far ((f) * (f))) ∨ far ((mu (f) (f)) * (n))) (mu (e) (e)) (-(mu (mu (f) (f)) (n)))) * (d))))) (ouL l (mu (ad ((((False) ∨ far ((a) * (e))) ∨ far ((b) * (f))) ∨ far ((mu (b) (f)) * (n))) (mu (a) (e)) (-(mu (mu (b) (f)) (n)))) (g)) (mu (ad ((((((((False) ∨ far ((a) * (e))) ∨ far ((b) * (f))) ∨ far ((mu (b) (f)) * (n))) ∨ far ((mu (a) (e)) + (-(mu (mu (b) (f)) (n))))) ∨ far ((ad ((((False) ∨ far ((a) * (e))) ∨ far ((b) * (f))) ∨ far ((mu (b) (f)) * (n))) (mu (a) (e)) (-(mu (mu (b) (f)) (n)))) * (g))) ∨ far ((b) * (e))) ∨ far ((a) * (f))) (mu (b) (e)) (-(mu (a) (f)))) (g)) n (mu (ad (((((((((((((False) ∨ far ((a) * (e))) ∨ far ((b) * (f))) ∨ far ((mu (b) (f)) * (n))) ∨ far ((mu (a) (e)) + (-(mu (mu (b) (f)) (n))))) ∨ far ((ad ((((False) ∨ far ((a) * (e))) ∨ far ((b) * (f))) ∨ far ((mu (b) (f)) * (n))) (mu (a) (e)) (-(mu (mu (b) (f)) (n)))) * (g))) ∨ far ((b) * (e))) ∨ far ((a) * (f))) ∨ far ((mu (b) (e)) + (-(mu (a) (f))))) ∨ far ((ad ((((((((False) ∨ far ((a) * (e))) ∨ far ((b) * (f))) ∨ far ((mu (b) (f)) * (n))) ∨ far ((mu (a) (e)) + (-(mu (mu (b) (f)) (n))))) ∨ far ((ad ((((False) ∨ far ((a) * (e))) ∨ far ((b) * (f))) ∨ far ((mu (b) (f)) * (n))) (mu (a) (e)) (-(mu (mu (b) (f)) (n)))) * (g))) ∨ far ((b) * (e))) ∨ far ((a) * (f))) (mu (b) (e)) (-(mu (a) (f)))) * (g))) ∨ far ((e) * (e))) ∨ far ((f) * (f))) ∨ far ((mu (f) (f)) * (n))) (mu (e) (e)) (-(mu (mu (f) (f)) (n)))) (d))) x y) := by
    intro i l x y
    have eE : hq i l x y = hq i (ouL l (l 108 15) (l 108 16) (l 108 17) (l 108 18)) x y := by rw [← ouL_id]
    rw [eE]
    generalize l 108 15 = c0
    generalize l 108 16 = c1
    generalize l 108 17 = c2
    generalize l 108 18 = c3
    unfold fX9_exactly chk
    simp only [nk, jk]
    simp (disch := omega) only [↓iNlt_t, ↓iNlt_f, ↓iNle_t, ↓iNle_f, ↓iNeq_t, ↓iNeq_f, ↓iJlt_t, ↓iJlt_f, ↓iJle_t, ↓iJle_f, ↓iJeq_t, ↓iJeq_f, ↓iZlt_t, ↓iZlt_f, ↓iZle_t, ↓iZle_f, ↓iZeq_t, ↓iZeq_f, ↓iQlt_t, ↓iQlt_f, ↓iQle_t, ↓iQle_f, ↓iQeq_t, ↓iQeq_f, ↓iAnd_t, ↓iAnd_f, ↓iOr_t, ↓iOr_f, ↓iIff_t, ↓iIff_f, ↓iNot_t, ↓iNot_f, ↓iTrue, ↓iFalse, ↓ckN, ↓ckJ, ↓gIT, ↓gLT, ↓gRT, ↓cvT, ↓pIT, ↓pLT, ↓pZT, ↓asZ, ↓aNT, ↓arL, ↓asL, ↓arI, ↓asI, ↓aR_1, ↓bnd_some, ↓wh_eq, ↓on_some, ↓on_none, asZ, arL, asL, arI, asI, aR_1, bnd_some, wh_eq, on_some, on_none, tnT, tnU, tnL, nk, jk, N_add, N_mul, N_sub, N_neg, J_add, J_mul, J_sub, J_neg, N_J, ↓pZ9, ouL_w, ↓b_mul, ↓b_add, ↓iIb, w1_s, iIb, cvT]
  have hQ : (((((((((((((((False) ∨ far ((a) * (e))) ∨ far ((b) * (f))) ∨ far (((b) * (f)) * (n))) ∨ far (((a) * (e)) + (-(((b) * (f)) * (n))))) ∨ far ((((a) * (e)) + (-(((b) * (f)) * (n)))) * (g))) ∨ far ((b) * (e))) ∨ far ((a) * (f))) ∨ far (((b) * (e)) + (-((a) * (f))))) ∨ far ((((b) * (e)) + (-((a) * (f)))) * (g))) ∨ far ((e) * (e))) ∨ far ((f) * (f))) ∨ far (((f) * (f)) * (n))) ∨ far (((e) * (e)) + (-(((f) * (f)) * (n))))) ∨ far ((((e) * (e)) + (-(((f) * (f)) * (n)))) * (d))) ↔ far (tm (mi (tm a e) (tm (tm b f) n)) g) ∨ far (tm (mi (tm b e) (tm a f)) g) ∨ far (tm (mi (tm e e) (tm (tm f f) n)) d) := by
    rw [KA.fars, KB.fars, KD.fars]
    simp only [or_assoc, false_or, or_false, ← Int.sub_eq_add_neg]
  refine RX.of (p14.trans hQ) (fun z => ?_) R
  have z' := fun q => z (p14.mpr q)
  have hn := fun q => z' (hQ.mpr q)
  refine ⟨?_, ?_, ?_⟩
  · rw [v5 (fun q => z' (Or.inl (Or.inl (Or.inl (Or.inl (Or.inl (Or.inl (Or.inl (Or.inl (Or.inl q))))))))))]
    have := ((KA.2 (fun q => hn (Or.inl (KA.fars.mpr q)))).1).symm
    simp only [← Int.sub_eq_add_neg] at this ⊢
    exact this
  · rw [v9 (fun q => z' (Or.inl (Or.inl (Or.inl (Or.inl (Or.inl q))))))]
    have := ((KB.2 (fun q => hn (Or.inr (Or.inl (KB.fars.mpr q))))).1).symm
    simp only [← Int.sub_eq_add_neg] at this ⊢
    exact this
  · rw [v14 (fun q => z' q)]
    have := ((KD.2 (fun q => hn (Or.inr (Or.inr (KD.fars.mpr q))))).1).symm
    simp only [← Int.sub_eq_add_neg] at this ⊢
    exact this
end RXt
