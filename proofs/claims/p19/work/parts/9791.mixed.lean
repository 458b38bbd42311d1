/-! ===== the mixed form of two ratios: made by mx.py ===== -/
section MX
variable {i l : Nat → Nat → Int} {x y : Option Nat} {p q u w a d e g : Int}
def mxV (p q u w a d e g : Int) : Int := pl (pl (pl (tm (tm p a) e) (tm (tm q a) g)) (tm (tm u e) d)) (tm (tm w d) g)
theorem mxV_ok : ok64 (mxV p q u w a d e g) := pl_ok _ _
theorem r_mixed0 {s t : Nat} (hs : s < 40) (ht : t < 40) (h0 : l 120 0 = p) (h1 : l 120 1 = q) (h2 : l 120 2 = u) (h3 : l 120 3 = w) (b1 : l 115 (4 * s) = a) (b2 : l 115 (4 * s + 1) = d) (b3 : l 115 (4 * t) = e) (b4 : l 115 (4 * t + 1) = g) (fp : ¬ far p) (fq : ¬ far q) (fu : ¬ far u) (fw : ¬ far w) (fa : ¬ far a) (fd : ¬ far d) (fe : ¬ far e) (fg : ¬ far g) : ∃ v : Int, fX9_mixed 108 (N 0) (N s) (N t) (hq i l x y) = some (J v, hq (w1 i 108 0 (ib (far (mxV p q u w a d e g)))) l x y) ∧ (¬ far (mxV p q u w a d e g) → v = mxV p q u w a d e g) ∧ ¬ far v := by
  obtain ⟨p1, v1⟩ := RS.mul (P := False) (Q := False) (r := p) (r' := a) (v := p) (v' := a) Iff.rfl (fun _ => rfl) (fun _ => rfl)
  have m1 := mu_far (p) (a)
  obtain ⟨p2, v2⟩ := RS.mul (r := mu (p) (a)) (r' := e) (v := (p) * (a)) (v' := e) p1 (fun z => v1 z) (fun _ => rfl)
  have m2 := mu_far (mu (p) (a)) (e)
  obtain ⟨p3, v3⟩ := RS.mul (r := q) (r' := a) (v := q) (v' := a) p2 (fun _ => rfl) (fun _ => rfl)
  have m3 := mu_far (q) (a)
  obtain ⟨p4, v4⟩ := RS.mul (r := mu (q) (a)) (r' := g) (v := (q) * (a)) (v' := g) p3 (fun z => v3 z) (fun _ => rfl)
  have m4 := mu_far (mu (q) (a)) (g)
  obtain ⟨p5, v5⟩ := RS.add (r := mu (mu (p) (a)) (e)) (r' := mu (mu (q) (a)) (g)) (v := ((p) * (a)) * (e)) (v' := ((q) * (a)) * (g)) p4 (fun z => v2 (fun w => z (Or.inl (Or.inl w)))) (fun z => v4 z)
  have m5 := ad_far (((((False) ∨ far ((p) * (a))) ∨ far ((mu (p) (a)) * (e))) ∨ far ((q) * (a))) ∨ far ((mu (q) (a)) * (g))) (mu (mu (p) (a)) (e)) (mu (mu (q) (a)) (g))
  obtain ⟨p6, v6⟩ := RS.mul (r := u) (r' := e) (v := u) (v' := e) p5 (fun _ => rfl) (fun _ => rfl)
  have m6 := mu_far (u) (e)
  obtain ⟨p7, v7⟩ := RS.mul (r := mu (u) (e)) (r' := d) (v := (u) * (e)) (v' := d) p6 (fun z => v6 z) (fun _ => rfl)
  have m7 := mu_far (mu (u) (e)) (d)
  obtain ⟨p8, v8⟩ := RS.add (r := ad (((((False) ∨ far ((p) * (a))) ∨ far ((mu (p) (a)) * (e))) ∨ far ((q) * (a))) ∨ far ((mu (q) (a)) * (g))) (mu (mu (p) (a)) (e)) (mu (mu (q) (a)) (g))) (r' := mu (mu (u) (e)) (d)) (v := (((p) * (a)) * (e)) + (((q) * (a)) * (g))) (v' := ((u) * (e)) * (d)) p7 (fun z => v5 (fun w => z (Or.inl (Or.inl w)))) (fun z => v7 z)
  have m8 := ad_far ((((((((False) ∨ far ((p) * (a))) ∨ far ((mu (p) (a)) * (e))) ∨ far ((q) * (a))) ∨ far ((mu (q) (a)) * (g))) ∨ far ((mu (mu (p) (a)) (e)) + (mu (mu (q) (a)) (g)))) ∨ far ((u) * (e))) ∨ far ((mu (u) (e)) * (d))) (ad (((((False) ∨ far ((p) * (a))) ∨ far ((mu (p) (a)) * (e))) ∨ far ((q) * (a))) ∨ far ((mu (q) (a)) * (g))) (mu (mu (p) (a)) (e)) (mu (mu (q) (a)) (g))) (mu (mu (u) (e)) (d))
  obtain ⟨p9, v9⟩ := RS.mul (r := w) (r' := d) (v := w) (v' := d) p8 (fun _ => rfl) (fun _ => rfl)
  have m9 := mu_far (w) (d)
  obtain ⟨p10, v10⟩ := RS.mul (r := mu (w) (d)) (r' := g) (v := (w) * (d)) (v' := g) p9 (fun z => v9 z) (fun _ => rfl)
  have m10 := mu_far (mu (w) (d)) (g)
  obtain ⟨p11, v11⟩ := RS.add (r := ad ((((((((False) ∨ far ((p) * (a))) ∨ far ((mu (p) (a)) * (e))) ∨ far ((q) * (a))) ∨ far ((mu (q) (a)) * (g))) ∨ far ((mu (mu (p) (a)) (e)) + (mu (mu (q) (a)) (g)))) ∨ far ((u) * (e))) ∨ far ((mu (u) (e)) * (d))) (ad (((((False) ∨ far ((p) * (a))) ∨ far ((mu (p) (a)) * (e))) ∨ far ((q) * (a))) ∨ far ((mu (q) (a)) * (g))) (mu (mu (p) (a)) (e)) (mu (mu (q) (a)) (g))) (mu (mu (u) (e)) (d))) (r' := mu (mu (w) (d)) (g)) (v := ((((p) * (a)) * (e)) + (((q) * (a)) * (g))) + (((u) * (e)) * (d))) (v' := ((w) * (d)) * (g)) p10 (fun z => v8 (fun w => z (Or.inl (Or.inl w)))) (fun z => v10 z)
  have m11 := ad_far (((((((((((False) ∨ far ((p) * (a))) ∨ far ((mu (p) (a)) * (e))) ∨ far ((q) * (a))) ∨ far ((mu (q) (a)) * (g))) ∨ far ((mu (mu (p) (a)) (e)) + (mu (mu (q) (a)) (g)))) ∨ far ((u) * (e))) ∨ far ((mu (u) (e)) * (d))) ∨ far ((ad (((((False) ∨ far ((p) * (a))) ∨ far ((mu (p) (a)) * (e))) ∨ far ((q) * (a))) ∨ far ((mu (q) (a)) * (g))) (mu (mu (p) (a)) (e)) (mu (mu (q) (a)) (g))) + (mu (mu (u) (e)) (d)))) ∨ far ((w) * (d))) ∨ far ((mu (w) (d)) * (g))) (ad ((((((((False) ∨ far ((p) * (a))) ∨ far ((mu (p) (a)) * (e))) ∨ far ((q) * (a))) ∨ far ((mu (q) (a)) * (g))) ∨ far ((mu (mu (p) (a)) (e)) + (mu (mu (q) (a)) (g)))) ∨ far ((u) * (e))) ∨ far ((mu (u) (e)) * (d))) (ad (((((False) ∨ far ((p) * (a))) ∨ far ((mu (p) (a)) * (e))) ∨ far ((q) * (a))) ∨ far ((mu (q) (a)) * (g))) (mu (mu (p) (a)) (e)) (mu (mu (q) (a)) (g))) (mu (mu (u) (e)) (d))) (mu (mu (w) (d)) (g))
  have KA := (((((CV.lit fp).tms (CV.lit fa)).tms (CV.lit fe)).pls (((CV.lit fq).tms (CV.lit fa)).tms (CV.lit fg))).pls (((CV.lit fu).tms (CV.lit fe)).tms (CV.lit fd))).pls (((CV.lit fw).tms (CV.lit fd)).tms (CV.lit fg))
  have hQ : ((((((((((((False) ∨ far ((p) * (a))) ∨ far (((p) * (a)) * (e))) ∨ far ((q) * (a))) ∨ far (((q) * (a)) * (g))) ∨ far ((((p) * (a)) * (e)) + (((q) * (a)) * (g)))) ∨ far ((u) * (e))) ∨ far (((u) * (e)) * (d))) ∨ far (((((p) * (a)) * (e)) + (((q) * (a)) * (g))) + (((u) * (e)) * (d)))) ∨ far ((w) * (d))) ∨ far (((w) * (d)) * (g))) ∨ far ((((((p) * (a)) * (e)) + (((q) * (a)) * (g))) + (((u) * (e)) * (d))) + (((w) * (d)) * (g)))) ↔ far (mxV p q u w a d e g) := by
    unfold mxV
    rw [KA.fars]
    simp only [or_assoc, false_or, or_false]
  refine ⟨ad (((((((((((False) ∨ far ((p) * (a))) ∨ far ((mu (p) (a)) * (e))) ∨ far ((q) * (a))) ∨ far ((mu (q) (a)) * (g))) ∨ far ((mu (mu (p) (a)) (e)) + (mu (mu (q) (a)) (g)))) ∨ far ((u) * (e))) ∨ far ((mu (u) (e)) * (d))) ∨ far ((ad (((((False) ∨ far ((p) * (a))) ∨ far ((mu (p) (a)) * (e))) ∨ far ((q) * (a))) ∨ far ((mu (q) (a)) * (g))) (mu (mu (p) (a)) (e)) (mu (mu (q) (a)) (g))) + (mu (mu (u) (e)) (d)))) ∨ far ((w) * (d))) ∨ far ((mu (w) (d)) * (g))) (ad ((((((((False) ∨ far ((p) * (a))) ∨ far ((mu (p) (a)) * (e))) ∨ far ((q) * (a))) ∨ far ((mu (q) (a)) * (g))) ∨ far ((mu (mu (p) (a)) (e)) + (mu (mu (q) (a)) (g)))) ∨ far ((u) * (e))) ∨ far ((mu (u) (e)) * (d))) (ad (((((False) ∨ far ((p) * (a))) ∨ far ((mu (p) (a)) * (e))) ∨ far ((q) * (a))) ∨ far ((mu (q) (a)) * (g))) (mu (mu (p) (a)) (e)) (mu (mu (q) (a)) (g))) (mu (mu (u) (e)) (d))) (mu (mu (w) (d)) (g)), ?_, fun z => ?_, m11⟩
  · rw [← ib_congr (p11.trans hQ)]
    unfold fX9_mixed
    simp only [nk, N_mul, N_add, Int.reduceAdd]
    simp (disch := omega) only [↓iNlt_t, ↓iNlt_f, ↓iNle_t, ↓iNle_f, ↓iNeq_t, ↓iNeq_f, ↓iJlt_t, ↓iJlt_f, ↓iJle_t, ↓iJle_f, ↓iJeq_t, ↓iJeq_f, ↓iZlt_t, ↓iZlt_f, ↓iZle_t, ↓iZle_f, ↓iZeq_t, ↓iZeq_f, ↓iQlt_t, ↓iQlt_f, ↓iQle_t, ↓iQle_f, ↓iQeq_t, ↓iQeq_f, ↓iAnd_t, ↓iAnd_f, ↓iOr_t, ↓iOr_f, ↓iIff_t, ↓iIff_f, ↓iNot_t, ↓iNot_f, ↓iTrue, ↓iFalse, ↓ckN, ↓ckJ, ↓gIT, ↓gLT, ↓gRT, ↓cvT, ↓pIT, ↓pLT, ↓pZT, ↓asZ, ↓aNT, ↓arL, ↓asL, ↓arI, ↓asI, ↓aR_1, ↓bnd_some, ↓wh_eq, ↓on_some, ↓on_none, asZ, arL, asL, arI, asI, aR_1, bnd_some, wh_eq, on_some, on_none, tnT, tnU, tnL, nk, jk, N_add, N_mul, N_sub, N_neg, J_add, J_mul, J_sub, J_neg, N_J, ↓pZ9, ↓b_mul, ↓b_add, h0, h1, h2, h3, b1, b2, b3, b4]
  · rw [v11 (fun z' => z (hQ.mp z'))]
    have := (KA.2 (fun z' => z (KA.fars.mpr z'))).1
    exact this.symm
theorem q_mixed0 {X Y : Nat} (hX : St X) (hY : St Y) (h0 : l 6 0 = p) (h1 : l 6 1 = q) (h2 : l 6 2 = u) (h3 : l 6 3 = w) (b1 : l X 6 = a) (b2 : l X 9 = d) (b3 : l Y 6 = e) (b4 : l Y 9 = g) (fp : ¬ far p) (fq : ¬ far q) (fu : ¬ far u) (fw : ¬ far w) (fa : ¬ far a) (fd : ¬ far d) (fe : ¬ far e) (fg : ¬ far g) : fX3_mixed 6 (N 0) X Y (hq i l x y) = some (J (mxV p q u w a d e g), hq i l x y) := by
  have s1 := hX.1.1
  have s2 := hY.1.1
  have op := (CV.lit fp).ok
  have oq := (CV.lit fq).ok
  have ou := (CV.lit fu).ok
  have ow := (CV.lit fw).ok
  have oa := (CV.lit fa).ok
  have od := (CV.lit fd).ok
  have oe := (CV.lit fe).ok
  have og := (CV.lit fg).ok
  have t0 := tm_ok (p) (a)
  have t1 := tm_ok (tm p a) (e)
  have t2 := tm_ok (q) (a)
  have t3 := tm_ok (tm q a) (g)
  have t4 := tm_ok (u) (e)
  have t5 := tm_ok (tm u e) (d)
  have t6 := tm_ok (w) (d)
  have t7 := tm_ok (tm w d) (g)
  have u1 := pl_ok (tm (tm p a) e) (tm (tm q a) g)
  have u2 := pl_ok (pl (tm (tm p a) e) (tm (tm q a) g)) (tm (tm u e) d)
  unfold fX3_mixed mxV
  simp only [nk, N_add, Int.reduceAdd]
  simp (disch := omega) only [↓iNlt_t, ↓iNlt_f, ↓iNle_t, ↓iNle_f, ↓iNeq_t, ↓iNeq_f, ↓iJlt_t, ↓iJlt_f, ↓iJle_t, ↓iJle_f, ↓iJeq_t, ↓iJeq_f, ↓iZlt_t, ↓iZlt_f, ↓iZle_t, ↓iZle_f, ↓iZeq_t, ↓iZeq_f, ↓iQlt_t, ↓iQlt_f, ↓iQle_t, ↓iQle_f, ↓iQeq_t, ↓iQeq_f, ↓iAnd_t, ↓iAnd_f, ↓iOr_t, ↓iOr_f, ↓iIff_t, ↓iIff_f, ↓iNot_t, ↓iNot_f, ↓iTrue, ↓iFalse, ↓ckN, ↓ckJ, ↓gIT, ↓gLT, ↓gRT, ↓cvT, ↓pIT, ↓pLT, ↓pZT, ↓asZ, ↓aNT, ↓arL, ↓asL, ↓arI, ↓asI, ↓aR_1, ↓bnd_some, ↓wh_eq, ↓on_some, ↓on_none, asZ, arL, asL, arI, asI, aR_1, bnd_some, wh_eq, on_some, on_none, tnT, tnU, tnL, nk, jk, N_add, N_mul, N_sub, N_neg, J_add, J_mul, J_sub, J_neg, N_J, ↓gI_q s1, ↓gI_q s2, ↓gL_q s1, ↓gL_q s2, ↓b_times, ↓b_plus, h0, h1, h2, h3, b1, b2, b3, b4]
theorem r_mixed4 {s t : Nat} (hs : s < 40) (ht : t < 40) (h0 : l 120 4 = p) (h1 : l 120 5 = q) (h2 : l 120 6 = u) (h3 : l 120 7 = w) (b1 : l 115 (4 * s) = a) (b2 : l 115 (4 * s + 1) = d) (b3 : l 115 (4 * t) = e) (b4 : l 115 (4 * t + 1) = g) (fp : ¬ far p) (fq : ¬ far q) (fu : ¬ far u) (fw : ¬ far w) (fa : ¬ far a) (fd : ¬ far d) (fe : ¬ far e) (fg : ¬ far g) : ∃ v : Int, fX9_mixed 108 (N 4) (N s) (N t) (hq i l x y) = some (J v, hq (w1 i 108 0 (ib (far (mxV p q u w a d e g)))) l x y) ∧ (¬ far (mxV p q u w a d e g) → v = mxV p q u w a d e g) ∧ ¬ far v := by
  obtain ⟨p1, v1⟩ := RS.mul (P := False) (Q := False) (r := p) (r' := a) (v := p) (v' := a) Iff.rfl (fun _ => rfl) (fun _ => rfl)
  have m1 := mu_far (p) (a)
  obtain ⟨p2, v2⟩ := RS.mul (r := mu (p) (a)) (r' := e) (v := (p) * (a)) (v' := e) p1 (fun z => v1 z) (fun _ => rfl)
  have m2 := mu_far (mu (p) (a)) (e)
  obtain ⟨p3, v3⟩ := RS.mul (r := q) (r' := a) (v := q) (v' := a) p2 (fun _ => rfl) (fun _ => rfl)
  have m3 := mu_far (q) (a)
  obtain ⟨p4, v4⟩ := RS.mul (r := mu (q) (a)) (r' := g) (v := (q) * (a)) (v' := g) p3 (fun z => v3 z) (fun _ => rfl)
  have m4 := mu_far (mu (q) (a)) (g)
  obtain ⟨p5, v5⟩ := RS.add (r := mu (mu (p) (a)) (e)) (r' := mu (mu (q) (a)) (g)) (v := ((p) * (a)) * (e)) (v' := ((q) * (a)) * (g)) p4 (fun z => v2 (fun w => z (Or.inl (Or.inl w)))) (fun z => v4 z)
  have m5 := ad_far (((((False) ∨ far ((p) * (a))) ∨ far ((mu (p) (a)) * (e))) ∨ far ((q) * (a))) ∨ far ((mu (q) (a)) * (g))) (mu (mu (p) (a)) (e)) (mu (mu (q) (a)) (g))
  obtain ⟨p6, v6⟩ := RS.mul (r := u) (r' := e) (v := u) (v' := e) p5 (fun _ => rfl) (fun _ => rfl)
  have m6 := mu_far (u) (e)
  obtain ⟨p7, v7⟩ := RS.mul (r := mu (u) (e)) (r' := d) (v := (u) * (e)) (v' := d) p6 (fun z => v6 z) (fun _ => rfl)
  have m7 := mu_far (mu (u) (e)) (d)
  obtain ⟨p8, v8⟩ := RS.add (r := ad (((((False) ∨ far ((p) * (a))) ∨ far ((mu (p) (a)) * (e))) ∨ far ((q) * (a))) ∨ far ((mu (q) (a)) * (g))) (mu (mu (p) (a)) (e)) (mu (mu (q) (a)) (g))) (r' := mu (mu (u) (e)) (d)) (v := (((p) * (a)) * (e)) + (((q) * (a)) * (g))) (v' := ((u) * (e)) * (d)) p7 (fun z => v5 (fun w => z (Or.inl (Or.inl w)))) (fun z => v7 z)
  have m8 := ad_far ((((((((False) ∨ far ((p) * (a))) ∨ far ((mu (p) (a)) * (e))) ∨ far ((q) * (a))) ∨ far ((mu (q) (a)) * (g))) ∨ far ((mu (mu (p) (a)) (e)) + (mu (mu (q) (a)) (g)))) ∨ far ((u) * (e))) ∨ far ((mu (u) (e)) * (d))) (ad (((((False) ∨ far ((p) * (a))) ∨ far ((mu (p) (a)) * (e))) ∨ far ((q) * (a))) ∨ far ((mu (q) (a)) * (g))) (mu (mu (p) (a)) (e)) (mu (mu (q) (a)) (g))) (mu (mu (u) (e)) (d))
  obtain ⟨p9, v9⟩ := RS.mul (r := w) (r' := d) (v := w) (v' := d) p8 (fun _ => rfl) (fun _ => rfl)
  have m9 := mu_far (w) (d)
  obtain ⟨p10, v10⟩ := RS.mul (r := mu (w) (d)) (r' := g) (v := (w) * (d)) (v' := g) p9 (fun z => v9 z) (fun _ => rfl)
  have m10 := mu_far (mu (w) (d)) (g)
  obtain ⟨p11, v11⟩ := RS.add (r := ad ((((((((False) ∨ far ((p) * (a))) ∨ far ((mu (p) (a)) * (e))) ∨ far ((q) * (a))) ∨ far ((mu (q) (a)) * (g))) ∨ far ((mu (mu (p) (a)) (e)) + (mu (mu (q) (a)) (g)))) ∨ far ((u) * (e))) ∨ far ((mu (u) (e)) * (d))) (ad (((((False) ∨ far ((p) * (a))) ∨ far ((mu (p) (a)) * (e))) ∨ far ((q) * (a))) ∨ far ((mu (q) (a)) * (g))) (mu (mu (p) (a)) (e)) (mu (mu (q) (a)) (g))) (mu (mu (u) (e)) (d))) (r' := mu (mu (w) (d)) (g)) (v := ((((p) * (a)) * (e)) + (((q) * (a)) * (g))) + (((u) * (e)) * (d))) (v' := ((w) * (d)) * (g)) p10 (fun z => v8 (fun w => z (Or.inl (Or.inl w)))) (fun z => v10 z)
  have m11 := ad_far (((((((((((False) ∨ far ((p) * (a))) ∨ far ((mu (p) (a)) * (e))) ∨ far ((q) * (a))) ∨ far ((mu (q) (a)) * (g))) ∨ far ((mu (mu (p) (a)) (e)) + (mu (mu (q) (a)) (g)))) ∨ far ((u) * (e))) ∨ far ((mu (u) (e)) * (d))) ∨ far ((ad (((((False) ∨ far ((p) * (a))) ∨ far ((mu (p) (a)) * (e))) ∨ far ((q) * (a))) ∨ far ((mu (q) (a)) * (g))) (mu (mu (p) (a)) (e)) (mu (mu (q) (a)) (g))) + (mu (mu (u) (e)) (d)))) ∨ far ((w) * (d))) ∨ far ((mu (w) (d)) * (g))) (ad ((((((((False) ∨ far ((p) * (a))) ∨ far ((mu (p) (a)) * (e))) ∨ far ((q) * (a))) ∨ far ((mu (q) (a)) * (g))) ∨ far ((mu (mu (p) (a)) (e)) + (mu (mu (q) (a)) (g)))) ∨ far ((u) * (e))) ∨ far ((mu (u) (e)) * (d))) (ad (((((False) ∨ far ((p) * (a))) ∨ far ((mu (p) (a)) * (e))) ∨ far ((q) * (a))) ∨ far ((mu (q) (a)) * (g))) (mu (mu (p) (a)) (e)) (mu (mu (q) (a)) (g))) (mu (mu (u) (e)) (d))) (mu (mu (w) (d)) (g))
  have KA := (((((CV.lit fp).tms (CV.lit fa)).tms (CV.lit fe)).pls (((CV.lit fq).tms (CV.lit fa)).tms (CV.lit fg))).pls (((CV.lit fu).tms (CV.lit fe)).tms (CV.lit fd))).pls (((CV.lit fw).tms (CV.lit fd)).tms (CV.lit fg))
  have hQ : ((((((((((((False) ∨ far ((p) * (a))) ∨ far (((p) * (a)) * (e))) ∨ far ((q) * (a))) ∨ far (((q) * (a)) * (g))) ∨ far ((((p) * (a)) * (e)) + (((q) * (a)) * (g)))) ∨ far ((u) * (e))) ∨ far (((u) * (e)) * (d))) ∨ far (((((p) * (a)) * (e)) + (((q) * (a)) * (g))) + (((u) * (e)) * (d)))) ∨ far ((w) * (d))) ∨ far (((w) * (d)) * (g))) ∨ far ((((((p) * (a)) * (e)) + (((q) * (a)) * (g))) + (((u) * (e)) * (d))) + (((w) * (d)) * (g)))) ↔ far (mxV p q u w a d e g) := by
    unfold mxV
    rw [KA.fars]
    simp only [or_assoc, false_or, or_false]
  refine ⟨ad (((((((((((False) ∨ far ((p) * (a))) ∨ far ((mu (p) (a)) * (e))) ∨ far ((q) * (a))) ∨ far ((mu (q) (a)) * (g))) ∨ far ((mu (mu (p) (a)) (e)) + (mu (mu (q) (a)) (g)))) ∨ far ((u) * (e))) ∨ far ((mu (u) (e)) * (d))) ∨ far ((ad (((((False) ∨ far ((p) * (a))) ∨ far ((mu (p) (a)) * (e))) ∨ far ((q) * (a))) ∨ far ((mu (q) (a)) * (g))) (mu (mu (p) (a)) (e)) (mu (mu (q) (a)) (g))) + (mu (mu (u) (e)) (d)))) ∨ far ((w) * (d))) ∨ far ((mu (w) (d)) * (g))) (ad ((((((((False) ∨ far ((p) * (a))) ∨ far ((mu (p) (a)) * (e))) ∨ far ((q) * (a))) ∨ far ((mu (q) (a)) * (g))) ∨ far ((mu (mu (p) (a)) (e)) + (mu (mu (q) (a)) (g)))) ∨ far ((u) * (e))) ∨ far ((mu (u) (e)) * (d))) (ad (((((False) ∨ far ((p) * (a))) ∨ far ((mu (p) (a)) * (e))) ∨ far ((q) * (a))) ∨ far ((mu (q) (a)) * (g))) (mu (mu (p) (a)) (e)) (mu (mu (q) (a)) (g))) (mu (mu (u) (e)) (d))) (mu (mu (w) (d)) (g)), ?_, fun z => ?_, m11⟩
  · rw [← ib_congr (p11.trans hQ)]
    unfold fX9_mixed
    simp only [nk, N_mul, N_add, Int.reduceAdd]
    simp (disch := omega) only [↓iNlt_t, ↓iNlt_f, ↓iNle_t, ↓iNle_f, ↓iNeq_t, ↓iNeq_f, ↓iJlt_t, ↓iJlt_f, ↓iJle_t, ↓iJle_f, ↓iJeq_t, ↓iJeq_f, ↓iZlt_t, ↓iZlt_f, ↓iZle_t, ↓iZle_f, ↓iZeq_t, ↓iZeq_f, ↓iQlt_t, ↓iQlt_f, ↓iQle_t, ↓iQle_f, ↓iQeq_t, ↓iQeq_f, ↓iAnd_t, ↓iAnd_f, ↓iOr_t, ↓iOr_f, ↓iIff_t, ↓iIff_f, ↓iNot_t, ↓iNot_f, ↓iTrue, ↓iFalse, ↓ckN, ↓ckJ, ↓gIT, ↓gLT, ↓gRT, ↓cvT, ↓pIT, ↓pLT, ↓pZT, ↓asZ, ↓aNT, ↓arL, ↓asL, ↓arI, ↓asI, ↓aR_1, ↓bnd_some, ↓wh_eq, ↓on_some, ↓on_none, asZ, arL, asL, arI, asI, aR_1, bnd_some, wh_eq, on_some, on_none, tnT, tnU, tnL, nk, jk, N_add, N_mul, N_sub, N_neg, J_add, J_mul, J_sub, J_neg, N_J, ↓pZ9, ↓b_mul, ↓b_add, h0, h1, h2, h3, b1, b2, b3, b4]
  · rw [v11 (fun z' => z (hQ.mp z'))]
    have := (KA.2 (fun z' => z (KA.fars.mpr z'))).1
    exact this.symm
theorem q_mixed4 {X Y : Nat} (hX : St X) (hY : St Y) (h0 : l 6 4 = p) (h1 : l 6 5 = q) (h2 : l 6 6 = u) (h3 : l 6 7 = w) (b1 : l X 6 = a) (b2 : l X 9 = d) (b3 : l Y 6 = e) (b4 : l Y 9 = g) (fp : ¬ far p) (fq : ¬ far q) (fu : ¬ far u) (fw : ¬ far w) (fa : ¬ far a) (fd : ¬ far d) (fe : ¬ far e) (fg : ¬ far g) : fX3_mixed 6 (N 4) X Y (hq i l x y) = some (J (mxV p q u w a d e g), hq i l x y) := by
  have s1 := hX.1.1
  have s2 := hY.1.1
  have op := (CV.lit fp).ok
  have oq := (CV.lit fq).ok
  have ou := (CV.lit fu).ok
  have ow := (CV.lit fw).ok
  have oa := (CV.lit fa).ok
  have od := (CV.lit fd).ok
  have oe := (CV.lit fe).ok
  have og := (CV.lit fg).ok
  have t0 := tm_ok (p) (a)
  have t1 := tm_ok (tm p a) (e)
  have t2 := tm_ok (q) (a)
  have t3 := tm_ok (tm q a) (g)
  have t4 := tm_ok (u) (e)
  have t5 := tm_ok (tm u e) (d)
  have t6 := tm_ok (w) (d)
  have t7 := tm_ok (tm w d) (g)
  have u1 := pl_ok (tm (tm p a) e) (tm (tm q a) g)
  have u2 := pl_ok (pl (tm (tm p a) e) (tm (tm q a) g)) (tm (tm u e) d)
  unfold fX3_mixed mxV
  simp only [nk, N_add, Int.reduceAdd]
  simp (disch := omega) only [↓iNlt_t, ↓iNlt_f, ↓iNle_t, ↓iNle_f, ↓iNeq_t, ↓iNeq_f, ↓iJlt_t, ↓iJlt_f, ↓iJle_t, ↓iJle_f, ↓iJeq_t, ↓iJeq_f, ↓iZlt_t, ↓iZlt_f, ↓iZle_t, ↓iZle_f, ↓iZeq_t, ↓iZeq_f, ↓iQlt_t, ↓iQlt_f, ↓iQle_t, ↓iQle_f, ↓iQeq_t, ↓iQeq_f, ↓iAnd_t, ↓iAnd_f, ↓iOr_t, ↓iOr_f, ↓iIff_t, ↓iIff_f, ↓iNot_t, ↓iNot_f, ↓iTrue, ↓iFalse, ↓ckN, ↓ckJ, ↓gIT, ↓gLT, ↓gRT, ↓cvT, ↓pIT, ↓pLT, ↓pZT, ↓asZ, ↓aNT, ↓arL, ↓asL, ↓arI, ↓asI, ↓aR_1, ↓bnd_some, ↓wh_eq, ↓on_some, ↓on_none, asZ, arL, asL, arI, asI, aR_1, bnd_some, wh_eq, on_some, on_none, tnT, tnU, tnL, nk, jk, N_add, N_mul, N_sub, N_neg, J_add, J_mul, J_sub, J_neg, N_J, ↓gI_q s1, ↓gI_q s2, ↓gL_q s1, ↓gL_q s2, ↓b_times, ↓b_plus, h0, h1, h2, h3, b1, b2, b3, b4]
end MX
