/-! ===== making: CORNERS of the reference: made by rc.py ===== -/
section RC
variable {ρ : Type} {i l : Nat → Nat → Int} {x y : Option Nat}
theorem b_corner {k u w b : Int} (F : Unit → AH → Fn ρ) (hk : 0 ≤ k ∧ k < 4) : bnd (fX9_corner 108 (J u) (J w) (hq (w1 (w1 i 108 25 k) 108 0 b) l x y)) F = F () (hq (w1 (w1 i 108 25 (k + 1)) 108 0 b) (w1 (w1 l 124 k.toNat u) 125 k.toNat w) x y) := by
  have e : fX9_corner 108 (J u) (J w) (hq (w1 (w1 i 108 25 k) 108 0 b) l x y) = some ((), hq (w1 (w1 i 108 25 (k + 1)) 108 0 b) (w1 (w1 l 124 k.toNat u) 125 k.toNat w) x y) := by
    unfold fX9_corner
    simp only [nk]
    simp (disch := omega) only [↓iNlt_t, ↓iNlt_f, ↓iNle_t, ↓iNle_f, ↓iNeq_t, ↓iNeq_f, ↓iJlt_t, ↓iJlt_f, ↓iJle_t, ↓iJle_f, ↓iJeq_t, ↓iJeq_f, ↓iZlt_t, ↓iZlt_f, ↓iZle_t, ↓iZle_f, ↓iZeq_t, ↓iZeq_f, ↓iQlt_t, ↓iQlt_f, ↓iQle_t, ↓iQle_f, ↓iQeq_t, ↓iQeq_f, ↓iAnd_t, ↓iAnd_f, ↓iOr_t, ↓iOr_f, ↓iIff_t, ↓iIff_f, ↓iNot_t, ↓iNot_f, ↓iTrue, ↓iFalse, ↓ckN, ↓ckJ, ↓gIT, ↓gLT, ↓gRT, ↓cvT, ↓pIT, ↓pLT, ↓pZT, ↓asZ, ↓aNT, ↓arL, ↓asL, ↓arI, ↓asI, ↓aR_1, ↓bnd_some, ↓wh_eq, ↓on_some, ↓on_none, asZ, arL, asL, arI, asI, aR_1, bnd_some, wh_eq, on_some, on_none, tnT, tnU, tnL, nk, jk, N_add, N_mul, N_sub, N_neg, J_add, J_mul, J_sub, J_neg, N_J, w1_n, w1_s]
    rw [w1_comm _ b (k + 1) (by omega), w1_w1]
  exact bq e F
theorem r_corn00 {v : Nat → Int} (hv : ∀ j, j < 8 → l 121 j = v j ∧ ¬ far (v j)) :
    ∃ l', (∀ c, c ≠ 124 → c ≠ 125 → l' c = l c) ∧ (farC 0 0 (v 0) (v 1) (v 2) (v 3) ∨ farC 0 0 (v 4) (v 5) (v 6) (v 7) → fX9_findCorners 108 (N 0) (N 0) (hq i l x y) = some ((), hq (w1 (w1 i 108 25 4) 108 0 1) l' x y)) ∧ (¬ (farC 0 0 (v 0) (v 1) (v 2) (v 3) ∨ farC 0 0 (v 4) (v 5) (v 6) (v 7)) → fX9_findCorners 108 (N 0) (N 0) (hq i l x y) = some ((), hq (w1 (w1 i 108 25 4) 108 0 0) l' x y) ∧ ∀ k, k < nC 0 0 → l' 124 k = cor 0 0 (v 0) (v 1) (v 2) (v 3) k ∧ l' 125 k = cor 0 0 (v 4) (v 5) (v 6) (v 7) k) := by
  obtain ⟨⟨a0, f0⟩, ⟨a1, f1⟩, ⟨a2, f2⟩, ⟨a3, f3⟩, ⟨a4, f4⟩, ⟨a5, f5⟩, ⟨a6, f6⟩, ⟨a7, f7⟩⟩ := all8.mp hv
  obtain ⟨p1, v1⟩ := RS.add (P := False) (Q := False) (r := v 0) (r' := v 1) (v := v 0) (v' := v 1) Iff.rfl (fun _ => rfl) (fun _ => rfl)
  have m1 := ad_far (False) (v 0) (v 1)
  obtain ⟨p2, v2⟩ := RS.add (r := ad (False) (v 0) (v 1)) (r' := v 2) (v := (v 0) + (v 1)) (v' := v 2) p1 (fun z => v1 z) (fun _ => rfl)
  have m2 := ad_far ((False) ∨ far ((v 0) + (v 1))) (ad (False) (v 0) (v 1)) (v 2)
  obtain ⟨p3, v3⟩ := RS.add (r := ad ((False) ∨ far ((v 0) + (v 1))) (ad (False) (v 0) (v 1)) (v 2)) (r' := v 3) (v := ((v 0) + (v 1)) + (v 2)) (v' := v 3) p2 (fun z => v2 z) (fun _ => rfl)
  have m3 := ad_far (((False) ∨ far ((v 0) + (v 1))) ∨ far ((ad (False) (v 0) (v 1)) + (v 2))) (ad ((False) ∨ far ((v 0) + (v 1))) (ad (False) (v 0) (v 1)) (v 2)) (v 3)
  obtain ⟨p4, v4⟩ := RS.add (r := v 4) (r' := v 5) (v := v 4) (v' := v 5) p3 (fun _ => rfl) (fun _ => rfl)
  have m4 := ad_far ((((False) ∨ far ((v 0) + (v 1))) ∨ far ((ad (False) (v 0) (v 1)) + (v 2))) ∨ far ((ad ((False) ∨ far ((v 0) + (v 1))) (ad (False) (v 0) (v 1)) (v 2)) + (v 3))) (v 4) (v 5)
  obtain ⟨p5, v5⟩ := RS.add (r := ad ((((False) ∨ far ((v 0) + (v 1))) ∨ far ((ad (False) (v 0) (v 1)) + (v 2))) ∨ far ((ad ((False) ∨ far ((v 0) + (v 1))) (ad (False) (v 0) (v 1)) (v 2)) + (v 3))) (v 4) (v 5)) (r' := v 6) (v := (v 4) + (v 5)) (v' := v 6) p4 (fun z => v4 z) (fun _ => rfl)
  have m5 := ad_far (((((False) ∨ far ((v 0) + (v 1))) ∨ far ((ad (False) (v 0) (v 1)) + (v 2))) ∨ far ((ad ((False) ∨ far ((v 0) + (v 1))) (ad (False) (v 0) (v 1)) (v 2)) + (v 3))) ∨ far ((v 4) + (v 5))) (ad ((((False) ∨ far ((v 0) + (v 1))) ∨ far ((ad (False) (v 0) (v 1)) + (v 2))) ∨ far ((ad ((False) ∨ far ((v 0) + (v 1))) (ad (False) (v 0) (v 1)) (v 2)) + (v 3))) (v 4) (v 5)) (v 6)
  obtain ⟨p6, v6⟩ := RS.add (r := ad (((((False) ∨ far ((v 0) + (v 1))) ∨ far ((ad (False) (v 0) (v 1)) + (v 2))) ∨ far ((ad ((False) ∨ far ((v 0) + (v 1))) (ad (False) (v 0) (v 1)) (v 2)) + (v 3))) ∨ far ((v 4) + (v 5))) (ad ((((False) ∨ far ((v 0) + (v 1))) ∨ far ((ad (False) (v 0) (v 1)) + (v 2))) ∨ far ((ad ((False) ∨ far ((v 0) + (v 1))) (ad (False) (v 0) (v 1)) (v 2)) + (v 3))) (v 4) (v 5)) (v 6)) (r' := v 7) (v := ((v 4) + (v 5)) + (v 6)) (v' := v 7) p5 (fun z => v5 z) (fun _ => rfl)
  have m6 := ad_far ((((((False) ∨ far ((v 0) + (v 1))) ∨ far ((ad (False) (v 0) (v 1)) + (v 2))) ∨ far ((ad ((False) ∨ far ((v 0) + (v 1))) (ad (False) (v 0) (v 1)) (v 2)) + (v 3))) ∨ far ((v 4) + (v 5))) ∨ far ((ad ((((False) ∨ far ((v 0) + (v 1))) ∨ far ((ad (False) (v 0) (v 1)) + (v 2))) ∨ far ((ad ((False) ∨ far ((v 0) + (v 1))) (ad (False) (v 0) (v 1)) (v 2)) + (v 3))) (v 4) (v 5)) + (v 6))) (ad (((((False) ∨ far ((v 0) + (v 1))) ∨ far ((ad (False) (v 0) (v 1)) + (v 2))) ∨ far ((ad ((False) ∨ far ((v 0) + (v 1))) (ad (False) (v 0) (v 1)) (v 2)) + (v 3))) ∨ far ((v 4) + (v 5))) (ad ((((False) ∨ far ((v 0) + (v 1))) ∨ far ((ad (False) (v 0) (v 1)) + (v 2))) ∨ far ((ad ((False) ∨ far ((v 0) + (v 1))) (ad (False) (v 0) (v 1)) (v 2)) + (v 3))) (v 4) (v 5)) (v 6)) (v 7)
  obtain ⟨p7, v7⟩ := RS.add (r := v 0) (r' := v 1) (v := v 0) (v' := v 1) p6 (fun _ => rfl) (fun _ => rfl)
  have m7 := ad_far (((((((False) ∨ far ((v 0) + (v 1))) ∨ far ((ad (False) (v 0) (v 1)) + (v 2))) ∨ far ((ad ((False) ∨ far ((v 0) + (v 1))) (ad (False) (v 0) (v 1)) (v 2)) + (v 3))) ∨ far ((v 4) + (v 5))) ∨ far ((ad ((((False) ∨ far ((v 0) + (v 1))) ∨ far ((ad (False) (v 0) (v 1)) + (v 2))) ∨ far ((ad ((False) ∨ far ((v 0) + (v 1))) (ad (False) (v 0) (v 1)) (v 2)) + (v 3))) (v 4) (v 5)) + (v 6))) ∨ far ((ad (((((False) ∨ far ((v 0) + (v 1))) ∨ far ((ad (False) (v 0) (v 1)) + (v 2))) ∨ far ((ad ((False) ∨ far ((v 0) + (v 1))) (ad (False) (v 0) (v 1)) (v 2)) + (v 3))) ∨ far ((v 4) + (v 5))) (ad ((((False) ∨ far ((v 0) + (v 1))) ∨ far ((ad (False) (v 0) (v 1)) + (v 2))) ∨ far ((ad ((False) ∨ far ((v 0) + (v 1))) (ad (False) (v 0) (v 1)) (v 2)) + (v 3))) (v 4) (v 5)) (v 6)) + (v 7))) (v 0) (v 1)
  obtain ⟨p8, v8⟩ := RS.add (r := v 4) (r' := v 5) (v := v 4) (v' := v 5) p7 (fun _ => rfl) (fun _ => rfl)
  have m8 := ad_far ((((((((False) ∨ far ((v 0) + (v 1))) ∨ far ((ad (False) (v 0) (v 1)) + (v 2))) ∨ far ((ad ((False) ∨ far ((v 0) + (v 1))) (ad (False) (v 0) (v 1)) (v 2)) + (v 3))) ∨ far ((v 4) + (v 5))) ∨ far ((ad ((((False) ∨ far ((v 0) + (v 1))) ∨ far ((ad (False) (v 0) (v 1)) + (v 2))) ∨ far ((ad ((False) ∨ far ((v 0) + (v 1))) (ad (False) (v 0) (v 1)) (v 2)) + (v 3))) (v 4) (v 5)) + (v 6))) ∨ far ((ad (((((False) ∨ far ((v 0) + (v 1))) ∨ far ((ad (False) (v 0) (v 1)) + (v 2))) ∨ far ((ad ((False) ∨ far ((v 0) + (v 1))) (ad (False) (v 0) (v 1)) (v 2)) + (v 3))) ∨ far ((v 4) + (v 5))) (ad ((((False) ∨ far ((v 0) + (v 1))) ∨ far ((ad (False) (v 0) (v 1)) + (v 2))) ∨ far ((ad ((False) ∨ far ((v 0) + (v 1))) (ad (False) (v 0) (v 1)) (v 2)) + (v 3))) (v 4) (v 5)) (v 6)) + (v 7))) ∨ far ((v 0) + (v 1))) (v 4) (v 5)
  obtain ⟨p9, v9⟩ := RS.add (r := v 0) (r' := v 2) (v := v 0) (v' := v 2) p8 (fun _ => rfl) (fun _ => rfl)
  have m9 := ad_far (((((((((False) ∨ far ((v 0) + (v 1))) ∨ far ((ad (False) (v 0) (v 1)) + (v 2))) ∨ far ((ad ((False) ∨ far ((v 0) + (v 1))) (ad (False) (v 0) (v 1)) (v 2)) + (v 3))) ∨ far ((v 4) + (v 5))) ∨ far ((ad ((((False) ∨ far ((v 0) + (v 1))) ∨ far ((ad (False) (v 0) (v 1)) + (v 2))) ∨ far ((ad ((False) ∨ far ((v 0) + (v 1))) (ad (False) (v 0) (v 1)) (v 2)) + (v 3))) (v 4) (v 5)) + (v 6))) ∨ far ((ad (((((False) ∨ far ((v 0) + (v 1))) ∨ far ((ad (False) (v 0) (v 1)) + (v 2))) ∨ far ((ad ((False) ∨ far ((v 0) + (v 1))) (ad (False) (v 0) (v 1)) (v 2)) + (v 3))) ∨ far ((v 4) + (v 5))) (ad ((((False) ∨ far ((v 0) + (v 1))) ∨ far ((ad (False) (v 0) (v 1)) + (v 2))) ∨ far ((ad ((False) ∨ far ((v 0) + (v 1))) (ad (False) (v 0) (v 1)) (v 2)) + (v 3))) (v 4) (v 5)) (v 6)) + (v 7))) ∨ far ((v 0) + (v 1))) ∨ far ((v 4) + (v 5))) (v 0) (v 2)
  obtain ⟨p10, v10⟩ := RS.add (r := v 4) (r' := v 6) (v := v 4) (v' := v 6) p9 (fun _ => rfl) (fun _ => rfl)
  have m10 := ad_far ((((((((((False) ∨ far ((v 0) + (v 1))) ∨ far ((ad (False) (v 0) (v 1)) + (v 2))) ∨ far ((ad ((False) ∨ far ((v 0) + (v 1))) (ad (False) (v 0) (v 1)) (v 2)) + (v 3))) ∨ far ((v 4) + (v 5))) ∨ far ((ad ((((False) ∨ far ((v 0) + (v 1))) ∨ far ((ad (False) (v 0) (v 1)) + (v 2))) ∨ far ((ad ((False) ∨ far ((v 0) + (v 1))) (ad (False) (v 0) (v 1)) (v 2)) + (v 3))) (v 4) (v 5)) + (v 6))) ∨ far ((ad (((((False) ∨ far ((v 0) + (v 1))) ∨ far ((ad (False) (v 0) (v 1)) + (v 2))) ∨ far ((ad ((False) ∨ far ((v 0) + (v 1))) (ad (False) (v 0) (v 1)) (v 2)) + (v 3))) ∨ far ((v 4) + (v 5))) (ad ((((False) ∨ far ((v 0) + (v 1))) ∨ far ((ad (False) (v 0) (v 1)) + (v 2))) ∨ far ((ad ((False) ∨ far ((v 0) + (v 1))) (ad (False) (v 0) (v 1)) (v 2)) + (v 3))) (v 4) (v 5)) (v 6)) + (v 7))) ∨ far ((v 0) + (v 1))) ∨ far ((v 4) + (v 5))) ∨ far ((v 0) + (v 2))) (v 4) (v 6)
  obtain ⟨L, hL⟩ : ∃ L, L = w1 (w1 (w1 (w1 (w1 (w1 (w1 (w1 (l) 124 0 (ad (((False) ∨ far ((v 0) + (v 1))) ∨ far ((ad (False) (v 0) (v 1)) + (v 2))) (ad ((False) ∨ far ((v 0) + (v 1))) (ad (False) (v 0) (v 1)) (v 2)) (v 3))) 125 0 (ad ((((((False) ∨ far ((v 0) + (v 1))) ∨ far ((ad (False) (v 0) (v 1)) + (v 2))) ∨ far ((ad ((False) ∨ far ((v 0) + (v 1))) (ad (False) (v 0) (v 1)) (v 2)) + (v 3))) ∨ far ((v 4) + (v 5))) ∨ far ((ad ((((False) ∨ far ((v 0) + (v 1))) ∨ far ((ad (False) (v 0) (v 1)) + (v 2))) ∨ far ((ad ((False) ∨ far ((v 0) + (v 1))) (ad (False) (v 0) (v 1)) (v 2)) + (v 3))) (v 4) (v 5)) + (v 6))) (ad (((((False) ∨ far ((v 0) + (v 1))) ∨ far ((ad (False) (v 0) (v 1)) + (v 2))) ∨ far ((ad ((False) ∨ far ((v 0) + (v 1))) (ad (False) (v 0) (v 1)) (v 2)) + (v 3))) ∨ far ((v 4) + (v 5))) (ad ((((False) ∨ far ((v 0) + (v 1))) ∨ far ((ad (False) (v 0) (v 1)) + (v 2))) ∨ far ((ad ((False) ∨ far ((v 0) + (v 1))) (ad (False) (v 0) (v 1)) (v 2)) + (v 3))) (v 4) (v 5)) (v 6)) (v 7))) 124 1 (ad (((((((False) ∨ far ((v 0) + (v 1))) ∨ far ((ad (False) (v 0) (v 1)) + (v 2))) ∨ far ((ad ((False) ∨ far ((v 0) + (v 1))) (ad (False) (v 0) (v 1)) (v 2)) + (v 3))) ∨ far ((v 4) + (v 5))) ∨ far ((ad ((((False) ∨ far ((v 0) + (v 1))) ∨ far ((ad (False) (v 0) (v 1)) + (v 2))) ∨ far ((ad ((False) ∨ far ((v 0) + (v 1))) (ad (False) (v 0) (v 1)) (v 2)) + (v 3))) (v 4) (v 5)) + (v 6))) ∨ far ((ad (((((False) ∨ far ((v 0) + (v 1))) ∨ far ((ad (False) (v 0) (v 1)) + (v 2))) ∨ far ((ad ((False) ∨ far ((v 0) + (v 1))) (ad (False) (v 0) (v 1)) (v 2)) + (v 3))) ∨ far ((v 4) + (v 5))) (ad ((((False) ∨ far ((v 0) + (v 1))) ∨ far ((ad (False) (v 0) (v 1)) + (v 2))) ∨ far ((ad ((False) ∨ far ((v 0) + (v 1))) (ad (False) (v 0) (v 1)) (v 2)) + (v 3))) (v 4) (v 5)) (v 6)) + (v 7))) (v 0) (v 1))) 125 1 (ad ((((((((False) ∨ far ((v 0) + (v 1))) ∨ far ((ad (False) (v 0) (v 1)) + (v 2))) ∨ far ((ad ((False) ∨ far ((v 0) + (v 1))) (ad (False) (v 0) (v 1)) (v 2)) + (v 3))) ∨ far ((v 4) + (v 5))) ∨ far ((ad ((((False) ∨ far ((v 0) + (v 1))) ∨ far ((ad (False) (v 0) (v 1)) + (v 2))) ∨ far ((ad ((False) ∨ far ((v 0) + (v 1))) (ad (False) (v 0) (v 1)) (v 2)) + (v 3))) (v 4) (v 5)) + (v 6))) ∨ far ((ad (((((False) ∨ far ((v 0) + (v 1))) ∨ far ((ad (False) (v 0) (v 1)) + (v 2))) ∨ far ((ad ((False) ∨ far ((v 0) + (v 1))) (ad (False) (v 0) (v 1)) (v 2)) + (v 3))) ∨ far ((v 4) + (v 5))) (ad ((((False) ∨ far ((v 0) + (v 1))) ∨ far ((ad (False) (v 0) (v 1)) + (v 2))) ∨ far ((ad ((False) ∨ far ((v 0) + (v 1))) (ad (False) (v 0) (v 1)) (v 2)) + (v 3))) (v 4) (v 5)) (v 6)) + (v 7))) ∨ far ((v 0) + (v 1))) (v 4) (v 5))) 124 2 (ad (((((((((False) ∨ far ((v 0) + (v 1))) ∨ far ((ad (False) (v 0) (v 1)) + (v 2))) ∨ far ((ad ((False) ∨ far ((v 0) + (v 1))) (ad (False) (v 0) (v 1)) (v 2)) + (v 3))) ∨ far ((v 4) + (v 5))) ∨ far ((ad ((((False) ∨ far ((v 0) + (v 1))) ∨ far ((ad (False) (v 0) (v 1)) + (v 2))) ∨ far ((ad ((False) ∨ far ((v 0) + (v 1))) (ad (False) (v 0) (v 1)) (v 2)) + (v 3))) (v 4) (v 5)) + (v 6))) ∨ far ((ad (((((False) ∨ far ((v 0) + (v 1))) ∨ far ((ad (False) (v 0) (v 1)) + (v 2))) ∨ far ((ad ((False) ∨ far ((v 0) + (v 1))) (ad (False) (v 0) (v 1)) (v 2)) + (v 3))) ∨ far ((v 4) + (v 5))) (ad ((((False) ∨ far ((v 0) + (v 1))) ∨ far ((ad (False) (v 0) (v 1)) + (v 2))) ∨ far ((ad ((False) ∨ far ((v 0) + (v 1))) (ad (False) (v 0) (v 1)) (v 2)) + (v 3))) (v 4) (v 5)) (v 6)) + (v 7))) ∨ far ((v 0) + (v 1))) ∨ far ((v 4) + (v 5))) (v 0) (v 2))) 125 2 (ad ((((((((((False) ∨ far ((v 0) + (v 1))) ∨ far ((ad (False) (v 0) (v 1)) + (v 2))) ∨ far ((ad ((False) ∨ far ((v 0) + (v 1))) (ad (False) (v 0) (v 1)) (v 2)) + (v 3))) ∨ far ((v 4) + (v 5))) ∨ far ((ad ((((False) ∨ far ((v 0) + (v 1))) ∨ far ((ad (False) (v 0) (v 1)) + (v 2))) ∨ far ((ad ((False) ∨ far ((v 0) + (v 1))) (ad (False) (v 0) (v 1)) (v 2)) + (v 3))) (v 4) (v 5)) + (v 6))) ∨ far ((ad (((((False) ∨ far ((v 0) + (v 1))) ∨ far ((ad (False) (v 0) (v 1)) + (v 2))) ∨ far ((ad ((False) ∨ far ((v 0) + (v 1))) (ad (False) (v 0) (v 1)) (v 2)) + (v 3))) ∨ far ((v 4) + (v 5))) (ad ((((False) ∨ far ((v 0) + (v 1))) ∨ far ((ad (False) (v 0) (v 1)) + (v 2))) ∨ far ((ad ((False) ∨ far ((v 0) + (v 1))) (ad (False) (v 0) (v 1)) (v 2)) + (v 3))) (v 4) (v 5)) (v 6)) + (v 7))) ∨ far ((v 0) + (v 1))) ∨ far ((v 4) + (v 5))) ∨ far ((v 0) + (v 2))) (v 4) (v 6))) 124 3 (v 0)) 125 3 (v 4) := ⟨_, rfl⟩
  have E : fX9_findCorners 108 (N 0) (N 0) (hq i l x y) = some ((), hq (w1 (w1 i 108 25 4) 108 0 (ib (((((((((((False) ∨ far ((v 0) + (v 1))) ∨ far ((ad (False) (v 0) (v 1)) + (v 2))) ∨ far ((ad ((False) ∨ far ((v 0) + (v 1))) (ad (False) (v 0) (v 1)) (v 2)) + (v 3))) ∨ far ((v 4) + (v 5))) ∨ far ((ad ((((False) ∨ far ((v 0) + (v 1))) ∨ far ((ad (False) (v 0) (v 1)) + (v 2))) ∨ far ((ad ((False) ∨ far ((v 0) + (v 1))) (ad (False) (v 0) (v 1)) (v 2)) + (v 3))) (v 4) (v 5)) + (v 6))) ∨ far ((ad (((((False) ∨ far ((v 0) + (v 1))) ∨ far ((ad (False) (v 0) (v 1)) + (v 2))) ∨ far ((ad ((False) ∨ far ((v 0) + (v 1))) (ad (False) (v 0) (v 1)) (v 2)) + (v 3))) ∨ far ((v 4) + (v 5))) (ad ((((False) ∨ far ((v 0) + (v 1))) ∨ far ((ad (False) (v 0) (v 1)) + (v 2))) ∨ far ((ad ((False) ∨ far ((v 0) + (v 1))) (ad (False) (v 0) (v 1)) (v 2)) + (v 3))) (v 4) (v 5)) (v 6)) + (v 7))) ∨ far ((v 0) + (v 1))) ∨ far ((v 4) + (v 5))) ∨ far ((v 0) + (v 2))) ∨ far ((v 4) + (v 6))))) L x y) := by
    rw [hL]
    unfold fX9_findCorners fX9_findCorners_38
    simp only [nk]
    simp (disch := omega) only [↓iNlt_t, ↓iNlt_f, ↓iNle_t, ↓iNle_f, ↓iNeq_t, ↓iNeq_f, ↓iJlt_t, ↓iJlt_f, ↓iJle_t, ↓iJle_f, ↓iJeq_t, ↓iJeq_f, ↓iZlt_t, ↓iZlt_f, ↓iZle_t, ↓iZle_f, ↓iZeq_t, ↓iZeq_f, ↓iQlt_t, ↓iQlt_f, ↓iQle_t, ↓iQle_f, ↓iQeq_t, ↓iQeq_f, ↓iAnd_t, ↓iAnd_f, ↓iOr_t, ↓iOr_f, ↓iIff_t, ↓iIff_f, ↓iNot_t, ↓iNot_f, ↓iTrue, ↓iFalse, ↓ckN, ↓ckJ, ↓gIT, ↓gLT, ↓gRT, ↓cvT, ↓pIT, ↓pLT, ↓pZT, ↓asZ, ↓aNT, ↓arL, ↓asL, ↓arI, ↓asI, ↓aR_1, ↓bnd_some, ↓wh_eq, ↓on_some, ↓on_none, asZ, arL, asL, arI, asI, aR_1, bnd_some, wh_eq, on_some, on_none, tnT, tnU, tnL, nk, jk, N_add, N_mul, N_sub, N_neg, J_add, J_mul, J_sub, J_neg, N_J, Int.reduceAdd, ↓pZ9, w1_r, a0, a1, a2, a3, a4, a5, a6, a7, ↓b_add, ↓b_corner]
  have Lo : ∀ c, c ≠ 124 → c ≠ 125 → L c = l c := fun c h1 h2 => by rw [hL]; simp (disch := omega) only [w1_r, w1_n, w1_s, true_and, and_true]
  have hQ : (((((((((((False) ∨ far ((v 0) + (v 1))) ∨ far (((v 0) + (v 1)) + (v 2))) ∨ far ((((v 0) + (v 1)) + (v 2)) + (v 3))) ∨ far ((v 4) + (v 5))) ∨ far (((v 4) + (v 5)) + (v 6))) ∨ far ((((v 4) + (v 5)) + (v 6)) + (v 7))) ∨ far ((v 0) + (v 1))) ∨ far ((v 4) + (v 5))) ∨ far ((v 0) + (v 2))) ∨ far ((v 4) + (v 6))) ↔ (farC 0 0 (v 0) (v 1) (v 2) (v 3) ∨ farC 0 0 (v 4) (v 5) (v 6) (v 7)) := by
    rw [farC00, farC00]
    grind
  refine ⟨L, Lo, fun h => ?_, fun h => ?_⟩
  · rw [E, ibT (p10.mpr (hQ.mpr h))]
  · have z' : ¬ (((((((((((False) ∨ far ((v 0) + (v 1))) ∨ far (((v 0) + (v 1)) + (v 2))) ∨ far ((((v 0) + (v 1)) + (v 2)) + (v 3))) ∨ far ((v 4) + (v 5))) ∨ far (((v 4) + (v 5)) + (v 6))) ∨ far ((((v 4) + (v 5)) + (v 6)) + (v 7))) ∨ far ((v 0) + (v 1))) ∨ far ((v 4) + (v 5))) ∨ far ((v 0) + (v 2))) ∨ far ((v 4) + (v 6))) := fun q => h (hQ.mp q)
    refine ⟨by rw [E, ibF (fun q => z' (p10.mp q))], ?_⟩
    rw [show nC 0 0 = 4 from rfl, lt4]
    simp only [corT]
    rw [hL]
    exact ⟨⟨by simp (disch := omega) only [w1_r, w1_n, w1_s, true_and, and_true]; exact v3 (fun q => z' (Or.inl (Or.inl (Or.inl (Or.inl (Or.inl (Or.inl (Or.inl q)))))))), by simp (disch := omega) only [w1_r, w1_n, w1_s, true_and, and_true]; exact v6 (fun q => z' (Or.inl (Or.inl (Or.inl (Or.inl q)))))⟩, ⟨by simp (disch := omega) only [w1_r, w1_n, w1_s, true_and, and_true]; exact v7 (fun q => z' (Or.inl (Or.inl (Or.inl q)))), by simp (disch := omega) only [w1_r, w1_n, w1_s, true_and, and_true]; exact v8 (fun q => z' (Or.inl (Or.inl q)))⟩, ⟨by simp (disch := omega) only [w1_r, w1_n, w1_s, true_and, and_true]; exact v9 (fun q => z' (Or.inl q)), by simp (disch := omega) only [w1_r, w1_n, w1_s, true_and, and_true]; exact v10 (fun q => z' q)⟩, ⟨by simp (disch := omega) only [w1_r, w1_n, w1_s, true_and, and_true], by simp (disch := omega) only [w1_r, w1_n, w1_s, true_and, and_true]⟩⟩
theorem r_corn10 {v : Nat → Int} (hv : ∀ j, j < 8 → l 121 j = v j ∧ ¬ far (v j)) :
    ∃ l', (∀ c, c ≠ 124 → c ≠ 125 → l' c = l c) ∧ (farC 1 0 (v 0) (v 1) (v 2) (v 3) ∨ farC 1 0 (v 4) (v 5) (v 6) (v 7) → fX9_findCorners 108 (N 1) (N 0) (hq i l x y) = some ((), hq (w1 (w1 i 108 25 2) 108 0 1) l' x y)) ∧ (¬ (farC 1 0 (v 0) (v 1) (v 2) (v 3) ∨ farC 1 0 (v 4) (v 5) (v 6) (v 7)) → fX9_findCorners 108 (N 1) (N 0) (hq i l x y) = some ((), hq (w1 (w1 i 108 25 2) 108 0 0) l' x y) ∧ ∀ k, k < nC 1 0 → l' 124 k = cor 1 0 (v 0) (v 1) (v 2) (v 3) k ∧ l' 125 k = cor 1 0 (v 4) (v 5) (v 6) (v 7) k) := by
  obtain ⟨⟨a0, f0⟩, ⟨a1, f1⟩, ⟨a2, f2⟩, ⟨a3, f3⟩, ⟨a4, f4⟩, ⟨a5, f5⟩, ⟨a6, f6⟩, ⟨a7, f7⟩⟩ := all8.mp hv
  obtain ⟨p1, v1⟩ := RS.add (P := False) (Q := False) (r := v 2) (r' := v 3) (v := v 2) (v' := v 3) Iff.rfl (fun _ => rfl) (fun _ => rfl)
  have m1 := ad_far (False) (v 2) (v 3)
  obtain ⟨p2, v2⟩ := RS.add (r := v 6) (r' := v 7) (v := v 6) (v' := v 7) p1 (fun _ => rfl) (fun _ => rfl)
  have m2 := ad_far ((False) ∨ far ((v 2) + (v 3))) (v 6) (v 7)
  obtain ⟨L, hL⟩ : ∃ L, L = w1 (w1 (w1 (w1 (l) 124 0 (ad (False) (v 2) (v 3))) 125 0 (ad ((False) ∨ far ((v 2) + (v 3))) (v 6) (v 7))) 124 1 (v 2)) 125 1 (v 6) := ⟨_, rfl⟩
  have E : fX9_findCorners 108 (N 1) (N 0) (hq i l x y) = some ((), hq (w1 (w1 i 108 25 2) 108 0 (ib (((False) ∨ far ((v 2) + (v 3))) ∨ far ((v 6) + (v 7))))) L x y) := by
    rw [hL]
    unfold fX9_findCorners fX9_findCorners_38
    simp only [nk]
    simp (disch := omega) only [↓iNlt_t, ↓iNlt_f, ↓iNle_t, ↓iNle_f, ↓iNeq_t, ↓iNeq_f, ↓iJlt_t, ↓iJlt_f, ↓iJle_t, ↓iJle_f, ↓iJeq_t, ↓iJeq_f, ↓iZlt_t, ↓iZlt_f, ↓iZle_t, ↓iZle_f, ↓iZeq_t, ↓iZeq_f, ↓iQlt_t, ↓iQlt_f, ↓iQle_t, ↓iQle_f, ↓iQeq_t, ↓iQeq_f, ↓iAnd_t, ↓iAnd_f, ↓iOr_t, ↓iOr_f, ↓iIff_t, ↓iIff_f, ↓iNot_t, ↓iNot_f, ↓iTrue, ↓iFalse, ↓ckN, ↓ckJ, ↓gIT, ↓gLT, ↓gRT, ↓cvT, ↓pIT, ↓pLT, ↓pZT, ↓asZ, ↓aNT, ↓arL, ↓asL, ↓arI, ↓asI, ↓aR_1, ↓bnd_some, ↓wh_eq, ↓on_some, ↓on_none, asZ, arL, asL, arI, asI, aR_1, bnd_some, wh_eq, on_some, on_none, tnT, tnU, tnL, nk, jk, N_add, N_mul, N_sub, N_neg, J_add, J_mul, J_sub, J_neg, N_J, Int.reduceAdd, ↓pZ9, w1_r, a0, a1, a2, a3, a4, a5, a6, a7, ↓b_add, ↓b_corner]
  have Lo : ∀ c, c ≠ 124 → c ≠ 125 → L c = l c := fun c h1 h2 => by rw [hL]; simp (disch := omega) only [w1_r, w1_n, w1_s, true_and, and_true]
  have hQ : (((False) ∨ far ((v 2) + (v 3))) ∨ far ((v 6) + (v 7))) ↔ (farC 1 0 (v 0) (v 1) (v 2) (v 3) ∨ farC 1 0 (v 4) (v 5) (v 6) (v 7)) := by
    rw [farC10, farC10]
    simp only [false_or]
  refine ⟨L, Lo, fun h => ?_, fun h => ?_⟩
  · rw [E, ibT (p2.mpr (hQ.mpr h))]
  · have z' : ¬ (((False) ∨ far ((v 2) + (v 3))) ∨ far ((v 6) + (v 7))) := fun q => h (hQ.mp q)
    refine ⟨by rw [E, ibF (fun q => z' (p2.mp q))], ?_⟩
    rw [show nC 1 0 = 2 from rfl, lt2]
    simp only [corT]
    rw [hL]
    exact ⟨⟨by simp (disch := omega) only [w1_r, w1_n, w1_s, true_and, and_true]; exact v1 (fun q => z' (Or.inl q)), by simp (disch := omega) only [w1_r, w1_n, w1_s, true_and, and_true]; exact v2 (fun q => z' q)⟩, ⟨by simp (disch := omega) only [w1_r, w1_n, w1_s, true_and, and_true], by simp (disch := omega) only [w1_r, w1_n, w1_s, true_and, and_true]⟩⟩
theorem r_corn01 {v : Nat → Int} (hv : ∀ j, j < 8 → l 121 j = v j ∧ ¬ far (v j)) :
    ∃ l', (∀ c, c ≠ 124 → c ≠ 125 → l' c = l c) ∧ (farC 0 1 (v 0) (v 1) (v 2) (v 3) ∨ farC 0 1 (v 4) (v 5) (v 6) (v 7) → fX9_findCorners 108 (N 0) (N 1) (hq i l x y) = some ((), hq (w1 (w1 i 108 25 2) 108 0 1) l' x y)) ∧ (¬ (farC 0 1 (v 0) (v 1) (v 2) (v 3) ∨ farC 0 1 (v 4) (v 5) (v 6) (v 7)) → fX9_findCorners 108 (N 0) (N 1) (hq i l x y) = some ((), hq (w1 (w1 i 108 25 2) 108 0 0) l' x y) ∧ ∀ k, k < nC 0 1 → l' 124 k = cor 0 1 (v 0) (v 1) (v 2) (v 3) k ∧ l' 125 k = cor 0 1 (v 4) (v 5) (v 6) (v 7) k) := by
  obtain ⟨⟨a0, f0⟩, ⟨a1, f1⟩, ⟨a2, f2⟩, ⟨a3, f3⟩, ⟨a4, f4⟩, ⟨a5, f5⟩, ⟨a6, f6⟩, ⟨a7, f7⟩⟩ := all8.mp hv
  obtain ⟨p1, v1⟩ := RS.add (P := False) (Q := False) (r := v 1) (r' := v 3) (v := v 1) (v' := v 3) Iff.rfl (fun _ => rfl) (fun _ => rfl)
  have m1 := ad_far (False) (v 1) (v 3)
  obtain ⟨p2, v2⟩ := RS.add (r := v 5) (r' := v 7) (v := v 5) (v' := v 7) p1 (fun _ => rfl) (fun _ => rfl)
  have m2 := ad_far ((False) ∨ far ((v 1) + (v 3))) (v 5) (v 7)
  obtain ⟨L, hL⟩ : ∃ L, L = w1 (w1 (w1 (w1 (l) 124 0 (ad (False) (v 1) (v 3))) 125 0 (ad ((False) ∨ far ((v 1) + (v 3))) (v 5) (v 7))) 124 1 (v 1)) 125 1 (v 5) := ⟨_, rfl⟩
  have E : fX9_findCorners 108 (N 0) (N 1) (hq i l x y) = some ((), hq (w1 (w1 i 108 25 2) 108 0 (ib (((False) ∨ far ((v 1) + (v 3))) ∨ far ((v 5) + (v 7))))) L x y) := by
    rw [hL]
    unfold fX9_findCorners fX9_findCorners_38
    simp only [nk]
    simp (disch := omega) only [↓iNlt_t, ↓iNlt_f, ↓iNle_t, ↓iNle_f, ↓iNeq_t, ↓iNeq_f, ↓iJlt_t, ↓iJlt_f, ↓iJle_t, ↓iJle_f, ↓iJeq_t, ↓iJeq_f, ↓iZlt_t, ↓iZlt_f, ↓iZle_t, ↓iZle_f, ↓iZeq_t, ↓iZeq_f, ↓iQlt_t, ↓iQlt_f, ↓iQle_t, ↓iQle_f, ↓iQeq_t, ↓iQeq_f, ↓iAnd_t, ↓iAnd_f, ↓iOr_t, ↓iOr_f, ↓iIff_t, ↓iIff_f, ↓iNot_t, ↓iNot_f, ↓iTrue, ↓iFalse, ↓ckN, ↓ckJ, ↓gIT, ↓gLT, ↓gRT, ↓cvT, ↓pIT, ↓pLT, ↓pZT, ↓asZ, ↓aNT, ↓arL, ↓asL, ↓arI, ↓asI, ↓aR_1, ↓bnd_some, ↓wh_eq, ↓on_some, ↓on_none, asZ, arL, asL, arI, asI, aR_1, bnd_some, wh_eq, on_some, on_none, tnT, tnU, tnL, nk, jk, N_add, N_mul, N_sub, N_neg, J_add, J_mul, J_sub, J_neg, N_J, Int.reduceAdd, ↓pZ9, w1_r, a0, a1, a2, a3, a4, a5, a6, a7, ↓b_add, ↓b_corner]
  have Lo : ∀ c, c ≠ 124 → c ≠ 125 → L c = l c := fun c h1 h2 => by rw [hL]; simp (disch := omega) only [w1_r, w1_n, w1_s, true_and, and_true]
  have hQ : (((False) ∨ far ((v 1) + (v 3))) ∨ far ((v 5) + (v 7))) ↔ (farC 0 1 (v 0) (v 1) (v 2) (v 3) ∨ farC 0 1 (v 4) (v 5) (v 6) (v 7)) := by
    rw [farC01, farC01]
    simp only [false_or]
  refine ⟨L, Lo, fun h => ?_, fun h => ?_⟩
  · rw [E, ibT (p2.mpr (hQ.mpr h))]
  · have z' : ¬ (((False) ∨ far ((v 1) + (v 3))) ∨ far ((v 5) + (v 7))) := fun q => h (hQ.mp q)
    refine ⟨by rw [E, ibF (fun q => z' (p2.mp q))], ?_⟩
    rw [show nC 0 1 = 2 from rfl, lt2]
    simp only [corT]
    rw [hL]
    exact ⟨⟨by simp (disch := omega) only [w1_r, w1_n, w1_s, true_and, and_true]; exact v1 (fun q => z' (Or.inl q)), by simp (disch := omega) only [w1_r, w1_n, w1_s, true_and, and_true]; exact v2 (fun q => z' q)⟩, ⟨by simp (disch := omega) only [w1_r, w1_n, w1_s, true_and, and_true], by simp (disch := omega) only [w1_r, w1_n, w1_s, true_and, and_true]⟩⟩
theorem r_corners {ox oy : Int} {v : Nat → Int} (ho : (ox = 0 ∧ oy = 0) ∨ (ox = 1 ∧ oy = 0) ∨ (ox = 0 ∧ oy = 1)) (hv : ∀ j, j < 8 → l 121 j = v j ∧ ¬ far (v j)) :
    ∃ l', (∀ c, c ≠ 124 → c ≠ 125 → l' c = l c) ∧ (farC ox oy (v 0) (v 1) (v 2) (v 3) ∨ farC ox oy (v 4) (v 5) (v 6) (v 7) → fX9_findCorners 108 (N ox) (N oy) (hq i l x y) = some ((), hq (w1 (w1 i 108 25 (nC ox oy : Nat)) 108 0 1) l' x y)) ∧ (¬ (farC ox oy (v 0) (v 1) (v 2) (v 3) ∨ farC ox oy (v 4) (v 5) (v 6) (v 7)) → fX9_findCorners 108 (N ox) (N oy) (hq i l x y) = some ((), hq (w1 (w1 i 108 25 (nC ox oy : Nat)) 108 0 0) l' x y) ∧ ∀ k, k < nC ox oy → l' 124 k = cor ox oy (v 0) (v 1) (v 2) (v 3) k ∧ l' 125 k = cor ox oy (v 4) (v 5) (v 6) (v 7) k) := by
  rcases ho with ⟨rfl, rfl⟩ | ⟨rfl, rfl⟩ | ⟨rfl, rfl⟩
  · exact r_corn00 hv
  · exact r_corn10 hv
  · exact r_corn01 hv
theorem r_ag76z (q k : Nat) (hk : k ≤ 100) : ∀ c : Nat, c ≤ 4 → i 108 25 = c → fX9_agree_76L (q + 1) 108 (N 0) (N k) (hq i l x y) = some (N 0, hq i l x y) := by
  intro c hc hi
  show fX9_agree_76 (fX9_agree_76L q) 108 _ _ _ = _
  unfold fX9_agree_76
  simp only [nk]
  by_cases h : c ≤ k
  · simp (disch := omega) only [↓iNlt_t, ↓iNlt_f, ↓iNle_t, ↓iNle_f, ↓iNeq_t, ↓iNeq_f, ↓iJlt_t, ↓iJlt_f, ↓iJle_t, ↓iJle_f, ↓iJeq_t, ↓iJeq_f, ↓iZlt_t, ↓iZlt_f, ↓iZle_t, ↓iZle_f, ↓iZeq_t, ↓iZeq_f, ↓iQlt_t, ↓iQlt_f, ↓iQle_t, ↓iQle_f, ↓iQeq_t, ↓iQeq_f, ↓iAnd_t, ↓iAnd_f, ↓iOr_t, ↓iOr_f, ↓iIff_t, ↓iIff_f, ↓iNot_t, ↓iNot_f, ↓iTrue, ↓iFalse, ↓ckN, ↓ckJ, ↓gIT, ↓gLT, ↓gRT, ↓cvT, ↓pIT, ↓pLT, ↓pZT, ↓asZ, ↓aNT, ↓arL, ↓asL, ↓arI, ↓asI, ↓aR_1, ↓bnd_some, ↓wh_eq, ↓on_some, ↓on_none, asZ, arL, asL, arI, asI, aR_1, bnd_some, wh_eq, on_some, on_none, tnT, tnU, tnL, nk, jk, N_add, N_mul, N_sub, N_neg, J_add, J_mul, J_sub, J_neg, N_J, hi]
    exact ckb (Or.inl rfl) _
  · simp (disch := omega) only [↓iNlt_t, ↓iNlt_f, ↓iNle_t, ↓iNle_f, ↓iNeq_t, ↓iNeq_f, ↓iJlt_t, ↓iJlt_f, ↓iJle_t, ↓iJle_f, ↓iJeq_t, ↓iJeq_f, ↓iZlt_t, ↓iZlt_f, ↓iZle_t, ↓iZle_f, ↓iZeq_t, ↓iZeq_f, ↓iQlt_t, ↓iQlt_f, ↓iQle_t, ↓iQle_f, ↓iQeq_t, ↓iQeq_f, ↓iAnd_t, ↓iAnd_f, ↓iOr_t, ↓iOr_f, ↓iIff_t, ↓iIff_f, ↓iNot_t, ↓iNot_f, ↓iTrue, ↓iFalse, ↓ckN, ↓ckJ, ↓gIT, ↓gLT, ↓gRT, ↓cvT, ↓pIT, ↓pLT, ↓pZT, ↓asZ, ↓aNT, ↓arL, ↓asL, ↓arI, ↓asI, ↓aR_1, ↓bnd_some, ↓wh_eq, ↓on_some, ↓on_none, asZ, arL, asL, arI, asI, aR_1, bnd_some, wh_eq, on_some, on_none, tnT, tnU, tnL, nk, jk, N_add, N_mul, N_sub, N_neg, J_add, J_mul, J_sub, J_neg, N_J, hi]
    exact ckb (Or.inl rfl) _
theorem r_ag76 {c : Nat} (hc : 1 ≤ c ∧ c ≤ 4) (hi : i 108 25 = c) (hL : ∀ j, j < c → ¬ far (l 124 j) ∧ ¬ far (l 125 j) ∧ l 125 j ≠ 0) : ∀ (m k q : Nat), k + m = c → m + 2 ≤ q →
    ((∀ j, k ≤ j → j < c → (l 124 j).fdiv (l 125 j) = (l 124 0).fdiv (l 125 0)) → fX9_agree_76L q 108 (N 1) (N k) (hq i l x y) = some (N 1, hq i l x y)) ∧ ((∃ j, k ≤ j ∧ j < c ∧ (l 124 j).fdiv (l 125 j) ≠ (l 124 0).fdiv (l 125 0)) → fX9_agree_76L q 108 (N 1) (N k) (hq i l x y) = some (N 0, hq i l x y)) := by
  obtain ⟨g1, g2, g3⟩ := hL 0 (by omega)
  have g4 := fdiv_far g1 g3
  intro m
  induction m with
  | zero =>
    intro k q hk hq'
    obtain ⟨z, rfl⟩ : ∃ z, q = z + 1 := ⟨q - 1, by omega⟩
    refine ⟨fun _ => ?_, fun ⟨j, h1, h2, _⟩ => by omega⟩
    show fX9_agree_76 (fX9_agree_76L z) 108 _ _ _ = _
    unfold fX9_agree_76
    simp only [nk]
    simp (disch := omega) only [↓iNlt_t, ↓iNlt_f, ↓iNle_t, ↓iNle_f, ↓iNeq_t, ↓iNeq_f, ↓iJlt_t, ↓iJlt_f, ↓iJle_t, ↓iJle_f, ↓iJeq_t, ↓iJeq_f, ↓iZlt_t, ↓iZlt_f, ↓iZle_t, ↓iZle_f, ↓iZeq_t, ↓iZeq_f, ↓iQlt_t, ↓iQlt_f, ↓iQle_t, ↓iQle_f, ↓iQeq_t, ↓iQeq_f, ↓iAnd_t, ↓iAnd_f, ↓iOr_t, ↓iOr_f, ↓iIff_t, ↓iIff_f, ↓iNot_t, ↓iNot_f, ↓iTrue, ↓iFalse, ↓ckN, ↓ckJ, ↓gIT, ↓gLT, ↓gRT, ↓cvT, ↓pIT, ↓pLT, ↓pZT, ↓asZ, ↓aNT, ↓arL, ↓asL, ↓arI, ↓asI, ↓aR_1, ↓bnd_some, ↓wh_eq, ↓on_some, ↓on_none, asZ, arL, asL, arI, asI, aR_1, bnd_some, wh_eq, on_some, on_none, tnT, tnU, tnL, nk, jk, N_add, N_mul, N_sub, N_neg, J_add, J_mul, J_sub, J_neg, N_J, hi]
    exact ckb (Or.inr rfl) _
  | succ m ih =>
    intro k q hk hq'
    obtain ⟨z, rfl⟩ : ∃ z, q = z + 1 := ⟨q - 1, by omega⟩
    have ih := ih (k + 1) z (by omega) (by omega)
    obtain ⟨b1, b2, b3⟩ := hL k (by omega)
    have b4 := fdiv_far b1 b3
    by_cases c1 : (l 124 k).fdiv (l 125 k) = (l 124 0).fdiv (l 125 0)
    · have S : fX9_agree_76L (z + 1) 108 (N 1) (N k) (hq i l x y) = fX9_agree_76L z 108 (N 1) (N ((k + 1 : Nat) : Int)) (hq i l x y) := by
        show fX9_agree_76 (fX9_agree_76L z) 108 _ _ _ = _
        unfold fX9_agree_76
        simp only [nk, jk, N_add, N_mul, N_sub, N_neg, J_add, J_mul, J_sub, J_neg]
        simp (disch := omega) only [↓iNlt_t, ↓iNlt_f, ↓iNle_t, ↓iNle_f, ↓iNeq_t, ↓iNeq_f, ↓iJlt_t, ↓iJlt_f, ↓iJle_t, ↓iJle_f, ↓iJeq_t, ↓iJeq_f, ↓iZlt_t, ↓iZlt_f, ↓iZle_t, ↓iZle_f, ↓iZeq_t, ↓iZeq_f, ↓iQlt_t, ↓iQlt_f, ↓iQle_t, ↓iQle_f, ↓iQeq_t, ↓iQeq_f, ↓iAnd_t, ↓iAnd_f, ↓iOr_t, ↓iOr_f, ↓iIff_t, ↓iIff_f, ↓iNot_t, ↓iNot_f, ↓iTrue, ↓iFalse, ↓ckN, ↓ckJ, ↓gIT, ↓gLT, ↓gRT, ↓cvT, ↓pIT, ↓pLT, ↓pZT, ↓asZ, ↓aNT, ↓arL, ↓asL, ↓arI, ↓asI, ↓aR_1, ↓bnd_some, ↓wh_eq, ↓on_some, ↓on_none, asZ, arL, asL, arI, asI, aR_1, bnd_some, wh_eq, on_some, on_none, tnT, tnU, tnL, nk, jk, N_add, N_mul, N_sub, N_neg, J_add, J_mul, J_sub, J_neg, N_J, hi, ↓b_floor]
        rfl
      rw [S]
      refine ⟨fun h => ih.1 (fun j h1 h2 => h j (by omega) h2), fun ⟨j, h1, h2, h3⟩ => ih.2 ⟨j, ?_, h2, h3⟩⟩
      by_cases e : j = k
      · rw [e] at h3; exact absurd c1 h3
      · omega
    · refine ⟨fun h => absurd (h k (Nat.le_refl _) (by omega)) c1, fun _ => ?_⟩
      obtain ⟨z, rfl⟩ : ∃ q, z = q + 1 := ⟨z - 1, by omega⟩
      rw [← r_ag76z (i := i) (l := l) (x := x) (y := y) z (k + 1) (by omega) c (by omega) hi]
      show fX9_agree_76 (fX9_agree_76L (z + 1)) 108 _ _ _ = _
      unfold fX9_agree_76
      simp only [nk, jk, N_add, N_mul, N_sub, N_neg, J_add, J_mul, J_sub, J_neg]
      simp (disch := omega) only [↓iNlt_t, ↓iNlt_f, ↓iNle_t, ↓iNle_f, ↓iNeq_t, ↓iNeq_f, ↓iJlt_t, ↓iJlt_f, ↓iJle_t, ↓iJle_f, ↓iJeq_t, ↓iJeq_f, ↓iZlt_t, ↓iZlt_f, ↓iZle_t, ↓iZle_f, ↓iZeq_t, ↓iZeq_f, ↓iQlt_t, ↓iQlt_f, ↓iQle_t, ↓iQle_f, ↓iQeq_t, ↓iQeq_f, ↓iAnd_t, ↓iAnd_f, ↓iOr_t, ↓iOr_f, ↓iIff_t, ↓iIff_f, ↓iNot_t, ↓iNot_f, ↓iTrue, ↓iFalse, ↓ckN, ↓ckJ, ↓gIT, ↓gLT, ↓gRT, ↓cvT, ↓pIT, ↓pLT, ↓pZT, ↓asZ, ↓aNT, ↓arL, ↓asL, ↓arI, ↓asI, ↓aR_1, ↓bnd_some, ↓wh_eq, ↓on_some, ↓on_none, asZ, arL, asL, arI, asI, aR_1, bnd_some, wh_eq, on_some, on_none, tnT, tnU, tnL, nk, jk, N_add, N_mul, N_sub, N_neg, J_add, J_mul, J_sub, J_neg, N_J, hi, ↓b_floor]
      rfl
theorem r_ag4z {c : Nat} (hc : 1 ≤ c ∧ c ≤ 4) (hi : i 108 25 = c) : ∀ (m k q : Nat), k + m = c → m + 1 ≤ q → fX9_agree_4L q 108 (N 0) (N k) (hq i l x y) = fX9_agree_76L 1000 108 (N 0) (N 1) (hq i l x y) := by
  intro m
  induction m with
  | zero =>
    intro k q hk hq'
    obtain ⟨z, rfl⟩ : ∃ z, q = z + 1 := ⟨q - 1, by omega⟩
    show fX9_agree_4 (fX9_agree_4L z) 108 _ _ _ = _
    unfold fX9_agree_4
    simp only [nk, jk, N_add, N_mul, N_sub, N_neg, J_add, J_mul, J_sub, J_neg]
    simp (disch := omega) only [↓iNlt_t, ↓iNlt_f, ↓iNle_t, ↓iNle_f, ↓iNeq_t, ↓iNeq_f, ↓iJlt_t, ↓iJlt_f, ↓iJle_t, ↓iJle_f, ↓iJeq_t, ↓iJeq_f, ↓iZlt_t, ↓iZlt_f, ↓iZle_t, ↓iZle_f, ↓iZeq_t, ↓iZeq_f, ↓iQlt_t, ↓iQlt_f, ↓iQle_t, ↓iQle_f, ↓iQeq_t, ↓iQeq_f, ↓iAnd_t, ↓iAnd_f, ↓iOr_t, ↓iOr_f, ↓iIff_t, ↓iIff_f, ↓iNot_t, ↓iNot_f, ↓iTrue, ↓iFalse, ↓ckN, ↓ckJ, ↓gIT, ↓gLT, ↓gRT, ↓cvT, ↓pIT, ↓pLT, ↓pZT, ↓asZ, ↓aNT, ↓arL, ↓asL, ↓arI, ↓asI, ↓aR_1, ↓bnd_some, ↓wh_eq, ↓on_some, ↓on_none, asZ, arL, asL, arI, asI, aR_1, bnd_some, wh_eq, on_some, on_none, tnT, tnU, tnL, nk, jk, N_add, N_mul, N_sub, N_neg, J_add, J_mul, J_sub, J_neg, N_J, hi]
  | succ m ih =>
    intro k q hk hq'
    obtain ⟨z, rfl⟩ : ∃ z, q = z + 1 := ⟨q - 1, by omega⟩
    have ih := ih (k + 1) z (by omega) (by omega)
    rw [← ih]
    show fX9_agree_4 (fX9_agree_4L z) 108 _ _ _ = _
    unfold fX9_agree_4
    simp only [nk, jk, N_add, N_mul, N_sub, N_neg, J_add, J_mul, J_sub, J_neg]
    simp (disch := omega) only [↓iNlt_t, ↓iNlt_f, ↓iNle_t, ↓iNle_f, ↓iNeq_t, ↓iNeq_f, ↓iJlt_t, ↓iJlt_f, ↓iJle_t, ↓iJle_f, ↓iJeq_t, ↓iJeq_f, ↓iZlt_t, ↓iZlt_f, ↓iZle_t, ↓iZle_f, ↓iZeq_t, ↓iZeq_f, ↓iQlt_t, ↓iQlt_f, ↓iQle_t, ↓iQle_f, ↓iQeq_t, ↓iQeq_f, ↓iAnd_t, ↓iAnd_f, ↓iOr_t, ↓iOr_f, ↓iIff_t, ↓iIff_f, ↓iNot_t, ↓iNot_f, ↓iTrue, ↓iFalse, ↓ckN, ↓ckJ, ↓gIT, ↓gLT, ↓gRT, ↓cvT, ↓pIT, ↓pLT, ↓pZT, ↓asZ, ↓aNT, ↓arL, ↓asL, ↓arI, ↓asI, ↓aR_1, ↓bnd_some, ↓wh_eq, ↓on_some, ↓on_none, asZ, arL, asL, arI, asI, aR_1, bnd_some, wh_eq, on_some, on_none, tnT, tnU, tnL, nk, jk, N_add, N_mul, N_sub, N_neg, J_add, J_mul, J_sub, J_neg, N_J, hi]
    rfl
theorem r_ag4 {c : Nat} (hc : 1 ≤ c ∧ c ≤ 4) (hi : i 108 25 = c) (hL : ∀ j, j < c → ¬ far (l 124 j) ∧ ¬ far (l 125 j)) : ∀ (m k q : Nat), k + m = c → m + 1 ≤ q →
    ((∀ j, k ≤ j → j < c → l 125 j ≠ 0 ∧ (l 125 j < 0 ↔ l 125 0 < 0)) → fX9_agree_4L q 108 (N 1) (N k) (hq i l x y) = fX9_agree_76L 1000 108 (N 1) (N 1) (hq i l x y)) ∧ ((∃ j, k ≤ j ∧ j < c ∧ ¬ (l 125 j ≠ 0 ∧ (l 125 j < 0 ↔ l 125 0 < 0))) → fX9_agree_4L q 108 (N 1) (N k) (hq i l x y) = fX9_agree_76L 1000 108 (N 0) (N 1) (hq i l x y)) := by
  obtain ⟨g1, g2⟩ := hL 0 (by omega)
  intro m
  induction m with
  | zero =>
    intro k q hk hq'
    obtain ⟨z, rfl⟩ : ∃ z, q = z + 1 := ⟨q - 1, by omega⟩
    refine ⟨fun _ => ?_, fun ⟨j, h1, h2, _⟩ => by omega⟩
    show fX9_agree_4 (fX9_agree_4L z) 108 _ _ _ = _
    unfold fX9_agree_4
    simp only [nk, jk, N_add, N_mul, N_sub, N_neg, J_add, J_mul, J_sub, J_neg]
    simp (disch := omega) only [↓iNlt_t, ↓iNlt_f, ↓iNle_t, ↓iNle_f, ↓iNeq_t, ↓iNeq_f, ↓iJlt_t, ↓iJlt_f, ↓iJle_t, ↓iJle_f, ↓iJeq_t, ↓iJeq_f, ↓iZlt_t, ↓iZlt_f, ↓iZle_t, ↓iZle_f, ↓iZeq_t, ↓iZeq_f, ↓iQlt_t, ↓iQlt_f, ↓iQle_t, ↓iQle_f, ↓iQeq_t, ↓iQeq_f, ↓iAnd_t, ↓iAnd_f, ↓iOr_t, ↓iOr_f, ↓iIff_t, ↓iIff_f, ↓iNot_t, ↓iNot_f, ↓iTrue, ↓iFalse, ↓ckN, ↓ckJ, ↓gIT, ↓gLT, ↓gRT, ↓cvT, ↓pIT, ↓pLT, ↓pZT, ↓asZ, ↓aNT, ↓arL, ↓asL, ↓arI, ↓asI, ↓aR_1, ↓bnd_some, ↓wh_eq, ↓on_some, ↓on_none, asZ, arL, asL, arI, asI, aR_1, bnd_some, wh_eq, on_some, on_none, tnT, tnU, tnL, nk, jk, N_add, N_mul, N_sub, N_neg, J_add, J_mul, J_sub, J_neg, N_J, hi]
  | succ m ih =>
    intro k q hk hq'
    obtain ⟨z, rfl⟩ : ∃ z, q = z + 1 := ⟨q - 1, by omega⟩
    have ih := ih (k + 1) z (by omega) (by omega)
    obtain ⟨b1, b2⟩ := hL k (by omega)
    by_cases c1 : l 125 k ≠ 0 ∧ (l 125 k < 0 ↔ l 125 0 < 0)
    · have S : fX9_agree_4L (z + 1) 108 (N 1) (N k) (hq i l x y) = fX9_agree_4L z 108 (N 1) (N ((k + 1 : Nat) : Int)) (hq i l x y) := by
        show fX9_agree_4 (fX9_agree_4L z) 108 _ _ _ = _
        unfold fX9_agree_4 fX9_agree_43
        obtain ⟨c1, c2⟩ := c1
        simp only [nk, jk, N_add, N_mul, N_sub, N_neg, J_add, J_mul, J_sub, J_neg]
        by_cases c3 : l 125 k < 0
        · have := c2.mp c3
          simp (disch := omega) only [↓iNlt_t, ↓iNlt_f, ↓iNle_t, ↓iNle_f, ↓iNeq_t, ↓iNeq_f, ↓iJlt_t, ↓iJlt_f, ↓iJle_t, ↓iJle_f, ↓iJeq_t, ↓iJeq_f, ↓iZlt_t, ↓iZlt_f, ↓iZle_t, ↓iZle_f, ↓iZeq_t, ↓iZeq_f, ↓iQlt_t, ↓iQlt_f, ↓iQle_t, ↓iQle_f, ↓iQeq_t, ↓iQeq_f, ↓iAnd_t, ↓iAnd_f, ↓iOr_t, ↓iOr_f, ↓iIff_t, ↓iIff_f, ↓iNot_t, ↓iNot_f, ↓iTrue, ↓iFalse, ↓ckN, ↓ckJ, ↓gIT, ↓gLT, ↓gRT, ↓cvT, ↓pIT, ↓pLT, ↓pZT, ↓asZ, ↓aNT, ↓arL, ↓asL, ↓arI, ↓asI, ↓aR_1, ↓bnd_some, ↓wh_eq, ↓on_some, ↓on_none, asZ, arL, asL, arI, asI, aR_1, bnd_some, wh_eq, on_some, on_none, tnT, tnU, tnL, nk, jk, N_add, N_mul, N_sub, N_neg, J_add, J_mul, J_sub, J_neg, N_J, hi]
          rfl
        · have : ¬ l 125 0 < 0 := fun z => c3 (c2.mpr z)
          simp (disch := omega) only [↓iNlt_t, ↓iNlt_f, ↓iNle_t, ↓iNle_f, ↓iNeq_t, ↓iNeq_f, ↓iJlt_t, ↓iJlt_f, ↓iJle_t, ↓iJle_f, ↓iJeq_t, ↓iJeq_f, ↓iZlt_t, ↓iZlt_f, ↓iZle_t, ↓iZle_f, ↓iZeq_t, ↓iZeq_f, ↓iQlt_t, ↓iQlt_f, ↓iQle_t, ↓iQle_f, ↓iQeq_t, ↓iQeq_f, ↓iAnd_t, ↓iAnd_f, ↓iOr_t, ↓iOr_f, ↓iIff_t, ↓iIff_f, ↓iNot_t, ↓iNot_f, ↓iTrue, ↓iFalse, ↓ckN, ↓ckJ, ↓gIT, ↓gLT, ↓gRT, ↓cvT, ↓pIT, ↓pLT, ↓pZT, ↓asZ, ↓aNT, ↓arL, ↓asL, ↓arI, ↓asI, ↓aR_1, ↓bnd_some, ↓wh_eq, ↓on_some, ↓on_none, asZ, arL, asL, arI, asI, aR_1, bnd_some, wh_eq, on_some, on_none, tnT, tnU, tnL, nk, jk, N_add, N_mul, N_sub, N_neg, J_add, J_mul, J_sub, J_neg, N_J, hi]
          rfl
      rw [S]
      refine ⟨fun h => ih.1 (fun j h1 h2 => h j (by omega) h2), fun ⟨j, h1, h2, h3⟩ => ih.2 ⟨j, ?_, h2, h3⟩⟩
      by_cases e : j = k
      · rw [e] at h3; exact absurd c1 h3
      · omega
    · refine ⟨fun h => absurd (h k (Nat.le_refl _) (by omega)) c1, fun _ => ?_⟩
      rw [← r_ag4z (i := i) (l := l) (x := x) (y := y) hc hi m (k + 1) z (by omega) (by omega)]
      show fX9_agree_4 (fX9_agree_4L z) 108 _ _ _ = _
      unfold fX9_agree_4 fX9_agree_43
      simp only [nk, jk, N_add, N_mul, N_sub, N_neg, J_add, J_mul, J_sub, J_neg]
      by_cases c2 : l 125 k = 0
      · simp (disch := omega) only [↓iNlt_t, ↓iNlt_f, ↓iNle_t, ↓iNle_f, ↓iNeq_t, ↓iNeq_f, ↓iJlt_t, ↓iJlt_f, ↓iJle_t, ↓iJle_f, ↓iJeq_t, ↓iJeq_f, ↓iZlt_t, ↓iZlt_f, ↓iZle_t, ↓iZle_f, ↓iZeq_t, ↓iZeq_f, ↓iQlt_t, ↓iQlt_f, ↓iQle_t, ↓iQle_f, ↓iQeq_t, ↓iQeq_f, ↓iAnd_t, ↓iAnd_f, ↓iOr_t, ↓iOr_f, ↓iIff_t, ↓iIff_f, ↓iNot_t, ↓iNot_f, ↓iTrue, ↓iFalse, ↓ckN, ↓ckJ, ↓gIT, ↓gLT, ↓gRT, ↓cvT, ↓pIT, ↓pLT, ↓pZT, ↓asZ, ↓aNT, ↓arL, ↓asL, ↓arI, ↓asI, ↓aR_1, ↓bnd_some, ↓wh_eq, ↓on_some, ↓on_none, asZ, arL, asL, arI, asI, aR_1, bnd_some, wh_eq, on_some, on_none, tnT, tnU, tnL, nk, jk, N_add, N_mul, N_sub, N_neg, J_add, J_mul, J_sub, J_neg, N_J, hi]
        rfl
      · by_cases c3 : l 125 k < 0
        · have : ¬ l 125 0 < 0 := fun z => c1 ⟨c2, ⟨fun _ => z, fun _ => c3⟩⟩
          simp (disch := omega) only [↓iNlt_t, ↓iNlt_f, ↓iNle_t, ↓iNle_f, ↓iNeq_t, ↓iNeq_f, ↓iJlt_t, ↓iJlt_f, ↓iJle_t, ↓iJle_f, ↓iJeq_t, ↓iJeq_f, ↓iZlt_t, ↓iZlt_f, ↓iZle_t, ↓iZle_f, ↓iZeq_t, ↓iZeq_f, ↓iQlt_t, ↓iQlt_f, ↓iQle_t, ↓iQle_f, ↓iQeq_t, ↓iQeq_f, ↓iAnd_t, ↓iAnd_f, ↓iOr_t, ↓iOr_f, ↓iIff_t, ↓iIff_f, ↓iNot_t, ↓iNot_f, ↓iTrue, ↓iFalse, ↓ckN, ↓ckJ, ↓gIT, ↓gLT, ↓gRT, ↓cvT, ↓pIT, ↓pLT, ↓pZT, ↓asZ, ↓aNT, ↓arL, ↓asL, ↓arI, ↓asI, ↓aR_1, ↓bnd_some, ↓wh_eq, ↓on_some, ↓on_none, asZ, arL, asL, arI, asI, aR_1, bnd_some, wh_eq, on_some, on_none, tnT, tnU, tnL, nk, jk, N_add, N_mul, N_sub, N_neg, J_add, J_mul, J_sub, J_neg, N_J, hi]
          rfl
        · have : l 125 0 < 0 := by
            rcases Classical.em (l 125 0 < 0) with z | z
            · exact z
            · exact absurd ⟨c2, ⟨fun w => absurd w c3, fun w => absurd w z⟩⟩ c1
          simp (disch := omega) only [↓iNlt_t, ↓iNlt_f, ↓iNle_t, ↓iNle_f, ↓iNeq_t, ↓iNeq_f, ↓iJlt_t, ↓iJlt_f, ↓iJle_t, ↓iJle_f, ↓iJeq_t, ↓iJeq_f, ↓iZlt_t, ↓iZlt_f, ↓iZle_t, ↓iZle_f, ↓iZeq_t, ↓iZeq_f, ↓iQlt_t, ↓iQlt_f, ↓iQle_t, ↓iQle_f, ↓iQeq_t, ↓iQeq_f, ↓iAnd_t, ↓iAnd_f, ↓iOr_t, ↓iOr_f, ↓iIff_t, ↓iIff_f, ↓iNot_t, ↓iNot_f, ↓iTrue, ↓iFalse, ↓ckN, ↓ckJ, ↓gIT, ↓gLT, ↓gRT, ↓cvT, ↓pIT, ↓pLT, ↓pZT, ↓asZ, ↓aNT, ↓arL, ↓asL, ↓arI, ↓asI, ↓aR_1, ↓bnd_some, ↓wh_eq, ↓on_some, ↓on_none, asZ, arL, asL, arI, asI, aR_1, bnd_some, wh_eq, on_some, on_none, tnT, tnU, tnL, nk, jk, N_add, N_mul, N_sub, N_neg, J_add, J_mul, J_sub, J_neg, N_J, hi]
          rfl
theorem r_agree {c : Nat} (hc : 2 ≤ c ∧ c ≤ 4) (hi : i 108 25 = c) (hL : ∀ j, j < c → ¬ far (l 124 j) ∧ ¬ far (l 125 j)) : (AGp (l 124) (l 125) c → fX9_agree 108 (hq i l x y) = some (N 1, hq i l x y)) ∧ (¬ AGp (l 124) (l 125) c → fX9_agree 108 (hq i l x y) = some (N 0, hq i l x y)) := by
  have A := r_ag4 (i := i) (l := l) (x := x) (y := y) (c := c) (by omega) hi hL c 0 1000 (by omega) (by omega)
  have E : fX9_agree 108 (hq i l x y) = fX9_agree_4L 1000 108 (N 1) (N ((0 : Nat) : Int)) (hq i l x y) := rfl
  rw [E]
  by_cases c1 : ∀ j, j < c → l 125 j ≠ 0 ∧ (l 125 j < 0 ↔ l 125 0 < 0)
  · have B := r_ag76 (i := i) (l := l) (x := x) (y := y) (c := c) (by omega) hi (fun j hj => ⟨(hL j hj).1, (hL j hj).2, (c1 j hj).1⟩) (c - 1) 1 1000 (by omega) (by omega)
    rw [A.1 (fun j _ hj => c1 j hj)]
    refine ⟨fun h => B.1 (fun j _ hj => h.2 j hj), fun h => B.2 ?_⟩
    rcases Classical.em (∃ j, 1 ≤ j ∧ j < c ∧ (l 124 j).fdiv (l 125 j) ≠ (l 124 0).fdiv (l 125 0)) with z | z
    · exact z
    · refine absurd ⟨c1, fun j hj => ?_⟩ h
      by_cases e : j = 0
      · rw [e]
      · rcases Classical.em ((l 124 j).fdiv (l 125 j) = (l 124 0).fdiv (l 125 0)) with w | w
        · exact w
        · exact absurd ⟨j, by omega, hj, w⟩ z
  · refine ⟨fun h => absurd h.1 c1, fun _ => ?_⟩
    rw [A.2 ?_]
    · exact r_ag76z (i := i) (l := l) (x := x) (y := y) 999 1 (by omega) c (by omega) hi
    · rcases Classical.em (∃ j, 0 ≤ j ∧ j < c ∧ ¬ (l 125 j ≠ 0 ∧ (l 125 j < 0 ↔ l 125 0 < 0))) with z | z
      · exact z
      · refine absurd (fun j hj => ?_) c1
        rcases Classical.em (l 125 j ≠ 0 ∧ (l 125 j < 0 ↔ l 125 0 < 0)) with w | w
        · exact w
        · exact absurd ⟨j, Nat.zero_le _, hj, w⟩ z
end RC
