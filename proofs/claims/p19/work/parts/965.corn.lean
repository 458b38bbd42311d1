/-! ===== making: CORNERS of the class: made by cn.py ===== -/
theorem corT (a b c d : Int) : (cor 0 0 a b c d 0 = a + b + c + d ∧ cor 0 0 a b c d 1 = a + b ∧ cor 0 0 a b c d 2 = a + c ∧ cor 0 0 a b c d 3 = a) ∧ (cor 1 0 a b c d 0 = c + d ∧ cor 1 0 a b c d 1 = c) ∧ (cor 0 1 a b c d 0 = b + d ∧ cor 0 1 a b c d 1 = b) := ⟨⟨rfl, rfl, rfl, rfl⟩, ⟨rfl, rfl⟩, ⟨rfl, rfl⟩⟩
theorem nCT : nC 0 0 = 4 ∧ nC 1 0 = 2 ∧ nC 0 1 = 2 := ⟨rfl, rfl, rfl⟩
theorem lt4 {P : Nat → Prop} : (∀ j, j < 4 → P j) ↔ P 0 ∧ P 1 ∧ P 2 ∧ P 3 := by
  constructor
  · intro h
    exact ⟨h 0 (by omega), h 1 (by omega), h 2 (by omega), h 3 (by omega)⟩
  · rintro ⟨h0, h1, h2, h3⟩ j hj
    rcases (by omega : j = 0 ∨ j = 1 ∨ j = 2 ∨ j = 3) with rfl | rfl | rfl | rfl <;> assumption
theorem lt2 {P : Nat → Prop} : (∀ j, j < 2 → P j) ↔ P 0 ∧ P 1 := by
  constructor
  · intro h
    exact ⟨h 0 (by omega), h 1 (by omega)⟩
  · rintro ⟨h0, h1⟩ j hj
    rcases (by omega : j = 0 ∨ j = 1) with rfl | rfl <;> assumption
section CN
variable {ρ : Type} {i l : Nat → Nat → Int} {x y : Option Nat}
theorem q_fill17 {ox oy a b c d : Int} (ho : (ox = 0 ∧ oy = 0) ∨ (ox = 1 ∧ oy = 0) ∨ (ox = 0 ∧ oy = 1)) (h13 : i 13 4 = ox) (h14 : i 14 4 = oy) (hc : i 12 6 = nC ox oy) (ha : l 15 0 = a) (hb : l 15 1 = b) (hcc : l 15 2 = c) (hd : l 15 3 = d) (fa : ¬ far a) (fb : ¬ far b) (fc : ¬ far c) (fd : ¬ far d) :
    ∃ l', (∀ q, q ≠ 17 → l' q = l q) ∧ (farC ox oy a b c d → fX1_fillCorners 12 17 (N 0) (hq i l x y) = some (N 0, hq i l' x y)) ∧ (¬ farC ox oy a b c d → fX1_fillCorners 12 17 (N 0) (hq i l x y) = some (N 1, hq i l' x y) ∧ ∀ k, k < nC ox oy → l' 17 k = cor ox oy a b c d k) := by
  have hr : S0 17 = some (101, 4) := by simp only [shT]
  rcases ho with ⟨rfl, rfl⟩ | ⟨rfl, rfl⟩ | ⟨rfl, rfl⟩
  · have K1 := (CV.lit fa).pls (CV.lit fb)
    have K2 := K1.pls (CV.lit fc)
    have K0 := K2.pls (CV.lit fd)
    have K3 := (CV.lit fa).pls (CV.lit fc)
    have o1 := K1.ok
    have o2 := K2.ok
    have o0 := K0.ok
    have o3 := K3.ok
    obtain ⟨l', hl'⟩ : ∃ l', l' = w1 (w1 (w1 (w1 l 17 0 (pl (pl (pl a b) c) d)) 17 1 (pl a b)) 17 2 (pl a c)) 17 3 a := ⟨_, rfl⟩
    have r0 : l' 17 0 = pl (pl (pl a b) c) d := by rw [hl']; simp (disch := omega) only [w1_r, w1_n, w1_s, true_and, and_true]
    have r1 : l' 17 1 = pl a b := by rw [hl']; simp (disch := omega) only [w1_r, w1_n, w1_s, true_and, and_true]
    have r2 : l' 17 2 = pl a c := by rw [hl']; simp (disch := omega) only [w1_r, w1_n, w1_s, true_and, and_true]
    have r3 : l' 17 3 = a := by rw [hl']; simp (disch := omega) only [w1_r, w1_n, w1_s, true_and, and_true]
    have G := q_165 (i := i) (l := l') (x := x) (y := y) hr (c := 4) (by omega) hc (by
      rw [lt4, r0, r1, r2, r3]
      exact ⟨o0, o1, o3, by omega⟩) 4 0 1000 (by omega) (by omega)
    have E : fX1_fillCorners 12 17 (N 0) (hq i l x y) = fX1_fillCorners_165L 1000 12 17 (N 0) (hq i l' x y) := by
      rw [hl']
      unfold fX1_fillCorners fX1_fillCorners_65
      simp only [nk, jk, N_add, N_mul, N_sub, N_neg, J_add, J_mul, J_sub, J_neg]
      simp (disch := omega) only [↓iNlt_t, ↓iNlt_f, ↓iNle_t, ↓iNle_f, ↓iNeq_t, ↓iNeq_f, ↓iJlt_t, ↓iJlt_f, ↓iJle_t, ↓iJle_f, ↓iJeq_t, ↓iJeq_f, ↓iZlt_t, ↓iZlt_f, ↓iZle_t, ↓iZle_f, ↓iZeq_t, ↓iZeq_f, ↓iQlt_t, ↓iQlt_f, ↓iQle_t, ↓iQle_f, ↓iQeq_t, ↓iQeq_f, ↓iAnd_t, ↓iAnd_f, ↓iOr_t, ↓iOr_f, ↓iIff_t, ↓iIff_f, ↓iNot_t, ↓iNot_f, ↓iTrue, ↓iFalse, ↓ckN, ↓ckJ, ↓gIT, ↓gLT, ↓gRT, ↓cvT, ↓pIT, ↓pLT, ↓pZT, ↓asZ, ↓aNT, ↓arL, ↓asL, ↓arI, ↓asI, ↓aR_1, ↓bnd_some, ↓wh_eq, ↓on_some, ↓on_none, asZ, arL, asL, arI, asI, aR_1, bnd_some, wh_eq, on_some, on_none, tnT, tnU, tnL, nk, jk, N_add, N_mul, N_sub, N_neg, J_add, J_mul, J_sub, J_neg, N_J, Int.reduceAdd, h13, h14, ha, hb, hcc, hd, ↓b_plus]
    refine ⟨l', fun q hq' => by rw [hl']; simp (disch := omega) only [w1_r, w1_n, w1_s, true_and, and_true], fun h => ?_, fun h => ?_⟩
    · rw [farC00] at h
      rw [E]
      refine G.2 ?_
      rcases h with z | z | z | z
      · exact ⟨1, by omega, by omega, by rw [r1, K1.fars]; simp only [z, or_true]⟩
      · exact ⟨0, by omega, by omega, by rw [r0, K0.fars]; simp only [z, or_true, true_or]⟩
      · exact ⟨0, by omega, by omega, by rw [r0, K0.fars]; simp only [z, or_true]⟩
      · exact ⟨2, by omega, by omega, by rw [r2, K3.fars]; simp only [z, or_true]⟩
    · rw [farC00] at h
      have n1 : ¬ far (a + b) := fun z => h (Or.inl z)
      have n2 : ¬ far (a + b + c) := fun z => h (Or.inr (Or.inl z))
      have n3 : ¬ far (a + b + c + d) := fun z => h (Or.inr (Or.inr (Or.inl z)))
      have n4 : ¬ far (a + c) := fun z => h (Or.inr (Or.inr (Or.inr z)))
      have e1 := K1.2 (by simp only [n1, or_false, not_false_eq_true])
      have e0 := K0.2 (by simp only [n1, n2, n3, or_false, not_false_eq_true])
      have e3 := K3.2 (by simp only [n4, or_false, not_false_eq_true])
      constructor
      · rw [E]
        refine G.1 (fun j _ hj => ?_)
        revert j
        have := lt4 (P := fun j => ¬ far (l' 17 j))
        intro j _ hj
        refine this.mpr ?_ j hj
        rw [r0, r1, r2, r3, e0.1, e1.1, e3.1]
        exact ⟨n3, n1, n4, fa⟩
      · show ∀ k, k < 4 → l' 17 k = cor 0 0 a b c d k
        rw [lt4, r0, r1, r2, r3, e0.1, e1.1, e3.1]
        exact ⟨rfl, rfl, rfl, rfl⟩
  · have K0 := (CV.lit fc).pls (CV.lit fd)
    have o0 := K0.ok
    obtain ⟨l', hl'⟩ : ∃ l', l' = w1 (w1 l 17 0 (pl c d)) 17 1 c := ⟨_, rfl⟩
    have r0 : l' 17 0 = pl c d := by rw [hl']; simp (disch := omega) only [w1_r, w1_n, w1_s, true_and, and_true]
    have r1 : l' 17 1 = c := by rw [hl']; simp (disch := omega) only [w1_r, w1_n, w1_s, true_and, and_true]
    have G := q_165 (i := i) (l := l') (x := x) (y := y) hr (c := 2) (by omega) hc (by
      rw [lt2, r0, r1]
      exact ⟨o0, by omega⟩) 2 0 1000 (by omega) (by omega)
    have E : fX1_fillCorners 12 17 (N 0) (hq i l x y) = fX1_fillCorners_165L 1000 12 17 (N 0) (hq i l' x y) := by
      rw [hl']
      unfold fX1_fillCorners fX1_fillCorners_65
      simp only [nk, jk, N_add, N_mul, N_sub, N_neg, J_add, J_mul, J_sub, J_neg]
      simp (disch := omega) only [↓iNlt_t, ↓iNlt_f, ↓iNle_t, ↓iNle_f, ↓iNeq_t, ↓iNeq_f, ↓iJlt_t, ↓iJlt_f, ↓iJle_t, ↓iJle_f, ↓iJeq_t, ↓iJeq_f, ↓iZlt_t, ↓iZlt_f, ↓iZle_t, ↓iZle_f, ↓iZeq_t, ↓iZeq_f, ↓iQlt_t, ↓iQlt_f, ↓iQle_t, ↓iQle_f, ↓iQeq_t, ↓iQeq_f, ↓iAnd_t, ↓iAnd_f, ↓iOr_t, ↓iOr_f, ↓iIff_t, ↓iIff_f, ↓iNot_t, ↓iNot_f, ↓iTrue, ↓iFalse, ↓ckN, ↓ckJ, ↓gIT, ↓gLT, ↓gRT, ↓cvT, ↓pIT, ↓pLT, ↓pZT, ↓asZ, ↓aNT, ↓arL, ↓asL, ↓arI, ↓asI, ↓aR_1, ↓bnd_some, ↓wh_eq, ↓on_some, ↓on_none, asZ, arL, asL, arI, asI, aR_1, bnd_some, wh_eq, on_some, on_none, tnT, tnU, tnL, nk, jk, N_add, N_mul, N_sub, N_neg, J_add, J_mul, J_sub, J_neg, N_J, Int.reduceAdd, h13, h14, ha, hb, hcc, hd, ↓b_plus]
    refine ⟨l', fun q hq' => by rw [hl']; simp (disch := omega) only [w1_r, w1_n, w1_s, true_and, and_true], fun h => ?_, fun h => ?_⟩
    · rw [farC10] at h
      rw [E]
      exact G.2 ⟨0, by omega, by omega, by rw [r0, K0.fars]; simp only [h, or_true]⟩
    · rw [farC10] at h
      have e0 := K0.2 (by simp only [h, or_false, not_false_eq_true])
      constructor
      · rw [E]
        refine G.1 (fun j _ hj => ?_)
        revert j
        have := lt2 (P := fun j => ¬ far (l' 17 j))
        intro j _ hj
        refine this.mpr ?_ j hj
        rw [r0, r1, e0.1]
        exact ⟨h, fc⟩
      · show ∀ k, k < 2 → l' 17 k = cor 1 0 a b c d k
        rw [lt2, r0, r1, e0.1]
        exact ⟨rfl, rfl⟩
  · have K0 := (CV.lit fb).pls (CV.lit fd)
    have o0 := K0.ok
    obtain ⟨l', hl'⟩ : ∃ l', l' = w1 (w1 l 17 0 (pl b d)) 17 1 b := ⟨_, rfl⟩
    have r0 : l' 17 0 = pl b d := by rw [hl']; simp (disch := omega) only [w1_r, w1_n, w1_s, true_and, and_true]
    have r1 : l' 17 1 = b := by rw [hl']; simp (disch := omega) only [w1_r, w1_n, w1_s, true_and, and_true]
    have G := q_165 (i := i) (l := l') (x := x) (y := y) hr (c := 2) (by omega) hc (by
      rw [lt2, r0, r1]
      exact ⟨o0, by omega⟩) 2 0 1000 (by omega) (by omega)
    have E : fX1_fillCorners 12 17 (N 0) (hq i l x y) = fX1_fillCorners_165L 1000 12 17 (N 0) (hq i l' x y) := by
      rw [hl']
      unfold fX1_fillCorners fX1_fillCorners_65
      simp only [nk, jk, N_add, N_mul, N_sub, N_neg, J_add, J_mul, J_sub, J_neg]
      simp (disch := omega) only [↓iNlt_t, ↓iNlt_f, ↓iNle_t, ↓iNle_f, ↓iNeq_t, ↓iNeq_f, ↓iJlt_t, ↓iJlt_f, ↓iJle_t, ↓iJle_f, ↓iJeq_t, ↓iJeq_f, ↓iZlt_t, ↓iZlt_f, ↓iZle_t, ↓iZle_f, ↓iZeq_t, ↓iZeq_f, ↓iQlt_t, ↓iQlt_f, ↓iQle_t, ↓iQle_f, ↓iQeq_t, ↓iQeq_f, ↓iAnd_t, ↓iAnd_f, ↓iOr_t, ↓iOr_f, ↓iIff_t, ↓iIff_f, ↓iNot_t, ↓iNot_f, ↓iTrue, ↓iFalse, ↓ckN, ↓ckJ, ↓gIT, ↓gLT, ↓gRT, ↓cvT, ↓pIT, ↓pLT, ↓pZT, ↓asZ, ↓aNT, ↓arL, ↓asL, ↓arI, ↓asI, ↓aR_1, ↓bnd_some, ↓wh_eq, ↓on_some, ↓on_none, asZ, arL, asL, arI, asI, aR_1, bnd_some, wh_eq, on_some, on_none, tnT, tnU, tnL, nk, jk, N_add, N_mul, N_sub, N_neg, J_add, J_mul, J_sub, J_neg, N_J, Int.reduceAdd, h13, h14, ha, hb, hcc, hd, ↓b_plus]
    refine ⟨l', fun q hq' => by rw [hl']; simp (disch := omega) only [w1_r, w1_n, w1_s, true_and, and_true], fun h => ?_, fun h => ?_⟩
    · rw [farC01] at h
      rw [E]
      exact G.2 ⟨0, by omega, by omega, by rw [r0, K0.fars]; simp only [h, or_true]⟩
    · rw [farC01] at h
      have e0 := K0.2 (by simp only [h, or_false, not_false_eq_true])
      constructor
      · rw [E]
        refine G.1 (fun j _ hj => ?_)
        revert j
        have := lt2 (P := fun j => ¬ far (l' 17 j))
        intro j _ hj
        refine this.mpr ?_ j hj
        rw [r0, r1, e0.1]
        exact ⟨h, fb⟩
      · show ∀ k, k < 2 → l' 17 k = cor 0 1 a b c d k
        rw [lt2, r0, r1, e0.1]
        exact ⟨rfl, rfl⟩
theorem q_fill18 {ox oy a b c d : Int} (ho : (ox = 0 ∧ oy = 0) ∨ (ox = 1 ∧ oy = 0) ∨ (ox = 0 ∧ oy = 1)) (h13 : i 13 4 = ox) (h14 : i 14 4 = oy) (hc : i 12 6 = nC ox oy) (ha : l 15 4 = a) (hb : l 15 5 = b) (hcc : l 15 6 = c) (hd : l 15 7 = d) (fa : ¬ far a) (fb : ¬ far b) (fc : ¬ far c) (fd : ¬ far d) :
    ∃ l', (∀ q, q ≠ 18 → l' q = l q) ∧ (farC ox oy a b c d → fX1_fillCorners 12 18 (N 4) (hq i l x y) = some (N 0, hq i l' x y)) ∧ (¬ farC ox oy a b c d → fX1_fillCorners 12 18 (N 4) (hq i l x y) = some (N 1, hq i l' x y) ∧ ∀ k, k < nC ox oy → l' 18 k = cor ox oy a b c d k) := by
  have hr : S0 18 = some (101, 4) := by simp only [shT]
  rcases ho with ⟨rfl, rfl⟩ | ⟨rfl, rfl⟩ | ⟨rfl, rfl⟩
  · have K1 := (CV.lit fa).pls (CV.lit fb)
    have K2 := K1.pls (CV.lit fc)
    have K0 := K2.pls (CV.lit fd)
    have K3 := (CV.lit fa).pls (CV.lit fc)
    have o1 := K1.ok
    have o2 := K2.ok
    have o0 := K0.ok
    have o3 := K3.ok
    obtain ⟨l', hl'⟩ : ∃ l', l' = w1 (w1 (w1 (w1 l 18 0 (pl (pl (pl a b) c) d)) 18 1 (pl a b)) 18 2 (pl a c)) 18 3 a := ⟨_, rfl⟩
    have r0 : l' 18 0 = pl (pl (pl a b) c) d := by rw [hl']; simp (disch := omega) only [w1_r, w1_n, w1_s, true_and, and_true]
    have r1 : l' 18 1 = pl a b := by rw [hl']; simp (disch := omega) only [w1_r, w1_n, w1_s, true_and, and_true]
    have r2 : l' 18 2 = pl a c := by rw [hl']; simp (disch := omega) only [w1_r, w1_n, w1_s, true_and, and_true]
    have r3 : l' 18 3 = a := by rw [hl']; simp (disch := omega) only [w1_r, w1_n, w1_s, true_and, and_true]
    have G := q_165 (i := i) (l := l') (x := x) (y := y) hr (c := 4) (by omega) hc (by
      rw [lt4, r0, r1, r2, r3]
      exact ⟨o0, o1, o3, by omega⟩) 4 0 1000 (by omega) (by omega)
    have E : fX1_fillCorners 12 18 (N 4) (hq i l x y) = fX1_fillCorners_165L 1000 12 18 (N 0) (hq i l' x y) := by
      rw [hl']
      unfold fX1_fillCorners fX1_fillCorners_65
      simp only [nk, jk, N_add, N_mul, N_sub, N_neg, J_add, J_mul, J_sub, J_neg]
      simp (disch := omega) only [↓iNlt_t, ↓iNlt_f, ↓iNle_t, ↓iNle_f, ↓iNeq_t, ↓iNeq_f, ↓iJlt_t, ↓iJlt_f, ↓iJle_t, ↓iJle_f, ↓iJeq_t, ↓iJeq_f, ↓iZlt_t, ↓iZlt_f, ↓iZle_t, ↓iZle_f, ↓iZeq_t, ↓iZeq_f, ↓iQlt_t, ↓iQlt_f, ↓iQle_t, ↓iQle_f, ↓iQeq_t, ↓iQeq_f, ↓iAnd_t, ↓iAnd_f, ↓iOr_t, ↓iOr_f, ↓iIff_t, ↓iIff_f, ↓iNot_t, ↓iNot_f, ↓iTrue, ↓iFalse, ↓ckN, ↓ckJ, ↓gIT, ↓gLT, ↓gRT, ↓cvT, ↓pIT, ↓pLT, ↓pZT, ↓asZ, ↓aNT, ↓arL, ↓asL, ↓arI, ↓asI, ↓aR_1, ↓bnd_some, ↓wh_eq, ↓on_some, ↓on_none, asZ, arL, asL, arI, asI, aR_1, bnd_some, wh_eq, on_some, on_none, tnT, tnU, tnL, nk, jk, N_add, N_mul, N_sub, N_neg, J_add, J_mul, J_sub, J_neg, N_J, Int.reduceAdd, h13, h14, ha, hb, hcc, hd, ↓b_plus]
    refine ⟨l', fun q hq' => by rw [hl']; simp (disch := omega) only [w1_r, w1_n, w1_s, true_and, and_true], fun h => ?_, fun h => ?_⟩
    · rw [farC00] at h
      rw [E]
      refine G.2 ?_
      rcases h with z | z | z | z
      · exact ⟨1, by omega, by omega, by rw [r1, K1.fars]; simp only [z, or_true]⟩
      · exact ⟨0, by omega, by omega, by rw [r0, K0.fars]; simp only [z, or_true, true_or]⟩
      · exact ⟨0, by omega, by omega, by rw [r0, K0.fars]; simp only [z, or_true]⟩
      · exact ⟨2, by omega, by omega, by rw [r2, K3.fars]; simp only [z, or_true]⟩
    · rw [farC00] at h
      have n1 : ¬ far (a + b) := fun z => h (Or.inl z)
      have n2 : ¬ far (a + b + c) := fun z => h (Or.inr (Or.inl z))
      have n3 : ¬ far (a + b + c + d) := fun z => h (Or.inr (Or.inr (Or.inl z)))
      have n4 : ¬ far (a + c) := fun z => h (Or.inr (Or.inr (Or.inr z)))
      have e1 := K1.2 (by simp only [n1, or_false, not_false_eq_true])
      have e0 := K0.2 (by simp only [n1, n2, n3, or_false, not_false_eq_true])
      have e3 := K3.2 (by simp only [n4, or_false, not_false_eq_true])
      constructor
      · rw [E]
        refine G.1 (fun j _ hj => ?_)
        revert j
        have := lt4 (P := fun j => ¬ far (l' 18 j))
        intro j _ hj
        refine this.mpr ?_ j hj
        rw [r0, r1, r2, r3, e0.1, e1.1, e3.1]
        exact ⟨n3, n1, n4, fa⟩
      · show ∀ k, k < 4 → l' 18 k = cor 0 0 a b c d k
        rw [lt4, r0, r1, r2, r3, e0.1, e1.1, e3.1]
        exact ⟨rfl, rfl, rfl, rfl⟩
  · have K0 := (CV.lit fc).pls (CV.lit fd)
    have o0 := K0.ok
    obtain ⟨l', hl'⟩ : ∃ l', l' = w1 (w1 l 18 0 (pl c d)) 18 1 c := ⟨_, rfl⟩
    have r0 : l' 18 0 = pl c d := by rw [hl']; simp (disch := omega) only [w1_r, w1_n, w1_s, true_and, and_true]
    have r1 : l' 18 1 = c := by rw [hl']; simp (disch := omega) only [w1_r, w1_n, w1_s, true_and, and_true]
    have G := q_165 (i := i) (l := l') (x := x) (y := y) hr (c := 2) (by omega) hc (by
      rw [lt2, r0, r1]
      exact ⟨o0, by omega⟩) 2 0 1000 (by omega) (by omega)
    have E : fX1_fillCorners 12 18 (N 4) (hq i l x y) = fX1_fillCorners_165L 1000 12 18 (N 0) (hq i l' x y) := by
      rw [hl']
      unfold fX1_fillCorners fX1_fillCorners_65
      simp only [nk, jk, N_add, N_mul, N_sub, N_neg, J_add, J_mul, J_sub, J_neg]
      simp (disch := omega) only [↓iNlt_t, ↓iNlt_f, ↓iNle_t, ↓iNle_f, ↓iNeq_t, ↓iNeq_f, ↓iJlt_t, ↓iJlt_f, ↓iJle_t, ↓iJle_f, ↓iJeq_t, ↓iJeq_f, ↓iZlt_t, ↓iZlt_f, ↓iZle_t, ↓iZle_f, ↓iZeq_t, ↓iZeq_f, ↓iQlt_t, ↓iQlt_f, ↓iQle_t, ↓iQle_f, ↓iQeq_t, ↓iQeq_f, ↓iAnd_t, ↓iAnd_f, ↓iOr_t, ↓iOr_f, ↓iIff_t, ↓iIff_f, ↓iNot_t, ↓iNot_f, ↓iTrue, ↓iFalse, ↓ckN, ↓ckJ, ↓gIT, ↓gLT, ↓gRT, ↓cvT, ↓pIT, ↓pLT, ↓pZT, ↓asZ, ↓aNT, ↓arL, ↓asL, ↓arI, ↓asI, ↓aR_1, ↓bnd_some, ↓wh_eq, ↓on_some, ↓on_none, asZ, arL, asL, arI, asI, aR_1, bnd_some, wh_eq, on_some, on_none, tnT, tnU, tnL, nk, jk, N_add, N_mul, N_sub, N_neg, J_add, J_mul, J_sub, J_neg, N_J, Int.reduceAdd, h13, h14, ha, hb, hcc, hd, ↓b_plus]
    refine ⟨l', fun q hq' => by rw [hl']; simp (disch := omega) only [w1_r, w1_n, w1_s, true_and, and_true], fun h => ?_, fun h => ?_⟩
    · rw [farC10] at h
      rw [E]
      exact G.2 ⟨0, by omega, by omega, by rw [r0, K0.fars]; simp only [h, or_true]⟩
    · rw [farC10] at h
      have e0 := K0.2 (by simp only [h, or_false, not_false_eq_true])
      constructor
      · rw [E]
        refine G.1 (fun j _ hj => ?_)
        revert j
        have := lt2 (P := fun j => ¬ far (l' 18 j))
        intro j _ hj
        refine this.mpr ?_ j hj
        rw [r0, r1, e0.1]
        exact ⟨h, fc⟩
      · show ∀ k, k < 2 → l' 18 k = cor 1 0 a b c d k
        rw [lt2, r0, r1, e0.1]
        exact ⟨rfl, rfl⟩
  · have K0 := (CV.lit fb).pls (CV.lit fd)
    have o0 := K0.ok
    obtain ⟨l', hl'⟩ : ∃ l', l' = w1 (w1 l 18 0 (pl b d)) 18 1 b := ⟨_, rfl⟩
    have r0 : l' 18 0 = pl b d := by rw [hl']; simp (disch := omega) only [w1_r, w1_n, w1_s, true_and, and_true]
    have r1 : l' 18 1 = b := by rw [hl']; simp (disch := omega) only [w1_r, w1_n, w1_s, true_and, and_true]
    have G := q_165 (i := i) (l := l') (x := x) (y := y) hr (c := 2) (by omega) hc (by
      rw [lt2, r0, r1]
      exact ⟨o0, by omega⟩) 2 0 1000 (by omega) (by omega)
    have E : fX1_fillCorners 12 18 (N 4) (hq i l x y) = fX1_fillCorners_165L 1000 12 18 (N 0) (hq i l' x y) := by
      rw [hl']
      unfold fX1_fillCorners fX1_fillCorners_65
      simp only [nk, jk, N_add, N_mul, N_sub, N_neg, J_add, J_mul, J_sub, J_neg]
      simp (disch := omega) only [↓iNlt_t, ↓iNlt_f, ↓iNle_t, ↓iNle_f, ↓iNeq_t, ↓iNeq_f, ↓iJlt_t, ↓iJlt_f, ↓iJle_t, ↓iJle_f, ↓iJeq_t, ↓iJeq_f, ↓iZlt_t, ↓iZlt_f, ↓iZle_t, ↓iZle_f, ↓iZeq_t, ↓iZeq_f, ↓iQlt_t, ↓iQlt_f, ↓iQle_t, ↓iQle_f, ↓iQeq_t, ↓iQeq_f, ↓iAnd_t, ↓iAnd_f, ↓iOr_t, ↓iOr_f, ↓iIff_t, ↓iIff_f, ↓iNot_t, ↓iNot_f, ↓iTrue, ↓iFalse, ↓ckN, ↓ckJ, ↓gIT, ↓gLT, ↓gRT, ↓cvT, ↓pIT, ↓pLT, ↓pZT, ↓asZ, ↓aNT, ↓arL, ↓asL, ↓arI, ↓asI, ↓aR_1, ↓bnd_some, ↓wh_eq, ↓on_some, ↓on_none, asZ, arL, asL, arI, asI, aR_1, bnd_some, wh_eq, on_some, on_none, tnT, tnU, tnL, nk, jk, N_add, N_mul, N_sub, N_neg, J_add, J_mul, J_sub, J_neg, N_J, Int.reduceAdd, h13, h14, ha, hb, hcc, hd, ↓b_plus]
    refine ⟨l', fun q hq' => by rw [hl']; simp (disch := omega) only [w1_r, w1_n, w1_s, true_and, and_true], fun h => ?_, fun h => ?_⟩
    · rw [farC01] at h
      rw [E]
      exact G.2 ⟨0, by omega, by omega, by rw [r0, K0.fars]; simp only [h, or_true]⟩
    · rw [farC01] at h
      have e0 := K0.2 (by simp only [h, or_false, not_false_eq_true])
      constructor
      · rw [E]
        refine G.1 (fun j _ hj => ?_)
        revert j
        have := lt2 (P := fun j => ¬ far (l' 18 j))
        intro j _ hj
        refine this.mpr ?_ j hj
        rw [r0, r1, e0.1]
        exact ⟨h, fb⟩
      · show ∀ k, k < 2 → l' 18 k = cor 0 1 a b c d k
        rw [lt2, r0, r1, e0.1]
        exact ⟨rfl, rfl⟩
theorem q_woc {ox oy : Int} {v : Nat → Int} (ho : (ox = 0 ∧ oy = 0) ∨ (ox = 1 ∧ oy = 0) ∨ (ox = 0 ∧ oy = 1)) (h13 : i 13 4 = ox) (h14 : i 14 4 = oy) (hv : ∀ j, j < 8 → l 15 j = v j ∧ ¬ far (v j)) :
    ∃ l', (∀ q, q ≠ 17 → q ≠ 18 → l' q = l q) ∧ (farC ox oy (v 0) (v 1) (v 2) (v 3) ∨ farC ox oy (v 4) (v 5) (v 6) (v 7) → fX1_workOutCorners 12 (hq i l x y) = some (N 0, hq (w1 i 12 6 (nC ox oy : Nat)) l' x y)) ∧ (¬ (farC ox oy (v 0) (v 1) (v 2) (v 3) ∨ farC ox oy (v 4) (v 5) (v 6) (v 7)) → fX1_workOutCorners 12 (hq i l x y) = some (N 1, hq (w1 i 12 6 (nC ox oy : Nat)) l' x y) ∧ ∀ k, k < nC ox oy → l' 17 k = cor ox oy (v 0) (v 1) (v 2) (v 3) k ∧ l' 18 k = cor ox oy (v 4) (v 5) (v 6) (v 7) k) := by
  obtain ⟨⟨a0, f0⟩, ⟨a1, f1⟩, ⟨a2, f2⟩, ⟨a3, f3⟩, ⟨a4, f4⟩, ⟨a5, f5⟩, ⟨a6, f6⟩, ⟨a7, f7⟩⟩ := all8.mp hv
  have b13 : w1 i 12 6 (nC ox oy : Nat) 13 4 = ox := by rw [w1_na _ _ _ _ (by omega)]; exact h13
  have b14 : w1 i 12 6 (nC ox oy : Nat) 14 4 = oy := by rw [w1_na _ _ _ _ (by omega)]; exact h14
  obtain ⟨l1, k1, k2, k3⟩ := q_fill17 (i := w1 i 12 6 (nC ox oy : Nat)) (l := l) (x := x) (y := y) ho b13 b14 (w1_s _ _ _ _) a0 a1 a2 a3 f0 f1 f2 f3
  have e15 := k1 15 (by omega)
  obtain ⟨l2, m1, m2, m3⟩ := q_fill18 (i := w1 i 12 6 (nC ox oy : Nat)) (l := l1) (x := x) (y := y) ho b13 b14 (w1_s _ _ _ _) (by rw [e15]; exact a4) (by rw [e15]; exact a5) (by rw [e15]; exact a6) (by rw [e15]; exact a7) f4 f5 f6 f7
  have E : fX1_workOutCorners 12 (hq i l x y) = fX1_workOutCorners_31 12 12 (N (if ox = 0 then 2 else 1)) (N (if oy = 0 then 2 else 1)) (hq i l x y) := by
    unfold fX1_workOutCorners
    simp only [nk, jk, N_add, N_mul, N_sub, N_neg, J_add, J_mul, J_sub, J_neg]
    rcases ho with ⟨rfl, rfl⟩ | ⟨rfl, rfl⟩ | ⟨rfl, rfl⟩
    · simp (disch := omega) only [↓iNlt_t, ↓iNlt_f, ↓iNle_t, ↓iNle_f, ↓iNeq_t, ↓iNeq_f, ↓iJlt_t, ↓iJlt_f, ↓iJle_t, ↓iJle_f, ↓iJeq_t, ↓iJeq_f, ↓iZlt_t, ↓iZlt_f, ↓iZle_t, ↓iZle_f, ↓iZeq_t, ↓iZeq_f, ↓iQlt_t, ↓iQlt_f, ↓iQle_t, ↓iQle_f, ↓iQeq_t, ↓iQeq_f, ↓iAnd_t, ↓iAnd_f, ↓iOr_t, ↓iOr_f, ↓iIff_t, ↓iIff_f, ↓iNot_t, ↓iNot_f, ↓iTrue, ↓iFalse, ↓ckN, ↓ckJ, ↓gIT, ↓gLT, ↓gRT, ↓cvT, ↓pIT, ↓pLT, ↓pZT, ↓asZ, ↓aNT, ↓arL, ↓asL, ↓arI, ↓asI, ↓aR_1, ↓bnd_some, ↓wh_eq, ↓on_some, ↓on_none, asZ, arL, asL, arI, asI, aR_1, bnd_some, wh_eq, on_some, on_none, tnT, tnU, tnL, nk, jk, N_add, N_mul, N_sub, N_neg, J_add, J_mul, J_sub, J_neg, N_J, h13, h14]
    · simp (disch := omega) only [↓iNlt_t, ↓iNlt_f, ↓iNle_t, ↓iNle_f, ↓iNeq_t, ↓iNeq_f, ↓iJlt_t, ↓iJlt_f, ↓iJle_t, ↓iJle_f, ↓iJeq_t, ↓iJeq_f, ↓iZlt_t, ↓iZlt_f, ↓iZle_t, ↓iZle_f, ↓iZeq_t, ↓iZeq_f, ↓iQlt_t, ↓iQlt_f, ↓iQle_t, ↓iQle_f, ↓iQeq_t, ↓iQeq_f, ↓iAnd_t, ↓iAnd_f, ↓iOr_t, ↓iOr_f, ↓iIff_t, ↓iIff_f, ↓iNot_t, ↓iNot_f, ↓iTrue, ↓iFalse, ↓ckN, ↓ckJ, ↓gIT, ↓gLT, ↓gRT, ↓cvT, ↓pIT, ↓pLT, ↓pZT, ↓asZ, ↓aNT, ↓arL, ↓asL, ↓arI, ↓asI, ↓aR_1, ↓bnd_some, ↓wh_eq, ↓on_some, ↓on_none, asZ, arL, asL, arI, asI, aR_1, bnd_some, wh_eq, on_some, on_none, tnT, tnU, tnL, nk, jk, N_add, N_mul, N_sub, N_neg, J_add, J_mul, J_sub, J_neg, N_J, h13, h14]
    · simp (disch := omega) only [↓iNlt_t, ↓iNlt_f, ↓iNle_t, ↓iNle_f, ↓iNeq_t, ↓iNeq_f, ↓iJlt_t, ↓iJlt_f, ↓iJle_t, ↓iJle_f, ↓iJeq_t, ↓iJeq_f, ↓iZlt_t, ↓iZlt_f, ↓iZle_t, ↓iZle_f, ↓iZeq_t, ↓iZeq_f, ↓iQlt_t, ↓iQlt_f, ↓iQle_t, ↓iQle_f, ↓iQeq_t, ↓iQeq_f, ↓iAnd_t, ↓iAnd_f, ↓iOr_t, ↓iOr_f, ↓iIff_t, ↓iIff_f, ↓iNot_t, ↓iNot_f, ↓iTrue, ↓iFalse, ↓ckN, ↓ckJ, ↓gIT, ↓gLT, ↓gRT, ↓cvT, ↓pIT, ↓pLT, ↓pZT, ↓asZ, ↓aNT, ↓arL, ↓asL, ↓arI, ↓asI, ↓aR_1, ↓bnd_some, ↓wh_eq, ↓on_some, ↓on_none, asZ, arL, asL, arI, asI, aR_1, bnd_some, wh_eq, on_some, on_none, tnT, tnU, tnL, nk, jk, N_add, N_mul, N_sub, N_neg, J_add, J_mul, J_sub, J_neg, N_J, h13, h14]
  have E2 : N (if ox = 0 then 2 else 1) * N (if oy = 0 then 2 else 1) = N ((nC ox oy : Nat) : Int) := by
    rcases ho with ⟨rfl, rfl⟩ | ⟨rfl, rfl⟩ | ⟨rfl, rfl⟩ <;> decide
  rw [E]
  by_cases c1 : farC ox oy (v 0) (v 1) (v 2) (v 3)
  · refine ⟨l1, fun q h1 _ => k1 q h1, fun _ => ?_, fun h => absurd (Or.inl c1) h⟩
    have K := k2 c1
    unfold fX1_workOutCorners_31
    rw [E2]
    simp only [nk]
    simp (disch := omega) only [↓iNlt_t, ↓iNlt_f, ↓iNle_t, ↓iNle_f, ↓iNeq_t, ↓iNeq_f, ↓iJlt_t, ↓iJlt_f, ↓iJle_t, ↓iJle_f, ↓iJeq_t, ↓iJeq_f, ↓iZlt_t, ↓iZlt_f, ↓iZle_t, ↓iZle_f, ↓iZeq_t, ↓iZeq_f, ↓iQlt_t, ↓iQlt_f, ↓iQle_t, ↓iQle_f, ↓iQeq_t, ↓iQeq_f, ↓iAnd_t, ↓iAnd_f, ↓iOr_t, ↓iOr_f, ↓iIff_t, ↓iIff_f, ↓iNot_t, ↓iNot_f, ↓iTrue, ↓iFalse, ↓ckN, ↓ckJ, ↓gIT, ↓gLT, ↓gRT, ↓cvT, ↓pIT, ↓pLT, ↓pZT, ↓asZ, ↓aNT, ↓arL, ↓asL, ↓arI, ↓asI, ↓aR_1, ↓bnd_some, ↓wh_eq, ↓on_some, ↓on_none, asZ, arL, asL, arI, asI, aR_1, bnd_some, wh_eq, on_some, on_none, tnT, tnU, tnL, nk, jk, N_add, N_mul, N_sub, N_neg, J_add, J_mul, J_sub, J_neg, N_J, ↓bq K]
  · obtain ⟨K, ku⟩ := k3 c1
    by_cases c2 : farC ox oy (v 4) (v 5) (v 6) (v 7)
    · refine ⟨l2, fun q h1 h2 => by rw [m1 q h2, k1 q h1], fun _ => ?_, fun h => absurd (Or.inr c2) h⟩
      have M := m2 c2
      unfold fX1_workOutCorners_31
      rw [E2]
      simp only [nk]
      simp (disch := omega) only [↓iNlt_t, ↓iNlt_f, ↓iNle_t, ↓iNle_f, ↓iNeq_t, ↓iNeq_f, ↓iJlt_t, ↓iJlt_f, ↓iJle_t, ↓iJle_f, ↓iJeq_t, ↓iJeq_f, ↓iZlt_t, ↓iZlt_f, ↓iZle_t, ↓iZle_f, ↓iZeq_t, ↓iZeq_f, ↓iQlt_t, ↓iQlt_f, ↓iQle_t, ↓iQle_f, ↓iQeq_t, ↓iQeq_f, ↓iAnd_t, ↓iAnd_f, ↓iOr_t, ↓iOr_f, ↓iIff_t, ↓iIff_f, ↓iNot_t, ↓iNot_f, ↓iTrue, ↓iFalse, ↓ckN, ↓ckJ, ↓gIT, ↓gLT, ↓gRT, ↓cvT, ↓pIT, ↓pLT, ↓pZT, ↓asZ, ↓aNT, ↓arL, ↓asL, ↓arI, ↓asI, ↓aR_1, ↓bnd_some, ↓wh_eq, ↓on_some, ↓on_none, asZ, arL, asL, arI, asI, aR_1, bnd_some, wh_eq, on_some, on_none, tnT, tnU, tnL, nk, jk, N_add, N_mul, N_sub, N_neg, J_add, J_mul, J_sub, J_neg, N_J, ↓bq K, ↓bq M]
    · obtain ⟨M, mu'⟩ := m3 c2
      refine ⟨l2, fun q h1 h2 => by rw [m1 q h2, k1 q h1], fun h => absurd h (by rintro (z | z) <;> contradiction), fun _ => ⟨?_, fun k hk => ⟨by rw [m1 17 (by omega)]; exact ku k hk, mu' k hk⟩⟩⟩
      unfold fX1_workOutCorners_31
      rw [E2]
      simp only [nk]
      simp (disch := omega) only [↓iNlt_t, ↓iNlt_f, ↓iNle_t, ↓iNle_f, ↓iNeq_t, ↓iNeq_f, ↓iJlt_t, ↓iJlt_f, ↓iJle_t, ↓iJle_f, ↓iJeq_t, ↓iJeq_f, ↓iZlt_t, ↓iZlt_f, ↓iZle_t, ↓iZle_f, ↓iZeq_t, ↓iZeq_f, ↓iQlt_t, ↓iQlt_f, ↓iQle_t, ↓iQle_f, ↓iQeq_t, ↓iQeq_f, ↓iAnd_t, ↓iAnd_f, ↓iOr_t, ↓iOr_f, ↓iIff_t, ↓iIff_f, ↓iNot_t, ↓iNot_f, ↓iTrue, ↓iFalse, ↓ckN, ↓ckJ, ↓gIT, ↓gLT, ↓gRT, ↓cvT, ↓pIT, ↓pLT, ↓pZT, ↓asZ, ↓aNT, ↓arL, ↓asL, ↓arI, ↓asI, ↓aR_1, ↓bnd_some, ↓wh_eq, ↓on_some, ↓on_none, asZ, arL, asL, arI, asI, aR_1, bnd_some, wh_eq, on_some, on_none, tnT, tnU, tnL, nk, jk, N_add, N_mul, N_sub, N_neg, J_add, J_mul, J_sub, J_neg, N_J, ↓bq K, ↓bq M]
/-- the corners agree -/
def AGp (U L : Nat → Int) (c : Nat) : Prop := (∀ j, j < c → L j ≠ 0 ∧ (L j < 0 ↔ L 0 < 0)) ∧ ∀ j, j < c → (U j).fdiv (L j) = (U 0).fdiv (L 0)
theorem fdiv_far {a b : Int} (ha : ¬ far a) (hb : b ≠ 0) : ¬ far (a.fdiv b) := by
  rcases Int.lt_or_gt_of_ne hb with z | z
  · have e : a.fdiv b = (-a).fdiv (-b) := (Int.neg_fdiv_neg ..).symm
    rw [e]
    have := fdiv_abs (a := -a) (b := -b) (by omega)
    omega
  · have := fdiv_abs (a := a) (b := b) z
    omega
theorem q_ag82 {c : Nat} (hc : 1 ≤ c ∧ c ≤ 4) (hi : i 12 6 = c) (hL : ∀ j, j < c → ¬ far (l 17 j) ∧ ¬ far (l 18 j) ∧ l 18 j ≠ 0) : ∀ (m k q : Nat), k + m = c → m + 1 ≤ q →
    ((∀ j, k ≤ j → j < c → (l 17 j).fdiv (l 18 j) = (l 17 0).fdiv (l 18 0)) → fX1_cornersAgree_82L q 12 (J ((l 17 0).fdiv (l 18 0))) (N k) (hq i l x y) = some (N 1, hq i l x y)) ∧ ((∃ j, k ≤ j ∧ j < c ∧ (l 17 j).fdiv (l 18 j) ≠ (l 17 0).fdiv (l 18 0)) → fX1_cornersAgree_82L q 12 (J ((l 17 0).fdiv (l 18 0))) (N k) (hq i l x y) = some (N 0, hq i l x y)) := by
  obtain ⟨g1, g2, g3⟩ := hL 0 (by omega)
  have g4 := fdiv_far g1 g3
  intro m
  induction m with
  | zero =>
    intro k q hk hq'
    obtain ⟨z, rfl⟩ : ∃ z, q = z + 1 := ⟨q - 1, by omega⟩
    refine ⟨fun _ => ?_, fun ⟨j, h1, h2, _⟩ => by omega⟩
    show fX1_cornersAgree_82 (fX1_cornersAgree_82L z) 12 _ _ _ = _
    unfold fX1_cornersAgree_82
    simp only [nk, jk, N_add, N_mul, N_sub, N_neg, J_add, J_mul, J_sub, J_neg]
    simp (disch := omega) only [↓iNlt_t, ↓iNlt_f, ↓iNle_t, ↓iNle_f, ↓iNeq_t, ↓iNeq_f, ↓iJlt_t, ↓iJlt_f, ↓iJle_t, ↓iJle_f, ↓iJeq_t, ↓iJeq_f, ↓iZlt_t, ↓iZlt_f, ↓iZle_t, ↓iZle_f, ↓iZeq_t, ↓iZeq_f, ↓iQlt_t, ↓iQlt_f, ↓iQle_t, ↓iQle_f, ↓iQeq_t, ↓iQeq_f, ↓iAnd_t, ↓iAnd_f, ↓iOr_t, ↓iOr_f, ↓iIff_t, ↓iIff_f, ↓iNot_t, ↓iNot_f, ↓iTrue, ↓iFalse, ↓ckN, ↓ckJ, ↓gIT, ↓gLT, ↓gRT, ↓cvT, ↓pIT, ↓pLT, ↓pZT, ↓asZ, ↓aNT, ↓arL, ↓asL, ↓arI, ↓asI, ↓aR_1, ↓bnd_some, ↓wh_eq, ↓on_some, ↓on_none, asZ, arL, asL, arI, asI, aR_1, bnd_some, wh_eq, on_some, on_none, tnT, tnU, tnL, nk, jk, N_add, N_mul, N_sub, N_neg, J_add, J_mul, J_sub, J_neg, N_J, hi]
  | succ m ih =>
    intro k q hk hq'
    obtain ⟨z, rfl⟩ : ∃ z, q = z + 1 := ⟨q - 1, by omega⟩
    have ih := ih (k + 1) z (by omega) (by omega)
    obtain ⟨b1, b2, b3⟩ := hL k (by omega)
    have b4 := fdiv_far b1 b3
    by_cases c1 : (l 17 k).fdiv (l 18 k) = (l 17 0).fdiv (l 18 0)
    · have S : fX1_cornersAgree_82L (z + 1) 12 (J ((l 17 0).fdiv (l 18 0))) (N k) (hq i l x y) = fX1_cornersAgree_82L z 12 (J ((l 17 0).fdiv (l 18 0))) (N ((k + 1 : Nat) : Int)) (hq i l x y) := by
        show fX1_cornersAgree_82 (fX1_cornersAgree_82L z) 12 _ _ _ = _
        unfold fX1_cornersAgree_82
        simp only [nk, jk, N_add, N_mul, N_sub, N_neg, J_add, J_mul, J_sub, J_neg]
        simp (disch := omega) only [↓iNlt_t, ↓iNlt_f, ↓iNle_t, ↓iNle_f, ↓iNeq_t, ↓iNeq_f, ↓iJlt_t, ↓iJlt_f, ↓iJle_t, ↓iJle_f, ↓iJeq_t, ↓iJeq_f, ↓iZlt_t, ↓iZlt_f, ↓iZle_t, ↓iZle_f, ↓iZeq_t, ↓iZeq_f, ↓iQlt_t, ↓iQlt_f, ↓iQle_t, ↓iQle_f, ↓iQeq_t, ↓iQeq_f, ↓iAnd_t, ↓iAnd_f, ↓iOr_t, ↓iOr_f, ↓iIff_t, ↓iIff_f, ↓iNot_t, ↓iNot_f, ↓iTrue, ↓iFalse, ↓ckN, ↓ckJ, ↓gIT, ↓gLT, ↓gRT, ↓cvT, ↓pIT, ↓pLT, ↓pZT, ↓asZ, ↓aNT, ↓arL, ↓asL, ↓arI, ↓asI, ↓aR_1, ↓bnd_some, ↓wh_eq, ↓on_some, ↓on_none, asZ, arL, asL, arI, asI, aR_1, bnd_some, wh_eq, on_some, on_none, tnT, tnU, tnL, nk, jk, N_add, N_mul, N_sub, N_neg, J_add, J_mul, J_sub, J_neg, N_J, hi, ↓b_floorOf]
        rfl
      rw [S]
      refine ⟨fun h => ih.1 (fun j h1 h2 => h j (by omega) h2), fun ⟨j, h1, h2, h3⟩ => ih.2 ⟨j, ?_, h2, h3⟩⟩
      by_cases e : j = k
      · rw [e] at h3; exact absurd c1 h3
      · omega
    · refine ⟨fun h => absurd (h k (Nat.le_refl _) (by omega)) c1, fun _ => ?_⟩
      show fX1_cornersAgree_82 (fX1_cornersAgree_82L z) 12 _ _ _ = _
      unfold fX1_cornersAgree_82
      simp only [nk, jk, N_add, N_mul, N_sub, N_neg, J_add, J_mul, J_sub, J_neg]
      simp (disch := omega) only [↓iNlt_t, ↓iNlt_f, ↓iNle_t, ↓iNle_f, ↓iNeq_t, ↓iNeq_f, ↓iJlt_t, ↓iJlt_f, ↓iJle_t, ↓iJle_f, ↓iJeq_t, ↓iJeq_f, ↓iZlt_t, ↓iZlt_f, ↓iZle_t, ↓iZle_f, ↓iZeq_t, ↓iZeq_f, ↓iQlt_t, ↓iQlt_f, ↓iQle_t, ↓iQle_f, ↓iQeq_t, ↓iQeq_f, ↓iAnd_t, ↓iAnd_f, ↓iOr_t, ↓iOr_f, ↓iIff_t, ↓iIff_f, ↓iNot_t, ↓iNot_f, ↓iTrue, ↓iFalse, ↓ckN, ↓ckJ, ↓gIT, ↓gLT, ↓gRT, ↓cvT, ↓pIT, ↓pLT, ↓pZT, ↓asZ, ↓aNT, ↓arL, ↓asL, ↓arI, ↓asI, ↓aR_1, ↓bnd_some, ↓wh_eq, ↓on_some, ↓on_none, asZ, arL, asL, arI, asI, aR_1, bnd_some, wh_eq, on_some, on_none, tnT, tnU, tnL, nk, jk, N_add, N_mul, N_sub, N_neg, J_add, J_mul, J_sub, J_neg, N_J, hi, ↓b_floorOf]
theorem q_ag2 {c : Nat} (hc : 1 ≤ c ∧ c ≤ 4) (hi : i 12 6 = c) (hL : ∀ j, j < c → ¬ far (l 17 j) ∧ ¬ far (l 18 j)) : ∀ (m k q : Nat), k + m = c → m + 1 ≤ q →
    ((∀ j, k ≤ j → j < c → l 18 j ≠ 0 ∧ (l 18 j < 0 ↔ l 18 0 < 0)) → fX1_cornersAgree_2L q 12 (N k) (hq i l x y) = fX1_cornersAgree_64 12 (hq i l x y)) ∧ ((∃ j, k ≤ j ∧ j < c ∧ ¬ (l 18 j ≠ 0 ∧ (l 18 j < 0 ↔ l 18 0 < 0))) → fX1_cornersAgree_2L q 12 (N k) (hq i l x y) = some (N 0, hq i l x y)) := by
  obtain ⟨g1, g2⟩ := hL 0 (by omega)
  intro m
  induction m with
  | zero =>
    intro k q hk hq'
    obtain ⟨z, rfl⟩ : ∃ z, q = z + 1 := ⟨q - 1, by omega⟩
    refine ⟨fun _ => ?_, fun ⟨j, h1, h2, _⟩ => by omega⟩
    show fX1_cornersAgree_2 (fX1_cornersAgree_2L z) 12 _ _ = _
    unfold fX1_cornersAgree_2
    simp only [nk, jk, N_add, N_mul, N_sub, N_neg, J_add, J_mul, J_sub, J_neg]
    simp (disch := omega) only [↓iNlt_t, ↓iNlt_f, ↓iNle_t, ↓iNle_f, ↓iNeq_t, ↓iNeq_f, ↓iJlt_t, ↓iJlt_f, ↓iJle_t, ↓iJle_f, ↓iJeq_t, ↓iJeq_f, ↓iZlt_t, ↓iZlt_f, ↓iZle_t, ↓iZle_f, ↓iZeq_t, ↓iZeq_f, ↓iQlt_t, ↓iQlt_f, ↓iQle_t, ↓iQle_f, ↓iQeq_t, ↓iQeq_f, ↓iAnd_t, ↓iAnd_f, ↓iOr_t, ↓iOr_f, ↓iIff_t, ↓iIff_f, ↓iNot_t, ↓iNot_f, ↓iTrue, ↓iFalse, ↓ckN, ↓ckJ, ↓gIT, ↓gLT, ↓gRT, ↓cvT, ↓pIT, ↓pLT, ↓pZT, ↓asZ, ↓aNT, ↓arL, ↓asL, ↓arI, ↓asI, ↓aR_1, ↓bnd_some, ↓wh_eq, ↓on_some, ↓on_none, asZ, arL, asL, arI, asI, aR_1, bnd_some, wh_eq, on_some, on_none, tnT, tnU, tnL, nk, jk, N_add, N_mul, N_sub, N_neg, J_add, J_mul, J_sub, J_neg, N_J, hi]
  | succ m ih =>
    intro k q hk hq'
    obtain ⟨z, rfl⟩ : ∃ z, q = z + 1 := ⟨q - 1, by omega⟩
    have ih := ih (k + 1) z (by omega) (by omega)
    obtain ⟨b1, b2⟩ := hL k (by omega)
    by_cases c1 : l 18 k ≠ 0 ∧ (l 18 k < 0 ↔ l 18 0 < 0)
    · have S : fX1_cornersAgree_2L (z + 1) 12 (N k) (hq i l x y) = fX1_cornersAgree_2L z 12 (N ((k + 1 : Nat) : Int)) (hq i l x y) := by
        show fX1_cornersAgree_2 (fX1_cornersAgree_2L z) 12 _ _ = _
        unfold fX1_cornersAgree_2 fX1_cornersAgree_37
        obtain ⟨c1, c2⟩ := c1
        simp only [nk, jk, N_add, N_mul, N_sub, N_neg, J_add, J_mul, J_sub, J_neg]
        by_cases c3 : l 18 k < 0
        · have := c2.mp c3
          simp (disch := omega) only [↓iNlt_t, ↓iNlt_f, ↓iNle_t, ↓iNle_f, ↓iNeq_t, ↓iNeq_f, ↓iJlt_t, ↓iJlt_f, ↓iJle_t, ↓iJle_f, ↓iJeq_t, ↓iJeq_f, ↓iZlt_t, ↓iZlt_f, ↓iZle_t, ↓iZle_f, ↓iZeq_t, ↓iZeq_f, ↓iQlt_t, ↓iQlt_f, ↓iQle_t, ↓iQle_f, ↓iQeq_t, ↓iQeq_f, ↓iAnd_t, ↓iAnd_f, ↓iOr_t, ↓iOr_f, ↓iIff_t, ↓iIff_f, ↓iNot_t, ↓iNot_f, ↓iTrue, ↓iFalse, ↓ckN, ↓ckJ, ↓gIT, ↓gLT, ↓gRT, ↓cvT, ↓pIT, ↓pLT, ↓pZT, ↓asZ, ↓aNT, ↓arL, ↓asL, ↓arI, ↓asI, ↓aR_1, ↓bnd_some, ↓wh_eq, ↓on_some, ↓on_none, asZ, arL, asL, arI, asI, aR_1, bnd_some, wh_eq, on_some, on_none, tnT, tnU, tnL, nk, jk, N_add, N_mul, N_sub, N_neg, J_add, J_mul, J_sub, J_neg, N_J, hi]
          rfl
        · have : ¬ l 18 0 < 0 := fun z => c3 (c2.mpr z)
          simp (disch := omega) only [↓iNlt_t, ↓iNlt_f, ↓iNle_t, ↓iNle_f, ↓iNeq_t, ↓iNeq_f, ↓iJlt_t, ↓iJlt_f, ↓iJle_t, ↓iJle_f, ↓iJeq_t, ↓iJeq_f, ↓iZlt_t, ↓iZlt_f, ↓iZle_t, ↓iZle_f, ↓iZeq_t, ↓iZeq_f, ↓iQlt_t, ↓iQlt_f, ↓iQle_t, ↓iQle_f, ↓iQeq_t, ↓iQeq_f, ↓iAnd_t, ↓iAnd_f, ↓iOr_t, ↓iOr_f, ↓iIff_t, ↓iIff_f, ↓iNot_t, ↓iNot_f, ↓iTrue, ↓iFalse, ↓ckN, ↓ckJ, ↓gIT, ↓gLT, ↓gRT, ↓cvT, ↓pIT, ↓pLT, ↓pZT, ↓asZ, ↓aNT, ↓arL, ↓asL, ↓arI, ↓asI, ↓aR_1, ↓bnd_some, ↓wh_eq, ↓on_some, ↓on_none, asZ, arL, asL, arI, asI, aR_1, bnd_some, wh_eq, on_some, on_none, tnT, tnU, tnL, nk, jk, N_add, N_mul, N_sub, N_neg, J_add, J_mul, J_sub, J_neg, N_J, hi]
          rfl
      rw [S]
      refine ⟨fun h => ih.1 (fun j h1 h2 => h j (by omega) h2), fun ⟨j, h1, h2, h3⟩ => ih.2 ⟨j, ?_, h2, h3⟩⟩
      by_cases e : j = k
      · rw [e] at h3; exact absurd c1 h3
      · omega
    · refine ⟨fun h => absurd (h k (Nat.le_refl _) (by omega)) c1, fun _ => ?_⟩
      show fX1_cornersAgree_2 (fX1_cornersAgree_2L z) 12 _ _ = _
      unfold fX1_cornersAgree_2 fX1_cornersAgree_37
      simp only [nk, jk, N_add, N_mul, N_sub, N_neg, J_add, J_mul, J_sub, J_neg]
      by_cases c2 : l 18 k = 0
      · simp (disch := omega) only [↓iNlt_t, ↓iNlt_f, ↓iNle_t, ↓iNle_f, ↓iNeq_t, ↓iNeq_f, ↓iJlt_t, ↓iJlt_f, ↓iJle_t, ↓iJle_f, ↓iJeq_t, ↓iJeq_f, ↓iZlt_t, ↓iZlt_f, ↓iZle_t, ↓iZle_f, ↓iZeq_t, ↓iZeq_f, ↓iQlt_t, ↓iQlt_f, ↓iQle_t, ↓iQle_f, ↓iQeq_t, ↓iQeq_f, ↓iAnd_t, ↓iAnd_f, ↓iOr_t, ↓iOr_f, ↓iIff_t, ↓iIff_f, ↓iNot_t, ↓iNot_f, ↓iTrue, ↓iFalse, ↓ckN, ↓ckJ, ↓gIT, ↓gLT, ↓gRT, ↓cvT, ↓pIT, ↓pLT, ↓pZT, ↓asZ, ↓aNT, ↓arL, ↓asL, ↓arI, ↓asI, ↓aR_1, ↓bnd_some, ↓wh_eq, ↓on_some, ↓on_none, asZ, arL, asL, arI, asI, aR_1, bnd_some, wh_eq, on_some, on_none, tnT, tnU, tnL, nk, jk, N_add, N_mul, N_sub, N_neg, J_add, J_mul, J_sub, J_neg, N_J, hi]
      · by_cases c3 : l 18 k < 0
        · have : ¬ l 18 0 < 0 := fun z => c1 ⟨c2, ⟨fun _ => z, fun _ => c3⟩⟩
          simp (disch := omega) only [↓iNlt_t, ↓iNlt_f, ↓iNle_t, ↓iNle_f, ↓iNeq_t, ↓iNeq_f, ↓iJlt_t, ↓iJlt_f, ↓iJle_t, ↓iJle_f, ↓iJeq_t, ↓iJeq_f, ↓iZlt_t, ↓iZlt_f, ↓iZle_t, ↓iZle_f, ↓iZeq_t, ↓iZeq_f, ↓iQlt_t, ↓iQlt_f, ↓iQle_t, ↓iQle_f, ↓iQeq_t, ↓iQeq_f, ↓iAnd_t, ↓iAnd_f, ↓iOr_t, ↓iOr_f, ↓iIff_t, ↓iIff_f, ↓iNot_t, ↓iNot_f, ↓iTrue, ↓iFalse, ↓ckN, ↓ckJ, ↓gIT, ↓gLT, ↓gRT, ↓cvT, ↓pIT, ↓pLT, ↓pZT, ↓asZ, ↓aNT, ↓arL, ↓asL, ↓arI, ↓asI, ↓aR_1, ↓bnd_some, ↓wh_eq, ↓on_some, ↓on_none, asZ, arL, asL, arI, asI, aR_1, bnd_some, wh_eq, on_some, on_none, tnT, tnU, tnL, nk, jk, N_add, N_mul, N_sub, N_neg, J_add, J_mul, J_sub, J_neg, N_J, hi]
        · have : l 18 0 < 0 := by
            rcases Classical.em (l 18 0 < 0) with z | z
            · exact z
            · exact absurd ⟨c2, ⟨fun w => absurd w c3, fun w => absurd w z⟩⟩ c1
          simp (disch := omega) only [↓iNlt_t, ↓iNlt_f, ↓iNle_t, ↓iNle_f, ↓iNeq_t, ↓iNeq_f, ↓iJlt_t, ↓iJlt_f, ↓iJle_t, ↓iJle_f, ↓iJeq_t, ↓iJeq_f, ↓iZlt_t, ↓iZlt_f, ↓iZle_t, ↓iZle_f, ↓iZeq_t, ↓iZeq_f, ↓iQlt_t, ↓iQlt_f, ↓iQle_t, ↓iQle_f, ↓iQeq_t, ↓iQeq_f, ↓iAnd_t, ↓iAnd_f, ↓iOr_t, ↓iOr_f, ↓iIff_t, ↓iIff_f, ↓iNot_t, ↓iNot_f, ↓iTrue, ↓iFalse, ↓ckN, ↓ckJ, ↓gIT, ↓gLT, ↓gRT, ↓cvT, ↓pIT, ↓pLT, ↓pZT, ↓asZ, ↓aNT, ↓arL, ↓asL, ↓arI, ↓asI, ↓aR_1, ↓bnd_some, ↓wh_eq, ↓on_some, ↓on_none, asZ, arL, asL, arI, asI, aR_1, bnd_some, wh_eq, on_some, on_none, tnT, tnU, tnL, nk, jk, N_add, N_mul, N_sub, N_neg, J_add, J_mul, J_sub, J_neg, N_J, hi]
theorem q_agreeC {c : Nat} (hc : 2 ≤ c ∧ c ≤ 4) (hi : i 12 6 = c) (hL : ∀ j, j < c → ¬ far (l 17 j) ∧ ¬ far (l 18 j)) : (AGp (l 17) (l 18) c → fX1_cornersAgree 12 (hq i l x y) = some (N 1, hq i l x y)) ∧ (¬ AGp (l 17) (l 18) c → fX1_cornersAgree 12 (hq i l x y) = some (N 0, hq i l x y)) := by
  have A := q_ag2 (i := i) (l := l) (x := x) (y := y) (c := c) (by omega) hi hL c 0 1000 (by omega) (by omega)
  have E : fX1_cornersAgree 12 (hq i l x y) = fX1_cornersAgree_2L 1000 12 (N ((0 : Nat) : Int)) (hq i l x y) := rfl
  rw [E]
  by_cases c1 : ∀ j, j < c → l 18 j ≠ 0 ∧ (l 18 j < 0 ↔ l 18 0 < 0)
  · have B := q_ag82 (i := i) (l := l) (x := x) (y := y) (c := c) (by omega) hi (fun j hj => ⟨(hL j hj).1, (hL j hj).2, (c1 j hj).1⟩) (c - 1) 1 1000 (by omega) (by omega)
    obtain ⟨g1, g2⟩ := hL 0 (by omega)
    have F : fX1_cornersAgree_64 12 (hq i l x y) = fX1_cornersAgree_82L 1000 12 (J ((l 17 0).fdiv (l 18 0))) (N ((1 : Nat) : Int)) (hq i l x y) := by
      unfold fX1_cornersAgree_64
      simp only [nk, jk, N_add, N_mul, N_sub, N_neg, J_add, J_mul, J_sub, J_neg]
      simp (disch := omega) only [↓iNlt_t, ↓iNlt_f, ↓iNle_t, ↓iNle_f, ↓iNeq_t, ↓iNeq_f, ↓iJlt_t, ↓iJlt_f, ↓iJle_t, ↓iJle_f, ↓iJeq_t, ↓iJeq_f, ↓iZlt_t, ↓iZlt_f, ↓iZle_t, ↓iZle_f, ↓iZeq_t, ↓iZeq_f, ↓iQlt_t, ↓iQlt_f, ↓iQle_t, ↓iQle_f, ↓iQeq_t, ↓iQeq_f, ↓iAnd_t, ↓iAnd_f, ↓iOr_t, ↓iOr_f, ↓iIff_t, ↓iIff_f, ↓iNot_t, ↓iNot_f, ↓iTrue, ↓iFalse, ↓ckN, ↓ckJ, ↓gIT, ↓gLT, ↓gRT, ↓cvT, ↓pIT, ↓pLT, ↓pZT, ↓asZ, ↓aNT, ↓arL, ↓asL, ↓arI, ↓asI, ↓aR_1, ↓bnd_some, ↓wh_eq, ↓on_some, ↓on_none, asZ, arL, asL, arI, asI, aR_1, bnd_some, wh_eq, on_some, on_none, tnT, tnU, tnL, nk, jk, N_add, N_mul, N_sub, N_neg, J_add, J_mul, J_sub, J_neg, N_J, ↓b_floorOf]
      rfl
    rw [A.1 (fun j _ hj => c1 j hj), F]
    refine ⟨fun h => B.1 (fun j _ hj => h.2 j hj), fun h => B.2 ?_⟩
    rcases Classical.em (∃ j, 1 ≤ j ∧ j < c ∧ (l 17 j).fdiv (l 18 j) ≠ (l 17 0).fdiv (l 18 0)) with z | z
    · exact z
    · refine absurd ⟨c1, fun j hj => ?_⟩ h
      by_cases e : j = 0
      · rw [e]
      · rcases Classical.em ((l 17 j).fdiv (l 18 j) = (l 17 0).fdiv (l 18 0)) with w | w
        · exact w
        · exact absurd ⟨j, by omega, hj, w⟩ z
  · refine ⟨fun h => absurd h.1 c1, fun _ => A.2 ?_⟩
    rcases Classical.em (∃ j, 0 ≤ j ∧ j < c ∧ ¬ (l 18 j ≠ 0 ∧ (l 18 j < 0 ↔ l 18 0 < 0))) with z | z
    · exact z
    · refine absurd (fun j hj => ?_) c1
      rcases Classical.em (l 18 j ≠ 0 ∧ (l 18 j < 0 ↔ l 18 0 < 0)) with w | w
      · exact w
      · exact absurd ⟨j, Nat.zero_le _, hj, w⟩ z
end CN
