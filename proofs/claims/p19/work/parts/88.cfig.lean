/-! ===== figure, whole ===== -/
theorem Rel.near2 {i l : Nat → Nat → Int} (h : Rel i l) (p : Nat → Int) (q : Nat) {b v : Int} (hb : a01 b) (d1 d2 d3 d4 c1 c2 c3 c4 c5 c6 : Int) : Rel (w1 (w1 i 20 2 v) 108 0 b) (gnL (fiL (neL l p q) d1 d2 d3 d4) c1 c2 c3 c4 c5 c6) := by
  have e : ∀ c, c ≠ 108 → c ≠ 21 → c ≠ 22 → c ≠ 27 → gnL (fiL (neL l p q) d1 d2 d3 d4) c1 c2 c3 c4 c5 c6 c = l c := fun c h1 h2 h3 h4 => by rw [gnL_n _ _ _ _ _ _ _ h1, fiL_n _ _ _ _ _ h4, neL_n _ _ _ h2 h3]
  refine h.keep (fun s hs => ⟨by simp (disch := omega) only [w1_r, w1_n, w1_s, true_and, and_true], e _ (by omega) (by omega) (by omega) (by omega), e _ (by omega) (by omega) (by omega) (by omega)⟩) ⟨⟨by simp (disch := omega) only [w1_r, w1_n, w1_s, true_and, and_true], by simp (disch := omega) only [w1_r, w1_n, w1_s, true_and, and_true], by simp (disch := omega) only [w1_r, w1_n, w1_s, true_and, and_true], by simp (disch := omega) only [w1_r, w1_n, w1_s, true_and, and_true], by simp (disch := omega) only [w1_r, w1_n, w1_s, true_and, and_true], by simp (disch := omega) only [w1_r, w1_n, w1_s, true_and, and_true], by simp (disch := omega) only [w1_r, w1_n, w1_s, true_and, and_true]⟩, ⟨e _ (by omega) (by omega) (by omega) (by omega), e _ (by omega) (by omega) (by omega) (by omega), e _ (by omega) (by omega) (by omega) (by omega), e _ (by omega) (by omega) (by omega) (by omega), e _ (by omega) (by omega) (by omega) (by omega), e _ (by omega) (by omega) (by omega) (by omega)⟩, e _ (by omega) (by omega) (by omega) (by omega), e _ (by omega) (by omega) (by omega) (by omega), e _ (by omega) (by omega) (by omega) (by omega), e _ (by omega) (by omega) (by omega) (by omega), e _ (by omega) (by omega) (by omega) (by omega)⟩ ⟨by simp (disch := omega) only [w1_r, w1_n, w1_s, true_and, and_true], by simp (disch := omega) only [w1_r, w1_n, w1_s, true_and, and_true], by simp (disch := omega) only [w1_r, w1_n, w1_s, true_and, and_true], by simp (disch := omega) only [w1_r, w1_n, w1_s, true_and, and_true], by simp (disch := omega) only [w1_r, w1_n, w1_s, true_and, and_true], by simp (disch := omega) only [w1_r, w1_n, w1_s, true_and, and_true], by simp (disch := omega) only [w1_r, w1_n, w1_s, true_and, and_true], by simp (disch := omega) only [w1_r, w1_n, w1_s, true_and, and_true], by simp (disch := omega) only [w1_r, w1_n, w1_s, true_and, and_true], by simp (disch := omega) only [w1_r, w1_n, w1_s, true_and, and_true]⟩ ?_
  rw [w1_s]
  exact hb
theorem c_figure (a b c : Int32) : Agree (fX8_figure 0 a b c) (fX9_figure 108 a b c) := by
  intro i l x y r
  rcases r.who (x := x) (y := y) a with ⟨f, g⟩ | ⟨s, hs, rfl, h1, sd, f, g⟩
  · refine agree_of (-2000000000000000001) r ?_ ?_
    · unfold fX8_figure
      rw [cv_q s0T, f, bnd_some, on_none]
    · unfold fX9_figure
      rw [cv_q s9T, g, bnd_some, if10]
  · have hb := N_rng b
    have hc := N_rng c
    rw [N_of b, N_of c]
    generalize b.toInt = w at *
    generalize c.toInt = k at *
    have st := (St_s hs).1.1
    obtain ⟨-, ⟨n1, n2, n3⟩, ⟨d1, d2⟩, -, hp, ⟨en, -⟩, -⟩ := sd
    by_cases cw : (2 ≤ w ∧ w ≤ 36) ∧ 0 ≤ k ∧ k ≤ 40
    · obtain ⟨cw, ck⟩ := cw
      obtain ⟨k', rfl⟩ : ∃ k' : Nat, k = k' := ⟨k.toNat, by omega⟩
      obtain ⟨p, hpe⟩ : ∃ p : Nat → Int, ∀ k, p k = l 113 (60 * s + k) := ⟨fun k => l 113 (60 * s + k), fun _ => rfl⟩
      obtain ⟨n0, hn0⟩ : ∃ n0 : Nat, i 111 s = n0 := ⟨(i 111 s).toNat, by omega⟩
      have hp' : ∀ k, k < n0 → l (2 * s + 28 + 1) k = p k ∧ ¬ far (p k) := fun k hk => by rw [hpe]; exact ⟨(hp k (by omega)).1, (hp k (by omega)).2.1⟩
      have hpos : ∀ j, 0 < j → j < n0 → 1 ≤ p j := fun j z1 z2 => by rw [hpe]; exact (hp j (by omega)).2.2 z1
      have W := q_workOut (i := i) (l := l) (x := x) (y := y) (St_s hs) (by omega) (p := p) (n0 := n0) (by omega) (by omega) hp'
      have hK := nK_le p n0 0
      have hw1 : ∀ v, w1 i 20 2 v (2 * s + 28) = i (2 * s + 28) := fun v => w1_r _ _ _ (by omega)
      have hv : ∀ v c, c ≠ 20 → w1 i 20 2 v c = i c := fun v c hc => w1_r _ _ _ hc
      have hen : i 112 s = 0 ∨ i 112 s = 1 := d2
      -- the reference, behind whatever the class left in its figures
      have M : ∀ q1 q2 q3 q4 : Int, ∃ b' c1 c2 c3 c4 c5 c6 : Int, fX9_figure 108 (N s) (N w) (N (k' : Int)) (hq (w1 i 20 2 (nK p n0 0 : Nat)) (fiL (neL l p (nK p n0 0)) q1 q2 q3 q4) x y) = some (J (figV p n0 (i 112 s) w k'), hq (w1 (w1 i 20 2 (nK p n0 0 : Nat)) 108 0 b') (gnL (fiL (neL l p (nK p n0 0)) q1 q2 q3 q4) c1 c2 c3 c4 c5 c6) x y) ∧ a01 b' := by
        intro q1 q2 q3 q4
        have l113 : fiL (neL l p (nK p n0 0)) q1 q2 q3 q4 113 = l 113 := by rw [fiL_n _ _ _ _ _ (by omega), neL_n _ _ _ (by omega) (by omega)]
        have hp2 : ∀ k, k < n0 → fiL (neL l p (nK p n0 0)) q1 q2 q3 q4 113 (60 * s + k) = p k ∧ ¬ far (p k) := fun k hk => by rw [l113, ← hpe]; exact ⟨rfl, (hp' k hk).2⟩
        have e1 : w1 i 20 2 (nK p n0 0 : Nat) 111 s = n0 := by rw [hv _ _ (by omega)]; exact hn0
        have e2 : ∀ v, w1 (w1 i 20 2 (nK p n0 0 : Nat)) 108 0 v 112 s = i 112 s := fun v => by rw [w1_na _ _ _ _ (by omega), hv _ _ (by omega)]
        have g' := q_noStream (i := w1 i 20 2 (nK p n0 0 : Nat)) (l := fiL (neL l p (nK p n0 0)) q1 q2 q3 q4) (x := x) (y := y) (s := (s : Int)) (by rw [hv _ _ (by omega)]; exact r.m) (by omega) (by omega)
        rw [(tnT s).1, hv _ _ (by omega), if_pos (by omega)] at g'
        rcases hen with z | z
        · obtain ⟨b', c1, c2, c3, c4, c5, c6, h, hb'⟩ := q_fig151 (i := w1 i 20 2 (nK p n0 0 : Nat)) (l := fiL (neL l p (nK p n0 0)) q1 q2 q3 q4) (x := x) (y := y) hs (p := p) (n0 := n0) (by omega) e1 hp2 hpos cw (k := k') (by omega) n0 0 1000 (by omega) (by omega) (by omega) rfl 0 0 0 0 (fiL (neL l p (nK p n0 0)) q1 q2 q3 q4 108 30) (fiL (neL l p (nK p n0 0)) q1 q2 q3 q4 108 31) (fun z => by omega)
          refine ⟨b', c1, c2, c3, c4, c5, c6, ?_, hb'⟩
          rw [z, ← h]
          unfold fX9_figure
          rw [cv_q s9T, g', bnd_some, if_pos rfl]
          simp only [nk, jk, N_add, N_mul, N_sub, N_neg, J_add, J_mul, J_sub, J_neg]
          simp (disch := omega) only [↓iNlt_t, ↓iNlt_f, ↓iNle_t, ↓iNle_f, ↓iNeq_t, ↓iNeq_f, ↓iJlt_t, ↓iJlt_f, ↓iJle_t, ↓iJle_f, ↓iJeq_t, ↓iJeq_f, ↓iZlt_t, ↓iZlt_f, ↓iZle_t, ↓iZle_f, ↓iZeq_t, ↓iZeq_f, ↓iQlt_t, ↓iQlt_f, ↓iQle_t, ↓iQle_f, ↓iQeq_t, ↓iQeq_f, ↓iAnd_t, ↓iAnd_f, ↓iOr_t, ↓iOr_f, ↓iIff_t, ↓iIff_f, ↓iNot_t, ↓iNot_f, ↓iTrue, ↓iFalse, ↓ckN, ↓ckJ, ↓gIT, ↓gLT, ↓gRT, ↓cvT, ↓pIT, ↓pLT, ↓pZT, ↓asZ, ↓aNT, ↓arL, ↓asL, ↓arI, ↓asI, ↓aR_1, ↓bnd_some, ↓wh_eq, ↓on_some, ↓on_none, asZ, arL, asL, arI, asI, aR_1, bnd_some, wh_eq, on_some, on_none, tnT, tnU, tnL, nk, jk, N_add, N_mul, N_sub, N_neg, J_add, J_mul, J_sub, J_neg, N_J, ↓b_in, ↓iIb, ↓bq q_beginNear, e2, z]
          rfl
        · obtain ⟨b', c1, c2, c3, c4, c5, c6, h, hb'⟩ := q_fig58 (i := w1 i 20 2 (nK p n0 0 : Nat)) (l := fiL (neL l p (nK p n0 0)) q1 q2 q3 q4) (x := x) (y := y) hs (p := p) (n0 := n0) (by have := en z; omega) (by omega) e1 hp2 hpos cw (k := k') (by omega) n0 0 1000 (by omega) (by omega) (by omega) (fiL (neL l p (nK p n0 0)) q1 q2 q3 q4 108 30) (fiL (neL l p (nK p n0 0)) q1 q2 q3 q4 108 31)
          refine ⟨b', c1, c2, c3, c4, c5, c6, ?_, hb'⟩
          rw [z, ← h]
          unfold fX9_figure
          rw [cv_q s9T, g', bnd_some, if_pos rfl]
          simp only [nk, jk, N_add, N_mul, N_sub, N_neg, J_add, J_mul, J_sub, J_neg]
          simp (disch := omega) only [↓iNlt_t, ↓iNlt_f, ↓iNle_t, ↓iNle_f, ↓iNeq_t, ↓iNeq_f, ↓iJlt_t, ↓iJlt_f, ↓iJle_t, ↓iJle_f, ↓iJeq_t, ↓iJeq_f, ↓iZlt_t, ↓iZlt_f, ↓iZle_t, ↓iZle_f, ↓iZeq_t, ↓iZeq_f, ↓iQlt_t, ↓iQlt_f, ↓iQle_t, ↓iQle_f, ↓iQeq_t, ↓iQeq_f, ↓iAnd_t, ↓iAnd_f, ↓iOr_t, ↓iOr_f, ↓iIff_t, ↓iIff_f, ↓iNot_t, ↓iNot_f, ↓iTrue, ↓iFalse, ↓ckN, ↓ckJ, ↓gIT, ↓gLT, ↓gRT, ↓cvT, ↓pIT, ↓pLT, ↓pZT, ↓asZ, ↓aNT, ↓arL, ↓asL, ↓arI, ↓asI, ↓aR_1, ↓bnd_some, ↓wh_eq, ↓on_some, ↓on_none, asZ, arL, asL, arI, asI, aR_1, bnd_some, wh_eq, on_some, on_none, tnT, tnU, tnL, nk, jk, N_add, N_mul, N_sub, N_neg, J_add, J_mul, J_sub, J_neg, N_J, ↓b_in, ↓iIb, ↓bq q_beginNear, e2, z]
          rfl
      have C : ∃ q1 q2 q3 q4 : Int, fX8_figure 0 (N s) (N w) (N (k' : Int)) (hq i l x y) = some (J (figV p n0 (i 112 s) w k'), hq (w1 i 20 2 (nK p n0 0 : Nat)) (fiL (neL l p (nK p n0 0)) q1 q2 q3 q4) x y) := by
        rcases hen with z | z
        · obtain ⟨q1, q2, q3, q4, h⟩ := q_ofSpan (i := i) (l := l) (x := x) (y := y) (p := p) (n0 := n0) (by omega) hpos cw (k := k') (by omega)
          refine ⟨q1, q2, q3, q4, ?_⟩
          unfold fX8_figure
          rw [cv_q s0T, f, bnd_some, on_some, z]
          simp only [nk, jk, N_add, N_mul, N_sub, N_neg, J_add, J_mul, J_sub, J_neg]
          simp (disch := omega) only [↓iNlt_t, ↓iNlt_f, ↓iNle_t, ↓iNle_f, ↓iNeq_t, ↓iNeq_f, ↓iJlt_t, ↓iJlt_f, ↓iJle_t, ↓iJle_f, ↓iJeq_t, ↓iJeq_f, ↓iZlt_t, ↓iZlt_f, ↓iZle_t, ↓iZle_f, ↓iZeq_t, ↓iZeq_f, ↓iQlt_t, ↓iQlt_f, ↓iQle_t, ↓iQle_f, ↓iQeq_t, ↓iQeq_f, ↓iAnd_t, ↓iAnd_f, ↓iOr_t, ↓iOr_f, ↓iIff_t, ↓iIff_f, ↓iNot_t, ↓iNot_f, ↓iTrue, ↓iFalse, ↓ckN, ↓ckJ, ↓gIT, ↓gLT, ↓gRT, ↓cvT, ↓pIT, ↓pLT, ↓pZT, ↓asZ, ↓aNT, ↓arL, ↓asL, ↓arI, ↓asI, ↓aR_1, ↓bnd_some, ↓wh_eq, ↓on_some, ↓on_none, asZ, arL, asL, arI, asI, aR_1, bnd_some, wh_eq, on_some, on_none, tnT, tnU, tnL, nk, jk, N_add, N_mul, N_sub, N_neg, J_add, J_mul, J_sub, J_neg, N_J, ↓cv_q st, ↓gI_q st, ↓bq W, hw1, d1, z, ↓bq h]
        · obtain ⟨q1, q2, q3, q4, h⟩ := q_ofRatio (i := i) (l := l) (x := x) (y := y) hs (p := p) (n0 := n0) (by have := en z; omega) (by omega) (by omega) hpos cw (k := k') (by omega)
          refine ⟨q1, q2, q3, q4, ?_⟩
          unfold fX8_figure
          rw [cv_q s0T, f, bnd_some, on_some, z]
          simp only [nk, jk, N_add, N_mul, N_sub, N_neg, J_add, J_mul, J_sub, J_neg]
          simp (disch := omega) only [↓iNlt_t, ↓iNlt_f, ↓iNle_t, ↓iNle_f, ↓iNeq_t, ↓iNeq_f, ↓iJlt_t, ↓iJlt_f, ↓iJle_t, ↓iJle_f, ↓iJeq_t, ↓iJeq_f, ↓iZlt_t, ↓iZlt_f, ↓iZle_t, ↓iZle_f, ↓iZeq_t, ↓iZeq_f, ↓iQlt_t, ↓iQlt_f, ↓iQle_t, ↓iQle_f, ↓iQeq_t, ↓iQeq_f, ↓iAnd_t, ↓iAnd_f, ↓iOr_t, ↓iOr_f, ↓iIff_t, ↓iIff_f, ↓iNot_t, ↓iNot_f, ↓iTrue, ↓iFalse, ↓ckN, ↓ckJ, ↓gIT, ↓gLT, ↓gRT, ↓cvT, ↓pIT, ↓pLT, ↓pZT, ↓asZ, ↓aNT, ↓arL, ↓asL, ↓arI, ↓asI, ↓aR_1, ↓bnd_some, ↓wh_eq, ↓on_some, ↓on_none, asZ, arL, asL, arI, asI, aR_1, bnd_some, wh_eq, on_some, on_none, tnT, tnU, tnL, nk, jk, N_add, N_mul, N_sub, N_neg, J_add, J_mul, J_sub, J_neg, N_J, ↓cv_q st, ↓gI_q st, ↓bq W, hw1, d1, z, ↓bq h]
      obtain ⟨q1, q2, q3, q4, C⟩ := C
      obtain ⟨b', c1, c2, c3, c4, c5, c6, M, hb'⟩ := M q1 q2 q3 q4
      exact ⟨_, _, _, x, y, _, _, x, y, C, M, r.near2 _ _ hb' _ _ _ _ _ _ _ _ _ _⟩
    · refine agree_of (-2000000000000000002) r ?_ ?_
      · unfold fX8_figure
        rw [cv_q s0T, f, bnd_some, on_some]
        simp only [nk, jk, N_add, N_mul, N_sub, N_neg, J_add, J_mul, J_sub, J_neg]
        by_cases q1 : w < 2
        · simp (disch := omega) only [↓iNlt_t, ↓iNlt_f, ↓iNle_t, ↓iNle_f, ↓iNeq_t, ↓iNeq_f, ↓iJlt_t, ↓iJlt_f, ↓iJle_t, ↓iJle_f, ↓iJeq_t, ↓iJeq_f, ↓iZlt_t, ↓iZlt_f, ↓iZle_t, ↓iZle_f, ↓iZeq_t, ↓iZeq_f, ↓iQlt_t, ↓iQlt_f, ↓iQle_t, ↓iQle_f, ↓iQeq_t, ↓iQeq_f, ↓iAnd_t, ↓iAnd_f, ↓iOr_t, ↓iOr_f, ↓iIff_t, ↓iIff_f, ↓iNot_t, ↓iNot_f, ↓iTrue, ↓iFalse, ↓ckN, ↓ckJ, ↓gIT, ↓gLT, ↓gRT, ↓cvT, ↓pIT, ↓pLT, ↓pZT, ↓asZ, ↓aNT, ↓arL, ↓asL, ↓arI, ↓asI, ↓aR_1, ↓bnd_some, ↓wh_eq, ↓on_some, ↓on_none, asZ, arL, asL, arI, asI, aR_1, bnd_some, wh_eq, on_some, on_none, tnT, tnU, tnL, nk, jk, N_add, N_mul, N_sub, N_neg, J_add, J_mul, J_sub, J_neg, N_J]
        by_cases q2 : 36 < w
        · simp (disch := omega) only [↓iNlt_t, ↓iNlt_f, ↓iNle_t, ↓iNle_f, ↓iNeq_t, ↓iNeq_f, ↓iJlt_t, ↓iJlt_f, ↓iJle_t, ↓iJle_f, ↓iJeq_t, ↓iJeq_f, ↓iZlt_t, ↓iZlt_f, ↓iZle_t, ↓iZle_f, ↓iZeq_t, ↓iZeq_f, ↓iQlt_t, ↓iQlt_f, ↓iQle_t, ↓iQle_f, ↓iQeq_t, ↓iQeq_f, ↓iAnd_t, ↓iAnd_f, ↓iOr_t, ↓iOr_f, ↓iIff_t, ↓iIff_f, ↓iNot_t, ↓iNot_f, ↓iTrue, ↓iFalse, ↓ckN, ↓ckJ, ↓gIT, ↓gLT, ↓gRT, ↓cvT, ↓pIT, ↓pLT, ↓pZT, ↓asZ, ↓aNT, ↓arL, ↓asL, ↓arI, ↓asI, ↓aR_1, ↓bnd_some, ↓wh_eq, ↓on_some, ↓on_none, asZ, arL, asL, arI, asI, aR_1, bnd_some, wh_eq, on_some, on_none, tnT, tnU, tnL, nk, jk, N_add, N_mul, N_sub, N_neg, J_add, J_mul, J_sub, J_neg, N_J]
        by_cases q3 : k < 0
        · simp (disch := omega) only [↓iNlt_t, ↓iNlt_f, ↓iNle_t, ↓iNle_f, ↓iNeq_t, ↓iNeq_f, ↓iJlt_t, ↓iJlt_f, ↓iJle_t, ↓iJle_f, ↓iJeq_t, ↓iJeq_f, ↓iZlt_t, ↓iZlt_f, ↓iZle_t, ↓iZle_f, ↓iZeq_t, ↓iZeq_f, ↓iQlt_t, ↓iQlt_f, ↓iQle_t, ↓iQle_f, ↓iQeq_t, ↓iQeq_f, ↓iAnd_t, ↓iAnd_f, ↓iOr_t, ↓iOr_f, ↓iIff_t, ↓iIff_f, ↓iNot_t, ↓iNot_f, ↓iTrue, ↓iFalse, ↓ckN, ↓ckJ, ↓gIT, ↓gLT, ↓gRT, ↓cvT, ↓pIT, ↓pLT, ↓pZT, ↓asZ, ↓aNT, ↓arL, ↓asL, ↓arI, ↓asI, ↓aR_1, ↓bnd_some, ↓wh_eq, ↓on_some, ↓on_none, asZ, arL, asL, arI, asI, aR_1, bnd_some, wh_eq, on_some, on_none, tnT, tnU, tnL, nk, jk, N_add, N_mul, N_sub, N_neg, J_add, J_mul, J_sub, J_neg, N_J]
        · simp (disch := omega) only [↓iNlt_t, ↓iNlt_f, ↓iNle_t, ↓iNle_f, ↓iNeq_t, ↓iNeq_f, ↓iJlt_t, ↓iJlt_f, ↓iJle_t, ↓iJle_f, ↓iJeq_t, ↓iJeq_f, ↓iZlt_t, ↓iZlt_f, ↓iZle_t, ↓iZle_f, ↓iZeq_t, ↓iZeq_f, ↓iQlt_t, ↓iQlt_f, ↓iQle_t, ↓iQle_f, ↓iQeq_t, ↓iQeq_f, ↓iAnd_t, ↓iAnd_f, ↓iOr_t, ↓iOr_f, ↓iIff_t, ↓iIff_f, ↓iNot_t, ↓iNot_f, ↓iTrue, ↓iFalse, ↓ckN, ↓ckJ, ↓gIT, ↓gLT, ↓gRT, ↓cvT, ↓pIT, ↓pLT, ↓pZT, ↓asZ, ↓aNT, ↓arL, ↓asL, ↓arI, ↓asI, ↓aR_1, ↓bnd_some, ↓wh_eq, ↓on_some, ↓on_none, asZ, arL, asL, arI, asI, aR_1, bnd_some, wh_eq, on_some, on_none, tnT, tnU, tnL, nk, jk, N_add, N_mul, N_sub, N_neg, J_add, J_mul, J_sub, J_neg, N_J]
      · unfold fX9_figure
        rw [cv_q s9T, g, bnd_some, if_pos rfl]
        simp only [nk, jk, N_add, N_mul, N_sub, N_neg, J_add, J_mul, J_sub, J_neg]
        by_cases q1 : 2 ≤ w ∧ w ≤ 36
        · simp (disch := omega) only [↓iNlt_t, ↓iNlt_f, ↓iNle_t, ↓iNle_f, ↓iNeq_t, ↓iNeq_f, ↓iJlt_t, ↓iJlt_f, ↓iJle_t, ↓iJle_f, ↓iJeq_t, ↓iJeq_f, ↓iZlt_t, ↓iZlt_f, ↓iZle_t, ↓iZle_f, ↓iZeq_t, ↓iZeq_f, ↓iQlt_t, ↓iQlt_f, ↓iQle_t, ↓iQle_f, ↓iQeq_t, ↓iQeq_f, ↓iAnd_t, ↓iAnd_f, ↓iOr_t, ↓iOr_f, ↓iIff_t, ↓iIff_f, ↓iNot_t, ↓iNot_f, ↓iTrue, ↓iFalse, ↓ckN, ↓ckJ, ↓gIT, ↓gLT, ↓gRT, ↓cvT, ↓pIT, ↓pLT, ↓pZT, ↓asZ, ↓aNT, ↓arL, ↓asL, ↓arI, ↓asI, ↓aR_1, ↓bnd_some, ↓wh_eq, ↓on_some, ↓on_none, asZ, arL, asL, arI, asI, aR_1, bnd_some, wh_eq, on_some, on_none, tnT, tnU, tnL, nk, jk, N_add, N_mul, N_sub, N_neg, J_add, J_mul, J_sub, J_neg, N_J, ↓b_in, ↓iIb]
        · simp (disch := omega) only [↓iNlt_t, ↓iNlt_f, ↓iNle_t, ↓iNle_f, ↓iNeq_t, ↓iNeq_f, ↓iJlt_t, ↓iJlt_f, ↓iJle_t, ↓iJle_f, ↓iJeq_t, ↓iJeq_f, ↓iZlt_t, ↓iZlt_f, ↓iZle_t, ↓iZle_f, ↓iZeq_t, ↓iZeq_f, ↓iQlt_t, ↓iQlt_f, ↓iQle_t, ↓iQle_f, ↓iQeq_t, ↓iQeq_f, ↓iAnd_t, ↓iAnd_f, ↓iOr_t, ↓iOr_f, ↓iIff_t, ↓iIff_f, ↓iNot_t, ↓iNot_f, ↓iTrue, ↓iFalse, ↓ckN, ↓ckJ, ↓gIT, ↓gLT, ↓gRT, ↓cvT, ↓pIT, ↓pLT, ↓pZT, ↓asZ, ↓aNT, ↓arL, ↓asL, ↓arI, ↓asI, ↓aR_1, ↓bnd_some, ↓wh_eq, ↓on_some, ↓on_none, asZ, arL, asL, arI, asI, aR_1, bnd_some, wh_eq, on_some, on_none, tnT, tnU, tnL, nk, jk, N_add, N_mul, N_sub, N_neg, J_add, J_mul, J_sub, J_neg, N_J, ↓b_in, ↓iIb]
