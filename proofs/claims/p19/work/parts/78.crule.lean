/-! ===== calls: rule ===== -/
/-- a rule at place s, in both -/
def uI (i : Nat → Nat → Int) (s : Nat) : Nat → Nat → Int := w1 (w1 (stI i (2 * s + 28) 2 60 0 0) 0 4 0) (2 * s + 28) 1 1
def uL (l : Nat → Nat → Int) (s : Nat) (f : Nat → Int) : Nat → Nat → Int := wr (stL l (2 * s + 28) 0 0 0 1) (2 * s + 29) (fl f (l (2 * s + 29)) 60)
def vI (i : Nat → Nat → Int) (s : Nat) : Nat → Nat → Int := w1 (w1 (nsI i s 2) 111 s 60) 108 11 0
def vL (l : Nat → Nat → Int) (s : Nat) (f : Nat → Int) : Nat → Nat → Int := wr l 113 (sg f (l 113) (60 * s) 60)
theorem uI_n (i : Nat → Nat → Int) (s : Nat) {b : Nat} (h : b ≠ 2 * s + 28) (h2 : b ≠ 0) : uI i s b = i b := by
  unfold uI
  rw [w1_r _ _ _ h, w1_r _ _ _ h2, stI_n _ _ _ _ _ h]
theorem uL_n (l : Nat → Nat → Int) (s : Nat) (f : Nat → Int) {b : Nat} (h : b ≠ 2 * s + 28) (h2 : b ≠ 2 * s + 29) : uL l s f b = l b := by
  unfold uL
  rw [wr_n _ _ h2, stL_n _ _ _ _ _ h]
theorem vI_n (i : Nat → Nat → Int) (s : Nat) {b j : Nat} (h : (b ≠ 109 ∧ b ≠ 110 ∧ b ≠ 111 ∧ b ≠ 112 ∧ b ≠ 114 ∧ b ≠ 108) ∨ (b ≠ 108 ∧ j ≠ s) ∨ (b = 108 ∧ j ≠ 10 ∧ j ≠ 11)) : vI i s b j = i b j := by
  unfold vI
  rw [w1_n _ _ (by omega), w1_n _ _ (by omega), nsI_n _ _ _ (by omega)]
theorem vI_at (i : Nat → Nat → Int) (s : Nat) : vI i s 109 s = 1 ∧ vI i s 110 s = 2 ∧ vI i s 111 s = 60 ∧ vI i s 112 s = 0 ∧ vI i s 114 s = 0 ∧ vI i s 108 10 = i 108 10 + 1 ∧ vI i s 108 11 = 0 := by
  obtain ⟨a, b, c, d, e, f⟩ := nsI_at i s 2
  unfold vI
  refine ⟨?_, ?_, ?_, ?_, ?_, ?_, w1_s _ _ _ _⟩
  · simp (disch := omega) only [w1_r, w1_n, w1_s, true_and, and_true]
    exact a
  · simp (disch := omega) only [w1_r, w1_n, w1_s, true_and, and_true]
    exact b
  · simp (disch := omega) only [w1_r, w1_n, w1_s, true_and, and_true]
  · simp (disch := omega) only [w1_r, w1_n, w1_s, true_and, and_true]
    exact d
  · simp (disch := omega) only [w1_r, w1_n, w1_s, true_and, and_true]
    exact e
  · simp (disch := omega) only [w1_r, w1_n, w1_s, true_and, and_true]
    exact f
theorem Rel.rule {i l : Nat → Nat → Int} (h : Rel i l) {s : Nat} (hs : s < 40) (hf : i 109 s = 0) {f : Nat → Int} (hp : ∀ k, k < 60 → ¬ far (f k) ∧ (0 < k → 1 ≤ f k)) : Rel (vI (uI i s) s) (vL (uL l s f) s f) := by
  obtain ⟨m1, m2, m3, m4, m5, m6, m7⟩ := vI_at (uI i s) s
  have v113 : ∀ j, vL (uL l s f) s f 113 j = sg f (l 113) (60 * s) 60 j := fun j => by
    unfold vL
    rw [wr_s, uL_n _ _ _ (by omega) (by omega)]
  have vr : ∀ b, b ≠ 113 → b ≠ 2 * s + 28 → b ≠ 2 * s + 29 → vL (uL l s f) s f b = l b := fun b h1 h2 h3 => by
    unfold vL
    rw [wr_n _ _ h1, uL_n _ _ _ h2 h3]
  have ir : ∀ b j, ((b ≠ 109 ∧ b ≠ 110 ∧ b ≠ 111 ∧ b ≠ 112 ∧ b ≠ 114 ∧ b ≠ 108) ∨ (b ≠ 108 ∧ j ≠ s) ∨ (b = 108 ∧ j ≠ 10 ∧ j ≠ 11)) → b ≠ 2 * s + 28 → b ≠ 0 → vI (uI i s) s b j = i b j := fun b j h1 h2 h3 => by
    rw [vI_n _ _ h1, uI_n _ _ h2 h3]
  have L29 : ∀ k, k < 60 → vL (uL l s f) s f (2 * s + 29) k = f k := fun k hk => by
    unfold vL uL
    rw [wr_n _ _ (by omega), wr_s, fl, if_pos hk]
  refine h.put2 hs hf (fun t ht hne => ⟨⟨⟨?_, vr _ (by omega) (by omega) (by omega), vr _ (by omega) (by omega) (by omega)⟩, ⟨ir _ _ (by omega) (by omega) (by omega), ir _ _ (by omega) (by omega) (by omega), ir _ _ (by omega) (by omega) (by omega), ir _ _ (by omega) (by omega) (by omega)⟩, fun k hk => ?_, ⟨?_, ?_, ?_, ?_⟩, fun k hk => ⟨?_, ?_⟩⟩, ir _ _ (by omega) (by omega) (by omega)⟩) ⟨m1, ?_⟩ ?_ ?_ ⟨⟨?_, ?_, ?_⟩, fun j hj => ?_⟩ (fun j hj => ?_) ⟨⟨?_, ?_, ?_⟩, fun j hj => ?_⟩ ⟨?_, ⟨?_, ?_⟩, ?_, ?_, ?_, ?_⟩
  · funext j
    exact ir _ _ (by omega) (by omega) (by omega)
  · rw [v113, sg, if_neg (by omega)]
  · rw [vr _ (by omega) (by omega) (by omega)]
  · rw [vr _ (by omega) (by omega) (by omega)]
  · rw [vr _ (by omega) (by omega) (by omega)]
  · rw [vr _ (by omega) (by omega) (by omega)]
  · rw [vr _ (by omega) (by omega) (by omega)]
  · rw [vr _ (by omega) (by omega) (by omega)]
  · rw [vI_n _ _ (by omega)]
    unfold uI
    rw [w1_s]
  · have dd : ∀ j, vI (uI i s) s (2 * s + 28) j = uI i s (2 * s + 28) j := fun j => vI_n _ _ (by omega)
    have c2 : uI i s (2 * s + 28) 2 = 2 := by unfold uI; rw [w1_n _ _ (by omega), w1_n _ _ (by omega), stI_2]
    have c3 : uI i s (2 * s + 28) 3 = 60 := by unfold uI; rw [w1_n _ _ (by omega), w1_n _ _ (by omega), stI_3]
    have c4 : uI i s (2 * s + 28) 4 = 0 := by unfold uI; rw [w1_n _ _ (by omega), w1_n _ _ (by omega), stI_4]
    have c5 : uI i s (2 * s + 28) 5 = 0 := by unfold uI; rw [w1_n _ _ (by omega), w1_n _ _ (by omega), stI_5]
    unfold SD
    rw [dd, dd, dd, dd, c2, c3, c4, c5, m2, m3, m4, m5]
    refine ⟨⟨rfl, by omega, by omega⟩, ⟨rfl, by omega, by omega⟩, ⟨rfl, Or.inl rfl⟩, ⟨rfl, by omega, by omega⟩, fun k hk => ?_, ⟨fun z => by omega, fun _ => rfl⟩, fun z => by omega, fun z => by omega⟩
    have hk60 : k < 60 := by omega
    rw [v113, sg, if_pos (by omega), show 60 * s + k - 60 * s = k by omega, L29 k hk60]
    exact ⟨rfl, hp k hk60⟩
  · rw [m6, uI_n _ _ (by omega) (by omega)]
  · rw [m7, vI_n _ _ (by omega)]
    unfold uI
    simp (disch := omega) only [w1_r, w1_n, w1_s, true_and, and_true]
  · rw [m7]
    omega
  · rw [m7]
    omega
  · rw [m7] at hj
    omega
  · rw [vr _ (by omega) (by omega) (by omega), vr _ (by omega) (by omega) (by omega)]
    exact h.2.2.2.1 j hj
  · rw [ir _ _ (by omega) (by omega) (by omega), ir _ _ (by omega) (by omega) (by omega)]
    exact h.2.2.2.2.1.1.1
  · rw [ir _ _ (by omega) (by omega) (by omega)]
    exact h.2.2.2.2.1.1.2.1
  · rw [ir _ _ (by omega) (by omega) (by omega)]
    exact h.2.2.2.2.1.1.2.2
  · rw [ir _ _ (by omega) (by omega) (by omega)] at hj
    rw [vr _ (by omega) (by omega) (by omega), vr _ (by omega) (by omega) (by omega)]
    exact h.2.2.2.2.1.2 j hj
  · rw [ir _ _ (by omega) (by omega) (by omega)]
    exact h.2.2.2.2.2.1
  · exact ir _ _ (by omega) (by omega) (by omega)
  · exact vr _ (by omega) (by omega) (by omega)
  · exact ir _ _ (by omega) (by omega) (by omega)
  · exact ir _ _ (by omega) (by omega) (by omega)
  · exact ir _ _ (by omega) (by omega) (by omega)
  · exact ir _ _ (by omega) (by omega) (by omega)
theorem c_rule (a : Int32) : Agree (fX8_rule 0 a) (fX9_rule 108 a) := by
  have ha := N_rng a
  rw [N_of a]
  generalize a.toInt = u at *
  intro i l x y r
  obtain ⟨⟨a4, a5, a6⟩, hr⟩ := r.2.2.1
  by_cases c : -1000000 ≤ u ∧ u ≤ 1000000
  · by_cases c0 : i 108 11 = 0
    · refine agree_of (-2000000000000000003) r ?_ ?_
      · unfold fX8_rule
        simp only [nk, jk, N_add, N_mul, N_sub, N_neg, J_add, J_mul, J_sub, J_neg]
        simp (disch := omega) only [↓iNlt_t, ↓iNlt_f, ↓iNle_t, ↓iNle_f, ↓iNeq_t, ↓iNeq_f, ↓iJlt_t, ↓iJlt_f, ↓iJle_t, ↓iJle_f, ↓iJeq_t, ↓iJeq_f, ↓iZlt_t, ↓iZlt_f, ↓iZle_t, ↓iZle_f, ↓iZeq_t, ↓iZeq_f, ↓iQlt_t, ↓iQlt_f, ↓iQle_t, ↓iQle_f, ↓iQeq_t, ↓iQeq_f, ↓iAnd_t, ↓iAnd_f, ↓iOr_t, ↓iOr_f, ↓iIff_t, ↓iIff_f, ↓iNot_t, ↓iNot_f, ↓iTrue, ↓iFalse, ↓ckN, ↓ckJ, ↓gIT, ↓gLT, ↓gRT, ↓cvT, ↓pIT, ↓pLT, ↓pZT, ↓asZ, ↓aNT, ↓arL, ↓asL, ↓arI, ↓asI, ↓aR_1, ↓bnd_some, ↓wh_eq, ↓on_some, ↓on_none, asZ, arL, asL, arI, asI, aR_1, bnd_some, wh_eq, on_some, on_none, tnT, tnU, tnL, nk, jk, N_add, N_mul, N_sub, N_neg, J_add, J_mul, J_sub, J_neg, N_J, q_beyond, a4]
      · unfold fX9_rule
        simp only [nk, jk, N_add, N_mul, N_sub, N_neg, J_add, J_mul, J_sub, J_neg]
        simp (disch := omega) only [↓iNlt_t, ↓iNlt_f, ↓iNle_t, ↓iNle_f, ↓iNeq_t, ↓iNeq_f, ↓iJlt_t, ↓iJlt_f, ↓iJle_t, ↓iJle_f, ↓iJeq_t, ↓iJeq_f, ↓iZlt_t, ↓iZlt_f, ↓iZle_t, ↓iZle_f, ↓iZeq_t, ↓iZeq_f, ↓iQlt_t, ↓iQlt_f, ↓iQle_t, ↓iQle_f, ↓iQeq_t, ↓iQeq_f, ↓iAnd_t, ↓iAnd_f, ↓iOr_t, ↓iOr_f, ↓iIff_t, ↓iIff_f, ↓iNot_t, ↓iNot_f, ↓iTrue, ↓iFalse, ↓ckN, ↓ckJ, ↓gIT, ↓gLT, ↓gRT, ↓cvT, ↓pIT, ↓pLT, ↓pZT, ↓asZ, ↓aNT, ↓arL, ↓asL, ↓arI, ↓asI, ↓aR_1, ↓bnd_some, ↓wh_eq, ↓on_some, ↓on_none, asZ, arL, asL, arI, asI, aR_1, bnd_some, wh_eq, on_some, on_none, tnT, tnU, tnL, nk, jk, N_add, N_mul, N_sub, N_neg, J_add, J_mul, J_sub, J_neg, N_J, q_in]
    · rcases r.free with ⟨f1, f2⟩ | ⟨s, f1, f2, f3, f4, f5, f6⟩
      · refine agree_of (-2000000000000000004) r ?_ ?_
        · unfold fX8_rule
          simp only [nk, jk, N_add, N_mul, N_sub, N_neg, J_add, J_mul, J_sub, J_neg]
          simp (disch := omega) only [↓iNlt_t, ↓iNlt_f, ↓iNle_t, ↓iNle_f, ↓iNeq_t, ↓iNeq_f, ↓iJlt_t, ↓iJlt_f, ↓iJle_t, ↓iJle_f, ↓iJeq_t, ↓iJeq_f, ↓iZlt_t, ↓iZlt_f, ↓iZle_t, ↓iZle_f, ↓iZeq_t, ↓iZeq_f, ↓iQlt_t, ↓iQlt_f, ↓iQle_t, ↓iQle_f, ↓iQeq_t, ↓iQeq_f, ↓iAnd_t, ↓iAnd_f, ↓iOr_t, ↓iOr_f, ↓iIff_t, ↓iIff_f, ↓iNot_t, ↓iNot_f, ↓iTrue, ↓iFalse, ↓ckN, ↓ckJ, ↓gIT, ↓gLT, ↓gRT, ↓cvT, ↓pIT, ↓pLT, ↓pZT, ↓asZ, ↓aNT, ↓arL, ↓asL, ↓arI, ↓asI, ↓aR_1, ↓bnd_some, ↓wh_eq, ↓on_some, ↓on_none, asZ, arL, asL, arI, asI, aR_1, bnd_some, wh_eq, on_some, on_none, tnT, tnU, tnL, nk, jk, N_add, N_mul, N_sub, N_neg, J_add, J_mul, J_sub, J_neg, N_J, q_beyond, a4, q_leastFree r.t, f1]
        · unfold fX9_rule
          simp only [nk, jk, N_add, N_mul, N_sub, N_neg, J_add, J_mul, J_sub, J_neg]
          simp (disch := omega) only [↓iNlt_t, ↓iNlt_f, ↓iNle_t, ↓iNle_f, ↓iNeq_t, ↓iNeq_f, ↓iJlt_t, ↓iJlt_f, ↓iJle_t, ↓iJle_f, ↓iJeq_t, ↓iJeq_f, ↓iZlt_t, ↓iZlt_f, ↓iZle_t, ↓iZle_f, ↓iZeq_t, ↓iZeq_f, ↓iQlt_t, ↓iQlt_f, ↓iQle_t, ↓iQle_f, ↓iQeq_t, ↓iQeq_f, ↓iAnd_t, ↓iAnd_f, ↓iOr_t, ↓iOr_f, ↓iIff_t, ↓iIff_f, ↓iNot_t, ↓iNot_f, ↓iTrue, ↓iFalse, ↓ckN, ↓ckJ, ↓gIT, ↓gLT, ↓gRT, ↓cvT, ↓pIT, ↓pLT, ↓pZT, ↓asZ, ↓aNT, ↓arL, ↓asL, ↓arI, ↓asI, ↓aR_1, ↓bnd_some, ↓wh_eq, ↓on_some, ↓on_none, asZ, arL, asL, arI, asI, aR_1, bnd_some, wh_eq, on_some, on_none, tnT, tnU, tnL, nk, jk, N_add, N_mul, N_sub, N_neg, J_add, J_mul, J_sub, J_neg, N_J, q_in]
      · have hm : i 108 11 = ((i 108 11).toNat : Nat) := by omega
        have hb : ∀ j, j < (i 108 11).toNat → (1 ≤ i 118 j ∧ i 118 j ≤ 1000000) ∧ 0 ≤ i 119 j ∧ i 119 j ≤ 1000000 := fun j hj => (hr j (by omega)).2.2
        have hp := rp_rng (A := i 118) (B := i 119) (m := (i 108 11).toNat) (p0 := u) (by omega) hb (by omega)
        have F := q_fillRule (i := i) (l := l) (x := x) (y := y) f3 (A := i 118) (B := i 119) (m := (i 108 11).toNat) (p0 := u) ⟨by omega, by omega⟩ (by omega) (by omega) (by omega) (fun j hj => ⟨(hr j (by omega)).1, (hr j (by omega)).2.1⟩)
        refine ⟨J s, uI i s, uL l s (rp (i 118) (i 119) (i 108 11).toNat u), x, y, vI (uI i s) s, vL (uL l s (rp (i 118) (i 119) (i 108 11).toNat u)) s (rp (i 118) (i 119) (i 108 11).toNat u), x, y, ?_, ?_, r.rule f3 f4 (fun k hk => hp k hk)⟩
        · unfold fX8_rule
          simp only [nk, jk, N_add, N_mul, N_sub, N_neg, J_add, J_mul, J_sub, J_neg]
          simp (disch := omega) only [↓iNlt_t, ↓iNlt_f, ↓iNle_t, ↓iNle_f, ↓iNeq_t, ↓iNeq_f, ↓iJlt_t, ↓iJlt_f, ↓iJle_t, ↓iJle_f, ↓iJeq_t, ↓iJeq_f, ↓iZlt_t, ↓iZlt_f, ↓iZle_t, ↓iZle_f, ↓iZeq_t, ↓iZeq_f, ↓iQlt_t, ↓iQlt_f, ↓iQle_t, ↓iQle_f, ↓iQeq_t, ↓iQeq_f, ↓iAnd_t, ↓iAnd_f, ↓iOr_t, ↓iOr_f, ↓iIff_t, ↓iIff_f, ↓iNot_t, ↓iNot_f, ↓iTrue, ↓iFalse, ↓ckN, ↓ckJ, ↓gIT, ↓gLT, ↓gRT, ↓cvT, ↓pIT, ↓pLT, ↓pZT, ↓asZ, ↓aNT, ↓arL, ↓asL, ↓arI, ↓asI, ↓aR_1, ↓bnd_some, ↓wh_eq, ↓on_some, ↓on_none, asZ, arL, asL, arI, asI, aR_1, bnd_some, wh_eq, on_some, on_none, tnT, tnU, tnL, nk, jk, N_add, N_mul, N_sub, N_neg, J_add, J_mul, J_sub, J_neg, N_J, q_beyond, a4, q_leastFree r.t, f1, F, q_place f3]
          rfl
        · have e9 : uI i s 109 = i 109 := uI_n _ _ (by omega) (by omega)
          have e10 : uI i s 108 = i 108 := uI_n _ _ (by omega) (by omega)
          have e18 : uI i s 118 = i 118 := uI_n _ _ (by omega) (by omega)
          have e19 : uI i s 119 = i 119 := uI_n _ _ (by omega) (by omega)
          have n1 := q_newStream (i := uI i s) (l := uL l s (rp (i 118) (i 119) (i 108 11).toNat u)) (x := x) (y := y) (by rw [e9]; exact r.m) 2 (s := s) (by rw [e9]; exact f2)
          have g1 := q_give (i := nsI (uI i s) s 2) (l := uL l s (rp (i 118) (i 119) (i 108 11).toNat u)) (x := x) (y := y) f3 (k := 0) (nsI_111 _ _ _) (by omega) u
          have L := q_ruleL (i := nsI (uI i s) s 2) (l := uL l s (rp (i 118) (i 119) (i 108 11).toNat u)) (x := x) (y := y) f3 (A := i 118) (B := i 119) (m := (i 108 11).toNat) (p0 := u) (by omega) (by omega) (by rw [nsI_n _ _ _ (by omega), e10]; omega) (fun j hj => ⟨by rw [nsI_n _ _ _ (by omega), e18], by rw [nsI_n _ _ _ (by omega), e19], hb j hj⟩) (uL l s (rp (i 118) (i 119) (i 108 11).toNat u) 113) 59 0 1000 (by omega) (by omega)
          have k0 := w1_sg (uL l s (rp (i 118) (i 119) (i 108 11).toNat u)) 113 (60 * s) 0 (rp (i 118) (i 119) (i 108 11).toNat u) (uL l s (rp (i 118) (i 119) (i 108 11).toNat u) 113)
          rw [sg_0, wr_id] at k0
          rw [← k0] at L
          unfold fX9_rule
          simp only [nk, jk, N_add, N_mul, N_sub, N_neg, J_add, J_mul, J_sub, J_neg]
          simp (disch := omega) only [↓iNlt_t, ↓iNlt_f, ↓iNle_t, ↓iNle_f, ↓iNeq_t, ↓iNeq_f, ↓iJlt_t, ↓iJlt_f, ↓iJle_t, ↓iJle_f, ↓iJeq_t, ↓iJeq_f, ↓iZlt_t, ↓iZlt_f, ↓iZle_t, ↓iZle_f, ↓iZeq_t, ↓iZeq_f, ↓iQlt_t, ↓iQlt_f, ↓iQle_t, ↓iQle_f, ↓iQeq_t, ↓iQeq_f, ↓iAnd_t, ↓iAnd_f, ↓iOr_t, ↓iOr_f, ↓iIff_t, ↓iIff_f, ↓iNot_t, ↓iNot_f, ↓iTrue, ↓iFalse, ↓ckN, ↓ckJ, ↓gIT, ↓gLT, ↓gRT, ↓cvT, ↓pIT, ↓pLT, ↓pZT, ↓asZ, ↓aNT, ↓arL, ↓asL, ↓arI, ↓asI, ↓aR_1, ↓bnd_some, ↓wh_eq, ↓on_some, ↓on_none, asZ, arL, asL, arI, asI, aR_1, bnd_some, wh_eq, on_some, on_none, tnT, tnU, tnL, nk, jk, N_add, N_mul, N_sub, N_neg, J_add, J_mul, J_sub, J_neg, N_J, q_in, e10, n1, g1]
          exact L
  · refine agree_of (-2000000000000000002) r ?_ ?_
    · unfold fX8_rule
      simp only [nk, jk, N_add, N_mul, N_sub, N_neg, J_add, J_mul, J_sub, J_neg]
      simp (disch := omega) only [↓iNlt_t, ↓iNlt_f, ↓iNle_t, ↓iNle_f, ↓iNeq_t, ↓iNeq_f, ↓iJlt_t, ↓iJlt_f, ↓iJle_t, ↓iJle_f, ↓iJeq_t, ↓iJeq_f, ↓iZlt_t, ↓iZlt_f, ↓iZle_t, ↓iZle_f, ↓iZeq_t, ↓iZeq_f, ↓iQlt_t, ↓iQlt_f, ↓iQle_t, ↓iQle_f, ↓iQeq_t, ↓iQeq_f, ↓iAnd_t, ↓iAnd_f, ↓iOr_t, ↓iOr_f, ↓iIff_t, ↓iIff_f, ↓iNot_t, ↓iNot_f, ↓iTrue, ↓iFalse, ↓ckN, ↓ckJ, ↓gIT, ↓gLT, ↓gRT, ↓cvT, ↓pIT, ↓pLT, ↓pZT, ↓asZ, ↓aNT, ↓arL, ↓asL, ↓arI, ↓asI, ↓aR_1, ↓bnd_some, ↓wh_eq, ↓on_some, ↓on_none, asZ, arL, asL, arI, asI, aR_1, bnd_some, wh_eq, on_some, on_none, tnT, tnU, tnL, nk, jk, N_add, N_mul, N_sub, N_neg, J_add, J_mul, J_sub, J_neg, N_J, q_beyond]
    · unfold fX9_rule
      simp only [nk, jk, N_add, N_mul, N_sub, N_neg, J_add, J_mul, J_sub, J_neg]
      simp (disch := omega) only [↓iNlt_t, ↓iNlt_f, ↓iNle_t, ↓iNle_f, ↓iNeq_t, ↓iNeq_f, ↓iJlt_t, ↓iJlt_f, ↓iJle_t, ↓iJle_f, ↓iJeq_t, ↓iJeq_f, ↓iZlt_t, ↓iZlt_f, ↓iZle_t, ↓iZle_f, ↓iZeq_t, ↓iZeq_f, ↓iQlt_t, ↓iQlt_f, ↓iQle_t, ↓iQle_f, ↓iQeq_t, ↓iQeq_f, ↓iAnd_t, ↓iAnd_f, ↓iOr_t, ↓iOr_f, ↓iIff_t, ↓iIff_f, ↓iNot_t, ↓iNot_f, ↓iTrue, ↓iFalse, ↓ckN, ↓ckJ, ↓gIT, ↓gLT, ↓gRT, ↓cvT, ↓pIT, ↓pLT, ↓pZT, ↓asZ, ↓aNT, ↓arL, ↓asL, ↓arI, ↓asI, ↓aR_1, ↓bnd_some, ↓wh_eq, ↓on_some, ↓on_none, asZ, arL, asL, arI, asI, aR_1, bnd_some, wh_eq, on_some, on_none, tnT, tnU, tnL, nk, jk, N_add, N_mul, N_sub, N_neg, J_add, J_mul, J_sub, J_neg, N_J, q_in]
