/-! ===== making: the reference runs as the function says ===== -/
section MRR
variable {px py : Nat → Int} {nx ny : Nat} {ex ey : Int} {iB lB i l : Nat → Nat → Int} {s sx sy : Nat} {x y : Option Nat}
theorem MR_T (K : Nat → Int32 → Int32 → Int32 → Int32 → Int32 → Int32 → Int32 → Int32 → AH → Fn Int64) (hs : s < 40) (hx : sx ≠ s) (hy : sy ≠ s) (Sx : SrcM iB lB sx px nx ex) (Sy : SrcM iB lB sy py ny ey) (sh : SH px nx ex py ny ey) {m : MS} (h : MI nx ex ny ey m) (hk : m.2.2.2.1.1 < 60) (R : MR iB lB s m i l) :
    ∃ i' l', (if N m.2.2.1.1 = N 0 then (if N m.2.2.1.2 = N 0 then (if N (m.2.1.2 : Int) < N (m.2.1.1 : Int) then fX9_make_318 K 108 (N sx) (N sy) (N s) (N (m.2.1.1 : Int)) (N (m.2.1.2 : Int)) (N m.2.2.1.1) (N m.2.2.1.2) (hq i l x y) else fX9_make_219 K 108 (N sx) (N sy) (N s) (N (m.2.1.1 : Int)) (N (m.2.1.2 : Int)) (N m.2.2.1.1) (N m.2.2.1.2) (hq i l x y)) else fX9_make_219 K 108 (N sx) (N sy) (N s) (N (m.2.1.1 : Int)) (N (m.2.1.2 : Int)) (N m.2.2.1.1) (N m.2.2.1.2) (hq i l x y)) else fX9_make_318 K 108 (N sx) (N sy) (N s) (N (m.2.1.1 : Int)) (N (m.2.1.2 : Int)) (N m.2.2.1.1) (N m.2.2.1.2) (hq i l x y)) = K 108 (N sx) (N sy) (N s) (N ((gT px nx ex py ny ey m).2.2.1.1 : Int)) (N ((gT px nx ex py ny ey m).2.2.1.2 : Int)) (N (gT px nx ex py ny ey m).2.2.2.1.1) (N (gT px nx ex py ny ey m).2.2.2.1.2) (N (gT px nx ex py ny ey m).1) (hq i' l' x y) ∧ MR iB lB s (gT px nx ex py ny ey m).2 i' l' := by
  have ho := h.2.2.1
  have hb := h.2.1
  obtain ⟨⟨s1, s2⟩, -⟩ := id sh
  unfold gT
  by_cases c : m.2.2.1.1 = 0 ∧ (m.2.2.1.2 = 1 ∨ m.2.1.1 ≤ m.2.1.2)
  · rw [iff_t c]
    obtain ⟨i', l', E, Q⟩ := MR_takeX (sy := sy) (x := x) (y := y) K hs hx Sx sh h c.1 hk R
    refine ⟨i', l', ?_, Q⟩
    rw [← E]
    by_cases c2 : m.2.2.1.2 = 1
    · simp (disch := omega) only [↓iNlt_t, ↓iNlt_f, ↓iNle_t, ↓iNle_f, ↓iNeq_t, ↓iNeq_f, ↓iJlt_t, ↓iJlt_f, ↓iJle_t, ↓iJle_f, ↓iJeq_t, ↓iJeq_f, ↓iZlt_t, ↓iZlt_f, ↓iZle_t, ↓iZle_f, ↓iZeq_t, ↓iZeq_f, ↓iQlt_t, ↓iQlt_f, ↓iQle_t, ↓iQle_f, ↓iQeq_t, ↓iQeq_f, ↓iAnd_t, ↓iAnd_f, ↓iOr_t, ↓iOr_f, ↓iIff_t, ↓iIff_f, ↓iNot_t, ↓iNot_f, ↓iTrue, ↓iFalse, ↓ckN, ↓ckJ, ↓gIT, ↓gLT, ↓gRT, ↓cvT, ↓pIT, ↓pLT, ↓pZT, ↓asZ, ↓aNT, ↓arL, ↓asL, ↓arI, ↓asI, ↓aR_1, ↓bnd_some, ↓wh_eq, ↓on_some, ↓on_none, asZ, arL, asL, arI, asI, aR_1, bnd_some, wh_eq, on_some, on_none, tnT, tnU, tnL, nk, jk, N_add, N_mul, N_sub, N_neg, J_add, J_mul, J_sub, J_neg, N_J]
    · simp (disch := omega) only [↓iNlt_t, ↓iNlt_f, ↓iNle_t, ↓iNle_f, ↓iNeq_t, ↓iNeq_f, ↓iJlt_t, ↓iJlt_f, ↓iJle_t, ↓iJle_f, ↓iJeq_t, ↓iJeq_f, ↓iZlt_t, ↓iZlt_f, ↓iZle_t, ↓iZle_f, ↓iZeq_t, ↓iZeq_f, ↓iQlt_t, ↓iQlt_f, ↓iQle_t, ↓iQle_f, ↓iQeq_t, ↓iQeq_f, ↓iAnd_t, ↓iAnd_f, ↓iOr_t, ↓iOr_f, ↓iIff_t, ↓iIff_f, ↓iNot_t, ↓iNot_f, ↓iTrue, ↓iFalse, ↓ckN, ↓ckJ, ↓gIT, ↓gLT, ↓gRT, ↓cvT, ↓pIT, ↓pLT, ↓pZT, ↓asZ, ↓aNT, ↓arL, ↓asL, ↓arI, ↓asI, ↓aR_1, ↓bnd_some, ↓wh_eq, ↓on_some, ↓on_none, asZ, arL, asL, arI, asI, aR_1, bnd_some, wh_eq, on_some, on_none, tnT, tnU, tnL, nk, jk, N_add, N_mul, N_sub, N_neg, J_add, J_mul, J_sub, J_neg, N_J]
  · rw [iff_f c]
    have h0 : m.2.2.1.2 = 0 := by omega
    obtain ⟨i', l', E, Q⟩ := MR_takeY (sx := sx) (x := x) (y := y) K hs hy Sy sh h h0 hk R
    refine ⟨i', l', ?_, Q⟩
    rw [← E]
    by_cases c2 : m.2.2.1.1 = 1
    · simp (disch := omega) only [↓iNlt_t, ↓iNlt_f, ↓iNle_t, ↓iNle_f, ↓iNeq_t, ↓iNeq_f, ↓iJlt_t, ↓iJlt_f, ↓iJle_t, ↓iJle_f, ↓iJeq_t, ↓iJeq_f, ↓iZlt_t, ↓iZlt_f, ↓iZle_t, ↓iZle_f, ↓iZeq_t, ↓iZeq_f, ↓iQlt_t, ↓iQlt_f, ↓iQle_t, ↓iQle_f, ↓iQeq_t, ↓iQeq_f, ↓iAnd_t, ↓iAnd_f, ↓iOr_t, ↓iOr_f, ↓iIff_t, ↓iIff_f, ↓iNot_t, ↓iNot_f, ↓iTrue, ↓iFalse, ↓ckN, ↓ckJ, ↓gIT, ↓gLT, ↓gRT, ↓cvT, ↓pIT, ↓pLT, ↓pZT, ↓asZ, ↓aNT, ↓arL, ↓asL, ↓arI, ↓asI, ↓aR_1, ↓bnd_some, ↓wh_eq, ↓on_some, ↓on_none, asZ, arL, asL, arI, asI, aR_1, bnd_some, wh_eq, on_some, on_none, tnT, tnU, tnL, nk, jk, N_add, N_mul, N_sub, N_neg, J_add, J_mul, J_sub, J_neg, N_J]
    · simp (disch := omega) only [↓iNlt_t, ↓iNlt_f, ↓iNle_t, ↓iNle_f, ↓iNeq_t, ↓iNeq_f, ↓iJlt_t, ↓iJlt_f, ↓iJle_t, ↓iJle_f, ↓iJeq_t, ↓iJeq_f, ↓iZlt_t, ↓iZlt_f, ↓iZle_t, ↓iZle_f, ↓iZeq_t, ↓iZeq_f, ↓iQlt_t, ↓iQlt_f, ↓iQle_t, ↓iQle_f, ↓iQeq_t, ↓iQeq_f, ↓iAnd_t, ↓iAnd_f, ↓iOr_t, ↓iOr_f, ↓iIff_t, ↓iIff_f, ↓iNot_t, ↓iNot_f, ↓iTrue, ↓iFalse, ↓ckN, ↓ckJ, ↓gIT, ↓gLT, ↓gRT, ↓cvT, ↓pIT, ↓pLT, ↓pZT, ↓asZ, ↓aNT, ↓arL, ↓asL, ↓arI, ↓asI, ↓aR_1, ↓bnd_some, ↓wh_eq, ↓on_some, ↓on_none, asZ, arL, asL, arI, asI, aR_1, bnd_some, wh_eq, on_some, on_none, tnT, tnU, tnL, nk, jk, N_add, N_mul, N_sub, N_neg, J_add, J_mul, J_sub, J_neg, N_J]
theorem MR_stp (K : Nat → Int32 → Int32 → Int32 → Int32 → Int32 → Int32 → Int32 → Int32 → AH → Fn Int64) (hs : s < 40) (hx : sx ≠ s) (hy : sy ≠ s) (Sx : SrcM iB lB sx px nx ex) (Sy : SrcM iB lB sy py ny ey) (sh : SH px nx ex py ny ey) {m : MS} (h : MI nx ex ny ey m) (hk : m.2.2.2.1.1 < 60) (R : MR iB lB s m i l) :
    ∃ i' l', fX9_make_26 K 108 (N sx) (N sy) (N s) (N (m.2.1.1 : Int)) (N (m.2.1.2 : Int)) (N m.2.2.1.1) (N m.2.2.1.2) (N 1) (hq i l x y) = K 108 (N sx) (N sy) (N s) (N ((stp' px nx ex py ny ey m).2.2.1.1 : Int)) (N ((stp' px nx ex py ny ey m).2.2.1.2 : Int)) (N (stp' px nx ex py ny ey m).2.2.2.1.1) (N (stp' px nx ex py ny ey m).2.2.2.1.2) (N (stp' px nx ex py ny ey m).1) (hq i' l' x y) ∧ MR iB lB s (stp' px nx ex py ny ey m).2 i' l' := by
  obtain ⟨hv, ⟨q1, q2⟩, ho, ⟨q3, q4⟩, q5, q6, q7, q8⟩ := id h
  obtain ⟨r1, ⟨r2, r3⟩, ⟨r4, r5⟩, ⟨r6, r7, r8, r9⟩, r10, r11⟩ := id R
  obtain ⟨⟨s1, s2⟩, -⟩ := id sh
  unfold stp'
  rw [iff_f (by omega)]
  by_cases c2 : 0 < m.2.1.1 ∧ 0 < m.2.1.2
  · rw [iff_t c2]
    obtain ⟨l1, w1', w2, w3⟩ := r_corners (i := i) (l := l) (x := x) (y := y) (v := m.1) ho (fun j hj => ⟨r1 j hj, hv j hj⟩)
    have A0 : fX9_make_26 K 108 (N sx) (N sy) (N s) (N (m.2.1.1 : Int)) (N (m.2.1.2 : Int)) (N m.2.2.1.1) (N m.2.2.1.2) (N 1) (hq i l x y) = fX9_make_57 K 108 (N sx) (N sy) (N s) (N (m.2.1.1 : Int)) (N (m.2.1.2 : Int)) (N m.2.2.1.1) (N m.2.2.1.2) (N 1) (hq i l x y) := by
      unfold fX9_make_26
      simp only [nk]
      simp (disch := omega) only [↓iNlt_t, ↓iNlt_f, ↓iNle_t, ↓iNle_f, ↓iNeq_t, ↓iNeq_f, ↓iJlt_t, ↓iJlt_f, ↓iJle_t, ↓iJle_f, ↓iJeq_t, ↓iJeq_f, ↓iZlt_t, ↓iZlt_f, ↓iZle_t, ↓iZle_f, ↓iZeq_t, ↓iZeq_f, ↓iQlt_t, ↓iQlt_f, ↓iQle_t, ↓iQle_f, ↓iQeq_t, ↓iQeq_f, ↓iAnd_t, ↓iAnd_f, ↓iOr_t, ↓iOr_f, ↓iIff_t, ↓iIff_f, ↓iNot_t, ↓iNot_f, ↓iTrue, ↓iFalse, ↓ckN, ↓ckJ, ↓gIT, ↓gLT, ↓gRT, ↓cvT, ↓pIT, ↓pLT, ↓pZT, ↓asZ, ↓aNT, ↓arL, ↓asL, ↓arI, ↓asI, ↓aR_1, ↓bnd_some, ↓wh_eq, ↓on_some, ↓on_none, asZ, arL, asL, arI, asI, aR_1, bnd_some, wh_eq, on_some, on_none, tnT, tnU, tnL, nk, jk, N_add, N_mul, N_sub, N_neg, J_add, J_mul, J_sub, J_neg, N_J, r2]
    rw [A0]
    by_cases c3 : cFar m
    · rw [iff_t c3]
      have W := w2 c3
      refine ⟨_, l1, ?_, (MR_aside R (fun c _ d1 d2 => w1' c d1 d2) (Or.inr rfl)).2 (nC m.2.2.1.1 m.2.2.1.2 : Nat)⟩
      unfold fX9_make_57
      simp only [nk]
      simp (disch := omega) only [↓iNlt_t, ↓iNlt_f, ↓iNle_t, ↓iNle_f, ↓iNeq_t, ↓iNeq_f, ↓iJlt_t, ↓iJlt_f, ↓iJle_t, ↓iJle_f, ↓iJeq_t, ↓iJeq_f, ↓iZlt_t, ↓iZlt_f, ↓iZle_t, ↓iZle_f, ↓iZeq_t, ↓iZeq_f, ↓iQlt_t, ↓iQlt_f, ↓iQle_t, ↓iQle_f, ↓iQeq_t, ↓iQeq_f, ↓iAnd_t, ↓iAnd_f, ↓iOr_t, ↓iOr_f, ↓iIff_t, ↓iIff_f, ↓iNot_t, ↓iNot_f, ↓iTrue, ↓iFalse, ↓ckN, ↓ckJ, ↓gIT, ↓gLT, ↓gRT, ↓cvT, ↓pIT, ↓pLT, ↓pZT, ↓asZ, ↓aNT, ↓arL, ↓asL, ↓arI, ↓asI, ↓aR_1, ↓bnd_some, ↓wh_eq, ↓on_some, ↓on_none, asZ, arL, asL, arI, asI, aR_1, bnd_some, wh_eq, on_some, on_none, tnT, tnU, tnL, nk, jk, N_add, N_mul, N_sub, N_neg, J_add, J_mul, J_sub, J_neg, N_J, ↓bq W, w1_s]
    · rw [iff_f c3]
      obtain ⟨W, wc⟩ := w3 c3
      have R1 := (MR_aside R (fun c _ d1 d2 => w1' c d1 d2) (Or.inl rfl)).2 (nC m.2.2.1.1 m.2.2.1.2 : Nat)
      have hn := nC_rng m.2.2.1.1 m.2.2.1.2
      have nU := cor_nf ho (hv 0 (by omega)) (hv 1 (by omega)) (hv 2 (by omega)) (fun z => c3 (Or.inl z))
      have nL := cor_nf ho (hv 4 (by omega)) (hv 5 (by omega)) (hv 6 (by omega)) (fun z => c3 (Or.inr z))
      have hi25 : w1 (w1 i 108 25 (nC m.2.2.1.1 m.2.2.1.2 : Nat)) 108 0 0 108 25 = (nC m.2.2.1.1 m.2.2.1.2 : Nat) := by rw [w1_n _ _ (by omega), w1_s]
      obtain ⟨A1, A2⟩ := r_agree (i := w1 (w1 i 108 25 (nC m.2.2.1.1 m.2.2.1.2 : Nat)) 108 0 0) (l := l1) (x := x) (y := y) hn hi25 (fun j hj => by rw [(wc j hj).1, (wc j hj).2]; exact ⟨nU j hj, nL j hj⟩)
      have AE : AGp (l1 124) (l1 125) (nC m.2.2.1.1 m.2.2.1.2) ↔ AGp (cUp m) (cLo m) (nC m.2.2.1.1 m.2.2.1.2) := by
        have u : ∀ j, j < nC m.2.2.1.1 m.2.2.1.2 → l1 124 j = cUp m j ∧ l1 125 j = cLo m j := wc
        unfold AGp
        constructor
        · rintro ⟨a, b⟩
          exact ⟨fun j hj => by rw [← (u j hj).2, ← (u 0 (by omega)).2]; exact a j hj, fun j hj => by rw [← (u j hj).1, ← (u j hj).2, ← (u 0 (by omega)).1, ← (u 0 (by omega)).2]; exact b j hj⟩
        · rintro ⟨a, b⟩
          exact ⟨fun j hj => by rw [(u j hj).2, (u 0 (by omega)).2]; exact a j hj, fun j hj => by rw [(u j hj).1, (u j hj).2, (u 0 (by omega)).1, (u 0 (by omega)).2]; exact b j hj⟩
      have U0 : l1 124 0 = cUp m 0 := (wc 0 (by omega)).1
      have L0 : l1 125 0 = cLo m 0 := (wc 0 (by omega)).2
      have b0 : ¬ far (cUp m 0) := nU 0 (by omega)
      have b1 : ¬ far (cLo m 0) := nL 0 (by omega)
      have A3 : fX9_make_57 K 108 (N sx) (N sy) (N s) (N (m.2.1.1 : Int)) (N (m.2.1.2 : Int)) (N m.2.2.1.1) (N m.2.2.1.2) (N 1) (hq i l x y) = fX9_make_143 K 108 (N sx) (N sy) (N s) (N (m.2.1.1 : Int)) (N (m.2.1.2 : Int)) (N m.2.2.1.1) (N m.2.2.1.2) (N 1) (hq (w1 (w1 i 108 25 (nC m.2.2.1.1 m.2.2.1.2 : Nat)) 108 0 0) l1 x y) := by
        unfold fX9_make_57 fX9_make_90
        simp only [nk]
        by_cases d1 : m.2.2.1.1 = 0
        · simp (disch := omega) only [↓iNlt_t, ↓iNlt_f, ↓iNle_t, ↓iNle_f, ↓iNeq_t, ↓iNeq_f, ↓iJlt_t, ↓iJlt_f, ↓iJle_t, ↓iJle_f, ↓iJeq_t, ↓iJeq_f, ↓iZlt_t, ↓iZlt_f, ↓iZle_t, ↓iZle_f, ↓iZeq_t, ↓iZeq_f, ↓iQlt_t, ↓iQlt_f, ↓iQle_t, ↓iQle_f, ↓iQeq_t, ↓iQeq_f, ↓iAnd_t, ↓iAnd_f, ↓iOr_t, ↓iOr_f, ↓iIff_t, ↓iIff_f, ↓iNot_t, ↓iNot_f, ↓iTrue, ↓iFalse, ↓ckN, ↓ckJ, ↓gIT, ↓gLT, ↓gRT, ↓cvT, ↓pIT, ↓pLT, ↓pZT, ↓asZ, ↓aNT, ↓arL, ↓asL, ↓arI, ↓asI, ↓aR_1, ↓bnd_some, ↓wh_eq, ↓on_some, ↓on_none, asZ, arL, asL, arI, asI, aR_1, bnd_some, wh_eq, on_some, on_none, tnT, tnU, tnL, nk, jk, N_add, N_mul, N_sub, N_neg, J_add, J_mul, J_sub, J_neg, N_J, ↓bq W, w1_s]
        · simp (disch := omega) only [↓iNlt_t, ↓iNlt_f, ↓iNle_t, ↓iNle_f, ↓iNeq_t, ↓iNeq_f, ↓iJlt_t, ↓iJlt_f, ↓iJle_t, ↓iJle_f, ↓iJeq_t, ↓iJeq_f, ↓iZlt_t, ↓iZlt_f, ↓iZle_t, ↓iZle_f, ↓iZeq_t, ↓iZeq_f, ↓iQlt_t, ↓iQlt_f, ↓iQle_t, ↓iQle_f, ↓iQeq_t, ↓iQeq_f, ↓iAnd_t, ↓iAnd_f, ↓iOr_t, ↓iOr_f, ↓iIff_t, ↓iIff_f, ↓iNot_t, ↓iNot_f, ↓iTrue, ↓iFalse, ↓ckN, ↓ckJ, ↓gIT, ↓gLT, ↓gRT, ↓cvT, ↓pIT, ↓pLT, ↓pZT, ↓asZ, ↓aNT, ↓arL, ↓asL, ↓arI, ↓asI, ↓aR_1, ↓bnd_some, ↓wh_eq, ↓on_some, ↓on_none, asZ, arL, asL, arI, asI, aR_1, bnd_some, wh_eq, on_some, on_none, tnT, tnU, tnL, nk, jk, N_add, N_mul, N_sub, N_neg, J_add, J_mul, J_sub, J_neg, N_J, ↓bq W, w1_s]
      rw [A3]
      by_cases c4 : AGp (cUp m) (cLo m) (nC m.2.2.1.1 m.2.2.1.2)
      · rw [iff_t c4]
        have A := A1 (AE.mpr c4)
        obtain ⟨gq, -⟩ := give_q h c3 c4
        have l0 : cLo m 0 ≠ 0 := (c4.1 0 (by omega)).1
        obtain ⟨y1, ⟨y2, y3⟩, ⟨y4, y5⟩, ⟨y6, y7, y8, y9⟩, y10, y11⟩ := id R1
        obtain ⟨G1, G2⟩ := r_giveOne (i := w1 (w1 i 108 25 (nC m.2.2.1.1 m.2.2.1.2 : Nat)) 108 0 0) (l := l1) (x := x) (y := y) (p := (cUp m 0).fdiv (cLo m 0)) (v := m.1) gq (fun j hj => ⟨y1 j hj, hv j hj⟩)
        unfold gG
        by_cases c5 : ¬ farG ((cUp m 0).fdiv (cLo m 0)) m.1
        · rw [iff_t c5]
          obtain ⟨l2, E, V, Lo⟩ := G2 c5
          have e3 : w1 (w1 (w1 i 108 25 (nC m.2.2.1.1 m.2.2.1.2 : Nat)) 108 0 0) 108 0 0 111 s = m.2.2.2.1.1 := by simp (disch := omega) only [w1_r, w1_n, w1_s, true_and, and_true]; exact r2
          have GI := q_give (i := w1 (w1 (w1 i 108 25 (nC m.2.2.1.1 m.2.2.1.2 : Nat)) 108 0 0) 108 0 0) (l := l2) (x := x) (y := y) hs (k := m.2.2.2.1.1) e3 hk ((cUp m 0).fdiv (cLo m 0))
          have RO := r_roll (i := w1 (w1 (w1 (w1 i 108 25 (nC m.2.2.1.1 m.2.2.1.2 : Nat)) 108 0 0) 108 0 0) 111 s ((m.2.2.2.1.1 + 1 : Nat) : Int)) (l := w1 l2 113 (60 * s + m.2.2.2.1.1) ((cUp m 0).fdiv (cLo m 0))) (x := x) (y := y) (n := m.2.2.2.2.1) (by omega) (by simp (disch := omega) only [w1_r, w1_n, w1_s, true_and, and_true]; exact r4) (w := 4) (by omega) ((cUp m 0).fdiv (cLo m 0))
          refine ⟨w1 (w1 (w1 (w1 (w1 i 108 25 (nC m.2.2.1.1 m.2.2.1.2 : Nat)) 108 0 0) 108 0 0) 111 s ((m.2.2.2.1.1 + 1 : Nat) : Int)) 108 22 ((m.2.2.2.2.1 + 1 : Nat) : Int), wr (w1 l2 113 (60 * s + m.2.2.2.1.1) ((cUp m 0).fdiv (cLo m 0))) 123 (rlA (w1 l2 113 (60 * s + m.2.2.2.1.1) ((cUp m 0).fdiv (cLo m 0)) 123) m.2.2.2.2.1 4 ((cUp m 0).fdiv (cLo m 0)) (w1 l2 113 (60 * s + m.2.2.2.1.1) ((cUp m 0).fdiv (cLo m 0)) 121)), ?_, ?_⟩
          · unfold fX9_make_143
            simp only [nk]
            simp (disch := omega) only [↓iNlt_t, ↓iNlt_f, ↓iNle_t, ↓iNle_f, ↓iNeq_t, ↓iNeq_f, ↓iJlt_t, ↓iJlt_f, ↓iJle_t, ↓iJle_f, ↓iJeq_t, ↓iJeq_f, ↓iZlt_t, ↓iZlt_f, ↓iZle_t, ↓iZle_f, ↓iZeq_t, ↓iZeq_f, ↓iQlt_t, ↓iQlt_f, ↓iQle_t, ↓iQle_f, ↓iQeq_t, ↓iQeq_f, ↓iAnd_t, ↓iAnd_f, ↓iOr_t, ↓iOr_f, ↓iIff_t, ↓iIff_f, ↓iNot_t, ↓iNot_f, ↓iTrue, ↓iFalse, ↓ckN, ↓ckJ, ↓gIT, ↓gLT, ↓gRT, ↓cvT, ↓pIT, ↓pLT, ↓pZT, ↓asZ, ↓aNT, ↓arL, ↓asL, ↓arI, ↓asI, ↓aR_1, ↓bnd_some, ↓wh_eq, ↓on_some, ↓on_none, asZ, arL, asL, arI, asI, aR_1, bnd_some, wh_eq, on_some, on_none, tnT, tnU, tnL, nk, jk, N_add, N_mul, N_sub, N_neg, J_add, J_mul, J_sub, J_neg, N_J, ↓bq A, U0, L0, ↓b_floor, ↓bq E, ↓bq GI, ↓bq RO]
          · refine ⟨fun j hj => by rw [wr_n _ _ (by omega), w1_na _ _ _ _ (by omega)]; exact V j hj, ⟨by simp (disch := omega) only [w1_r, w1_n, w1_s, true_and, and_true], fun j hj => ?_⟩, ⟨w1_s _ _ _ _, rl_ref _ _ y5 (by rw [w1_r _ _ _ (by omega), Lo _ (by omega) (by omega)]) (fun j hj => by rw [w1_na _ _ _ _ (by omega)]; exact V j hj)⟩, ⟨fun c d1 d2 => by simp (disch := omega) only [w1_r, w1_n, w1_s, true_and, and_true]; exact r6 c d1 d2, fun t ht => by simp (disch := omega) only [w1_r, w1_n, w1_s, true_and, and_true]; exact r7 t ht, fun j d1 d2 d3 => by simp (disch := omega) only [w1_r, w1_n, w1_s, true_and, and_true]; exact r8 j d1 d2 d3, by simp (disch := omega) only [w1_r, w1_n, w1_s, true_and, and_true]; exact Or.inl rfl⟩, fun c d1 d2 => by rw [wr_n _ _ (by omega), w1_r _ _ _ d1, Lo c (by omega) (by omega)]; exact y10 c d1 d2, fun j hj => by rw [wr_n _ _ (by omega), w1_n _ _ (by omega), Lo _ (by omega) (by omega)]; exact y11 j hj⟩
            dsimp only at hj ⊢
            rw [wr_n _ _ (by omega)]
            by_cases e : j = m.2.2.2.1.1
            · rw [if_pos e, e, w1_s]
            · rw [if_neg e, w1_n _ _ (by omega), Lo _ (by omega) (by omega)]
              exact y3 j (by omega)
        · rw [iff_f c5]
          obtain ⟨l2, E, Lo⟩ := G1 (by
            rcases Classical.em (farG ((cUp m 0).fdiv (cLo m 0)) m.1) with z | z
            · exact z
            · exact absurd z c5)
          refine ⟨_, l2, ?_, (MR_aside R1 (fun c d _ _ => Lo c d) (Or.inr rfl)).1⟩
          unfold fX9_make_143
          simp only [nk]
          simp (disch := omega) only [↓iNlt_t, ↓iNlt_f, ↓iNle_t, ↓iNle_f, ↓iNeq_t, ↓iNeq_f, ↓iJlt_t, ↓iJlt_f, ↓iJle_t, ↓iJle_f, ↓iJeq_t, ↓iJeq_f, ↓iZlt_t, ↓iZlt_f, ↓iZle_t, ↓iZle_f, ↓iZeq_t, ↓iZeq_f, ↓iQlt_t, ↓iQlt_f, ↓iQle_t, ↓iQle_f, ↓iQeq_t, ↓iQeq_f, ↓iAnd_t, ↓iAnd_f, ↓iOr_t, ↓iOr_f, ↓iIff_t, ↓iIff_f, ↓iNot_t, ↓iNot_f, ↓iTrue, ↓iFalse, ↓ckN, ↓ckJ, ↓gIT, ↓gLT, ↓gRT, ↓cvT, ↓pIT, ↓pLT, ↓pZT, ↓asZ, ↓aNT, ↓arL, ↓asL, ↓arI, ↓asI, ↓aR_1, ↓bnd_some, ↓wh_eq, ↓on_some, ↓on_none, asZ, arL, asL, arI, asI, aR_1, bnd_some, wh_eq, on_some, on_none, tnT, tnU, tnL, nk, jk, N_add, N_mul, N_sub, N_neg, J_add, J_mul, J_sub, J_neg, N_J, ↓bq A, U0, L0, ↓b_floor, ↓bq E]
      · rw [iff_f c4]
        have A := A2 (fun z => c4 (AE.mp z))
        obtain ⟨i', l', E, Q⟩ := MR_T (x := x) (y := y) K hs hx hy Sx Sy sh h hk R1
        refine ⟨i', l', ?_, Q⟩
        rw [← E]
        unfold fX9_make_143
        simp only [nk]
        rw [if_neg (by decide), cv_q s9T, bq A, if_pos rfl]
  · rw [iff_f c2]
    obtain ⟨i', l', E, Q⟩ := MR_T (x := x) (y := y) K hs hx hy Sx Sy sh h hk R
    refine ⟨i', l', ?_, Q⟩
    rw [← E]
    have A0 : fX9_make_26 K 108 (N sx) (N sy) (N s) (N (m.2.1.1 : Int)) (N (m.2.1.2 : Int)) (N m.2.2.1.1) (N m.2.2.1.2) (N 1) (hq i l x y) = fX9_make_57 K 108 (N sx) (N sy) (N s) (N (m.2.1.1 : Int)) (N (m.2.1.2 : Int)) (N m.2.2.1.1) (N m.2.2.1.2) (N 0) (hq i l x y) := by
      unfold fX9_make_26
      simp only [nk]
      by_cases c3 : m.2.1.1 = 0
      · simp (disch := omega) only [↓iNlt_t, ↓iNlt_f, ↓iNle_t, ↓iNle_f, ↓iNeq_t, ↓iNeq_f, ↓iJlt_t, ↓iJlt_f, ↓iJle_t, ↓iJle_f, ↓iJeq_t, ↓iJeq_f, ↓iZlt_t, ↓iZlt_f, ↓iZle_t, ↓iZle_f, ↓iZeq_t, ↓iZeq_f, ↓iQlt_t, ↓iQlt_f, ↓iQle_t, ↓iQle_f, ↓iQeq_t, ↓iQeq_f, ↓iAnd_t, ↓iAnd_f, ↓iOr_t, ↓iOr_f, ↓iIff_t, ↓iIff_f, ↓iNot_t, ↓iNot_f, ↓iTrue, ↓iFalse, ↓ckN, ↓ckJ, ↓gIT, ↓gLT, ↓gRT, ↓cvT, ↓pIT, ↓pLT, ↓pZT, ↓asZ, ↓aNT, ↓arL, ↓asL, ↓arI, ↓asI, ↓aR_1, ↓bnd_some, ↓wh_eq, ↓on_some, ↓on_none, asZ, arL, asL, arI, asI, aR_1, bnd_some, wh_eq, on_some, on_none, tnT, tnU, tnL, nk, jk, N_add, N_mul, N_sub, N_neg, J_add, J_mul, J_sub, J_neg, N_J, r2]
      · simp (disch := omega) only [↓iNlt_t, ↓iNlt_f, ↓iNle_t, ↓iNle_f, ↓iNeq_t, ↓iNeq_f, ↓iJlt_t, ↓iJlt_f, ↓iJle_t, ↓iJle_f, ↓iJeq_t, ↓iJeq_f, ↓iZlt_t, ↓iZlt_f, ↓iZle_t, ↓iZle_f, ↓iZeq_t, ↓iZeq_f, ↓iQlt_t, ↓iQlt_f, ↓iQle_t, ↓iQle_f, ↓iQeq_t, ↓iQeq_f, ↓iAnd_t, ↓iAnd_f, ↓iOr_t, ↓iOr_f, ↓iIff_t, ↓iIff_f, ↓iNot_t, ↓iNot_f, ↓iTrue, ↓iFalse, ↓ckN, ↓ckJ, ↓gIT, ↓gLT, ↓gRT, ↓cvT, ↓pIT, ↓pLT, ↓pZT, ↓asZ, ↓aNT, ↓arL, ↓asL, ↓arI, ↓asI, ↓aR_1, ↓bnd_some, ↓wh_eq, ↓on_some, ↓on_none, asZ, arL, asL, arI, asI, aR_1, bnd_some, wh_eq, on_some, on_none, tnT, tnU, tnL, nk, jk, N_add, N_mul, N_sub, N_neg, J_add, J_mul, J_sub, J_neg, N_J, r2]
    rw [A0]
    unfold fX9_make_57 fX9_make_90 fX9_make_143
    simp only [nk]
    rw [if_pos trivial, if_pos trivial, if_pos trivial, if_pos trivial]
theorem MR_run (hs : s < 40) (hx : sx ≠ s) (hy : sy ≠ s) (Sx : SrcM iB lB sx px nx ex) (Sy : SrcM iB lB sy py ny ey) (sh : SH px nx ex py ny ey) : ∀ (k : Nat) (m : MS) (i l : Nat → Nat → Int) (q : Nat), MI nx ex ny ey m → MR iB lB s m i l → mea nx ny m + 1 ≤ k → k + 2 ≤ q →
    ∃ i' l', fX9_make_26L q 108 (N sx) (N sy) (N s) (N (m.2.1.1 : Int)) (N (m.2.1.2 : Int)) (N m.2.2.1.1) (N m.2.2.1.2) (N 1) (hq i l x y) = fX9_make_428 108 (N s) (N ((runM px nx ex py ny ey k m).2.1.1 : Int)) (N ((runM px nx ex py ny ey k m).2.1.2 : Int)) (hq i' l' x y) ∧ MR iB lB s (runM px nx ex py ny ey k m) i' l' := by
  intro k
  induction k with
  | zero => intro m i l q h R h1 h3; omega
  | succ k ih =>
    intro m i l q h R h1 h3
    obtain ⟨q, rfl⟩ : ∃ z, q = z + 1 := ⟨q - 1, by omega⟩
    obtain ⟨M1, M2⟩ := MI_stp sh h
    have rM : runM px nx ex py ny ey (k + 1) m = iff' ((stp' px nx ex py ny ey m).1 = 0) (stp' px nx ex py ny ey m).2 (runM px nx ex py ny ey k (stp' px nx ex py ny ey m).2) := rfl
    rw [rM]
    show ∃ i' l', fX9_make_26 (fX9_make_26L q) 108 _ _ _ _ _ _ _ _ _ = _ ∧ _
    by_cases hk : m.2.2.2.1.1 < 60
    · obtain ⟨i', l', E, Q⟩ := MR_stp (x := x) (y := y) (fX9_make_26L q) hs hx hy Sx Sy sh h hk R
      rw [E]
      by_cases c : (stp' px nx ex py ny ey m).1 = 0
      · rw [iff_t c, c]
        refine ⟨i', l', ?_, Q⟩
        obtain ⟨q, rfl⟩ : ∃ z, q = z + 1 := ⟨q - 1, by omega⟩
        show fX9_make_26 (fX9_make_26L q) 108 _ _ _ _ _ _ _ _ _ = _
        unfold fX9_make_26
        simp only [nk]
        rw [if_pos trivial]
      · rw [iff_f c]
        obtain ⟨M3, M4⟩ : (stp' px nx ex py ny ey m).1 = 1 ∧ mea nx ny (stp' px nx ex py ny ey m).2 + 1 ≤ mea nx ny m := by
          rcases M2 with z | z
          · exact absurd z c
          · exact z
        rw [M3]
        exact ih _ i' l' q M1 Q (by omega) (by omega)
    · have e : stp' px nx ex py ny ey m = (0, m) := by
        unfold stp'
        rw [iff_t (by omega)]
      rw [e, iff_t rfl]
      refine ⟨i, l, ?_, R⟩
      have r2 := R.2.1.1
      have q5 := h.2.2.2.2.1
      unfold fX9_make_26
      simp only [nk]
      simp (disch := omega) only [↓iNlt_t, ↓iNlt_f, ↓iNle_t, ↓iNle_f, ↓iNeq_t, ↓iNeq_f, ↓iJlt_t, ↓iJlt_f, ↓iJle_t, ↓iJle_f, ↓iJeq_t, ↓iJeq_f, ↓iZlt_t, ↓iZlt_f, ↓iZle_t, ↓iZle_f, ↓iZeq_t, ↓iZeq_f, ↓iQlt_t, ↓iQlt_f, ↓iQle_t, ↓iQle_f, ↓iQeq_t, ↓iQeq_f, ↓iAnd_t, ↓iAnd_f, ↓iOr_t, ↓iOr_f, ↓iIff_t, ↓iIff_f, ↓iNot_t, ↓iNot_f, ↓iTrue, ↓iFalse, ↓ckN, ↓ckJ, ↓gIT, ↓gLT, ↓gRT, ↓cvT, ↓pIT, ↓pLT, ↓pZT, ↓asZ, ↓aNT, ↓arL, ↓asL, ↓arI, ↓asI, ↓aR_1, ↓bnd_some, ↓wh_eq, ↓on_some, ↓on_none, asZ, arL, asL, arI, asI, aR_1, bnd_some, wh_eq, on_some, on_none, tnT, tnU, tnL, nk, jk, N_add, N_mul, N_sub, N_neg, J_add, J_mul, J_sub, J_neg, N_J, r2]
end MRR
