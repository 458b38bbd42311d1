/-! ===== making: the class, step by step: made by cr.py ===== -/
/-- the class's heap at a state of making; the rest is as it was -/
def CR (iB lB : Nat → Nat → Int) (s : Nat) (m : MS) (i l : Nat → Nat → Int) : Prop :=
  (∀ j, j < 8 → l 15 j = m.1 j) ∧ (i 13 3 = m.2.1.1 ∧ i 14 3 = m.2.1.2 ∧ i 13 4 = m.2.2.1.1 ∧ i 14 4 = m.2.2.1.2) ∧ (i (2 * s + 28) 3 = m.2.2.2.1.1 ∧ ∀ j, j < m.2.2.2.1.1 → l (2 * s + 29) j = m.2.2.2.1.2 j) ∧ (i 12 8 = m.2.2.2.2.1 ∧ ∀ j, j < 10 * m.2.2.2.2.1 → l 19 j = m.2.2.2.2.2 j) ∧
  ((∀ c, c ≠ 12 → c ≠ 13 → c ≠ 14 → c ≠ 2 * s + 28 → i c = iB c) ∧ (∀ j, j ≠ 3 → i (2 * s + 28) j = iB (2 * s + 28) j) ∧ (i 13 0 = 0 ∧ i 13 1 = 2 ∧ i 14 0 = 1 ∧ i 14 1 = 1)) ∧ ∀ c, (c < 15 ∨ 19 < c) → c ≠ 2 * s + 29 → l c = lB c
/-- a source in the heap -/
def SrcC (iB lB : Nat → Nat → Int) (t : Nat) (p : Nat → Int) (k : Nat) (e : Int) : Prop := t < 40 ∧ iB (2 * t + 28) 3 = k ∧ iB (2 * t + 28) 4 = e ∧ ∀ j, j < k → lB (2 * t + 29) j = p j
theorem kept_rl {l l' : Nat → Nat → Int} {rl v : Nat → Int} {n : Nat} {what p : Int} (K : Kept l l' n what p v) (h : ∀ j, j < 10 * n → l 19 j = rl j) : ∀ j, j < 10 * (n + 1) → l' 19 j = rlA rl n what p v j := fun j hj => by
  rw [K.2.1 j hj]
  exact rlA_congr _ _ h (fun _ _ => rfl) j hj
section CRS
variable {px py : Nat → Int} {nx ny : Nat} {ex ey : Int} {iB lB i l : Nat → Nat → Int} {s sx sy : Nat}
theorem CR_16 {m : MS} {l' : Nat → Nat → Int} (h : CR iB lB s m i l) (hs : s < 40) (hl : ∀ c, c ≠ 16 → c ≠ 17 → c ≠ 18 → l' c = l c) {b : Int} : CR iB lB s m i l' ∧ CR iB lB s m (w1 i 12 6 b) l' := by
  obtain ⟨h1, h2, h3, h4, ⟨h5, h6, h7⟩, h8⟩ := h
  have a : ∀ c, (c < 15 ∨ 19 < c) → c ≠ 2 * s + 29 → l' c = lB c := fun c c1 c2 => by rw [hl c (by omega) (by omega) (by omega)]; exact h8 c c1 c2
  constructor
  · refine ⟨fun j hj => by rw [hl 15 (by omega) (by omega) (by omega)]; exact h1 j hj, h2, ⟨h3.1, fun j hj => by rw [hl _ (by omega) (by omega) (by omega)]; exact h3.2 j hj⟩, ⟨h4.1, fun j hj => by rw [hl _ (by omega) (by omega) (by omega)]; exact h4.2 j hj⟩, ⟨h5, h6, h7⟩, a⟩
  · refine ⟨fun j hj => by rw [hl 15 (by omega) (by omega) (by omega)]; exact h1 j hj, by simp (disch := omega) only [w1_r, w1_n, w1_s, true_and, and_true]; exact h2, ⟨by simp (disch := omega) only [w1_r, w1_n, w1_s, true_and, and_true]; exact h3.1, fun j hj => by rw [hl _ (by omega) (by omega) (by omega)]; exact h3.2 j hj⟩, ⟨by simp (disch := omega) only [w1_r, w1_n, w1_s, true_and, and_true]; exact h4.1, fun j hj => by rw [hl _ (by omega) (by omega) (by omega)]; exact h4.2 j hj⟩, ⟨fun c c1 c2 c3 c4 => by rw [w1_r _ _ _ c1]; exact h5 c c1 c2 c3 c4, fun j hj => by rw [w1_r _ _ _ (by omega)]; exact h6 j hj, by simp (disch := omega) only [w1_r, w1_n, w1_s, true_and, and_true]; exact h7⟩, a⟩
theorem CR_takeX (hs : s < 40) (hne : sx ≠ s) (S : SrcC iB lB sx px nx ex) (sh : SH px nx ex py ny ey) {m : MS} (h : MI nx ex ny ey m) (h0 : m.2.2.1.1 = 0) (hk : m.2.2.2.1.1 < 60) (R : CR iB lB s m i l) :
    ∃ i' l', fX1_takeFrom 12 13 (hq i l (some (2 * sx + 28)) (some (2 * sy + 28))) = some (N (gX px nx ex m).1, hq i' l' (some (2 * sx + 28)) (some (2 * sy + 28))) ∧ CR iB lB s (gX px nx ex m).2 i' l' := by
  have R' := R
  have h' := h
  obtain ⟨hv, ⟨q1, q2⟩, ho, ⟨q3, q4⟩, q5, q6, q7, q8⟩ := h
  obtain ⟨r1, ⟨r2, r3, r4, r5⟩, ⟨r6, r7⟩, ⟨r8, r9⟩, ⟨r10, r11, r12, r13, r14, r15⟩, r16⟩ := R
  obtain ⟨t1, t2, t3, t4⟩ := S
  obtain ⟨⟨s1, s2⟩, ⟨s3, s4, s5⟩, s6, s7⟩ := sh
  have st := St_s t1
  have e1 : i (2 * sx + 28) = iB (2 * sx + 28) := r10 _ (by omega) (by omega) (by omega) (by omega)
  have e2 : l (2 * sx + 28 + 1) = lB (2 * sx + 29) := r16 _ (by omega) (by omega)
  obtain ⟨T1, T2⟩ := q_fromX (i := i) (l := l) (y := some (2 * sy + 28)) st (by omega) (v := m.1) (p := px) (e := ex) (k := nx) (n := m.2.2.2.2.1) (f := m.2.1.1) (fun j hj => ⟨r1 j hj, hv j hj⟩) r12 r13 r2 (by rw [r4]; exact h0) (by omega) r8 (by rw [e1]; exact t2) (by omega) (by rw [e1]; exact t3) (by omega) (by omega) (fun j hj => by rw [e2]; exact ⟨t4 j hj, (s6 j hj).1⟩)
  unfold gX
  by_cases c : m.2.1.1 < nx ∧ ¬ farX (px m.2.1.1) m.1
  · rw [iff_t c]
    obtain ⟨T3, T4⟩ := T2 c
    by_cases c2 : ex = 1 ∧ m.2.1.1 + 1 = nx
    · rw [iff_t c2]
      obtain ⟨l1, l', E, K1, K2⟩ := T4 c2
      refine ⟨_, l', E, ?_⟩
      have o : ∀ c, (c < 15 ∨ 19 < c) → l' c = l c := fun c hc => by rw [K2.2.2 c hc, K1.2.2 c hc]
      refine ⟨K2.1, by simp (disch := omega) only [w1_r, w1_n, w1_s, true_and, and_true]; exact ⟨r3, r5⟩, ⟨by simp (disch := omega) only [w1_r, w1_n, w1_s, true_and, and_true]; exact r6, fun j hj => by rw [o _ (by omega)]; exact r7 j hj⟩, ⟨by simp (disch := omega) only [w1_r, w1_n, w1_s, true_and, and_true], kept_rl K2 (kept_rl K1 r9)⟩, ⟨fun c c1 c2 c3 c4 => by rw [w1_r _ _ _ c1, w1_r _ _ _ c2, w1_r _ _ _ c2, w1_r _ _ _ c1]; exact r10 c c1 c2 c3 c4, fun j hj => by rw [w1_r _ _ _ (by omega), w1_r _ _ _ (by omega), w1_r _ _ _ (by omega), w1_r _ _ _ (by omega)]; exact r11 j hj, by simp (disch := omega) only [w1_r, w1_n, w1_s, true_and, and_true]; exact ⟨r12, r13, r14, r15⟩⟩, fun c c1 c2 => by rw [o c c1]; exact r16 c c1 c2⟩
    · rw [iff_f c2]
      obtain ⟨l', E, K1⟩ := T3 c2
      refine ⟨_, l', E, ?_⟩
      have o : ∀ c, (c < 15 ∨ 19 < c) → l' c = l c := K1.2.2
      refine ⟨K1.1, by simp (disch := omega) only [w1_r, w1_n, w1_s, true_and, and_true]; exact ⟨r3, r4, r5⟩, ⟨by simp (disch := omega) only [w1_r, w1_n, w1_s, true_and, and_true]; exact r6, fun j hj => by rw [o _ (by omega)]; exact r7 j hj⟩, ⟨by simp (disch := omega) only [w1_r, w1_n, w1_s, true_and, and_true], kept_rl K1 r9⟩, ⟨fun c c1 c2 c3 c4 => by rw [w1_r _ _ _ c2, w1_r _ _ _ c1]; exact r10 c c1 c2 c3 c4, fun j hj => by rw [w1_r _ _ _ (by omega), w1_r _ _ _ (by omega)]; exact r11 j hj, by simp (disch := omega) only [w1_r, w1_n, w1_s, true_and, and_true]; exact ⟨r12, r13, r14, r15⟩⟩, fun c c1 c2 => by rw [o c c1]; exact r16 c c1 c2⟩
  · rw [iff_f c]
    obtain ⟨l', E, K⟩ := T1 c
    exact ⟨i, l', E, (CR_16 (b := 0) R' hs (fun c c1 _ _ => K c c1)).1⟩
theorem CR_takeY (hs : s < 40) (hne : sy ≠ s) (S : SrcC iB lB sy py ny ey) (sh : SH px nx ex py ny ey) {m : MS} (h : MI nx ex ny ey m) (h0 : m.2.2.1.2 = 0) (hk : m.2.2.2.1.1 < 60) (R : CR iB lB s m i l) :
    ∃ i' l', fX1_takeFrom 12 14 (hq i l (some (2 * sx + 28)) (some (2 * sy + 28))) = some (N (gY py ny ey m).1, hq i' l' (some (2 * sx + 28)) (some (2 * sy + 28))) ∧ CR iB lB s (gY py ny ey m).2 i' l' := by
  have R' := R
  have h' := h
  obtain ⟨hv, ⟨q1, q2⟩, ho, ⟨q3, q4⟩, q5, q6, q7, q8⟩ := h
  obtain ⟨r1, ⟨r2, r3, r4, r5⟩, ⟨r6, r7⟩, ⟨r8, r9⟩, ⟨r10, r11, r12, r13, r14, r15⟩, r16⟩ := R
  obtain ⟨t1, t2, t3, t4⟩ := S
  obtain ⟨⟨s1, s2⟩, ⟨s3, s4, s5⟩, s6, s7⟩ := sh
  have st := St_s t1
  have e1 : i (2 * sy + 28) = iB (2 * sy + 28) := r10 _ (by omega) (by omega) (by omega) (by omega)
  have e2 : l (2 * sy + 28 + 1) = lB (2 * sy + 29) := r16 _ (by omega) (by omega)
  obtain ⟨T1, T2⟩ := q_fromY (i := i) (l := l) (x := some (2 * sx + 28)) st (by omega) (v := m.1) (p := py) (e := ey) (k := ny) (n := m.2.2.2.2.1) (f := m.2.1.2) (fun j hj => ⟨r1 j hj, hv j hj⟩) r14 r15 r3 (by rw [r5]; exact h0) (by omega) r8 (by rw [e1]; exact t2) (by omega) (by rw [e1]; exact t3) (by omega) (by omega) (fun j hj => by rw [e2]; exact ⟨t4 j hj, (s7 j hj).1⟩)
  unfold gY
  by_cases c : m.2.1.2 < ny ∧ ¬ farY (py m.2.1.2) m.1
  · rw [iff_t c]
    obtain ⟨T3, T4⟩ := T2 c
    by_cases c2 : ey = 1 ∧ m.2.1.2 + 1 = ny
    · rw [iff_t c2]
      obtain ⟨l1, l', E, K1, K2⟩ := T4 c2
      refine ⟨_, l', E, ?_⟩
      have o : ∀ c, (c < 15 ∨ 19 < c) → l' c = l c := fun c hc => by rw [K2.2.2 c hc, K1.2.2 c hc]
      refine ⟨K2.1, by simp (disch := omega) only [w1_r, w1_n, w1_s, true_and, and_true]; exact ⟨r2, r4⟩, ⟨by simp (disch := omega) only [w1_r, w1_n, w1_s, true_and, and_true]; exact r6, fun j hj => by rw [o _ (by omega)]; exact r7 j hj⟩, ⟨by simp (disch := omega) only [w1_r, w1_n, w1_s, true_and, and_true], kept_rl K2 (kept_rl K1 r9)⟩, ⟨fun c c1 c2 c3 c4 => by rw [w1_r _ _ _ c1, w1_r _ _ _ c3, w1_r _ _ _ c3, w1_r _ _ _ c1]; exact r10 c c1 c2 c3 c4, fun j hj => by rw [w1_r _ _ _ (by omega), w1_r _ _ _ (by omega), w1_r _ _ _ (by omega), w1_r _ _ _ (by omega)]; exact r11 j hj, by simp (disch := omega) only [w1_r, w1_n, w1_s, true_and, and_true]; exact ⟨r12, r13, r14, r15⟩⟩, fun c c1 c2 => by rw [o c c1]; exact r16 c c1 c2⟩
    · rw [iff_f c2]
      obtain ⟨l', E, K1⟩ := T3 c2
      refine ⟨_, l', E, ?_⟩
      have o : ∀ c, (c < 15 ∨ 19 < c) → l' c = l c := K1.2.2
      refine ⟨K1.1, by simp (disch := omega) only [w1_r, w1_n, w1_s, true_and, and_true]; exact ⟨r2, r4, r5⟩, ⟨by simp (disch := omega) only [w1_r, w1_n, w1_s, true_and, and_true]; exact r6, fun j hj => by rw [o _ (by omega)]; exact r7 j hj⟩, ⟨by simp (disch := omega) only [w1_r, w1_n, w1_s, true_and, and_true], kept_rl K1 r9⟩, ⟨fun c c1 c2 c3 c4 => by rw [w1_r _ _ _ c3, w1_r _ _ _ c1]; exact r10 c c1 c2 c3 c4, fun j hj => by rw [w1_r _ _ _ (by omega), w1_r _ _ _ (by omega)]; exact r11 j hj, by simp (disch := omega) only [w1_r, w1_n, w1_s, true_and, and_true]; exact ⟨r12, r13, r14, r15⟩⟩, fun c c1 c2 => by rw [o c c1]; exact r16 c c1 c2⟩
  · rw [iff_f c]
    obtain ⟨l', E, K⟩ := T1 c
    exact ⟨i, l', E, (CR_16 (b := 0) R' hs (fun c c1 _ _ => K c c1)).1⟩
theorem CR_118 (hs : s < 40) (hx : sx ≠ s) (hy : sy ≠ s) (Sx : SrcC iB lB sx px nx ex) (Sy : SrcC iB lB sy py ny ey) (sh : SH px nx ex py ny ey) {m : MS} (h : MI nx ex ny ey m) (hk : m.2.2.2.1.1 < 60) (R : CR iB lB s m i l) :
    ∃ i' l', fX1_goOn_118 12 (hq i l (some (2 * sx + 28)) (some (2 * sy + 28))) = some (N (gT px nx ex py ny ey m).1, hq i' l' (some (2 * sx + 28)) (some (2 * sy + 28))) ∧ CR iB lB s (gT px nx ex py ny ey m).2 i' l' := by
  obtain ⟨-, ⟨r2, r3, r4, r5⟩, -, -, -, -⟩ := id R
  have ho := h.2.2.1
  have hb := h.2.1
  obtain ⟨⟨s1, s2⟩, -⟩ := id sh
  have M := (MI_gT sh h).2
  unfold gT at M ⊢
  by_cases c : m.2.2.1.1 = 0 ∧ (m.2.2.1.2 = 1 ∨ m.2.1.1 ≤ m.2.1.2)
  · rw [iff_t c] at M ⊢
    obtain ⟨i', l', E, Q⟩ := CR_takeX (sy := sy) hs hx Sx sh h c.1 hk R
    refine ⟨i', l', ?_, Q⟩
    have b01 : (gX px nx ex m).1 = 0 ∨ (gX px nx ex m).1 = 1 := by omega
    generalize (gX px nx ex m).1 = b at *
    unfold fX1_goOn_118 fX1_goOn_160
    simp only [nk]
    by_cases c2 : m.2.2.1.2 = 1
    · simp (disch := omega) only [↓iNlt_t, ↓iNlt_f, ↓iNle_t, ↓iNle_f, ↓iNeq_t, ↓iNeq_f, ↓iJlt_t, ↓iJlt_f, ↓iJle_t, ↓iJle_f, ↓iJeq_t, ↓iJeq_f, ↓iZlt_t, ↓iZlt_f, ↓iZle_t, ↓iZle_f, ↓iZeq_t, ↓iZeq_f, ↓iQlt_t, ↓iQlt_f, ↓iQle_t, ↓iQle_f, ↓iQeq_t, ↓iQeq_f, ↓iAnd_t, ↓iAnd_f, ↓iOr_t, ↓iOr_f, ↓iIff_t, ↓iIff_f, ↓iNot_t, ↓iNot_f, ↓iTrue, ↓iFalse, ↓ckN, ↓ckJ, ↓gIT, ↓gLT, ↓gRT, ↓cvT, ↓pIT, ↓pLT, ↓pZT, ↓asZ, ↓aNT, ↓arL, ↓asL, ↓arI, ↓asI, ↓aR_1, ↓bnd_some, ↓wh_eq, ↓on_some, ↓on_none, asZ, arL, asL, arI, asI, aR_1, bnd_some, wh_eq, on_some, on_none, tnT, tnU, tnL, nk, jk, N_add, N_mul, N_sub, N_neg, J_add, J_mul, J_sub, J_neg, N_J, r4, r5, ↓bq E]
      exact ckb b01 _
    · simp (disch := omega) only [↓iNlt_t, ↓iNlt_f, ↓iNle_t, ↓iNle_f, ↓iNeq_t, ↓iNeq_f, ↓iJlt_t, ↓iJlt_f, ↓iJle_t, ↓iJle_f, ↓iJeq_t, ↓iJeq_f, ↓iZlt_t, ↓iZlt_f, ↓iZle_t, ↓iZle_f, ↓iZeq_t, ↓iZeq_f, ↓iQlt_t, ↓iQlt_f, ↓iQle_t, ↓iQle_f, ↓iQeq_t, ↓iQeq_f, ↓iAnd_t, ↓iAnd_f, ↓iOr_t, ↓iOr_f, ↓iIff_t, ↓iIff_f, ↓iNot_t, ↓iNot_f, ↓iTrue, ↓iFalse, ↓ckN, ↓ckJ, ↓gIT, ↓gLT, ↓gRT, ↓cvT, ↓pIT, ↓pLT, ↓pZT, ↓asZ, ↓aNT, ↓arL, ↓asL, ↓arI, ↓asI, ↓aR_1, ↓bnd_some, ↓wh_eq, ↓on_some, ↓on_none, asZ, arL, asL, arI, asI, aR_1, bnd_some, wh_eq, on_some, on_none, tnT, tnU, tnL, nk, jk, N_add, N_mul, N_sub, N_neg, J_add, J_mul, J_sub, J_neg, N_J, r4, r5, r2, r3, ↓bq E]
      exact ckb b01 _
  · rw [iff_f c] at M ⊢
    have h0 : m.2.2.1.2 = 0 := by omega
    obtain ⟨i', l', E, Q⟩ := CR_takeY (sx := sx) hs hy Sy sh h h0 hk R
    refine ⟨i', l', ?_, Q⟩
    have b01 : (gY py ny ey m).1 = 0 ∨ (gY py ny ey m).1 = 1 := by omega
    generalize (gY py ny ey m).1 = b at *
    unfold fX1_goOn_118 fX1_goOn_160
    simp only [nk]
    by_cases c2 : m.2.2.1.1 = 1
    · simp (disch := omega) only [↓iNlt_t, ↓iNlt_f, ↓iNle_t, ↓iNle_f, ↓iNeq_t, ↓iNeq_f, ↓iJlt_t, ↓iJlt_f, ↓iJle_t, ↓iJle_f, ↓iJeq_t, ↓iJeq_f, ↓iZlt_t, ↓iZlt_f, ↓iZle_t, ↓iZle_f, ↓iZeq_t, ↓iZeq_f, ↓iQlt_t, ↓iQlt_f, ↓iQle_t, ↓iQle_f, ↓iQeq_t, ↓iQeq_f, ↓iAnd_t, ↓iAnd_f, ↓iOr_t, ↓iOr_f, ↓iIff_t, ↓iIff_f, ↓iNot_t, ↓iNot_f, ↓iTrue, ↓iFalse, ↓ckN, ↓ckJ, ↓gIT, ↓gLT, ↓gRT, ↓cvT, ↓pIT, ↓pLT, ↓pZT, ↓asZ, ↓aNT, ↓arL, ↓asL, ↓arI, ↓asI, ↓aR_1, ↓bnd_some, ↓wh_eq, ↓on_some, ↓on_none, asZ, arL, asL, arI, asI, aR_1, bnd_some, wh_eq, on_some, on_none, tnT, tnU, tnL, nk, jk, N_add, N_mul, N_sub, N_neg, J_add, J_mul, J_sub, J_neg, N_J, r4, r5, ↓bq E]
      exact ckb b01 _
    · simp (disch := omega) only [↓iNlt_t, ↓iNlt_f, ↓iNle_t, ↓iNle_f, ↓iNeq_t, ↓iNeq_f, ↓iJlt_t, ↓iJlt_f, ↓iJle_t, ↓iJle_f, ↓iJeq_t, ↓iJeq_f, ↓iZlt_t, ↓iZlt_f, ↓iZle_t, ↓iZle_f, ↓iZeq_t, ↓iZeq_f, ↓iQlt_t, ↓iQlt_f, ↓iQle_t, ↓iQle_f, ↓iQeq_t, ↓iQeq_f, ↓iAnd_t, ↓iAnd_f, ↓iOr_t, ↓iOr_f, ↓iIff_t, ↓iIff_f, ↓iNot_t, ↓iNot_f, ↓iTrue, ↓iFalse, ↓ckN, ↓ckJ, ↓gIT, ↓gLT, ↓gRT, ↓cvT, ↓pIT, ↓pLT, ↓pZT, ↓asZ, ↓aNT, ↓arL, ↓asL, ↓arI, ↓asI, ↓aR_1, ↓bnd_some, ↓wh_eq, ↓on_some, ↓on_none, asZ, arL, asL, arI, asI, aR_1, bnd_some, wh_eq, on_some, on_none, tnT, tnU, tnL, nk, jk, N_add, N_mul, N_sub, N_neg, J_add, J_mul, J_sub, J_neg, N_J, r4, r5, r2, r3, ↓bq E]
      exact ckb b01 _
theorem CR_goOn (hs : s < 40) (hx : sx ≠ s) (hy : sy ≠ s) (Sx : SrcC iB lB sx px nx ex) (Sy : SrcC iB lB sy py ny ey) (sh : SH px nx ex py ny ey) {m : MS} (h : MI nx ex ny ey m) (R : CR iB lB s m i l) :
    ∃ i' l', fX1_goOn 12 (2 * s + 28) (hq i l (some (2 * sx + 28)) (some (2 * sy + 28))) = some (N (stp' px nx ex py ny ey m).1, hq i' l' (some (2 * sx + 28)) (some (2 * sy + 28))) ∧ CR iB lB s (stp' px nx ex py ny ey m).2 i' l' := by
  obtain ⟨r1, ⟨r2, r3, r4, r5⟩, ⟨r6, r7⟩, ⟨r8, r9⟩, ⟨r10, r11, r12, r13, r14, r15⟩, r16⟩ := id R
  obtain ⟨hv, ⟨q1, q2⟩, ho, ⟨q3, q4⟩, q5, q6, q7, q8⟩ := id h
  obtain ⟨⟨s1, s2⟩, -⟩ := id sh
  have st := (St_s hs).1.1
  have E0 : fX1_goOn 12 (2 * s + 28) (hq i l (some (2 * sx + 28)) (some (2 * sy + 28))) = fX1_goOn_50 12 (2 * s + 28) (hq i l (some (2 * sx + 28)) (some (2 * sy + 28))) := by
    unfold fX1_goOn
    simp only [nk]
    by_cases c : m.2.2.1.1 = 0
    · simp (disch := omega) only [↓iNlt_t, ↓iNlt_f, ↓iNle_t, ↓iNle_f, ↓iNeq_t, ↓iNeq_f, ↓iJlt_t, ↓iJlt_f, ↓iJle_t, ↓iJle_f, ↓iJeq_t, ↓iJeq_f, ↓iZlt_t, ↓iZlt_f, ↓iZle_t, ↓iZle_f, ↓iZeq_t, ↓iZeq_f, ↓iQlt_t, ↓iQlt_f, ↓iQle_t, ↓iQle_f, ↓iQeq_t, ↓iQeq_f, ↓iAnd_t, ↓iAnd_f, ↓iOr_t, ↓iOr_f, ↓iIff_t, ↓iIff_f, ↓iNot_t, ↓iNot_f, ↓iTrue, ↓iFalse, ↓ckN, ↓ckJ, ↓gIT, ↓gLT, ↓gRT, ↓cvT, ↓pIT, ↓pLT, ↓pZT, ↓asZ, ↓aNT, ↓arL, ↓asL, ↓arI, ↓asI, ↓aR_1, ↓bnd_some, ↓wh_eq, ↓on_some, ↓on_none, asZ, arL, asL, arI, asI, aR_1, bnd_some, wh_eq, on_some, on_none, tnT, tnU, tnL, nk, jk, N_add, N_mul, N_sub, N_neg, J_add, J_mul, J_sub, J_neg, N_J, r4]
    · simp (disch := omega) only [↓iNlt_t, ↓iNlt_f, ↓iNle_t, ↓iNle_f, ↓iNeq_t, ↓iNeq_f, ↓iJlt_t, ↓iJlt_f, ↓iJle_t, ↓iJle_f, ↓iJeq_t, ↓iJeq_f, ↓iZlt_t, ↓iZlt_f, ↓iZle_t, ↓iZle_f, ↓iZeq_t, ↓iZeq_f, ↓iQlt_t, ↓iQlt_f, ↓iQle_t, ↓iQle_f, ↓iQeq_t, ↓iQeq_f, ↓iAnd_t, ↓iAnd_f, ↓iOr_t, ↓iOr_f, ↓iIff_t, ↓iIff_f, ↓iNot_t, ↓iNot_f, ↓iTrue, ↓iFalse, ↓ckN, ↓ckJ, ↓gIT, ↓gLT, ↓gRT, ↓cvT, ↓pIT, ↓pLT, ↓pZT, ↓asZ, ↓aNT, ↓arL, ↓asL, ↓arI, ↓asI, ↓aR_1, ↓bnd_some, ↓wh_eq, ↓on_some, ↓on_none, asZ, arL, asL, arI, asI, aR_1, bnd_some, wh_eq, on_some, on_none, tnT, tnU, tnL, nk, jk, N_add, N_mul, N_sub, N_neg, J_add, J_mul, J_sub, J_neg, N_J, r4, r5]
  rw [E0]
  unfold stp'
  by_cases c1 : 60 ≤ m.2.2.2.1.1
  · rw [iff_t c1]
    refine ⟨i, l, ?_, R⟩
    unfold fX1_goOn_50
    simp only [nk]
    simp (disch := omega) only [↓iNlt_t, ↓iNlt_f, ↓iNle_t, ↓iNle_f, ↓iNeq_t, ↓iNeq_f, ↓iJlt_t, ↓iJlt_f, ↓iJle_t, ↓iJle_f, ↓iJeq_t, ↓iJeq_f, ↓iZlt_t, ↓iZlt_f, ↓iZle_t, ↓iZle_f, ↓iZeq_t, ↓iZeq_f, ↓iQlt_t, ↓iQlt_f, ↓iQle_t, ↓iQle_f, ↓iQeq_t, ↓iQeq_f, ↓iAnd_t, ↓iAnd_f, ↓iOr_t, ↓iOr_f, ↓iIff_t, ↓iIff_f, ↓iNot_t, ↓iNot_f, ↓iTrue, ↓iFalse, ↓ckN, ↓ckJ, ↓gIT, ↓gLT, ↓gRT, ↓cvT, ↓pIT, ↓pLT, ↓pZT, ↓asZ, ↓aNT, ↓arL, ↓asL, ↓arI, ↓asI, ↓aR_1, ↓bnd_some, ↓wh_eq, ↓on_some, ↓on_none, asZ, arL, asL, arI, asI, aR_1, bnd_some, wh_eq, on_some, on_none, tnT, tnU, tnL, nk, jk, N_add, N_mul, N_sub, N_neg, J_add, J_mul, J_sub, J_neg, N_J, ↓gI_q st, r6]
  · rw [iff_f c1]
    by_cases c2 : 0 < m.2.1.1 ∧ 0 < m.2.1.2
    · rw [iff_t c2]
      obtain ⟨l1, w1', w2, w3⟩ := q_woc (i := i) (l := l) (x := some (2 * sx + 28)) (y := some (2 * sy + 28)) (v := m.1) ho r4 r5 (fun j hj => ⟨r1 j hj, hv j hj⟩)
      by_cases c3 : cFar m
      · rw [iff_t c3]
        have W := w2 c3
        refine ⟨w1 i 12 6 (nC m.2.2.1.1 m.2.2.1.2 : Nat), l1, ?_, (CR_16 (b := (nC m.2.2.1.1 m.2.2.1.2 : Nat)) R hs (fun c c1 c2 c3 => w1' c c2 c3)).2⟩
        unfold fX1_goOn_50
        simp only [nk]
        simp (disch := omega) only [↓iNlt_t, ↓iNlt_f, ↓iNle_t, ↓iNle_f, ↓iNeq_t, ↓iNeq_f, ↓iJlt_t, ↓iJlt_f, ↓iJle_t, ↓iJle_f, ↓iJeq_t, ↓iJeq_f, ↓iZlt_t, ↓iZlt_f, ↓iZle_t, ↓iZle_f, ↓iZeq_t, ↓iZeq_f, ↓iQlt_t, ↓iQlt_f, ↓iQle_t, ↓iQle_f, ↓iQeq_t, ↓iQeq_f, ↓iAnd_t, ↓iAnd_f, ↓iOr_t, ↓iOr_f, ↓iIff_t, ↓iIff_f, ↓iNot_t, ↓iNot_f, ↓iTrue, ↓iFalse, ↓ckN, ↓ckJ, ↓gIT, ↓gLT, ↓gRT, ↓cvT, ↓pIT, ↓pLT, ↓pZT, ↓asZ, ↓aNT, ↓arL, ↓asL, ↓arI, ↓asI, ↓aR_1, ↓bnd_some, ↓wh_eq, ↓on_some, ↓on_none, asZ, arL, asL, arI, asI, aR_1, bnd_some, wh_eq, on_some, on_none, tnT, tnU, tnL, nk, jk, N_add, N_mul, N_sub, N_neg, J_add, J_mul, J_sub, J_neg, N_J, ↓gI_q st, r6, r2, r3, ↓bq W]
      · rw [iff_f c3]
        obtain ⟨W, wc⟩ := w3 c3
        have R1 := (CR_16 (b := (nC m.2.2.1.1 m.2.2.1.2 : Nat)) R hs (fun c c1 c2 c3 => w1' c c2 c3)).2
        have hn := nC_rng m.2.2.1.1 m.2.2.1.2
        have nU := cor_nf ho (hv 0 (by omega)) (hv 1 (by omega)) (hv 2 (by omega)) (fun z => c3 (Or.inl z))
        have nL := cor_nf ho (hv 4 (by omega)) (hv 5 (by omega)) (hv 6 (by omega)) (fun z => c3 (Or.inr z))
        obtain ⟨A1, A2⟩ := q_agreeC (i := w1 i 12 6 (nC m.2.2.1.1 m.2.2.1.2 : Nat)) (l := l1) (x := some (2 * sx + 28)) (y := some (2 * sy + 28)) hn (w1_s _ _ _ _) (fun j hj => by rw [(wc j hj).1, (wc j hj).2]; exact ⟨nU j hj, nL j hj⟩)
        have AE : AGp (l1 17) (l1 18) (nC m.2.2.1.1 m.2.2.1.2) ↔ AGp (cUp m) (cLo m) (nC m.2.2.1.1 m.2.2.1.2) := by
          have u : ∀ j, j < nC m.2.2.1.1 m.2.2.1.2 → l1 17 j = cUp m j ∧ l1 18 j = cLo m j := wc
          unfold AGp
          constructor
          · rintro ⟨a, b⟩
            exact ⟨fun j hj => by rw [← (u j hj).2, ← (u 0 (by omega)).2]; exact a j hj, fun j hj => by rw [← (u j hj).1, ← (u j hj).2, ← (u 0 (by omega)).1, ← (u 0 (by omega)).2]; exact b j hj⟩
          · rintro ⟨a, b⟩
            exact ⟨fun j hj => by rw [(u j hj).2, (u 0 (by omega)).2]; exact a j hj, fun j hj => by rw [(u j hj).1, (u j hj).2, (u 0 (by omega)).1, (u 0 (by omega)).2]; exact b j hj⟩
        have U0 : l1 17 0 = cUp m 0 := (wc 0 (by omega)).1
        have L0 : l1 18 0 = cLo m 0 := (wc 0 (by omega)).2
        have b0 : ¬ far (cUp m 0) := nU 0 (by omega)
        have b1 : ¬ far (cLo m 0) := nL 0 (by omega)
        by_cases c4 : AGp (cUp m) (cLo m) (nC m.2.2.1.1 m.2.2.1.2)
        · rw [iff_t c4]
          have A := A1 (AE.mpr c4)
          obtain ⟨gq, -⟩ := give_q h c3 c4
          have M := (MI_gG h (by omega) c2 c3 c4).2
          obtain ⟨r1', ⟨r2', r3', r4', r5'⟩, ⟨r6', r7'⟩, ⟨r8', r9'⟩, ⟨r10', r11', r12', r13', r14', r15'⟩, r16'⟩ := R1
          obtain ⟨G1, G2⟩ := q_giveTo (i := w1 i 12 6 (nC m.2.2.1.1 m.2.2.1.2 : Nat)) (l := l1) (x := some (2 * sx + 28)) (y := some (2 * sy + 28)) hs (q := (cUp m 0).fdiv (cLo m 0)) (v := m.1) gq (fun j hj => ⟨r1' j hj, hv j hj⟩) (n := m.2.2.2.2.1) (kn := m.2.2.2.1.1) (by omega) r8' r6' (by omega)
          unfold gG at M ⊢
          by_cases c5 : ¬ farG ((cUp m 0).fdiv (cLo m 0)) m.1
          · rw [iff_t c5]
            obtain ⟨l2, E, K⟩ := G2 c5
            refine ⟨w1 (w1 (w1 i 12 6 (nC m.2.2.1.1 m.2.2.1.2 : Nat)) 12 8 ((m.2.2.2.2.1 + 1 : Nat) : Int)) (2 * s + 28) 3 ((m.2.2.2.1.1 + 1 : Nat) : Int), w1 l2 (2 * s + 28 + 1) m.2.2.2.1.1 ((cUp m 0).fdiv (cLo m 0)), ?_, ?_⟩
            · unfold fX1_goOn_50
              simp only [nk]
              simp (disch := omega) only [↓iNlt_t, ↓iNlt_f, ↓iNle_t, ↓iNle_f, ↓iNeq_t, ↓iNeq_f, ↓iJlt_t, ↓iJlt_f, ↓iJle_t, ↓iJle_f, ↓iJeq_t, ↓iJeq_f, ↓iZlt_t, ↓iZlt_f, ↓iZle_t, ↓iZle_f, ↓iZeq_t, ↓iZeq_f, ↓iQlt_t, ↓iQlt_f, ↓iQle_t, ↓iQle_f, ↓iQeq_t, ↓iQeq_f, ↓iAnd_t, ↓iAnd_f, ↓iOr_t, ↓iOr_f, ↓iIff_t, ↓iIff_f, ↓iNot_t, ↓iNot_f, ↓iTrue, ↓iFalse, ↓ckN, ↓ckJ, ↓gIT, ↓gLT, ↓gRT, ↓cvT, ↓pIT, ↓pLT, ↓pZT, ↓asZ, ↓aNT, ↓arL, ↓asL, ↓arI, ↓asI, ↓aR_1, ↓bnd_some, ↓wh_eq, ↓on_some, ↓on_none, asZ, arL, asL, arI, asI, aR_1, bnd_some, wh_eq, on_some, on_none, tnT, tnU, tnL, nk, jk, N_add, N_mul, N_sub, N_neg, J_add, J_mul, J_sub, J_neg, N_J, ↓gI_q st, r6, r2, r3, ↓bq W, ↓bq A, U0, L0, ↓b_floorOf, ↓bq E]
              exact ckb (Or.inr rfl) _
            · refine ⟨fun j hj => by rw [w1_na _ _ _ _ (by omega)]; exact K.1 j hj, by simp (disch := omega) only [w1_r, w1_n, w1_s, true_and, and_true]; exact ⟨r2, r3, r4, r5⟩, ⟨by simp (disch := omega) only [w1_r, w1_n, w1_s, true_and, and_true], fun j hj => ?_⟩, ⟨by simp (disch := omega) only [w1_r, w1_n, w1_s, true_and, and_true], fun j hj => by rw [w1_na _ _ _ _ (by omega)]; exact kept_rl K r9' j hj⟩, ⟨fun c c1 c2 c3 c4 => by rw [w1_r _ _ _ c4, w1_r _ _ _ c1]; exact r10' c c1 c2 c3 c4, fun j hj => by rw [w1_n _ _ (by omega), w1_na _ _ _ _ (by omega)]; exact r11' j hj, by simp (disch := omega) only [w1_r, w1_n, w1_s, true_and, and_true]; exact ⟨r12, r13, r14, r15⟩⟩, fun c c1 c2 => by rw [w1_r _ _ _ (by omega), K.2.2 c c1]; exact r16' c c1 c2⟩
              dsimp only at hj ⊢
              by_cases e : j = m.2.2.2.1.1
              · rw [if_pos e, e, w1_s]
              · rw [if_neg e, w1_n _ _ (by omega), K.2.2 _ (by omega)]
                exact r7' j (by omega)
          · rw [iff_f c5]
            obtain ⟨l2, E, K⟩ := G1 (by
              rcases Classical.em (farG ((cUp m 0).fdiv (cLo m 0)) m.1) with z | z
              · exact z
              · exact absurd z c5)
            refine ⟨w1 i 12 6 (nC m.2.2.1.1 m.2.2.1.2 : Nat), l2, ?_, (CR_16 (b := (nC m.2.2.1.1 m.2.2.1.2 : Nat)) R hs (fun c c1 c2 c3 => by rw [K c c1, w1' c c2 c3])).2⟩
            unfold fX1_goOn_50
            simp only [nk]
            simp (disch := omega) only [↓iNlt_t, ↓iNlt_f, ↓iNle_t, ↓iNle_f, ↓iNeq_t, ↓iNeq_f, ↓iJlt_t, ↓iJlt_f, ↓iJle_t, ↓iJle_f, ↓iJeq_t, ↓iJeq_f, ↓iZlt_t, ↓iZlt_f, ↓iZle_t, ↓iZle_f, ↓iZeq_t, ↓iZeq_f, ↓iQlt_t, ↓iQlt_f, ↓iQle_t, ↓iQle_f, ↓iQeq_t, ↓iQeq_f, ↓iAnd_t, ↓iAnd_f, ↓iOr_t, ↓iOr_f, ↓iIff_t, ↓iIff_f, ↓iNot_t, ↓iNot_f, ↓iTrue, ↓iFalse, ↓ckN, ↓ckJ, ↓gIT, ↓gLT, ↓gRT, ↓cvT, ↓pIT, ↓pLT, ↓pZT, ↓asZ, ↓aNT, ↓arL, ↓asL, ↓arI, ↓asI, ↓aR_1, ↓bnd_some, ↓wh_eq, ↓on_some, ↓on_none, asZ, arL, asL, arI, asI, aR_1, bnd_some, wh_eq, on_some, on_none, tnT, tnU, tnL, nk, jk, N_add, N_mul, N_sub, N_neg, J_add, J_mul, J_sub, J_neg, N_J, ↓gI_q st, r6, r2, r3, ↓bq W, ↓bq A, U0, L0, ↓b_floorOf, ↓bq E]
            exact ckb (Or.inl rfl) _
        · rw [iff_f c4]
          have A := A2 (fun z => c4 (AE.mp z))
          obtain ⟨i', l', E, Q⟩ := CR_118 hs hx hy Sx Sy sh h (by omega) R1
          refine ⟨i', l', ?_, Q⟩
          unfold fX1_goOn_50
          simp only [nk]
          simp (disch := omega) only [↓iNlt_t, ↓iNlt_f, ↓iNle_t, ↓iNle_f, ↓iNeq_t, ↓iNeq_f, ↓iJlt_t, ↓iJlt_f, ↓iJle_t, ↓iJle_f, ↓iJeq_t, ↓iJeq_f, ↓iZlt_t, ↓iZlt_f, ↓iZle_t, ↓iZle_f, ↓iZeq_t, ↓iZeq_f, ↓iQlt_t, ↓iQlt_f, ↓iQle_t, ↓iQle_f, ↓iQeq_t, ↓iQeq_f, ↓iAnd_t, ↓iAnd_f, ↓iOr_t, ↓iOr_f, ↓iIff_t, ↓iIff_f, ↓iNot_t, ↓iNot_f, ↓iTrue, ↓iFalse, ↓ckN, ↓ckJ, ↓gIT, ↓gLT, ↓gRT, ↓cvT, ↓pIT, ↓pLT, ↓pZT, ↓asZ, ↓aNT, ↓arL, ↓asL, ↓arI, ↓asI, ↓aR_1, ↓bnd_some, ↓wh_eq, ↓on_some, ↓on_none, asZ, arL, asL, arI, asI, aR_1, bnd_some, wh_eq, on_some, on_none, tnT, tnU, tnL, nk, jk, N_add, N_mul, N_sub, N_neg, J_add, J_mul, J_sub, J_neg, N_J, ↓gI_q st, r6, r2, r3, ↓bq W, ↓bq A]
          exact E
    · rw [iff_f c2]
      obtain ⟨i', l', E, Q⟩ := CR_118 hs hx hy Sx Sy sh h (by omega) R
      refine ⟨i', l', ?_, Q⟩
      rw [← E]
      unfold fX1_goOn_50
      simp only [nk]
      by_cases c3 : m.2.1.1 = 0
      · simp (disch := omega) only [↓iNlt_t, ↓iNlt_f, ↓iNle_t, ↓iNle_f, ↓iNeq_t, ↓iNeq_f, ↓iJlt_t, ↓iJlt_f, ↓iJle_t, ↓iJle_f, ↓iJeq_t, ↓iJeq_f, ↓iZlt_t, ↓iZlt_f, ↓iZle_t, ↓iZle_f, ↓iZeq_t, ↓iZeq_f, ↓iQlt_t, ↓iQlt_f, ↓iQle_t, ↓iQle_f, ↓iQeq_t, ↓iQeq_f, ↓iAnd_t, ↓iAnd_f, ↓iOr_t, ↓iOr_f, ↓iIff_t, ↓iIff_f, ↓iNot_t, ↓iNot_f, ↓iTrue, ↓iFalse, ↓ckN, ↓ckJ, ↓gIT, ↓gLT, ↓gRT, ↓cvT, ↓pIT, ↓pLT, ↓pZT, ↓asZ, ↓aNT, ↓arL, ↓asL, ↓arI, ↓asI, ↓aR_1, ↓bnd_some, ↓wh_eq, ↓on_some, ↓on_none, asZ, arL, asL, arI, asI, aR_1, bnd_some, wh_eq, on_some, on_none, tnT, tnU, tnL, nk, jk, N_add, N_mul, N_sub, N_neg, J_add, J_mul, J_sub, J_neg, N_J, ↓gI_q st, r6, r2, r3]
      · simp (disch := omega) only [↓iNlt_t, ↓iNlt_f, ↓iNle_t, ↓iNle_f, ↓iNeq_t, ↓iNeq_f, ↓iJlt_t, ↓iJlt_f, ↓iJle_t, ↓iJle_f, ↓iJeq_t, ↓iJeq_f, ↓iZlt_t, ↓iZlt_f, ↓iZle_t, ↓iZle_f, ↓iZeq_t, ↓iZeq_f, ↓iQlt_t, ↓iQlt_f, ↓iQle_t, ↓iQle_f, ↓iQeq_t, ↓iQeq_f, ↓iAnd_t, ↓iAnd_f, ↓iOr_t, ↓iOr_f, ↓iIff_t, ↓iIff_f, ↓iNot_t, ↓iNot_f, ↓iTrue, ↓iFalse, ↓ckN, ↓ckJ, ↓gIT, ↓gLT, ↓gRT, ↓cvT, ↓pIT, ↓pLT, ↓pZT, ↓asZ, ↓aNT, ↓arL, ↓asL, ↓arI, ↓asI, ↓aR_1, ↓bnd_some, ↓wh_eq, ↓on_some, ↓on_none, asZ, arL, asL, arI, asI, aR_1, bnd_some, wh_eq, on_some, on_none, tnT, tnU, tnL, nk, jk, N_add, N_mul, N_sub, N_neg, J_add, J_mul, J_sub, J_neg, N_J, ↓gI_q st, r6, r2, r3]
theorem CR_run (hs : s < 40) (hx : sx ≠ s) (hy : sy ≠ s) (Sx : SrcC iB lB sx px nx ex) (Sy : SrcC iB lB sy py ny ey) (sh : SH px nx ex py ny ey) : ∀ (k : Nat) (m : MS) (i l : Nat → Nat → Int) (t q : Nat), MI nx ex ny ey m → CR iB lB s m i l → mea nx ny m + 1 ≤ k → t + k ≤ 182 → k + 2 ≤ q →
    ∃ i' l', fX1_make_32L q 12 (2 * s + 28) (N 1) (N t) (hq i l (some (2 * sx + 28)) (some (2 * sy + 28))) = fX1_make_58 12 (2 * s + 28) (hq i' l' (some (2 * sx + 28)) (some (2 * sy + 28))) ∧ CR iB lB s (runM px nx ex py ny ey k m) i' l' ∧ MI nx ex ny ey (runM px nx ex py ny ey k m) := by
  intro k
  induction k with
  | zero => intro m i l t q h R h1 h2 h3; omega
  | succ k ih =>
    intro m i l t q h R h1 h2 h3
    obtain ⟨q, rfl⟩ : ∃ z, q = z + 1 := ⟨q - 1, by omega⟩
    obtain ⟨i', l', E, Q⟩ := CR_goOn hs hx hy Sx Sy sh h R
    obtain ⟨M1, M2⟩ := MI_stp sh h
    have S : fX1_make_32L (q + 1) 12 (2 * s + 28) (N 1) (N t) (hq i l (some (2 * sx + 28)) (some (2 * sy + 28))) = fX1_make_32L q 12 (2 * s + 28) (N (stp' px nx ex py ny ey m).1) (N ((t + 1 : Nat) : Int)) (hq i' l' (some (2 * sx + 28)) (some (2 * sy + 28))) := by
      show fX1_make_32 (fX1_make_32L q) 12 _ _ _ _ = _
      unfold fX1_make_32
      simp only [nk, jk, N_add, N_mul, N_sub, N_neg, J_add, J_mul, J_sub, J_neg]
      simp (disch := omega) only [↓iNlt_t, ↓iNlt_f, ↓iNle_t, ↓iNle_f, ↓iNeq_t, ↓iNeq_f, ↓iJlt_t, ↓iJlt_f, ↓iJle_t, ↓iJle_f, ↓iJeq_t, ↓iJeq_f, ↓iZlt_t, ↓iZlt_f, ↓iZle_t, ↓iZle_f, ↓iZeq_t, ↓iZeq_f, ↓iQlt_t, ↓iQlt_f, ↓iQle_t, ↓iQle_f, ↓iQeq_t, ↓iQeq_f, ↓iAnd_t, ↓iAnd_f, ↓iOr_t, ↓iOr_f, ↓iIff_t, ↓iIff_f, ↓iNot_t, ↓iNot_f, ↓iTrue, ↓iFalse, ↓ckN, ↓ckJ, ↓gIT, ↓gLT, ↓gRT, ↓cvT, ↓pIT, ↓pLT, ↓pZT, ↓asZ, ↓aNT, ↓arL, ↓asL, ↓arI, ↓asI, ↓aR_1, ↓bnd_some, ↓wh_eq, ↓on_some, ↓on_none, asZ, arL, asL, arI, asI, aR_1, bnd_some, wh_eq, on_some, on_none, tnT, tnU, tnL, nk, jk, N_add, N_mul, N_sub, N_neg, J_add, J_mul, J_sub, J_neg, N_J, ↓bq E]
      rfl
    rw [S]
    show ∃ i' l', _ ∧ CR iB lB s (iff' _ _ _) i' l' ∧ MI nx ex ny ey (iff' _ _ _)
    by_cases c : (stp' px nx ex py ny ey m).1 = 0
    · rw [iff_t c, c]
      refine ⟨i', l', ?_, Q, M1⟩
      obtain ⟨q, rfl⟩ : ∃ z, q = z + 1 := ⟨q - 1, by omega⟩
      show fX1_make_32 (fX1_make_32L q) 12 _ _ _ _ = _
      unfold fX1_make_32
      simp only [nk, jk, N_add, N_mul, N_sub, N_neg, J_add, J_mul, J_sub, J_neg]
      simp (disch := omega) only [↓iNlt_t, ↓iNlt_f, ↓iNle_t, ↓iNle_f, ↓iNeq_t, ↓iNeq_f, ↓iJlt_t, ↓iJlt_f, ↓iJle_t, ↓iJle_f, ↓iJeq_t, ↓iJeq_f, ↓iZlt_t, ↓iZlt_f, ↓iZle_t, ↓iZle_f, ↓iZeq_t, ↓iZeq_f, ↓iQlt_t, ↓iQlt_f, ↓iQle_t, ↓iQle_f, ↓iQeq_t, ↓iQeq_f, ↓iAnd_t, ↓iAnd_f, ↓iOr_t, ↓iOr_f, ↓iIff_t, ↓iIff_f, ↓iNot_t, ↓iNot_f, ↓iTrue, ↓iFalse, ↓ckN, ↓ckJ, ↓gIT, ↓gLT, ↓gRT, ↓cvT, ↓pIT, ↓pLT, ↓pZT, ↓asZ, ↓aNT, ↓arL, ↓asL, ↓arI, ↓asI, ↓aR_1, ↓bnd_some, ↓wh_eq, ↓on_some, ↓on_none, asZ, arL, asL, arI, asI, aR_1, bnd_some, wh_eq, on_some, on_none, tnT, tnU, tnL, nk, jk, N_add, N_mul, N_sub, N_neg, J_add, J_mul, J_sub, J_neg, N_J]
    · rw [iff_f c]
      obtain ⟨M3, M4⟩ : (stp' px nx ex py ny ey m).1 = 1 ∧ mea nx ny (stp' px nx ex py ny ey m).2 + 1 ≤ mea nx ny m := by
        rcases M2 with z | z
        · exact absurd z c
        · exact z
      rw [M3]
      exact ih _ i' l' (t + 1) q M1 Q (by omega) (by omega) (by omega)
end CRS
