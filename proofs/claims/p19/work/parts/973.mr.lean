/-! ===== making: the reference, step by step: made by mr.py ===== -/
def MR (iB lB : Nat → Nat → Int) (s : Nat) (m : MS) (i l : Nat → Nat → Int) : Prop :=
  (∀ j, j < 8 → l 121 j = m.1 j) ∧ (i 111 s = m.2.2.2.1.1 ∧ ∀ j, j < m.2.2.2.1.1 → l 113 (60 * s + j) = m.2.2.2.1.2 j) ∧ (i 108 22 = m.2.2.2.2.1 ∧ ∀ j, j < 10 * m.2.2.2.2.1 → l 123 j = m.2.2.2.2.2 j) ∧
  ((∀ c, c ≠ 108 → c ≠ 111 → i c = iB c) ∧ (∀ t, t ≠ s → i 111 t = iB 111 t) ∧ (∀ j, j ≠ 0 → j ≠ 22 → j ≠ 25 → i 108 j = iB 108 j) ∧ a01 (i 108 0)) ∧ (∀ c, c ≠ 113 → (c < 121 ∨ 125 < c) → l c = lB c) ∧ ∀ j, (j < 60 * s ∨ 60 * s + 60 ≤ j) → l 113 j = lB 113 j
def SrcM (iB lB : Nat → Nat → Int) (t : Nat) (p : Nat → Int) (k : Nat) (e : Int) : Prop := t < 40 ∧ iB 111 t = k ∧ iB 112 t = e ∧ ∀ j, j < k → lB 113 (60 * t + j) = p j
section MRS
variable {px py : Nat → Int} {nx ny : Nat} {ex ey : Int} {iB lB i l : Nat → Nat → Int} {s sx sy : Nat} {x y : Option Nat}
theorem MR_aside {m : MS} {l' : Nat → Nat → Int} (h : MR iB lB s m i l) (hl : ∀ c, c ≠ 122 → c ≠ 124 → c ≠ 125 → l' c = l c) {b : Int} (hb : a01 b) : MR iB lB s m (w1 i 108 0 b) l' ∧ ∀ k : Int, MR iB lB s m (w1 (w1 i 108 25 k) 108 0 b) l' := by
  obtain ⟨h1, h2, h3, ⟨h4, h5, h6, h7⟩, h8, h9⟩ := h
  have e121 := hl 121 (by omega) (by omega) (by omega)
  have e113 := hl 113 (by omega) (by omega) (by omega)
  have e123 := hl 123 (by omega) (by omega) (by omega)
  refine ⟨⟨by rw [e121]; exact h1, ⟨by simp (disch := omega) only [w1_r, w1_n, w1_s, true_and, and_true]; exact h2.1, by rw [e113]; exact h2.2⟩, ⟨by simp (disch := omega) only [w1_r, w1_n, w1_s, true_and, and_true]; exact h3.1, by rw [e123]; exact h3.2⟩, ⟨fun c c1 c2 => by rw [w1_r _ _ _ c1]; exact h4 c c1 c2, fun t ht => by simp (disch := omega) only [w1_r, w1_n, w1_s, true_and, and_true]; exact h5 t ht, fun j j1 j2 j3 => by rw [w1_n _ _ (by omega)]; exact h6 j j1 j2 j3, by simp (disch := omega) only [w1_r, w1_n, w1_s, true_and, and_true]; exact hb⟩, fun c c1 c2 => by rw [hl c (by omega) (by omega) (by omega)]; exact h8 c c1 c2, by rw [e113]; exact h9⟩, fun k => ?_⟩
  exact ⟨by rw [e121]; exact h1, ⟨by simp (disch := omega) only [w1_r, w1_n, w1_s, true_and, and_true]; exact h2.1, by rw [e113]; exact h2.2⟩, ⟨by simp (disch := omega) only [w1_r, w1_n, w1_s, true_and, and_true]; exact h3.1, by rw [e123]; exact h3.2⟩, ⟨fun c c1 c2 => by rw [w1_r _ _ _ c1, w1_r _ _ _ c1]; exact h4 c c1 c2, fun t ht => by simp (disch := omega) only [w1_r, w1_n, w1_s, true_and, and_true]; exact h5 t ht, fun j j1 j2 j3 => by rw [w1_n _ _ (by omega), w1_n _ _ (by omega)]; exact h6 j j1 j2 j3, by simp (disch := omega) only [w1_r, w1_n, w1_s, true_and, and_true]; exact hb⟩, fun c c1 c2 => by rw [hl c (by omega) (by omega) (by omega)]; exact h8 c c1 c2, by rw [e113]; exact h9⟩
theorem rl_ref {l l1 : Nat → Nat → Int} {rl v : Nat → Int} {n : Nat} (what p : Int) (h : ∀ j, j < 10 * n → l 123 j = rl j) (h1 : l1 123 = l 123) (h2 : ∀ j, j < 8 → l1 121 j = v j) : ∀ j, j < 10 * (n + 1) → wr l1 123 (rlA (l1 123) n what p (l1 121)) 123 j = rlA rl n what p v j := fun j hj => by
  rw [wr_s]
  exact rlA_congr _ _ (fun j hj => by rw [h1]; exact h j hj) h2 j hj
theorem MR_takeX (K : Nat → Int32 → Int32 → Int32 → Int32 → Int32 → Int32 → Int32 → Int32 → AH → Fn Int64) (hs : s < 40) (hne : sx ≠ s) (S : SrcM iB lB sx px nx ex) (sh : SH px nx ex py ny ey) {m : MS} (h : MI nx ex ny ey m) (h0 : m.2.2.1.1 = 0) (hk : m.2.2.2.1.1 < 60) (R : MR iB lB s m i l) :
    ∃ i' l', fX9_make_219 K 108 (N sx) (N sy) (N s) (N (m.2.1.1 : Int)) (N (m.2.1.2 : Int)) (N m.2.2.1.1) (N m.2.2.1.2) (hq i l x y) = K 108 (N sx) (N sy) (N s) (N ((gX px nx ex m).2.2.1.1 : Int)) (N ((gX px nx ex m).2.2.1.2 : Int)) (N (gX px nx ex m).2.2.2.1.1) (N (gX px nx ex m).2.2.2.1.2) (N (gX px nx ex m).1) (hq i' l' x y) ∧ MR iB lB s (gX px nx ex m).2 i' l' := by
  have R' := R
  obtain ⟨hv, ⟨q1, q2⟩, ho, ⟨q3, q4⟩, q5, q6, q7, q8⟩ := h
  obtain ⟨r1, ⟨r2, r3⟩, ⟨r4, r5⟩, ⟨r6, r7, r8, r9⟩, r10, r11⟩ := R
  obtain ⟨t1, t2, t3, t4⟩ := S
  obtain ⟨⟨s1, s2⟩, ⟨s3, s4, s5⟩, s6, s7⟩ := sh
  have k1 : i 111 sx = nx := by rw [r7 _ hne]; exact t2
  have k2 : i 112 sx = ex := by rw [r6 _ (by omega) (by omega)]; exact t3
  unfold gX
  by_cases c1 : m.2.1.1 < nx
  · have p1 : l 113 (60 * sx + m.2.1.1) = px m.2.1.1 := by rw [r11 _ (by omega)]; exact t4 _ c1
    obtain ⟨f1, -⟩ := s6 _ c1
    obtain ⟨T1, T2⟩ := r_takeX (i := i) (l := l) (x := x) (y := y) f1 (fun j hj => ⟨r1 j hj, hv j hj⟩)
    by_cases c2 : farX (px m.2.1.1) m.1
    · rw [iff_f (fun z => z.2 c2)]
      obtain ⟨l', E, Lo⟩ := T1 c2
      refine ⟨w1 i 108 0 1, l', ?_, (MR_aside R' (fun c z1 _ _ => Lo c z1) (Or.inr rfl)).1⟩
      unfold fX9_make_219 fX9_make_294
      simp only [nk, N_mul, N_add]
      simp (disch := omega) only [↓iNlt_t, ↓iNlt_f, ↓iNle_t, ↓iNle_f, ↓iNeq_t, ↓iNeq_f, ↓iJlt_t, ↓iJlt_f, ↓iJle_t, ↓iJle_f, ↓iJeq_t, ↓iJeq_f, ↓iZlt_t, ↓iZlt_f, ↓iZle_t, ↓iZle_f, ↓iZeq_t, ↓iZeq_f, ↓iQlt_t, ↓iQlt_f, ↓iQle_t, ↓iQle_f, ↓iQeq_t, ↓iQeq_f, ↓iAnd_t, ↓iAnd_f, ↓iOr_t, ↓iOr_f, ↓iIff_t, ↓iIff_f, ↓iNot_t, ↓iNot_f, ↓iTrue, ↓iFalse, ↓ckN, ↓ckJ, ↓gIT, ↓gLT, ↓gRT, ↓cvT, ↓pIT, ↓pLT, ↓pZT, ↓asZ, ↓aNT, ↓arL, ↓asL, ↓arI, ↓asI, ↓aR_1, ↓bnd_some, ↓wh_eq, ↓on_some, ↓on_none, asZ, arL, asL, arI, asI, aR_1, bnd_some, wh_eq, on_some, on_none, tnT, tnU, tnL, nk, jk, N_add, N_mul, N_sub, N_neg, J_add, J_mul, J_sub, J_neg, N_J, h0, k1, p1, ↓bq E]
    · rw [iff_t ⟨c1, c2⟩]
      obtain ⟨l1, E, V1, Lo⟩ := T2 c2
      have RO := r_roll (i := w1 i 108 0 0) (l := l1) (x := x) (y := y) (n := m.2.2.2.2.1) (by omega) (by rw [w1_n _ _ (by omega)]; exact r4) (w := 0) (by omega) (px m.2.1.1)
      have l123 := Lo 123 (by omega) (by omega)
      have z1 : ∀ b c, w1 (w1 i 108 0 b) 108 22 c 112 sx = ex := fun b c => by rw [w1_na _ _ _ _ (by omega), w1_na _ _ _ _ (by omega)]; exact k2
      have z2 : ∀ b c, w1 (w1 i 108 0 b) 108 22 c 111 sx = nx := fun b c => by rw [w1_na _ _ _ _ (by omega), w1_na _ _ _ _ (by omega)]; exact k1
      have R1 : MR iB lB s (gdv (tkX (px m.2.1.1) m.1), (m.2.1.1 + 1, m.2.1.2), m.2.2.1, m.2.2.2.1, (m.2.2.2.2.1 + 1, rlA m.2.2.2.2.2 m.2.2.2.2.1 0 (px m.2.1.1) (gdv (tkX (px m.2.1.1) m.1)))) (w1 (w1 i 108 0 0) 108 22 ((m.2.2.2.2.1 + 1 : Nat) : Int)) (wr l1 123 (rlA (l1 123) m.2.2.2.2.1 0 (px m.2.1.1) (l1 121))) := by
        refine ⟨fun j hj => by rw [wr_n _ _ (by omega)]; exact V1 j hj, ⟨by simp (disch := omega) only [w1_r, w1_n, w1_s, true_and, and_true]; exact r2, fun j hj => by rw [wr_n _ _ (by omega), Lo _ (by omega) (by omega)]; exact r3 j hj⟩, ⟨w1_s _ _ _ _, rl_ref _ _ r5 l123 V1⟩, ⟨fun c d1 d2 => by rw [w1_r _ _ _ d1, w1_r _ _ _ d1]; exact r6 c d1 d2, fun t ht => by simp (disch := omega) only [w1_r, w1_n, w1_s, true_and, and_true]; exact r7 t ht, fun j d1 d2 d3 => by rw [w1_n _ _ (by omega), w1_n _ _ (by omega)]; exact r8 j d1 d2 d3, by simp (disch := omega) only [w1_r, w1_n, w1_s, true_and, and_true]; exact Or.inl rfl⟩, fun c d1 d2 => by rw [wr_n _ _ (by omega), Lo c (by omega) (by omega)]; exact r10 c d1 d2, fun j hj => by rw [wr_n _ _ (by omega), Lo _ (by omega) (by omega)]; exact r11 j hj⟩
      by_cases c3 : ex = 1 ∧ m.2.1.1 + 1 = nx
      · rw [iff_t c3]
        obtain ⟨y1, ⟨y2, y3⟩, ⟨y4, y5⟩, ⟨y6, y7, y8, y9⟩, y10, y11⟩ := R1
        obtain ⟨l2, E2, V2, Lo2⟩ := r_outX (i := w1 (w1 i 108 0 0) 108 22 ((m.2.2.2.2.1 + 1 : Nat) : Int)) (l := wr l1 123 (rlA (l1 123) m.2.2.2.2.1 0 (px m.2.1.1) (l1 121))) (x := x) (y := y) (v := gdv (tkX (px m.2.1.1) m.1)) (fun j hj => ⟨y1 j hj, tkX_nf f1 hv c2 j hj⟩)
        have RO2 := r_roll (i := w1 (w1 (w1 i 108 0 0) 108 22 ((m.2.2.2.2.1 + 1 : Nat) : Int)) 108 0 0) (l := l2) (x := x) (y := y) (n := m.2.2.2.2.1 + 1) (by omega) (by rw [w1_n _ _ (by omega), w1_s]) (w := 2) (by omega) 0
        have l123' := Lo2 123 (by omega) (by omega)
        refine ⟨w1 (w1 (w1 (w1 i 108 0 0) 108 22 ((m.2.2.2.2.1 + 1 : Nat) : Int)) 108 0 0) 108 22 ((m.2.2.2.2.1 + 1 + 1 : Nat) : Int), wr l2 123 (rlA (l2 123) (m.2.2.2.2.1 + 1) 2 0 (l2 121)), ?_, ?_⟩
        · unfold fX9_make_219 fX9_make_294
          simp only [nk, jk, N_mul, N_add]
          simp (disch := omega) only [↓iNlt_t, ↓iNlt_f, ↓iNle_t, ↓iNle_f, ↓iNeq_t, ↓iNeq_f, ↓iJlt_t, ↓iJlt_f, ↓iJle_t, ↓iJle_f, ↓iJeq_t, ↓iJeq_f, ↓iZlt_t, ↓iZlt_f, ↓iZle_t, ↓iZle_f, ↓iZeq_t, ↓iZeq_f, ↓iQlt_t, ↓iQlt_f, ↓iQle_t, ↓iQle_f, ↓iQeq_t, ↓iQeq_f, ↓iAnd_t, ↓iAnd_f, ↓iOr_t, ↓iOr_f, ↓iIff_t, ↓iIff_f, ↓iNot_t, ↓iNot_f, ↓iTrue, ↓iFalse, ↓ckN, ↓ckJ, ↓gIT, ↓gLT, ↓gRT, ↓cvT, ↓pIT, ↓pLT, ↓pZT, ↓asZ, ↓aNT, ↓arL, ↓asL, ↓arI, ↓asI, ↓aR_1, ↓bnd_some, ↓wh_eq, ↓on_some, ↓on_none, asZ, arL, asL, arI, asI, aR_1, bnd_some, wh_eq, on_some, on_none, tnT, tnU, tnL, nk, jk, N_add, N_mul, N_sub, N_neg, J_add, J_mul, J_sub, J_neg, N_J, h0, k1, p1, ↓bq E, ↓bq RO, z1, z2, ↓bq E2, ↓bq RO2]
          rfl
        · refine ⟨fun j hj => by rw [wr_n _ _ (by omega)]; exact V2 j hj, ⟨by simp (disch := omega) only [w1_r, w1_n, w1_s, true_and, and_true]; exact r2, fun j hj => by rw [wr_n _ _ (by omega), Lo2 _ (by omega) (by omega)]; exact y3 j hj⟩, ⟨w1_s _ _ _ _, rl_ref _ _ y5 l123' V2⟩, ⟨fun c d1 d2 => by rw [w1_r _ _ _ d1, w1_r _ _ _ d1]; exact y6 c d1 d2, fun t ht => by simp (disch := omega) only [w1_r, w1_n, w1_s, true_and, and_true]; exact r7 t ht, fun j d1 d2 d3 => by rw [w1_n _ _ (by omega), w1_n _ _ (by omega)]; exact y8 j d1 d2 d3, by simp (disch := omega) only [w1_r, w1_n, w1_s, true_and, and_true]; exact Or.inl rfl⟩, fun c d1 d2 => by rw [wr_n _ _ (by omega), Lo2 c (by omega) (by omega)]; exact y10 c d1 d2, fun j hj => by rw [wr_n _ _ (by omega), Lo2 _ (by omega) (by omega)]; exact y11 j hj⟩
      · rw [iff_f c3]
        refine ⟨_, _, ?_, R1⟩
        unfold fX9_make_219 fX9_make_294
        simp only [nk, jk, N_mul, N_add]
        by_cases c4 : ex = 1
        · simp (disch := omega) only [↓iNlt_t, ↓iNlt_f, ↓iNle_t, ↓iNle_f, ↓iNeq_t, ↓iNeq_f, ↓iJlt_t, ↓iJlt_f, ↓iJle_t, ↓iJle_f, ↓iJeq_t, ↓iJeq_f, ↓iZlt_t, ↓iZlt_f, ↓iZle_t, ↓iZle_f, ↓iZeq_t, ↓iZeq_f, ↓iQlt_t, ↓iQlt_f, ↓iQle_t, ↓iQle_f, ↓iQeq_t, ↓iQeq_f, ↓iAnd_t, ↓iAnd_f, ↓iOr_t, ↓iOr_f, ↓iIff_t, ↓iIff_f, ↓iNot_t, ↓iNot_f, ↓iTrue, ↓iFalse, ↓ckN, ↓ckJ, ↓gIT, ↓gLT, ↓gRT, ↓cvT, ↓pIT, ↓pLT, ↓pZT, ↓asZ, ↓aNT, ↓arL, ↓asL, ↓arI, ↓asI, ↓aR_1, ↓bnd_some, ↓wh_eq, ↓on_some, ↓on_none, asZ, arL, asL, arI, asI, aR_1, bnd_some, wh_eq, on_some, on_none, tnT, tnU, tnL, nk, jk, N_add, N_mul, N_sub, N_neg, J_add, J_mul, J_sub, J_neg, N_J, h0, k1, p1, ↓bq E, ↓bq RO, z1, z2]
          rfl
        · simp (disch := omega) only [↓iNlt_t, ↓iNlt_f, ↓iNle_t, ↓iNle_f, ↓iNeq_t, ↓iNeq_f, ↓iJlt_t, ↓iJlt_f, ↓iJle_t, ↓iJle_f, ↓iJeq_t, ↓iJeq_f, ↓iZlt_t, ↓iZlt_f, ↓iZle_t, ↓iZle_f, ↓iZeq_t, ↓iZeq_f, ↓iQlt_t, ↓iQlt_f, ↓iQle_t, ↓iQle_f, ↓iQeq_t, ↓iQeq_f, ↓iAnd_t, ↓iAnd_f, ↓iOr_t, ↓iOr_f, ↓iIff_t, ↓iIff_f, ↓iNot_t, ↓iNot_f, ↓iTrue, ↓iFalse, ↓ckN, ↓ckJ, ↓gIT, ↓gLT, ↓gRT, ↓cvT, ↓pIT, ↓pLT, ↓pZT, ↓asZ, ↓aNT, ↓arL, ↓asL, ↓arI, ↓asI, ↓aR_1, ↓bnd_some, ↓wh_eq, ↓on_some, ↓on_none, asZ, arL, asL, arI, asI, aR_1, bnd_some, wh_eq, on_some, on_none, tnT, tnU, tnL, nk, jk, N_add, N_mul, N_sub, N_neg, J_add, J_mul, J_sub, J_neg, N_J, h0, k1, p1, ↓bq E, ↓bq RO, z1, z2]
          rfl
  · rw [iff_f (fun z => c1 z.1)]
    refine ⟨i, l, ?_, R'⟩
    unfold fX9_make_219
    simp only [nk]
    simp (disch := omega) only [↓iNlt_t, ↓iNlt_f, ↓iNle_t, ↓iNle_f, ↓iNeq_t, ↓iNeq_f, ↓iJlt_t, ↓iJlt_f, ↓iJle_t, ↓iJle_f, ↓iJeq_t, ↓iJeq_f, ↓iZlt_t, ↓iZlt_f, ↓iZle_t, ↓iZle_f, ↓iZeq_t, ↓iZeq_f, ↓iQlt_t, ↓iQlt_f, ↓iQle_t, ↓iQle_f, ↓iQeq_t, ↓iQeq_f, ↓iAnd_t, ↓iAnd_f, ↓iOr_t, ↓iOr_f, ↓iIff_t, ↓iIff_f, ↓iNot_t, ↓iNot_f, ↓iTrue, ↓iFalse, ↓ckN, ↓ckJ, ↓gIT, ↓gLT, ↓gRT, ↓cvT, ↓pIT, ↓pLT, ↓pZT, ↓asZ, ↓aNT, ↓arL, ↓asL, ↓arI, ↓asI, ↓aR_1, ↓bnd_some, ↓wh_eq, ↓on_some, ↓on_none, asZ, arL, asL, arI, asI, aR_1, bnd_some, wh_eq, on_some, on_none, tnT, tnU, tnL, nk, jk, N_add, N_mul, N_sub, N_neg, J_add, J_mul, J_sub, J_neg, N_J, h0, k1]
theorem MR_takeY (K : Nat → Int32 → Int32 → Int32 → Int32 → Int32 → Int32 → Int32 → Int32 → AH → Fn Int64) (hs : s < 40) (hne : sy ≠ s) (S : SrcM iB lB sy py ny ey) (sh : SH px nx ex py ny ey) {m : MS} (h : MI nx ex ny ey m) (h0 : m.2.2.1.2 = 0) (hk : m.2.2.2.1.1 < 60) (R : MR iB lB s m i l) :
    ∃ i' l', fX9_make_318 K 108 (N sx) (N sy) (N s) (N (m.2.1.1 : Int)) (N (m.2.1.2 : Int)) (N m.2.2.1.1) (N m.2.2.1.2) (hq i l x y) = K 108 (N sx) (N sy) (N s) (N ((gY py ny ey m).2.2.1.1 : Int)) (N ((gY py ny ey m).2.2.1.2 : Int)) (N (gY py ny ey m).2.2.2.1.1) (N (gY py ny ey m).2.2.2.1.2) (N (gY py ny ey m).1) (hq i' l' x y) ∧ MR iB lB s (gY py ny ey m).2 i' l' := by
  have R' := R
  obtain ⟨hv, ⟨q1, q2⟩, ho, ⟨q3, q4⟩, q5, q6, q7, q8⟩ := h
  obtain ⟨r1, ⟨r2, r3⟩, ⟨r4, r5⟩, ⟨r6, r7, r8, r9⟩, r10, r11⟩ := R
  obtain ⟨t1, t2, t3, t4⟩ := S
  obtain ⟨⟨s1, s2⟩, ⟨s3, s4, s5⟩, s6, s7⟩ := sh
  have k1 : i 111 sy = ny := by rw [r7 _ hne]; exact t2
  have k2 : i 112 sy = ey := by rw [r6 _ (by omega) (by omega)]; exact t3
  unfold gY
  by_cases c1 : m.2.1.2 < ny
  · have p1 : l 113 (60 * sy + m.2.1.2) = py m.2.1.2 := by rw [r11 _ (by omega)]; exact t4 _ c1
    obtain ⟨f1, -⟩ := s7 _ c1
    obtain ⟨T1, T2⟩ := r_takeY (i := i) (l := l) (x := x) (y := y) f1 (fun j hj => ⟨r1 j hj, hv j hj⟩)
    by_cases c2 : farY (py m.2.1.2) m.1
    · rw [iff_f (fun z => z.2 c2)]
      obtain ⟨l', E, Lo⟩ := T1 c2
      refine ⟨w1 i 108 0 1, l', ?_, (MR_aside R' (fun c z1 _ _ => Lo c z1) (Or.inr rfl)).1⟩
      unfold fX9_make_318 fX9_make_404
      simp only [nk, N_mul, N_add]
      simp (disch := omega) only [↓iNlt_t, ↓iNlt_f, ↓iNle_t, ↓iNle_f, ↓iNeq_t, ↓iNeq_f, ↓iJlt_t, ↓iJlt_f, ↓iJle_t, ↓iJle_f, ↓iJeq_t, ↓iJeq_f, ↓iZlt_t, ↓iZlt_f, ↓iZle_t, ↓iZle_f, ↓iZeq_t, ↓iZeq_f, ↓iQlt_t, ↓iQlt_f, ↓iQle_t, ↓iQle_f, ↓iQeq_t, ↓iQeq_f, ↓iAnd_t, ↓iAnd_f, ↓iOr_t, ↓iOr_f, ↓iIff_t, ↓iIff_f, ↓iNot_t, ↓iNot_f, ↓iTrue, ↓iFalse, ↓ckN, ↓ckJ, ↓gIT, ↓gLT, ↓gRT, ↓cvT, ↓pIT, ↓pLT, ↓pZT, ↓asZ, ↓aNT, ↓arL, ↓asL, ↓arI, ↓asI, ↓aR_1, ↓bnd_some, ↓wh_eq, ↓on_some, ↓on_none, asZ, arL, asL, arI, asI, aR_1, bnd_some, wh_eq, on_some, on_none, tnT, tnU, tnL, nk, jk, N_add, N_mul, N_sub, N_neg, J_add, J_mul, J_sub, J_neg, N_J, h0, k1, p1, ↓bq E]
    · rw [iff_t ⟨c1, c2⟩]
      obtain ⟨l1, E, V1, Lo⟩ := T2 c2
      have RO := r_roll (i := w1 i 108 0 0) (l := l1) (x := x) (y := y) (n := m.2.2.2.2.1) (by omega) (by rw [w1_n _ _ (by omega)]; exact r4) (w := 1) (by omega) (py m.2.1.2)
      have l123 := Lo 123 (by omega) (by omega)
      have z1 : ∀ b c, w1 (w1 i 108 0 b) 108 22 c 112 sy = ey := fun b c => by rw [w1_na _ _ _ _ (by omega), w1_na _ _ _ _ (by omega)]; exact k2
      have z2 : ∀ b c, w1 (w1 i 108 0 b) 108 22 c 111 sy = ny := fun b c => by rw [w1_na _ _ _ _ (by omega), w1_na _ _ _ _ (by omega)]; exact k1
      have R1 : MR iB lB s (gdv (tkY (py m.2.1.2) m.1), (m.2.1.1, m.2.1.2 + 1), m.2.2.1, m.2.2.2.1, (m.2.2.2.2.1 + 1, rlA m.2.2.2.2.2 m.2.2.2.2.1 1 (py m.2.1.2) (gdv (tkY (py m.2.1.2) m.1)))) (w1 (w1 i 108 0 0) 108 22 ((m.2.2.2.2.1 + 1 : Nat) : Int)) (wr l1 123 (rlA (l1 123) m.2.2.2.2.1 1 (py m.2.1.2) (l1 121))) := by
        refine ⟨fun j hj => by rw [wr_n _ _ (by omega)]; exact V1 j hj, ⟨by simp (disch := omega) only [w1_r, w1_n, w1_s, true_and, and_true]; exact r2, fun j hj => by rw [wr_n _ _ (by omega), Lo _ (by omega) (by omega)]; exact r3 j hj⟩, ⟨w1_s _ _ _ _, rl_ref _ _ r5 l123 V1⟩, ⟨fun c d1 d2 => by rw [w1_r _ _ _ d1, w1_r _ _ _ d1]; exact r6 c d1 d2, fun t ht => by simp (disch := omega) only [w1_r, w1_n, w1_s, true_and, and_true]; exact r7 t ht, fun j d1 d2 d3 => by rw [w1_n _ _ (by omega), w1_n _ _ (by omega)]; exact r8 j d1 d2 d3, by simp (disch := omega) only [w1_r, w1_n, w1_s, true_and, and_true]; exact Or.inl rfl⟩, fun c d1 d2 => by rw [wr_n _ _ (by omega), Lo c (by omega) (by omega)]; exact r10 c d1 d2, fun j hj => by rw [wr_n _ _ (by omega), Lo _ (by omega) (by omega)]; exact r11 j hj⟩
      by_cases c3 : ey = 1 ∧ m.2.1.2 + 1 = ny
      · rw [iff_t c3]
        obtain ⟨y1, ⟨y2, y3⟩, ⟨y4, y5⟩, ⟨y6, y7, y8, y9⟩, y10, y11⟩ := R1
        obtain ⟨l2, E2, V2, Lo2⟩ := r_outY (i := w1 (w1 i 108 0 0) 108 22 ((m.2.2.2.2.1 + 1 : Nat) : Int)) (l := wr l1 123 (rlA (l1 123) m.2.2.2.2.1 1 (py m.2.1.2) (l1 121))) (x := x) (y := y) (v := gdv (tkY (py m.2.1.2) m.1)) (fun j hj => ⟨y1 j hj, tkY_nf f1 hv c2 j hj⟩)
        have RO2 := r_roll (i := w1 (w1 (w1 i 108 0 0) 108 22 ((m.2.2.2.2.1 + 1 : Nat) : Int)) 108 0 0) (l := l2) (x := x) (y := y) (n := m.2.2.2.2.1 + 1) (by omega) (by rw [w1_n _ _ (by omega), w1_s]) (w := 3) (by omega) 0
        have l123' := Lo2 123 (by omega) (by omega)
        refine ⟨w1 (w1 (w1 (w1 i 108 0 0) 108 22 ((m.2.2.2.2.1 + 1 : Nat) : Int)) 108 0 0) 108 22 ((m.2.2.2.2.1 + 1 + 1 : Nat) : Int), wr l2 123 (rlA (l2 123) (m.2.2.2.2.1 + 1) 3 0 (l2 121)), ?_, ?_⟩
        · unfold fX9_make_318 fX9_make_404
          simp only [nk, jk, N_mul, N_add]
          simp (disch := omega) only [↓iNlt_t, ↓iNlt_f, ↓iNle_t, ↓iNle_f, ↓iNeq_t, ↓iNeq_f, ↓iJlt_t, ↓iJlt_f, ↓iJle_t, ↓iJle_f, ↓iJeq_t, ↓iJeq_f, ↓iZlt_t, ↓iZlt_f, ↓iZle_t, ↓iZle_f, ↓iZeq_t, ↓iZeq_f, ↓iQlt_t, ↓iQlt_f, ↓iQle_t, ↓iQle_f, ↓iQeq_t, ↓iQeq_f, ↓iAnd_t, ↓iAnd_f, ↓iOr_t, ↓iOr_f, ↓iIff_t, ↓iIff_f, ↓iNot_t, ↓iNot_f, ↓iTrue, ↓iFalse, ↓ckN, ↓ckJ, ↓gIT, ↓gLT, ↓gRT, ↓cvT, ↓pIT, ↓pLT, ↓pZT, ↓asZ, ↓aNT, ↓arL, ↓asL, ↓arI, ↓asI, ↓aR_1, ↓bnd_some, ↓wh_eq, ↓on_some, ↓on_none, asZ, arL, asL, arI, asI, aR_1, bnd_some, wh_eq, on_some, on_none, tnT, tnU, tnL, nk, jk, N_add, N_mul, N_sub, N_neg, J_add, J_mul, J_sub, J_neg, N_J, h0, k1, p1, ↓bq E, ↓bq RO, z1, z2, ↓bq E2, ↓bq RO2]
          rfl
        · refine ⟨fun j hj => by rw [wr_n _ _ (by omega)]; exact V2 j hj, ⟨by simp (disch := omega) only [w1_r, w1_n, w1_s, true_and, and_true]; exact r2, fun j hj => by rw [wr_n _ _ (by omega), Lo2 _ (by omega) (by omega)]; exact y3 j hj⟩, ⟨w1_s _ _ _ _, rl_ref _ _ y5 l123' V2⟩, ⟨fun c d1 d2 => by rw [w1_r _ _ _ d1, w1_r _ _ _ d1]; exact y6 c d1 d2, fun t ht => by simp (disch := omega) only [w1_r, w1_n, w1_s, true_and, and_true]; exact r7 t ht, fun j d1 d2 d3 => by rw [w1_n _ _ (by omega), w1_n _ _ (by omega)]; exact y8 j d1 d2 d3, by simp (disch := omega) only [w1_r, w1_n, w1_s, true_and, and_true]; exact Or.inl rfl⟩, fun c d1 d2 => by rw [wr_n _ _ (by omega), Lo2 c (by omega) (by omega)]; exact y10 c d1 d2, fun j hj => by rw [wr_n _ _ (by omega), Lo2 _ (by omega) (by omega)]; exact y11 j hj⟩
      · rw [iff_f c3]
        refine ⟨_, _, ?_, R1⟩
        unfold fX9_make_318 fX9_make_404
        simp only [nk, jk, N_mul, N_add]
        by_cases c4 : ey = 1
        · simp (disch := omega) only [↓iNlt_t, ↓iNlt_f, ↓iNle_t, ↓iNle_f, ↓iNeq_t, ↓iNeq_f, ↓iJlt_t, ↓iJlt_f, ↓iJle_t, ↓iJle_f, ↓iJeq_t, ↓iJeq_f, ↓iZlt_t, ↓iZlt_f, ↓iZle_t, ↓iZle_f, ↓iZeq_t, ↓iZeq_f, ↓iQlt_t, ↓iQlt_f, ↓iQle_t, ↓iQle_f, ↓iQeq_t, ↓iQeq_f, ↓iAnd_t, ↓iAnd_f, ↓iOr_t, ↓iOr_f, ↓iIff_t, ↓iIff_f, ↓iNot_t, ↓iNot_f, ↓iTrue, ↓iFalse, ↓ckN, ↓ckJ, ↓gIT, ↓gLT, ↓gRT, ↓cvT, ↓pIT, ↓pLT, ↓pZT, ↓asZ, ↓aNT, ↓arL, ↓asL, ↓arI, ↓asI, ↓aR_1, ↓bnd_some, ↓wh_eq, ↓on_some, ↓on_none, asZ, arL, asL, arI, asI, aR_1, bnd_some, wh_eq, on_some, on_none, tnT, tnU, tnL, nk, jk, N_add, N_mul, N_sub, N_neg, J_add, J_mul, J_sub, J_neg, N_J, h0, k1, p1, ↓bq E, ↓bq RO, z1, z2]
          rfl
        · simp (disch := omega) only [↓iNlt_t, ↓iNlt_f, ↓iNle_t, ↓iNle_f, ↓iNeq_t, ↓iNeq_f, ↓iJlt_t, ↓iJlt_f, ↓iJle_t, ↓iJle_f, ↓iJeq_t, ↓iJeq_f, ↓iZlt_t, ↓iZlt_f, ↓iZle_t, ↓iZle_f, ↓iZeq_t, ↓iZeq_f, ↓iQlt_t, ↓iQlt_f, ↓iQle_t, ↓iQle_f, ↓iQeq_t, ↓iQeq_f, ↓iAnd_t, ↓iAnd_f, ↓iOr_t, ↓iOr_f, ↓iIff_t, ↓iIff_f, ↓iNot_t, ↓iNot_f, ↓iTrue, ↓iFalse, ↓ckN, ↓ckJ, ↓gIT, ↓gLT, ↓gRT, ↓cvT, ↓pIT, ↓pLT, ↓pZT, ↓asZ, ↓aNT, ↓arL, ↓asL, ↓arI, ↓asI, ↓aR_1, ↓bnd_some, ↓wh_eq, ↓on_some, ↓on_none, asZ, arL, asL, arI, asI, aR_1, bnd_some, wh_eq, on_some, on_none, tnT, tnU, tnL, nk, jk, N_add, N_mul, N_sub, N_neg, J_add, J_mul, J_sub, J_neg, N_J, h0, k1, p1, ↓bq E, ↓bq RO, z1, z2]
          rfl
  · rw [iff_f (fun z => c1 z.1)]
    refine ⟨i, l, ?_, R'⟩
    unfold fX9_make_318
    simp only [nk]
    simp (disch := omega) only [↓iNlt_t, ↓iNlt_f, ↓iNle_t, ↓iNle_f, ↓iNeq_t, ↓iNeq_f, ↓iJlt_t, ↓iJlt_f, ↓iJle_t, ↓iJle_f, ↓iJeq_t, ↓iJeq_f, ↓iZlt_t, ↓iZlt_f, ↓iZle_t, ↓iZle_f, ↓iZeq_t, ↓iZeq_f, ↓iQlt_t, ↓iQlt_f, ↓iQle_t, ↓iQle_f, ↓iQeq_t, ↓iQeq_f, ↓iAnd_t, ↓iAnd_f, ↓iOr_t, ↓iOr_f, ↓iIff_t, ↓iIff_f, ↓iNot_t, ↓iNot_f, ↓iTrue, ↓iFalse, ↓ckN, ↓ckJ, ↓gIT, ↓gLT, ↓gRT, ↓cvT, ↓pIT, ↓pLT, ↓pZT, ↓asZ, ↓aNT, ↓arL, ↓asL, ↓arI, ↓asI, ↓aR_1, ↓bnd_some, ↓wh_eq, ↓on_some, ↓on_none, asZ, arL, asL, arI, asI, aR_1, bnd_some, wh_eq, on_some, on_none, tnT, tnU, tnL, nk, jk, N_add, N_mul, N_sub, N_neg, J_add, J_mul, J_sub, J_neg, N_J, h0, k1]
end MRS
