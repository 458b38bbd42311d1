/-! ===== making: both, and what they have in common behind it ===== -/
def m0 (v : Nat → Int) : MS := (v, (0, 0), (0, 0), (0, fun _ => 0), (0, fun _ => 0))
theorem m0_k (v : Nat → Int) : (m0 v).2.2.2.1.1 = 0 ∧ (m0 v).2.2.2.2.1 = 0 := ⟨rfl, rfl⟩
theorem MI_m0 {nx ny : Nat} {ex ey : Int} {v : Nat → Int} (hv : ∀ j, j < 8 → ¬ far (v j)) : MI nx ex ny ey (m0 v) :=
  ⟨hv, ⟨Nat.zero_le _, Nat.zero_le _⟩, Or.inl ⟨rfl, rfl⟩, ⟨fun z => absurd z (show ¬ (0 : Int) = 1 by decide), fun z => absurd z (show ¬ (0 : Int) = 1 by decide)⟩, Nat.zero_le _, rfl, fun j hj => absurd hj (by have := m0_k v; omega), fun z => absurd z (by have := m0_k v; omega)⟩
/-- a stream that is there, as a source -/
def srcP (l : Nat → Nat → Int) (t : Nat) : Nat → Int := fun k => l 113 (60 * t + k)
theorem T_make {i l lc : Nat → Nat → Int} {x y : Option Nat} (r : Rel i l) {s sx sy : Nat} (f2 : lfr (i 109) 40 0 = s) (f3 : s < 40) (f4 : i 109 s = 0) (hx : sx < 40) (hy : sy < 40) (dx : i 109 sx = 1) (dy : i 109 sy = 1) (hne : ¬ (i 112 sx = 1 ∧ i 112 sy = 1)) {v : Nat → Int} (hv : ∀ j, j < 8 → ¬ far (v j)) (h15 : ∀ j, j < 8 → lc 15 j = v j) (hlc : ∀ c, c ≠ 15 → lc c = l c) :
    ∃ (i1 l1 : Nat → Nat → Int) (x1 y1 : Option Nat), bnd (fX1_make 12 (2 * s + 28) (2 * sx + 28) (2 * sy + 28) (hq i lc x y)) (fun _ h110 => cv h110 0 8 (bnd (fX8_place 0 (N s) h110) (fun x112 h111 => some (x112, h111)))) = some (J s, hq i1 l1 x1 y1) ∧ (∀ c, 108 ≤ c → i1 c = i c ∧ l1 c = l c) ∧
      ∀ lr : Nat → Nat → Int, (∀ j, j < 8 → lr 121 j = v j) → (∀ c, c ≠ 121 → lr c = l1 c) → ∃ i2 l2, fX9_make 108 (N sx) (N sy) (hq i1 lr x1 y1) = some (J s, hq i2 l2 x1 y1) ∧ Rel i2 l2 := by
  have hsx : sx ≠ s := fun z => by rw [z] at dx; omega
  have hsy : sy ≠ s := fun z => by rw [z] at dy; omega
  obtain ⟨-, -, X⟩ := r.1 sx hx
  obtain ⟨-, -, Y⟩ := r.1 sy hy
  obtain ⟨-, ⟨xn1, xn2, xn3⟩, ⟨xd1, xd2⟩, -, xp, -⟩ := X dx
  obtain ⟨-, ⟨yn1, yn2, yn3⟩, ⟨yd1, yd2⟩, -, yp, -⟩ := Y dy
  obtain ⟨ra, rb, rc, rd, re, rf, rg⟩ := id r
  obtain ⟨nx, hnx⟩ : ∃ nx : Nat, i 111 sx = nx := ⟨(i 111 sx).toNat, by omega⟩
  obtain ⟨ny, hny⟩ : ∃ ny : Nat, i 111 sy = ny := ⟨(i 111 sy).toNat, by omega⟩
  have st := St_s f3
  have sh : SH (srcP l sx) nx (i 112 sx) (srcP l sy) ny (i 112 sy) := ⟨⟨by omega, by omega⟩, ⟨xd2, yd2, hne⟩, fun j hj => ⟨(xp j (by omega)).2.1, (xp j (by omega)).2.2⟩, fun j hj => ⟨(yp j (by omega)).2.1, (yp j (by omega)).2.2⟩⟩
  have M0 : MI nx (i 112 sx) ny (i 112 sy) (m0 v) := MI_m0 hv
  have me : mea nx ny (m0 v) + 1 ≤ 181 := by unfold mea m0; dsimp only; omega
  -- the class
  have Sx : SrcC (stI i (2 * s + 28) 3 0 0 0) (stL lc (2 * s + 28) 0 0 0 1) sx (srcP l sx) nx (i 112 sx) := ⟨hx, by rw [stI_n _ _ _ _ _ (by omega), xn1]; exact hnx, by rw [stI_n _ _ _ _ _ (by omega)]; exact xd1, fun j hj => by rw [stL_n _ _ _ _ _ (by omega), hlc _ (by omega)]; exact (xp j (by omega)).1⟩
  have Sy : SrcC (stI i (2 * s + 28) 3 0 0 0) (stL lc (2 * s + 28) 0 0 0 1) sy (srcP l sy) ny (i 112 sy) := ⟨hy, by rw [stI_n _ _ _ _ _ (by omega), yn1]; exact hny, by rw [stI_n _ _ _ _ _ (by omega)]; exact yd1, fun j hj => by rw [stL_n _ _ _ _ _ (by omega), hlc _ (by omega)]; exact (yp j (by omega)).1⟩
  have C0 : CR (stI i (2 * s + 28) 3 0 0 0) (stL lc (2 * s + 28) 0 0 0 1) s (m0 v) (w1 (w1 (w1 (w1 (w1 (stI i (2 * s + 28) 3 0 0 0) 13 3 0) 13 4 0) 14 3 0) 14 4 0) 12 8 0) (stL lc (2 * s + 28) 0 0 0 1) := by
    have e13 : stI i (2 * s + 28) 3 0 0 0 13 = i 13 := stI_n _ _ _ _ _ (by omega)
    have e14 : stI i (2 * s + 28) 3 0 0 0 14 = i 14 := stI_n _ _ _ _ _ (by omega)
    refine ⟨fun j hj => by rw [stL_n _ _ _ _ _ (by omega)]; exact h15 j hj, ⟨by simp (disch := omega) only [w1_r, w1_n, w1_s, true_and, and_true]; rfl, by simp (disch := omega) only [w1_r, w1_n, w1_s, true_and, and_true]; rfl, by simp (disch := omega) only [w1_r, w1_n, w1_s, true_and, and_true]; rfl, by simp (disch := omega) only [w1_r, w1_n, w1_s, true_and, and_true]; rfl⟩, ⟨by simp (disch := omega) only [w1_r, w1_n, w1_s, true_and, and_true]; rw [stI_3]; rfl, fun j hj => absurd hj (by have := m0_k v; omega)⟩, ⟨by simp (disch := omega) only [w1_r, w1_n, w1_s, true_and, and_true]; rfl, fun j hj => absurd hj (by have := m0_k v; omega)⟩, ⟨fun c c1 c2 c3 c4 => by simp (disch := omega) only [w1_r, w1_n, w1_s, true_and, and_true], fun j hj => by simp (disch := omega) only [w1_r, w1_n, w1_s, true_and, and_true], by simp (disch := omega) only [w1_r, w1_n, w1_s, true_and, and_true]; rw [e13, e14]; exact rg.2⟩, fun c c1 c2 => rfl⟩
  obtain ⟨iC, lC, EC, RC, MC⟩ := CR_run f3 hsx hsy Sx Sy sh 181 (m0 v) _ _ 0 1000 M0 C0 me (by omega) (by omega)
  generalize hmF : runM (srcP l sx) nx (i 112 sx) (srcP l sy) ny (i 112 sy) 181 (m0 v) = mF at *
  obtain ⟨r1, ⟨r2, r3, r4, r5⟩, ⟨r6, r7⟩, ⟨r8, r9⟩, ⟨r10, r11, r12, r13, r14, r15⟩, r16⟩ := id RC
  obtain ⟨g1, ⟨g2, g3⟩, g4, -, g5, g6, g7, -⟩ := id MC
  have F : fX1_make_58 12 (2 * s + 28) (hq iC lC (some (2 * sx + 28)) (some (2 * sy + 28))) = some ((), hq (w1 iC (2 * s + 28) 5 ((mF.2.1.1 + mF.2.1.2 : Nat) : Int)) lC (some (2 * sx + 28)) (some (2 * sy + 28))) := by
    have s7 := st.1.1
    unfold fX1_make_58
    simp (disch := omega) only [↓iNlt_t, ↓iNlt_f, ↓iNle_t, ↓iNle_f, ↓iNeq_t, ↓iNeq_f, ↓iJlt_t, ↓iJlt_f, ↓iJle_t, ↓iJle_f, ↓iJeq_t, ↓iJeq_f, ↓iZlt_t, ↓iZlt_f, ↓iZle_t, ↓iZle_f, ↓iZeq_t, ↓iZeq_f, ↓iQlt_t, ↓iQlt_f, ↓iQle_t, ↓iQle_f, ↓iQeq_t, ↓iQeq_f, ↓iAnd_t, ↓iAnd_f, ↓iOr_t, ↓iOr_f, ↓iIff_t, ↓iIff_f, ↓iNot_t, ↓iNot_f, ↓iTrue, ↓iFalse, ↓ckN, ↓ckJ, ↓gIT, ↓gLT, ↓gRT, ↓cvT, ↓pIT, ↓pLT, ↓pZT, ↓asZ, ↓aNT, ↓arL, ↓asL, ↓arI, ↓asI, ↓aR_1, ↓bnd_some, ↓wh_eq, ↓on_some, ↓on_none, asZ, arL, asL, arI, asI, aR_1, bnd_some, wh_eq, on_some, on_none, tnT, tnU, tnL, nk, jk, N_add, N_mul, N_sub, N_neg, J_add, J_mul, J_sub, J_neg, N_J, r2, r3, ↓pI_q s7]
    rfl
  have E1 : fX1_make 12 (2 * s + 28) (2 * sx + 28) (2 * sy + 28) (hq i lc x y) = some ((), hq (w1 iC (2 * s + 28) 5 ((mF.2.1.1 + mF.2.1.2 : Nat) : Int)) lC (some (2 * sx + 28)) (some (2 * sy + 28))) := by
    rw [← F, ← EC]
    unfold fX1_make fX6_startWith
    simp only [nk]
    rw [cv_q st.1.1, bq (q_start st 3)]
    simp only [gRT, cvT, pR_x, pR_y, pIT, pZT, bnd_some]
    rfl
  have P : fX8_place 0 (N s) (hq (w1 iC (2 * s + 28) 5 ((mF.2.1.1 + mF.2.1.2 : Nat) : Int)) lC (some (2 * sx + 28)) (some (2 * sy + 28))) = _ := q_place f3
  have ci : ∀ c, c ≠ 12 → c ≠ 13 → c ≠ 14 → c ≠ 2 * s + 28 → w1 (w1 iC (2 * s + 28) 5 ((mF.2.1.1 + mF.2.1.2 : Nat) : Int)) (2 * s + 28) 1 1 c = i c := fun c c1 c2 c3 c4 => by
    rw [w1_r _ _ _ c4, w1_r _ _ _ c4, r10 c c1 c2 c3 c4, stI_n _ _ _ _ _ c4]
  have cl : ∀ c, (c < 15 ∨ 19 < c) → c ≠ 2 * s + 28 → c ≠ 2 * s + 29 → lC c = l c := fun c c1 c2 c3 => by
    rw [r16 c c1 c3, stL_n _ _ _ _ _ c2, hlc c (by omega)]
  refine ⟨_, lC, some (2 * sx + 28), some (2 * sy + 28), by rw [bq E1, cv_q s0T, bq P], fun c hc => ⟨ci c (by omega) (by omega) (by omega) (by omega), cl c (by omega) (by omega) (by omega)⟩, ?_⟩
  intro lr hr1 hr2
  -- the reference
  have i9 := ci 109 (by omega) (by omega) (by omega) (by omega)
  have i8 := ci 108 (by omega) (by omega) (by omega) (by omega)
  have i11 := ci 111 (by omega) (by omega) (by omega) (by omega)
  have i12 := ci 112 (by omega) (by omega) (by omega) (by omega)
  have ia5 : w1 (w1 iC (2 * s + 28) 5 ((mF.2.1.1 + mF.2.1.2 : Nat) : Int)) (2 * s + 28) 1 1 (2 * s + 28) 5 = ((mF.2.1.1 + mF.2.1.2 : Nat) : Int) := by rw [w1_n _ _ (by omega), w1_s]
  have ia1 : w1 (w1 iC (2 * s + 28) 5 ((mF.2.1.1 + mF.2.1.2 : Nat) : Int)) (2 * s + 28) 1 1 (2 * s + 28) 1 = 1 := w1_s _ _ _ _
  have ia : ∀ j, j ≠ 1 → j ≠ 5 → w1 (w1 iC (2 * s + 28) 5 ((mF.2.1.1 + mF.2.1.2 : Nat) : Int)) (2 * s + 28) 1 1 (2 * s + 28) j = iC (2 * s + 28) j := fun j h1 h2 => by rw [w1_n _ _ (by omega), w1_n _ _ (by omega)]
  have ix : ∀ c, c = 12 ∨ c = 13 ∨ c = 14 → w1 (w1 iC (2 * s + 28) 5 ((mF.2.1.1 + mF.2.1.2 : Nat) : Int)) (2 * s + 28) 1 1 c = iC c := fun c h1 => by rw [w1_r _ _ _ (by omega), w1_r _ _ _ (by omega)]
  generalize w1 (w1 iC (2 * s + 28) 5 ((mF.2.1.1 + mF.2.1.2 : Nat) : Int)) (2 * s + 28) 1 1 = i1 at *
  have n1 := q_newStream (i := i1) (l := lr) (x := some (2 * sx + 28)) (y := some (2 * sy + 28)) (by rw [i9]; exact r.m) 3 (s := s) (by rw [i9]; exact f2)
  have l113 : lr 113 = l 113 := by rw [hr2 _ (by omega), cl _ (by omega) (by omega) (by omega)]
  obtain ⟨na, nb, nc', nd, ne', nf⟩ := nsI_at i1 s 3
  have Mx : SrcM (w1 (nsI i1 s 3) 108 22 0) lr sx (srcP l sx) nx (i 112 sx) := ⟨hx, by rw [w1_na _ _ _ _ (by omega), nsI_n _ _ _ (by omega), i11]; exact hnx, by rw [w1_na _ _ _ _ (by omega), nsI_n _ _ _ (by omega), i12], fun j hj => by rw [l113]; rfl⟩
  have My : SrcM (w1 (nsI i1 s 3) 108 22 0) lr sy (srcP l sy) ny (i 112 sy) := ⟨hy, by rw [w1_na _ _ _ _ (by omega), nsI_n _ _ _ (by omega), i11]; exact hny, by rw [w1_na _ _ _ _ (by omega), nsI_n _ _ _ (by omega), i12], fun j hj => by rw [l113]; rfl⟩
  have R0 : MR (w1 (nsI i1 s 3) 108 22 0) lr s (m0 v) (w1 (nsI i1 s 3) 108 22 0) lr := ⟨hr1, ⟨by rw [w1_na _ _ _ _ (by omega), nc']; rfl, fun j hj => absurd hj (by have := m0_k v; omega)⟩, ⟨w1_s _ _ _ _, fun j hj => absurd hj (by have := m0_k v; omega)⟩, ⟨fun _ _ _ => rfl, fun _ _ => rfl, fun _ _ _ _ => rfl, by rw [w1_n _ _ (by omega), nsI_n _ _ _ (by omega), i8]; exact rf⟩, fun _ _ _ => rfl, fun _ _ => rfl⟩
  obtain ⟨iE, lE, EE, RE⟩ := MR_run (x := some (2 * sx + 28)) (y := some (2 * sy + 28)) f3 hsx hsy Mx My sh 181 (m0 v) _ _ 1000 M0 R0 me (by omega)
  rw [hmF] at EE RE
  obtain ⟨y1, ⟨y2, y3⟩, ⟨y4, y5⟩, ⟨y6, y7, y8, y9⟩, y10, y11⟩ := id RE
  refine ⟨w1 iE 114 s ((mF.2.1.1 + mF.2.1.2 : Nat) : Int), lE, ?_, ?_⟩
  · unfold fX9_make
    simp only [nk]
    rw [cv_q s9T, bq n1]
    simp only [pIT]
    have EE' : fX9_make_26L 1000 108 (N sx) (N sy) (N s) (N 0) (N 0) (N 0) (N 0) (N 1) (hq (w1 (nsI i1 s 3) 108 22 0) lr (some (2 * sx + 28)) (some (2 * sy + 28))) = _ := EE
    rw [EE']
    unfold fX9_make_428
    simp only [N_add]
    simp (disch := omega) only [↓iNlt_t, ↓iNlt_f, ↓iNle_t, ↓iNle_f, ↓iNeq_t, ↓iNeq_f, ↓iJlt_t, ↓iJlt_f, ↓iJle_t, ↓iJle_f, ↓iJeq_t, ↓iJeq_f, ↓iZlt_t, ↓iZlt_f, ↓iZle_t, ↓iZle_f, ↓iZeq_t, ↓iZeq_f, ↓iQlt_t, ↓iQlt_f, ↓iQle_t, ↓iQle_f, ↓iQeq_t, ↓iQeq_f, ↓iAnd_t, ↓iAnd_f, ↓iOr_t, ↓iOr_f, ↓iIff_t, ↓iIff_f, ↓iNot_t, ↓iNot_f, ↓iTrue, ↓iFalse, ↓ckN, ↓ckJ, ↓gIT, ↓gLT, ↓gRT, ↓cvT, ↓pIT, ↓pLT, ↓pZT, ↓asZ, ↓aNT, ↓arL, ↓asL, ↓arI, ↓asI, ↓aR_1, ↓bnd_some, ↓wh_eq, ↓on_some, ↓on_none, asZ, arL, asL, arI, asI, aR_1, bnd_some, wh_eq, on_some, on_none, tnT, tnU, tnL, nk, jk, N_add, N_mul, N_sub, N_neg, J_add, J_mul, J_sub, J_neg, N_J]
    rfl
  · have lE' : ∀ c, c ≠ 113 → c < 121 → (c < 15 ∨ 19 < c) → c ≠ 2 * s + 28 → c ≠ 2 * s + 29 → lE c = l c := fun c c1 c2 c3 c4 c5 => by rw [y10 c c1 (by omega), hr2 c (by omega), cl c c3 c4 c5]
    have iE' : ∀ c, c ≠ 12 → c ≠ 13 → c ≠ 14 → c ≠ 2 * s + 28 → c < 108 → w1 iE 114 s ((mF.2.1.1 + mF.2.1.2 : Nat) : Int) c = i c := fun c c1 c2 c3 c4 c5 => by
      rw [w1_r _ _ _ (by omega), y6 c (by omega) (by omega), w1_r _ _ _ (by omega)]
      funext j
      rw [nsI_n _ _ _ (by omega), ci c c1 c2 c3 c4]
    have iEs : ∀ c, c < 108 → iE c = i1 c := fun c c5 => by
      rw [y6 c (by omega) (by omega), w1_r _ _ _ (by omega)]
      funext j
      rw [nsI_n _ _ _ (by omega)]
    have iT : ∀ c t, c = 109 ∨ c = 110 ∨ c = 112 → t ≠ s → w1 iE 114 s ((mF.2.1.1 + mF.2.1.2 : Nat) : Int) c t = i c t := fun c t hc ht => by
      rw [w1_na _ _ _ _ (by omega), y6 c (by omega) (by omega), w1_na _ _ _ _ (by omega), nsI_n _ _ _ (by omega), ci c (by omega) (by omega) (by omega) (by omega)]
    have i18 : ∀ c, c = 118 ∨ c = 119 → w1 iE 114 s ((mF.2.1.1 + mF.2.1.2 : Nat) : Int) c = i c := fun c hc => by
      rw [w1_r _ _ _ (by omega), y6 c (by omega) (by omega), w1_r _ _ _ (by omega)]
      funext j
      rw [nsI_n _ _ _ (by omega), ci c (by omega) (by omega) (by omega) (by omega)]
    have i108 : ∀ j, j ≠ 0 → j ≠ 22 → j ≠ 25 → j ≠ 10 → w1 iE 114 s ((mF.2.1.1 + mF.2.1.2 : Nat) : Int) 108 j = i 108 j := fun j h1 h2 h3 h4 => by
      rw [w1_na _ _ _ _ (by omega), y8 j h1 h2 h3, w1_n _ _ (by omega), nsI_n _ _ _ (by omega), i8]
    refine r.put2 f3 f4 (fun t ht hts => ⟨⟨⟨iE' _ (by omega) (by omega) (by omega) (by omega) (by omega), lE' _ (by omega) (by omega) (by omega) (by omega) (by omega), lE' _ (by omega) (by omega) (by omega) (by omega) (by omega)⟩, ⟨iT _ _ (by omega) hts, ?_, iT _ _ (by omega) hts, ?_⟩, fun k hk => ?_, ⟨?_, ?_, ?_, ?_⟩, fun k hk => ⟨?_, ?_⟩⟩, iT _ _ (by omega) hts⟩) ⟨?_, ?_⟩ ?_ ?_ ?_ (fun j hj => ?_) ⟨⟨?_, ?_, ?_⟩, fun j hj => ?_⟩ ⟨?_, ⟨?_, ?_⟩, ?_, ?_, ?_, ?_⟩
    · rw [w1_na _ _ _ _ (by omega), y7 t hts, w1_na _ _ _ _ (by omega), nsI_n _ _ _ (by omega), i11]
    · rw [w1_n _ _ (by omega), y6 114 (by omega) (by omega), w1_na _ _ _ _ (by omega), nsI_n _ _ _ (by omega), ci 114 (by omega) (by omega) (by omega) (by omega)]
    · rw [y11 _ (by omega), l113]
    · rw [lE' _ (by omega) (by omega) (by omega) (by omega) (by omega)]
    · rw [lE' _ (by omega) (by omega) (by omega) (by omega) (by omega)]
    · rw [lE' _ (by omega) (by omega) (by omega) (by omega) (by omega)]
    · rw [lE' _ (by omega) (by omega) (by omega) (by omega) (by omega)]
    · rw [lE' _ (by omega) (by omega) (by omega) (by omega) (by omega)]
    · rw [lE' _ (by omega) (by omega) (by omega) (by omega) (by omega)]
    · rw [w1_na _ _ _ _ (by omega), y6 109 (by omega) (by omega), w1_na _ _ _ _ (by omega), na]
    · rw [w1_na _ _ _ _ (by omega), iEs _ (by omega), ia1]
    · -- the new stream
      have c2 : iC (2 * s + 28) 2 = 3 := by rw [r11 2 (by omega), stI_2]
      have c4 : iC (2 * s + 28) 4 = 0 := by rw [r11 4 (by omega), stI_4]
      have e0 : w1 iE 114 s ((mF.2.1.1 + mF.2.1.2 : Nat) : Int) 110 s = 3 := by rw [w1_na _ _ _ _ (by omega), y6 110 (by omega) (by omega), w1_na _ _ _ _ (by omega), nb]
      have e2 : w1 iE 114 s ((mF.2.1.1 + mF.2.1.2 : Nat) : Int) 112 s = 0 := by rw [w1_na _ _ _ _ (by omega), y6 112 (by omega) (by omega), w1_na _ _ _ _ (by omega), nd]
      have e1 : w1 iE 114 s ((mF.2.1.1 + mF.2.1.2 : Nat) : Int) 111 s = mF.2.2.2.1.1 := by rw [w1_na _ _ _ _ (by omega)]; exact y2
      have ea : ∀ j, w1 iE 114 s ((mF.2.1.1 + mF.2.1.2 : Nat) : Int) (2 * s + 28) j = i1 (2 * s + 28) j := fun j => by rw [w1_na _ _ _ _ (by omega), iEs _ (by omega)]
      unfold SD
      rw [ea, ea, ea, ea, ia 2 (by omega) (by omega), ia 3 (by omega) (by omega), ia 4 (by omega) (by omega), ia5, c2, c4, r6, e0, e1, e2, w1_s]
      refine ⟨⟨rfl, by omega, by omega⟩, ⟨rfl, by omega, by omega⟩, ⟨rfl, Or.inl rfl⟩, ⟨rfl, by omega, by omega⟩, fun k hk => ?_, ⟨fun z => absurd z (by decide), fun _ => rfl⟩, fun z => absurd z (by decide), fun z => absurd z (by decide)⟩
      have hk' : k < mF.2.2.2.1.1 := by omega
      rw [y3 k hk']
      refine ⟨?_, (g7 k hk').1, (g7 k hk').2⟩
      rw [y10 _ (by omega) (by omega), hr2 _ (by omega)]
      exact r7 k hk'
    · rw [w1_na _ _ _ _ (by omega), y8 10 (by omega) (by omega) (by omega), w1_n _ _ (by omega), nf, i8]
    · have a1 : w1 iE 114 s ((mF.2.1.1 + mF.2.1.2 : Nat) : Int) 0 = i 0 := iE' _ (by omega) (by omega) (by omega) (by omega) (by omega)
      rw [a1, i108 11 (by omega) (by omega) (by omega) (by omega), i18 118 (by omega), i18 119 (by omega), lE' 4 (by omega) (by omega) (by omega) (by omega) (by omega), lE' 5 (by omega) (by omega) (by omega) (by omega) (by omega)]
      exact rc
    · rw [lE' 6 (by omega) (by omega) (by omega) (by omega) (by omega), lE' 120 (by omega) (by omega) (by omega) (by omega) (by omega)]
      exact rd j hj
    · rw [w1_na _ _ _ _ (by omega), iEs _ (by omega), ix 12 (by omega), r8, w1_na _ _ _ _ (by omega)]
      exact y4.symm
    · rw [w1_na _ _ _ _ (by omega), y4]
      omega
    · rw [w1_na _ _ _ _ (by omega), y4]
      omega
    · rw [w1_na _ _ _ _ (by omega), y4] at hj
      rw [y10 19 (by omega) (by omega), hr2 _ (by omega), r9 j (by omega), y5 j (by omega)]
    · rw [w1_na _ _ _ _ (by omega)]
      exact y9
    · rw [iE' 2 (by omega) (by omega) (by omega) (by omega) (by omega)]
    · rw [lE' 2 (by omega) (by omega) (by omega) (by omega) (by omega)]
    · rw [w1_na _ _ _ _ (by omega), iEs _ (by omega), ix 13 (by omega), r12]
      exact rg.2.1.symm
    · rw [w1_na _ _ _ _ (by omega), iEs _ (by omega), ix 13 (by omega), r13]
      exact rg.2.2.1.symm
    · rw [w1_na _ _ _ _ (by omega), iEs _ (by omega), ix 14 (by omega), r14]
      exact rg.2.2.2.1.symm
    · rw [w1_na _ _ _ _ (by omega), iEs _ (by omega), ix 14 (by omega), r15]
      exact rg.2.2.2.2.symm
