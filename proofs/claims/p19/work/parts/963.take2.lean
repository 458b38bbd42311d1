/-! ===== making: TAKE, OUT and GIVE of the class: made by tk2.py ===== -/
/-- the rows behind a step that was kept -/
def Kept (l l' : Nat → Nat → Int) (n : Nat) (what p : Int) (v : Nat → Int) : Prop := (∀ j, j < 8 → l' 15 j = v j) ∧ (∀ j, j < 10 * (n + 1) → l' 19 j = rlA (l 19) n what p v j) ∧ ∀ c, (c < 15 ∨ 19 < c) → l' c = l c
theorem kept_of {l l1 : Nat → Nat → Int} {n : Nat} {what p : Int} {w v : Nat → Int} (h : ∀ c, c ≠ 16 → l1 c = l c) (hv : ∀ j, j < 8 → gdv w j = v j) : Kept l (wr (wr l1 15 (fl (gdv w) (l1 15) 8)) 19 (rlA (l1 19) n what p (fl (gdv w) (l1 15) 8))) n what p v := by
  refine ⟨fun j hj => ?_, fun j hj => ?_, fun c hc => ?_⟩
  · rw [wr_n _ _ (by omega), wr_s, fl, if_pos hj, hv j hj]
  · rw [wr_s, h 19 (by omega)]
    exact rlA_congr _ _ (fun _ _ => rfl) (fun j hj => by rw [fl, if_pos hj, hv j hj]) j hj
  · rw [wr_n _ _ (by omega), wr_n _ _ (by omega), h c (by omega)]
section UX
variable {ρ : Type} {i l : Nat → Nat → Int} {x y : Option Nat}
theorem q_takePartX {p : Int} {v : Nat → Int} (hp : ¬ far p) (hv : ∀ j, j < 8 → l 15 j = v j ∧ ¬ far (v j)) (hs : i 13 1 = 2) (h0 : i 13 0 = 0) {n f : Nat} (hn : n < 182) (hi : i 12 8 = n) (hf : i 13 3 = f) (hf2 : f ≤ 1000) :
    (farX p v → ∃ l', fX1_takePart 12 13 (J p) (hq i l x y) = some (N 0, hq i l' x y) ∧ ∀ c, c ≠ 16 → l' c = l c) ∧
    (¬ farX p v → ∃ l', fX1_takePart 12 13 (J p) (hq i l x y) = some (N 1, hq (w1 (w1 i 12 8 ((n + 1 : Nat) : Int)) 13 3 ((f + 1 : Nat) : Int)) l' x y) ∧ Kept l l' n 0 p (gdv (tkX p v))) := by
  have L := q_tkLX (i := i) (l := l) (x := x) (y := y) hp hv hs (l 16) 8 0 1000 (by omega) (by omega)
  rw [fl_0, wr_id] at L
  obtain ⟨k1, k2, k3⟩ := wkX_f (p := p) (v := v) hp (fun j hj => (hv j hj).2)
  have w16 : ∀ j, j < 8 → wr l 16 (fl (wkX p v) (l 16) 8) 16 j = wkX p v j := fun j hj => by rw [wr_s, fl, if_pos hj]
  have wo : ∀ c, c ≠ 16 → wr l 16 (fl (wkX p v) (l 16) 8) c = l c := fun c hc => wr_n _ _ hc
  have L : fX1_takePart 12 13 (J p) (hq i l x y) = _ := L
  rw [L]
  unfold fX1_takePart_82
  constructor
  · intro h
    have K := q_keepF (i := i) (l := wr l 16 (fl (wkX p v) (l 16) 8)) (x := x) (y := y) (w := wkX p v) (fun j hj => ⟨w16 j hj, k3 j hj⟩) (k1 h) (N 0) (J p)
    refine ⟨_, ?_, wo⟩
    simp only [nk, N_add]
    simp (disch := omega) only [↓iNlt_t, ↓iNlt_f, ↓iNle_t, ↓iNle_f, ↓iNeq_t, ↓iNeq_f, ↓iJlt_t, ↓iJlt_f, ↓iJle_t, ↓iJle_f, ↓iJeq_t, ↓iJeq_f, ↓iZlt_t, ↓iZlt_f, ↓iZle_t, ↓iZle_f, ↓iZeq_t, ↓iZeq_f, ↓iQlt_t, ↓iQlt_f, ↓iQle_t, ↓iQle_f, ↓iQeq_t, ↓iQeq_f, ↓iAnd_t, ↓iAnd_f, ↓iOr_t, ↓iOr_f, ↓iIff_t, ↓iIff_f, ↓iNot_t, ↓iNot_f, ↓iTrue, ↓iFalse, ↓ckN, ↓ckJ, ↓gIT, ↓gLT, ↓gRT, ↓cvT, ↓pIT, ↓pLT, ↓pZT, ↓asZ, ↓aNT, ↓arL, ↓asL, ↓arI, ↓asI, ↓aR_1, ↓bnd_some, ↓wh_eq, ↓on_some, ↓on_none, asZ, arL, asL, arI, asI, aR_1, bnd_some, wh_eq, on_some, on_none, tnT, tnU, tnL, nk, jk, N_add, N_mul, N_sub, N_neg, J_add, J_mul, J_sub, J_neg, N_J, h0, Int.reduceAdd, bq K]
  · intro h
    have K := q_keepT (i := i) (l := wr l 16 (fl (wkX p v) (l 16) 8)) (x := x) (y := y) hn hi (w := wkX p v) (fun j hj => ⟨w16 j hj, by rw [(k2 h j hj).1]; exact (k2 h j hj).2⟩) (st := 0) (by omega) p
    refine ⟨_, ?_, kept_of wo (fun j hj => gdv_congr (fun j hj => (k2 h j hj).1) hj)⟩
    simp only [nk, N_add]
    simp (disch := omega) only [↓iNlt_t, ↓iNlt_f, ↓iNle_t, ↓iNle_f, ↓iNeq_t, ↓iNeq_f, ↓iJlt_t, ↓iJlt_f, ↓iJle_t, ↓iJle_f, ↓iJeq_t, ↓iJeq_f, ↓iZlt_t, ↓iZlt_f, ↓iZle_t, ↓iZle_f, ↓iZeq_t, ↓iZeq_f, ↓iQlt_t, ↓iQlt_f, ↓iQle_t, ↓iQle_f, ↓iQeq_t, ↓iQeq_f, ↓iAnd_t, ↓iAnd_f, ↓iOr_t, ↓iOr_f, ↓iIff_t, ↓iIff_f, ↓iNot_t, ↓iNot_f, ↓iTrue, ↓iFalse, ↓ckN, ↓ckJ, ↓gIT, ↓gLT, ↓gRT, ↓cvT, ↓pIT, ↓pLT, ↓pZT, ↓asZ, ↓aNT, ↓arL, ↓asL, ↓arI, ↓asI, ↓aR_1, ↓bnd_some, ↓wh_eq, ↓on_some, ↓on_none, asZ, arL, asL, arI, asI, aR_1, bnd_some, wh_eq, on_some, on_none, tnT, tnU, tnL, nk, jk, N_add, N_mul, N_sub, N_neg, J_add, J_mul, J_sub, J_neg, N_J, h0, Int.reduceAdd, bq K, w1_r, hf]
    rfl
theorem q_enLX {v : Nat → Int} (hv : ∀ j, j < 8 → l 15 j = v j ∧ ¬ far (v j)) (hs : i 13 1 = 2) (g : Nat → Int) : ∀ (m k q : Nat), k + m = 8 → m + 1 ≤ q → fX1_takeEnd_2L q 12 13 (N k) (hq i (wr l 16 (fl (ouX v) g k)) x y) = fX1_takeEnd_42 12 13 (hq i (wr l 16 (fl (ouX v) g 8)) x y) := by
  intro m
  induction m with
  | zero =>
    intro k q hk hq'
    obtain ⟨z, rfl⟩ : ∃ z, q = z + 1 := ⟨q - 1, by omega⟩
    obtain rfl : k = 8 := by omega
    show fX1_takeEnd_2 (fX1_takeEnd_2L z) 12 13 _ _ = _
    unfold fX1_takeEnd_2
    simp only [nk, jk, N_add, N_mul, N_sub, N_neg, J_add, J_mul, J_sub, J_neg]
    simp (disch := omega) only [↓iNlt_t, ↓iNlt_f, ↓iNle_t, ↓iNle_f, ↓iNeq_t, ↓iNeq_f, ↓iJlt_t, ↓iJlt_f, ↓iJle_t, ↓iJle_f, ↓iJeq_t, ↓iJeq_f, ↓iZlt_t, ↓iZlt_f, ↓iZle_t, ↓iZle_f, ↓iZeq_t, ↓iZeq_f, ↓iQlt_t, ↓iQlt_f, ↓iQle_t, ↓iQle_f, ↓iQeq_t, ↓iQeq_f, ↓iAnd_t, ↓iAnd_f, ↓iOr_t, ↓iOr_f, ↓iIff_t, ↓iIff_f, ↓iNot_t, ↓iNot_f, ↓iTrue, ↓iFalse, ↓ckN, ↓ckJ, ↓gIT, ↓gLT, ↓gRT, ↓cvT, ↓pIT, ↓pLT, ↓pZT, ↓asZ, ↓aNT, ↓arL, ↓asL, ↓arI, ↓asI, ↓aR_1, ↓bnd_some, ↓wh_eq, ↓on_some, ↓on_none, asZ, arL, asL, arI, asI, aR_1, bnd_some, wh_eq, on_some, on_none, tnT, tnU, tnL, nk, jk, N_add, N_mul, N_sub, N_neg, J_add, J_mul, J_sub, J_neg, N_J]
  | succ m ih =>
    intro k q hk hq'
    obtain ⟨z, rfl⟩ : ∃ z, q = z + 1 := ⟨q - 1, by omega⟩
    have ih := ih (k + 1) z (by omega) (by omega)
    have e := w1_fl l 16 k (ouX v) g
    have e15 : ∀ k' j, j < 8 → wr l 16 (fl (ouX v) g k') 15 j = v j := fun k' j hj => by rw [wr_n _ _ (by omega)]; exact (hv j hj).1
    have gg := v8_g (0) (0) (v 0) (v 1) (0) (0) (v 4) (v 5)
    show fX1_takeEnd_2 (fX1_takeEnd_2L z) 12 13 _ _ = _
    unfold fX1_takeEnd_2
    rw [← ih, ← e]
    rcases (by omega : k = 0 ∨ k = 1 ∨ k = 2 ∨ k = 3 ∨ k = 4 ∨ k = 5 ∨ k = 6 ∨ k = 7) with rfl | rfl | rfl | rfl | rfl | rfl | rfl | rfl
    · have ew : ouX v 0 = 0 := gg.1
      rw [ew]
      simp only [nk, jk, N_add, ctT]
      simp (disch := omega) only [↓iNlt_t, ↓iNlt_f, ↓iNle_t, ↓iNle_f, ↓iNeq_t, ↓iNeq_f, ↓iJlt_t, ↓iJlt_f, ↓iJle_t, ↓iJle_f, ↓iJeq_t, ↓iJeq_f, ↓iZlt_t, ↓iZlt_f, ↓iZle_t, ↓iZle_f, ↓iZeq_t, ↓iZeq_f, ↓iQlt_t, ↓iQlt_f, ↓iQle_t, ↓iQle_f, ↓iQeq_t, ↓iQeq_f, ↓iAnd_t, ↓iAnd_f, ↓iOr_t, ↓iOr_f, ↓iIff_t, ↓iIff_f, ↓iNot_t, ↓iNot_f, ↓iTrue, ↓iFalse, ↓ckN, ↓ckJ, ↓gIT, ↓gLT, ↓gRT, ↓cvT, ↓pIT, ↓pLT, ↓pZT, ↓asZ, ↓aNT, ↓arL, ↓asL, ↓arI, ↓asI, ↓aR_1, ↓bnd_some, ↓wh_eq, ↓on_some, ↓on_none, asZ, arL, asL, arI, asI, aR_1, bnd_some, wh_eq, on_some, on_none, tnT, tnU, tnL, nk, jk, N_add, N_mul, N_sub, N_neg, J_add, J_mul, J_sub, J_neg, N_J, hs, xrT]
      rfl
    · have ew : ouX v 1 = 0 := gg.2.1
      rw [ew]
      simp only [nk, jk, N_add, ctT]
      simp (disch := omega) only [↓iNlt_t, ↓iNlt_f, ↓iNle_t, ↓iNle_f, ↓iNeq_t, ↓iNeq_f, ↓iJlt_t, ↓iJlt_f, ↓iJle_t, ↓iJle_f, ↓iJeq_t, ↓iJeq_f, ↓iZlt_t, ↓iZlt_f, ↓iZle_t, ↓iZle_f, ↓iZeq_t, ↓iZeq_f, ↓iQlt_t, ↓iQlt_f, ↓iQle_t, ↓iQle_f, ↓iQeq_t, ↓iQeq_f, ↓iAnd_t, ↓iAnd_f, ↓iOr_t, ↓iOr_f, ↓iIff_t, ↓iIff_f, ↓iNot_t, ↓iNot_f, ↓iTrue, ↓iFalse, ↓ckN, ↓ckJ, ↓gIT, ↓gLT, ↓gRT, ↓cvT, ↓pIT, ↓pLT, ↓pZT, ↓asZ, ↓aNT, ↓arL, ↓asL, ↓arI, ↓asI, ↓aR_1, ↓bnd_some, ↓wh_eq, ↓on_some, ↓on_none, asZ, arL, asL, arI, asI, aR_1, bnd_some, wh_eq, on_some, on_none, tnT, tnU, tnL, nk, jk, N_add, N_mul, N_sub, N_neg, J_add, J_mul, J_sub, J_neg, N_J, hs, xrT]
      rfl
    · have ew : ouX v 2 = v 0 := gg.2.2.1
      rw [ew]
      have E1 := e15 2 0 (by omega)
      simp only [nk, jk, N_add, ctT]
      simp (disch := omega) only [↓iNlt_t, ↓iNlt_f, ↓iNle_t, ↓iNle_f, ↓iNeq_t, ↓iNeq_f, ↓iJlt_t, ↓iJlt_f, ↓iJle_t, ↓iJle_f, ↓iJeq_t, ↓iJeq_f, ↓iZlt_t, ↓iZlt_f, ↓iZle_t, ↓iZle_f, ↓iZeq_t, ↓iZeq_f, ↓iQlt_t, ↓iQlt_f, ↓iQle_t, ↓iQle_f, ↓iQeq_t, ↓iQeq_f, ↓iAnd_t, ↓iAnd_f, ↓iOr_t, ↓iOr_f, ↓iIff_t, ↓iIff_f, ↓iNot_t, ↓iNot_f, ↓iTrue, ↓iFalse, ↓ckN, ↓ckJ, ↓gIT, ↓gLT, ↓gRT, ↓cvT, ↓pIT, ↓pLT, ↓pZT, ↓asZ, ↓aNT, ↓arL, ↓asL, ↓arI, ↓asI, ↓aR_1, ↓bnd_some, ↓wh_eq, ↓on_some, ↓on_none, asZ, arL, asL, arI, asI, aR_1, bnd_some, wh_eq, on_some, on_none, tnT, tnU, tnL, nk, jk, N_add, N_mul, N_sub, N_neg, J_add, J_mul, J_sub, J_neg, N_J, hs, xrT, E1]
      rfl
    · have ew : ouX v 3 = v 1 := gg.2.2.2.1
      rw [ew]
      have E1 := e15 3 1 (by omega)
      simp only [nk, jk, N_add, ctT]
      simp (disch := omega) only [↓iNlt_t, ↓iNlt_f, ↓iNle_t, ↓iNle_f, ↓iNeq_t, ↓iNeq_f, ↓iJlt_t, ↓iJlt_f, ↓iJle_t, ↓iJle_f, ↓iJeq_t, ↓iJeq_f, ↓iZlt_t, ↓iZlt_f, ↓iZle_t, ↓iZle_f, ↓iZeq_t, ↓iZeq_f, ↓iQlt_t, ↓iQlt_f, ↓iQle_t, ↓iQle_f, ↓iQeq_t, ↓iQeq_f, ↓iAnd_t, ↓iAnd_f, ↓iOr_t, ↓iOr_f, ↓iIff_t, ↓iIff_f, ↓iNot_t, ↓iNot_f, ↓iTrue, ↓iFalse, ↓ckN, ↓ckJ, ↓gIT, ↓gLT, ↓gRT, ↓cvT, ↓pIT, ↓pLT, ↓pZT, ↓asZ, ↓aNT, ↓arL, ↓asL, ↓arI, ↓asI, ↓aR_1, ↓bnd_some, ↓wh_eq, ↓on_some, ↓on_none, asZ, arL, asL, arI, asI, aR_1, bnd_some, wh_eq, on_some, on_none, tnT, tnU, tnL, nk, jk, N_add, N_mul, N_sub, N_neg, J_add, J_mul, J_sub, J_neg, N_J, hs, xrT, E1]
      rfl
    · have ew : ouX v 4 = 0 := gg.2.2.2.2.1
      rw [ew]
      simp only [nk, jk, N_add, ctT]
      simp (disch := omega) only [↓iNlt_t, ↓iNlt_f, ↓iNle_t, ↓iNle_f, ↓iNeq_t, ↓iNeq_f, ↓iJlt_t, ↓iJlt_f, ↓iJle_t, ↓iJle_f, ↓iJeq_t, ↓iJeq_f, ↓iZlt_t, ↓iZlt_f, ↓iZle_t, ↓iZle_f, ↓iZeq_t, ↓iZeq_f, ↓iQlt_t, ↓iQlt_f, ↓iQle_t, ↓iQle_f, ↓iQeq_t, ↓iQeq_f, ↓iAnd_t, ↓iAnd_f, ↓iOr_t, ↓iOr_f, ↓iIff_t, ↓iIff_f, ↓iNot_t, ↓iNot_f, ↓iTrue, ↓iFalse, ↓ckN, ↓ckJ, ↓gIT, ↓gLT, ↓gRT, ↓cvT, ↓pIT, ↓pLT, ↓pZT, ↓asZ, ↓aNT, ↓arL, ↓asL, ↓arI, ↓asI, ↓aR_1, ↓bnd_some, ↓wh_eq, ↓on_some, ↓on_none, asZ, arL, asL, arI, asI, aR_1, bnd_some, wh_eq, on_some, on_none, tnT, tnU, tnL, nk, jk, N_add, N_mul, N_sub, N_neg, J_add, J_mul, J_sub, J_neg, N_J, hs, xrT]
      rfl
    · have ew : ouX v 5 = 0 := gg.2.2.2.2.2.1
      rw [ew]
      simp only [nk, jk, N_add, ctT]
      simp (disch := omega) only [↓iNlt_t, ↓iNlt_f, ↓iNle_t, ↓iNle_f, ↓iNeq_t, ↓iNeq_f, ↓iJlt_t, ↓iJlt_f, ↓iJle_t, ↓iJle_f, ↓iJeq_t, ↓iJeq_f, ↓iZlt_t, ↓iZlt_f, ↓iZle_t, ↓iZle_f, ↓iZeq_t, ↓iZeq_f, ↓iQlt_t, ↓iQlt_f, ↓iQle_t, ↓iQle_f, ↓iQeq_t, ↓iQeq_f, ↓iAnd_t, ↓iAnd_f, ↓iOr_t, ↓iOr_f, ↓iIff_t, ↓iIff_f, ↓iNot_t, ↓iNot_f, ↓iTrue, ↓iFalse, ↓ckN, ↓ckJ, ↓gIT, ↓gLT, ↓gRT, ↓cvT, ↓pIT, ↓pLT, ↓pZT, ↓asZ, ↓aNT, ↓arL, ↓asL, ↓arI, ↓asI, ↓aR_1, ↓bnd_some, ↓wh_eq, ↓on_some, ↓on_none, asZ, arL, asL, arI, asI, aR_1, bnd_some, wh_eq, on_some, on_none, tnT, tnU, tnL, nk, jk, N_add, N_mul, N_sub, N_neg, J_add, J_mul, J_sub, J_neg, N_J, hs, xrT]
      rfl
    · have ew : ouX v 6 = v 4 := gg.2.2.2.2.2.2.1
      rw [ew]
      have E1 := e15 6 4 (by omega)
      simp only [nk, jk, N_add, ctT]
      simp (disch := omega) only [↓iNlt_t, ↓iNlt_f, ↓iNle_t, ↓iNle_f, ↓iNeq_t, ↓iNeq_f, ↓iJlt_t, ↓iJlt_f, ↓iJle_t, ↓iJle_f, ↓iJeq_t, ↓iJeq_f, ↓iZlt_t, ↓iZlt_f, ↓iZle_t, ↓iZle_f, ↓iZeq_t, ↓iZeq_f, ↓iQlt_t, ↓iQlt_f, ↓iQle_t, ↓iQle_f, ↓iQeq_t, ↓iQeq_f, ↓iAnd_t, ↓iAnd_f, ↓iOr_t, ↓iOr_f, ↓iIff_t, ↓iIff_f, ↓iNot_t, ↓iNot_f, ↓iTrue, ↓iFalse, ↓ckN, ↓ckJ, ↓gIT, ↓gLT, ↓gRT, ↓cvT, ↓pIT, ↓pLT, ↓pZT, ↓asZ, ↓aNT, ↓arL, ↓asL, ↓arI, ↓asI, ↓aR_1, ↓bnd_some, ↓wh_eq, ↓on_some, ↓on_none, asZ, arL, asL, arI, asI, aR_1, bnd_some, wh_eq, on_some, on_none, tnT, tnU, tnL, nk, jk, N_add, N_mul, N_sub, N_neg, J_add, J_mul, J_sub, J_neg, N_J, hs, xrT, E1]
      rfl
    · have ew : ouX v 7 = v 5 := gg.2.2.2.2.2.2.2
      rw [ew]
      have E1 := e15 7 5 (by omega)
      simp only [nk, jk, N_add, ctT]
      simp (disch := omega) only [↓iNlt_t, ↓iNlt_f, ↓iNle_t, ↓iNle_f, ↓iNeq_t, ↓iNeq_f, ↓iJlt_t, ↓iJlt_f, ↓iJle_t, ↓iJle_f, ↓iJeq_t, ↓iJeq_f, ↓iZlt_t, ↓iZlt_f, ↓iZle_t, ↓iZle_f, ↓iZeq_t, ↓iZeq_f, ↓iQlt_t, ↓iQlt_f, ↓iQle_t, ↓iQle_f, ↓iQeq_t, ↓iQeq_f, ↓iAnd_t, ↓iAnd_f, ↓iOr_t, ↓iOr_f, ↓iIff_t, ↓iIff_f, ↓iNot_t, ↓iNot_f, ↓iTrue, ↓iFalse, ↓ckN, ↓ckJ, ↓gIT, ↓gLT, ↓gRT, ↓cvT, ↓pIT, ↓pLT, ↓pZT, ↓asZ, ↓aNT, ↓arL, ↓asL, ↓arI, ↓asI, ↓aR_1, ↓bnd_some, ↓wh_eq, ↓on_some, ↓on_none, asZ, arL, asL, arI, asI, aR_1, bnd_some, wh_eq, on_some, on_none, tnT, tnU, tnL, nk, jk, N_add, N_mul, N_sub, N_neg, J_add, J_mul, J_sub, J_neg, N_J, hs, xrT, E1]
      rfl
theorem q_takeEndX {v : Nat → Int} (hv : ∀ j, j < 8 → l 15 j = v j ∧ ¬ far (v j)) (hs : i 13 1 = 2) (h0 : i 13 0 = 0) {n : Nat} (hn : n < 182) (hi : i 12 8 = n) :
    ∃ l', fX1_takeEnd 12 13 (hq i l x y) = some (N 1, hq (w1 (w1 i 13 4 1) 12 8 ((n + 1 : Nat) : Int)) l' x y) ∧ Kept l l' n 2 0 (gdv (ouX v)) := by
  have L := q_enLX (i := i) (l := l) (x := x) (y := y) hv hs (l 16) 8 0 1000 (by omega) (by omega)
  rw [fl_0, wr_id] at L
  have w16 : ∀ j, j < 8 → wr l 16 (fl (ouX v) (l 16) 8) 16 j = ouX v j := fun j hj => by rw [wr_s, fl, if_pos hj]
  have wo : ∀ c, c ≠ 16 → wr l 16 (fl (ouX v) (l 16) 8) c = l c := fun c hc => wr_n _ _ hc
  have L : fX1_takeEnd 12 13 (hq i l x y) = _ := L
  rw [L]
  have K := q_keepT (i := w1 i 13 4 1) (l := wr l 16 (fl (ouX v) (l 16) 8)) (x := x) (y := y) hn (by rw [w1_na _ _ _ _ (by omega)]; exact hi) (w := ouX v) (fun j hj => ⟨w16 j hj, ouX_f (fun j hj => (hv j hj).2) j hj⟩) (st := 2) (by omega) 0
  refine ⟨_, ?_, kept_of wo (fun j hj => rfl)⟩
  unfold fX1_takeEnd_42
  simp only [nk, jk]
  simp (disch := omega) only [↓iNlt_t, ↓iNlt_f, ↓iNle_t, ↓iNle_f, ↓iNeq_t, ↓iNeq_f, ↓iJlt_t, ↓iJlt_f, ↓iJle_t, ↓iJle_f, ↓iJeq_t, ↓iJeq_f, ↓iZlt_t, ↓iZlt_f, ↓iZle_t, ↓iZle_f, ↓iZeq_t, ↓iZeq_f, ↓iQlt_t, ↓iQlt_f, ↓iQle_t, ↓iQle_f, ↓iQeq_t, ↓iQeq_f, ↓iAnd_t, ↓iAnd_f, ↓iOr_t, ↓iOr_f, ↓iIff_t, ↓iIff_f, ↓iNot_t, ↓iNot_f, ↓iTrue, ↓iFalse, ↓ckN, ↓ckJ, ↓gIT, ↓gLT, ↓gRT, ↓cvT, ↓pIT, ↓pLT, ↓pZT, ↓asZ, ↓aNT, ↓arL, ↓asL, ↓arI, ↓asI, ↓aR_1, ↓bnd_some, ↓wh_eq, ↓on_some, ↓on_none, asZ, arL, asL, arI, asI, aR_1, bnd_some, wh_eq, on_some, on_none, tnT, tnU, tnL, nk, jk, N_add, N_mul, N_sub, N_neg, J_add, J_mul, J_sub, J_neg, N_J, w1_n, h0, Int.reduceAdd, bq K]
  unfold ck
  rw [if_pos (by decide)]
end UX
section UY
variable {ρ : Type} {i l : Nat → Nat → Int} {x y : Option Nat}
theorem q_takePartY {p : Int} {v : Nat → Int} (hp : ¬ far p) (hv : ∀ j, j < 8 → l 15 j = v j ∧ ¬ far (v j)) (hs : i 14 1 = 1) (h0 : i 14 0 = 1) {n f : Nat} (hn : n < 182) (hi : i 12 8 = n) (hf : i 14 3 = f) (hf2 : f ≤ 1000) :
    (farY p v → ∃ l', fX1_takePart 12 14 (J p) (hq i l x y) = some (N 0, hq i l' x y) ∧ ∀ c, c ≠ 16 → l' c = l c) ∧
    (¬ farY p v → ∃ l', fX1_takePart 12 14 (J p) (hq i l x y) = some (N 1, hq (w1 (w1 i 12 8 ((n + 1 : Nat) : Int)) 14 3 ((f + 1 : Nat) : Int)) l' x y) ∧ Kept l l' n 1 p (gdv (tkY p v))) := by
  have L := q_tkLY (i := i) (l := l) (x := x) (y := y) hp hv hs (l 16) 8 0 1000 (by omega) (by omega)
  rw [fl_0, wr_id] at L
  obtain ⟨k1, k2, k3⟩ := wkY_f (p := p) (v := v) hp (fun j hj => (hv j hj).2)
  have w16 : ∀ j, j < 8 → wr l 16 (fl (wkY p v) (l 16) 8) 16 j = wkY p v j := fun j hj => by rw [wr_s, fl, if_pos hj]
  have wo : ∀ c, c ≠ 16 → wr l 16 (fl (wkY p v) (l 16) 8) c = l c := fun c hc => wr_n _ _ hc
  have L : fX1_takePart 12 14 (J p) (hq i l x y) = _ := L
  rw [L]
  unfold fX1_takePart_82
  constructor
  · intro h
    have K := q_keepF (i := i) (l := wr l 16 (fl (wkY p v) (l 16) 8)) (x := x) (y := y) (w := wkY p v) (fun j hj => ⟨w16 j hj, k3 j hj⟩) (k1 h) (N 1) (J p)
    refine ⟨_, ?_, wo⟩
    simp only [nk, N_add]
    simp (disch := omega) only [↓iNlt_t, ↓iNlt_f, ↓iNle_t, ↓iNle_f, ↓iNeq_t, ↓iNeq_f, ↓iJlt_t, ↓iJlt_f, ↓iJle_t, ↓iJle_f, ↓iJeq_t, ↓iJeq_f, ↓iZlt_t, ↓iZlt_f, ↓iZle_t, ↓iZle_f, ↓iZeq_t, ↓iZeq_f, ↓iQlt_t, ↓iQlt_f, ↓iQle_t, ↓iQle_f, ↓iQeq_t, ↓iQeq_f, ↓iAnd_t, ↓iAnd_f, ↓iOr_t, ↓iOr_f, ↓iIff_t, ↓iIff_f, ↓iNot_t, ↓iNot_f, ↓iTrue, ↓iFalse, ↓ckN, ↓ckJ, ↓gIT, ↓gLT, ↓gRT, ↓cvT, ↓pIT, ↓pLT, ↓pZT, ↓asZ, ↓aNT, ↓arL, ↓asL, ↓arI, ↓asI, ↓aR_1, ↓bnd_some, ↓wh_eq, ↓on_some, ↓on_none, asZ, arL, asL, arI, asI, aR_1, bnd_some, wh_eq, on_some, on_none, tnT, tnU, tnL, nk, jk, N_add, N_mul, N_sub, N_neg, J_add, J_mul, J_sub, J_neg, N_J, h0, Int.reduceAdd, bq K]
  · intro h
    have K := q_keepT (i := i) (l := wr l 16 (fl (wkY p v) (l 16) 8)) (x := x) (y := y) hn hi (w := wkY p v) (fun j hj => ⟨w16 j hj, by rw [(k2 h j hj).1]; exact (k2 h j hj).2⟩) (st := 1) (by omega) p
    refine ⟨_, ?_, kept_of wo (fun j hj => gdv_congr (fun j hj => (k2 h j hj).1) hj)⟩
    simp only [nk, N_add]
    simp (disch := omega) only [↓iNlt_t, ↓iNlt_f, ↓iNle_t, ↓iNle_f, ↓iNeq_t, ↓iNeq_f, ↓iJlt_t, ↓iJlt_f, ↓iJle_t, ↓iJle_f, ↓iJeq_t, ↓iJeq_f, ↓iZlt_t, ↓iZlt_f, ↓iZle_t, ↓iZle_f, ↓iZeq_t, ↓iZeq_f, ↓iQlt_t, ↓iQlt_f, ↓iQle_t, ↓iQle_f, ↓iQeq_t, ↓iQeq_f, ↓iAnd_t, ↓iAnd_f, ↓iOr_t, ↓iOr_f, ↓iIff_t, ↓iIff_f, ↓iNot_t, ↓iNot_f, ↓iTrue, ↓iFalse, ↓ckN, ↓ckJ, ↓gIT, ↓gLT, ↓gRT, ↓cvT, ↓pIT, ↓pLT, ↓pZT, ↓asZ, ↓aNT, ↓arL, ↓asL, ↓arI, ↓asI, ↓aR_1, ↓bnd_some, ↓wh_eq, ↓on_some, ↓on_none, asZ, arL, asL, arI, asI, aR_1, bnd_some, wh_eq, on_some, on_none, tnT, tnU, tnL, nk, jk, N_add, N_mul, N_sub, N_neg, J_add, J_mul, J_sub, J_neg, N_J, h0, Int.reduceAdd, bq K, w1_r, hf]
    rfl
theorem q_enLY {v : Nat → Int} (hv : ∀ j, j < 8 → l 15 j = v j ∧ ¬ far (v j)) (hs : i 14 1 = 1) (g : Nat → Int) : ∀ (m k q : Nat), k + m = 8 → m + 1 ≤ q → fX1_takeEnd_2L q 12 14 (N k) (hq i (wr l 16 (fl (ouY v) g k)) x y) = fX1_takeEnd_42 12 14 (hq i (wr l 16 (fl (ouY v) g 8)) x y) := by
  intro m
  induction m with
  | zero =>
    intro k q hk hq'
    obtain ⟨z, rfl⟩ : ∃ z, q = z + 1 := ⟨q - 1, by omega⟩
    obtain rfl : k = 8 := by omega
    show fX1_takeEnd_2 (fX1_takeEnd_2L z) 12 14 _ _ = _
    unfold fX1_takeEnd_2
    simp only [nk, jk, N_add, N_mul, N_sub, N_neg, J_add, J_mul, J_sub, J_neg]
    simp (disch := omega) only [↓iNlt_t, ↓iNlt_f, ↓iNle_t, ↓iNle_f, ↓iNeq_t, ↓iNeq_f, ↓iJlt_t, ↓iJlt_f, ↓iJle_t, ↓iJle_f, ↓iJeq_t, ↓iJeq_f, ↓iZlt_t, ↓iZlt_f, ↓iZle_t, ↓iZle_f, ↓iZeq_t, ↓iZeq_f, ↓iQlt_t, ↓iQlt_f, ↓iQle_t, ↓iQle_f, ↓iQeq_t, ↓iQeq_f, ↓iAnd_t, ↓iAnd_f, ↓iOr_t, ↓iOr_f, ↓iIff_t, ↓iIff_f, ↓iNot_t, ↓iNot_f, ↓iTrue, ↓iFalse, ↓ckN, ↓ckJ, ↓gIT, ↓gLT, ↓gRT, ↓cvT, ↓pIT, ↓pLT, ↓pZT, ↓asZ, ↓aNT, ↓arL, ↓asL, ↓arI, ↓asI, ↓aR_1, ↓bnd_some, ↓wh_eq, ↓on_some, ↓on_none, asZ, arL, asL, arI, asI, aR_1, bnd_some, wh_eq, on_some, on_none, tnT, tnU, tnL, nk, jk, N_add, N_mul, N_sub, N_neg, J_add, J_mul, J_sub, J_neg, N_J]
  | succ m ih =>
    intro k q hk hq'
    obtain ⟨z, rfl⟩ : ∃ z, q = z + 1 := ⟨q - 1, by omega⟩
    have ih := ih (k + 1) z (by omega) (by omega)
    have e := w1_fl l 16 k (ouY v) g
    have e15 : ∀ k' j, j < 8 → wr l 16 (fl (ouY v) g k') 15 j = v j := fun k' j hj => by rw [wr_n _ _ (by omega)]; exact (hv j hj).1
    have gg := v8_g (0) (v 0) (0) (v 2) (0) (v 4) (0) (v 6)
    show fX1_takeEnd_2 (fX1_takeEnd_2L z) 12 14 _ _ = _
    unfold fX1_takeEnd_2
    rw [← ih, ← e]
    rcases (by omega : k = 0 ∨ k = 1 ∨ k = 2 ∨ k = 3 ∨ k = 4 ∨ k = 5 ∨ k = 6 ∨ k = 7) with rfl | rfl | rfl | rfl | rfl | rfl | rfl | rfl
    · have ew : ouY v 0 = 0 := gg.1
      rw [ew]
      simp only [nk, jk, N_add, ctT]
      simp (disch := omega) only [↓iNlt_t, ↓iNlt_f, ↓iNle_t, ↓iNle_f, ↓iNeq_t, ↓iNeq_f, ↓iJlt_t, ↓iJlt_f, ↓iJle_t, ↓iJle_f, ↓iJeq_t, ↓iJeq_f, ↓iZlt_t, ↓iZlt_f, ↓iZle_t, ↓iZle_f, ↓iZeq_t, ↓iZeq_f, ↓iQlt_t, ↓iQlt_f, ↓iQle_t, ↓iQle_f, ↓iQeq_t, ↓iQeq_f, ↓iAnd_t, ↓iAnd_f, ↓iOr_t, ↓iOr_f, ↓iIff_t, ↓iIff_f, ↓iNot_t, ↓iNot_f, ↓iTrue, ↓iFalse, ↓ckN, ↓ckJ, ↓gIT, ↓gLT, ↓gRT, ↓cvT, ↓pIT, ↓pLT, ↓pZT, ↓asZ, ↓aNT, ↓arL, ↓asL, ↓arI, ↓asI, ↓aR_1, ↓bnd_some, ↓wh_eq, ↓on_some, ↓on_none, asZ, arL, asL, arI, asI, aR_1, bnd_some, wh_eq, on_some, on_none, tnT, tnU, tnL, nk, jk, N_add, N_mul, N_sub, N_neg, J_add, J_mul, J_sub, J_neg, N_J, hs, xrT]
      rfl
    · have ew : ouY v 1 = v 0 := gg.2.1
      rw [ew]
      have E1 := e15 1 0 (by omega)
      simp only [nk, jk, N_add, ctT]
      simp (disch := omega) only [↓iNlt_t, ↓iNlt_f, ↓iNle_t, ↓iNle_f, ↓iNeq_t, ↓iNeq_f, ↓iJlt_t, ↓iJlt_f, ↓iJle_t, ↓iJle_f, ↓iJeq_t, ↓iJeq_f, ↓iZlt_t, ↓iZlt_f, ↓iZle_t, ↓iZle_f, ↓iZeq_t, ↓iZeq_f, ↓iQlt_t, ↓iQlt_f, ↓iQle_t, ↓iQle_f, ↓iQeq_t, ↓iQeq_f, ↓iAnd_t, ↓iAnd_f, ↓iOr_t, ↓iOr_f, ↓iIff_t, ↓iIff_f, ↓iNot_t, ↓iNot_f, ↓iTrue, ↓iFalse, ↓ckN, ↓ckJ, ↓gIT, ↓gLT, ↓gRT, ↓cvT, ↓pIT, ↓pLT, ↓pZT, ↓asZ, ↓aNT, ↓arL, ↓asL, ↓arI, ↓asI, ↓aR_1, ↓bnd_some, ↓wh_eq, ↓on_some, ↓on_none, asZ, arL, asL, arI, asI, aR_1, bnd_some, wh_eq, on_some, on_none, tnT, tnU, tnL, nk, jk, N_add, N_mul, N_sub, N_neg, J_add, J_mul, J_sub, J_neg, N_J, hs, xrT, E1]
      rfl
    · have ew : ouY v 2 = 0 := gg.2.2.1
      rw [ew]
      simp only [nk, jk, N_add, ctT]
      simp (disch := omega) only [↓iNlt_t, ↓iNlt_f, ↓iNle_t, ↓iNle_f, ↓iNeq_t, ↓iNeq_f, ↓iJlt_t, ↓iJlt_f, ↓iJle_t, ↓iJle_f, ↓iJeq_t, ↓iJeq_f, ↓iZlt_t, ↓iZlt_f, ↓iZle_t, ↓iZle_f, ↓iZeq_t, ↓iZeq_f, ↓iQlt_t, ↓iQlt_f, ↓iQle_t, ↓iQle_f, ↓iQeq_t, ↓iQeq_f, ↓iAnd_t, ↓iAnd_f, ↓iOr_t, ↓iOr_f, ↓iIff_t, ↓iIff_f, ↓iNot_t, ↓iNot_f, ↓iTrue, ↓iFalse, ↓ckN, ↓ckJ, ↓gIT, ↓gLT, ↓gRT, ↓cvT, ↓pIT, ↓pLT, ↓pZT, ↓asZ, ↓aNT, ↓arL, ↓asL, ↓arI, ↓asI, ↓aR_1, ↓bnd_some, ↓wh_eq, ↓on_some, ↓on_none, asZ, arL, asL, arI, asI, aR_1, bnd_some, wh_eq, on_some, on_none, tnT, tnU, tnL, nk, jk, N_add, N_mul, N_sub, N_neg, J_add, J_mul, J_sub, J_neg, N_J, hs, xrT]
      rfl
    · have ew : ouY v 3 = v 2 := gg.2.2.2.1
      rw [ew]
      have E1 := e15 3 2 (by omega)
      simp only [nk, jk, N_add, ctT]
      simp (disch := omega) only [↓iNlt_t, ↓iNlt_f, ↓iNle_t, ↓iNle_f, ↓iNeq_t, ↓iNeq_f, ↓iJlt_t, ↓iJlt_f, ↓iJle_t, ↓iJle_f, ↓iJeq_t, ↓iJeq_f, ↓iZlt_t, ↓iZlt_f, ↓iZle_t, ↓iZle_f, ↓iZeq_t, ↓iZeq_f, ↓iQlt_t, ↓iQlt_f, ↓iQle_t, ↓iQle_f, ↓iQeq_t, ↓iQeq_f, ↓iAnd_t, ↓iAnd_f, ↓iOr_t, ↓iOr_f, ↓iIff_t, ↓iIff_f, ↓iNot_t, ↓iNot_f, ↓iTrue, ↓iFalse, ↓ckN, ↓ckJ, ↓gIT, ↓gLT, ↓gRT, ↓cvT, ↓pIT, ↓pLT, ↓pZT, ↓asZ, ↓aNT, ↓arL, ↓asL, ↓arI, ↓asI, ↓aR_1, ↓bnd_some, ↓wh_eq, ↓on_some, ↓on_none, asZ, arL, asL, arI, asI, aR_1, bnd_some, wh_eq, on_some, on_none, tnT, tnU, tnL, nk, jk, N_add, N_mul, N_sub, N_neg, J_add, J_mul, J_sub, J_neg, N_J, hs, xrT, E1]
      rfl
    · have ew : ouY v 4 = 0 := gg.2.2.2.2.1
      rw [ew]
      simp only [nk, jk, N_add, ctT]
      simp (disch := omega) only [↓iNlt_t, ↓iNlt_f, ↓iNle_t, ↓iNle_f, ↓iNeq_t, ↓iNeq_f, ↓iJlt_t, ↓iJlt_f, ↓iJle_t, ↓iJle_f, ↓iJeq_t, ↓iJeq_f, ↓iZlt_t, ↓iZlt_f, ↓iZle_t, ↓iZle_f, ↓iZeq_t, ↓iZeq_f, ↓iQlt_t, ↓iQlt_f, ↓iQle_t, ↓iQle_f, ↓iQeq_t, ↓iQeq_f, ↓iAnd_t, ↓iAnd_f, ↓iOr_t, ↓iOr_f, ↓iIff_t, ↓iIff_f, ↓iNot_t, ↓iNot_f, ↓iTrue, ↓iFalse, ↓ckN, ↓ckJ, ↓gIT, ↓gLT, ↓gRT, ↓cvT, ↓pIT, ↓pLT, ↓pZT, ↓asZ, ↓aNT, ↓arL, ↓asL, ↓arI, ↓asI, ↓aR_1, ↓bnd_some, ↓wh_eq, ↓on_some, ↓on_none, asZ, arL, asL, arI, asI, aR_1, bnd_some, wh_eq, on_some, on_none, tnT, tnU, tnL, nk, jk, N_add, N_mul, N_sub, N_neg, J_add, J_mul, J_sub, J_neg, N_J, hs, xrT]
      rfl
    · have ew : ouY v 5 = v 4 := gg.2.2.2.2.2.1
      rw [ew]
      have E1 := e15 5 4 (by omega)
      simp only [nk, jk, N_add, ctT]
      simp (disch := omega) only [↓iNlt_t, ↓iNlt_f, ↓iNle_t, ↓iNle_f, ↓iNeq_t, ↓iNeq_f, ↓iJlt_t, ↓iJlt_f, ↓iJle_t, ↓iJle_f, ↓iJeq_t, ↓iJeq_f, ↓iZlt_t, ↓iZlt_f, ↓iZle_t, ↓iZle_f, ↓iZeq_t, ↓iZeq_f, ↓iQlt_t, ↓iQlt_f, ↓iQle_t, ↓iQle_f, ↓iQeq_t, ↓iQeq_f, ↓iAnd_t, ↓iAnd_f, ↓iOr_t, ↓iOr_f, ↓iIff_t, ↓iIff_f, ↓iNot_t, ↓iNot_f, ↓iTrue, ↓iFalse, ↓ckN, ↓ckJ, ↓gIT, ↓gLT, ↓gRT, ↓cvT, ↓pIT, ↓pLT, ↓pZT, ↓asZ, ↓aNT, ↓arL, ↓asL, ↓arI, ↓asI, ↓aR_1, ↓bnd_some, ↓wh_eq, ↓on_some, ↓on_none, asZ, arL, asL, arI, asI, aR_1, bnd_some, wh_eq, on_some, on_none, tnT, tnU, tnL, nk, jk, N_add, N_mul, N_sub, N_neg, J_add, J_mul, J_sub, J_neg, N_J, hs, xrT, E1]
      rfl
    · have ew : ouY v 6 = 0 := gg.2.2.2.2.2.2.1
      rw [ew]
      simp only [nk, jk, N_add, ctT]
      simp (disch := omega) only [↓iNlt_t, ↓iNlt_f, ↓iNle_t, ↓iNle_f, ↓iNeq_t, ↓iNeq_f, ↓iJlt_t, ↓iJlt_f, ↓iJle_t, ↓iJle_f, ↓iJeq_t, ↓iJeq_f, ↓iZlt_t, ↓iZlt_f, ↓iZle_t, ↓iZle_f, ↓iZeq_t, ↓iZeq_f, ↓iQlt_t, ↓iQlt_f, ↓iQle_t, ↓iQle_f, ↓iQeq_t, ↓iQeq_f, ↓iAnd_t, ↓iAnd_f, ↓iOr_t, ↓iOr_f, ↓iIff_t, ↓iIff_f, ↓iNot_t, ↓iNot_f, ↓iTrue, ↓iFalse, ↓ckN, ↓ckJ, ↓gIT, ↓gLT, ↓gRT, ↓cvT, ↓pIT, ↓pLT, ↓pZT, ↓asZ, ↓aNT, ↓arL, ↓asL, ↓arI, ↓asI, ↓aR_1, ↓bnd_some, ↓wh_eq, ↓on_some, ↓on_none, asZ, arL, asL, arI, asI, aR_1, bnd_some, wh_eq, on_some, on_none, tnT, tnU, tnL, nk, jk, N_add, N_mul, N_sub, N_neg, J_add, J_mul, J_sub, J_neg, N_J, hs, xrT]
      rfl
    · have ew : ouY v 7 = v 6 := gg.2.2.2.2.2.2.2
      rw [ew]
      have E1 := e15 7 6 (by omega)
      simp only [nk, jk, N_add, ctT]
      simp (disch := omega) only [↓iNlt_t, ↓iNlt_f, ↓iNle_t, ↓iNle_f, ↓iNeq_t, ↓iNeq_f, ↓iJlt_t, ↓iJlt_f, ↓iJle_t, ↓iJle_f, ↓iJeq_t, ↓iJeq_f, ↓iZlt_t, ↓iZlt_f, ↓iZle_t, ↓iZle_f, ↓iZeq_t, ↓iZeq_f, ↓iQlt_t, ↓iQlt_f, ↓iQle_t, ↓iQle_f, ↓iQeq_t, ↓iQeq_f, ↓iAnd_t, ↓iAnd_f, ↓iOr_t, ↓iOr_f, ↓iIff_t, ↓iIff_f, ↓iNot_t, ↓iNot_f, ↓iTrue, ↓iFalse, ↓ckN, ↓ckJ, ↓gIT, ↓gLT, ↓gRT, ↓cvT, ↓pIT, ↓pLT, ↓pZT, ↓asZ, ↓aNT, ↓arL, ↓asL, ↓arI, ↓asI, ↓aR_1, ↓bnd_some, ↓wh_eq, ↓on_some, ↓on_none, asZ, arL, asL, arI, asI, aR_1, bnd_some, wh_eq, on_some, on_none, tnT, tnU, tnL, nk, jk, N_add, N_mul, N_sub, N_neg, J_add, J_mul, J_sub, J_neg, N_J, hs, xrT, E1]
      rfl
theorem q_takeEndY {v : Nat → Int} (hv : ∀ j, j < 8 → l 15 j = v j ∧ ¬ far (v j)) (hs : i 14 1 = 1) (h0 : i 14 0 = 1) {n : Nat} (hn : n < 182) (hi : i 12 8 = n) :
    ∃ l', fX1_takeEnd 12 14 (hq i l x y) = some (N 1, hq (w1 (w1 i 14 4 1) 12 8 ((n + 1 : Nat) : Int)) l' x y) ∧ Kept l l' n 3 0 (gdv (ouY v)) := by
  have L := q_enLY (i := i) (l := l) (x := x) (y := y) hv hs (l 16) 8 0 1000 (by omega) (by omega)
  rw [fl_0, wr_id] at L
  have w16 : ∀ j, j < 8 → wr l 16 (fl (ouY v) (l 16) 8) 16 j = ouY v j := fun j hj => by rw [wr_s, fl, if_pos hj]
  have wo : ∀ c, c ≠ 16 → wr l 16 (fl (ouY v) (l 16) 8) c = l c := fun c hc => wr_n _ _ hc
  have L : fX1_takeEnd 12 14 (hq i l x y) = _ := L
  rw [L]
  have K := q_keepT (i := w1 i 14 4 1) (l := wr l 16 (fl (ouY v) (l 16) 8)) (x := x) (y := y) hn (by rw [w1_na _ _ _ _ (by omega)]; exact hi) (w := ouY v) (fun j hj => ⟨w16 j hj, ouY_f (fun j hj => (hv j hj).2) j hj⟩) (st := 3) (by omega) 0
  refine ⟨_, ?_, kept_of wo (fun j hj => rfl)⟩
  unfold fX1_takeEnd_42
  simp only [nk, jk]
  simp (disch := omega) only [↓iNlt_t, ↓iNlt_f, ↓iNle_t, ↓iNle_f, ↓iNeq_t, ↓iNeq_f, ↓iJlt_t, ↓iJlt_f, ↓iJle_t, ↓iJle_f, ↓iJeq_t, ↓iJeq_f, ↓iZlt_t, ↓iZlt_f, ↓iZle_t, ↓iZle_f, ↓iZeq_t, ↓iZeq_f, ↓iQlt_t, ↓iQlt_f, ↓iQle_t, ↓iQle_f, ↓iQeq_t, ↓iQeq_f, ↓iAnd_t, ↓iAnd_f, ↓iOr_t, ↓iOr_f, ↓iIff_t, ↓iIff_f, ↓iNot_t, ↓iNot_f, ↓iTrue, ↓iFalse, ↓ckN, ↓ckJ, ↓gIT, ↓gLT, ↓gRT, ↓cvT, ↓pIT, ↓pLT, ↓pZT, ↓asZ, ↓aNT, ↓arL, ↓asL, ↓arI, ↓asI, ↓aR_1, ↓bnd_some, ↓wh_eq, ↓on_some, ↓on_none, asZ, arL, asL, arI, asI, aR_1, bnd_some, wh_eq, on_some, on_none, tnT, tnU, tnL, nk, jk, N_add, N_mul, N_sub, N_neg, J_add, J_mul, J_sub, J_neg, N_J, w1_n, h0, Int.reduceAdd, bq K]
  unfold ck
  rw [if_pos (by decide)]
end UY
