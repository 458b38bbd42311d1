/-! ===== making: the class's steps: made by tf.py ===== -/
section SRC
variable {ρ : Type} {i l : Nat → Nat → Int} {x y : Option Nat}
theorem gN13 (b : Nat) (A : Fn ρ) (F : Nat → Fn ρ) : gN (hq i l (some b) y) 13 6 2 A F = F b := by
  rw [gN_q (by simp only [shT]), rr_x]
  rfl
theorem gR13 (b : Nat) (F : Nat → Fn ρ) : gR (hq i l (some b) y) 13 6 2 F = F b := by
  rw [gR_q (by simp only [shT]), rr_x]
  rfl
theorem gN14 (b : Nat) (A : Fn ρ) (F : Nat → Fn ρ) : gN (hq i l x (some b)) 14 6 2 A F = F b := by
  rw [gN_q (by simp only [shT]), rr_y]
  rfl
theorem gR14 (b : Nat) (F : Nat → Fn ρ) : gR (hq i l x (some b)) 14 6 2 F = F b := by
  rw [gR_q (by simp only [shT]), rr_y]
  rfl
end SRC
theorem ckb {ρ : Type} {a : Int} (h : a = 0 ∨ a = 1) (F : Fn ρ) : ck (N a = N 0 ∨ N a = N 1) F = F := by
  unfold ck
  rw [if_pos]
  rcases h with rfl | rfl
  · exact Or.inl rfl
  · exact Or.inr rfl
theorem q_fromX {i l : Nat → Nat → Int} {y : Option Nat} {B : Nat} (hB : St B) (hB2 : 28 ≤ B) {v p : Nat → Int} {e : Int} {k n f : Nat} (hv : ∀ j, j < 8 → l 15 j = v j ∧ ¬ far (v j)) (h0 : i 13 0 = 0) (h1 : i 13 1 = 2) (h3 : i 13 3 = f) (h4 : i 13 4 = 0) (hn : n + 1 < 182) (h8 : i 12 8 = n) (hk : i B 3 = k) (hk2 : k ≤ 60) (he : i B 4 = e) (he2 : 0 ≤ e ∧ e ≤ 1) (hf : f ≤ k) (hp : ∀ j, j < k → l (B + 1) j = p j ∧ ¬ far (p j)) :
    (¬ (f < k ∧ ¬ farX (p f) v) → ∃ l', fX1_takeFrom 12 13 (hq i l (some B) y) = some (N 0, hq i l' (some B) y) ∧ ∀ c, c ≠ 16 → l' c = l c) ∧
    (f < k ∧ ¬ farX (p f) v → (¬ (e = 1 ∧ f + 1 = k) → ∃ l', fX1_takeFrom 12 13 (hq i l (some B) y) = some (N 1, hq (w1 (w1 i 12 8 ((n + 1 : Nat) : Int)) 13 3 ((f + 1 : Nat) : Int)) l' (some B) y) ∧ Kept l l' n 0 (p f) (gdv (tkX (p f) v))) ∧ (e = 1 ∧ f + 1 = k → ∃ l1 l', fX1_takeFrom 12 13 (hq i l (some B) y) = some (N 1, hq (w1 (w1 (w1 (w1 i 12 8 ((n + 1 : Nat) : Int)) 13 3 ((f + 1 : Nat) : Int)) 13 4 1) 12 8 ((n + 1 + 1 : Nat) : Int)) l' (some B) y) ∧ Kept l l1 n 0 (p f) (gdv (tkX (p f) v)) ∧ Kept l1 l' (n + 1) 2 0 (gdv (ouX (gdv (tkX (p f) v)))))) := by
  have sB := hB.1.1
  by_cases c1 : f < k
  · obtain ⟨p1, p2⟩ := hp f c1
    have P := q_partAt (i := i) (l := l) (x := some B) (y := y) hB (k := (f : Int)) (by omega) (by omega)
    rw [if_neg (by omega), (tnT f).1, p1] at P
    obtain ⟨T1, T2⟩ := q_takePartX (i := i) (l := l) (x := some B) (y := y) p2 hv h1 h0 (n := n) (by omega) h8 h3 (by omega)
    by_cases c2 : farX (p f) v
    · refine ⟨fun _ => ?_, fun z => absurd c2 z.2⟩
      obtain ⟨l', E, K⟩ := T1 c2
      refine ⟨l', ?_, K⟩
      unfold fX1_takeFrom
      simp only [nk]
      simp (disch := omega) only [↓iNlt_t, ↓iNlt_f, ↓iNle_t, ↓iNle_f, ↓iNeq_t, ↓iNeq_f, ↓iJlt_t, ↓iJlt_f, ↓iJle_t, ↓iJle_f, ↓iJeq_t, ↓iJeq_f, ↓iZlt_t, ↓iZlt_f, ↓iZle_t, ↓iZle_f, ↓iZeq_t, ↓iZeq_f, ↓iQlt_t, ↓iQlt_f, ↓iQle_t, ↓iQle_f, ↓iQeq_t, ↓iQeq_f, ↓iAnd_t, ↓iAnd_f, ↓iOr_t, ↓iOr_f, ↓iIff_t, ↓iIff_f, ↓iNot_t, ↓iNot_f, ↓iTrue, ↓iFalse, ↓ckN, ↓ckJ, ↓gIT, ↓gLT, ↓gRT, ↓cvT, ↓pIT, ↓pLT, ↓pZT, ↓asZ, ↓aNT, ↓arL, ↓asL, ↓arI, ↓asI, ↓aR_1, ↓bnd_some, ↓wh_eq, ↓on_some, ↓on_none, asZ, arL, asL, arI, asI, aR_1, bnd_some, wh_eq, on_some, on_none, tnT, tnU, tnL, nk, jk, N_add, N_mul, N_sub, N_neg, J_add, J_mul, J_sub, J_neg, N_J, ↓gN13, ↓gR13, h4, h3, ↓gI_q sB, ↓cv_q sB, hk, ↓bq P, ↓bq E]
    · refine ⟨fun z => absurd ⟨c1, c2⟩ z, fun _ => ?_⟩
      obtain ⟨l', E, K⟩ := T2 c2
      have b3 : (w1 (w1 i 12 8 ((n + 1 : Nat) : Int)) 13 3 ((f + 1 : Nat) : Int)) B 3 = k := by rw [w1_na _ _ _ _ (by omega), w1_na _ _ _ _ (by omega)]; exact hk
      have b4 : (w1 (w1 i 12 8 ((n + 1 : Nat) : Int)) 13 3 ((f + 1 : Nat) : Int)) B 4 = e := by rw [w1_na _ _ _ _ (by omega), w1_na _ _ _ _ (by omega)]; exact he
      have a3 : (w1 (w1 i 12 8 ((n + 1 : Nat) : Int)) 13 3 ((f + 1 : Nat) : Int)) 13 3 = ((f + 1 : Nat) : Int) := w1_s _ _ _ _
      have HE : fX6_hasEnded 13 (hq (w1 (w1 i 12 8 ((n + 1 : Nat) : Int)) 13 3 ((f + 1 : Nat) : Int)) l' (some B) y) = some (N (ib (e = 1 ∧ f + 1 = k)), hq (w1 (w1 i 12 8 ((n + 1 : Nat) : Int)) 13 3 ((f + 1 : Nat) : Int)) l' (some B) y) := by
        unfold fX6_hasEnded ib
        simp only [nk]
        by_cases q1 : e = 1
        · by_cases q2 : f + 1 = k
          · simp (disch := omega) only [↓iNlt_t, ↓iNlt_f, ↓iNle_t, ↓iNle_f, ↓iNeq_t, ↓iNeq_f, ↓iJlt_t, ↓iJlt_f, ↓iJle_t, ↓iJle_f, ↓iJeq_t, ↓iJeq_f, ↓iZlt_t, ↓iZlt_f, ↓iZle_t, ↓iZle_f, ↓iZeq_t, ↓iZeq_f, ↓iQlt_t, ↓iQlt_f, ↓iQle_t, ↓iQle_f, ↓iQeq_t, ↓iQeq_f, ↓iAnd_t, ↓iAnd_f, ↓iOr_t, ↓iOr_f, ↓iIff_t, ↓iIff_f, ↓iNot_t, ↓iNot_f, ↓iTrue, ↓iFalse, ↓ckN, ↓ckJ, ↓gIT, ↓gLT, ↓gRT, ↓cvT, ↓pIT, ↓pLT, ↓pZT, ↓asZ, ↓aNT, ↓arL, ↓asL, ↓arI, ↓asI, ↓aR_1, ↓bnd_some, ↓wh_eq, ↓on_some, ↓on_none, asZ, arL, asL, arI, asI, aR_1, bnd_some, wh_eq, on_some, on_none, tnT, tnU, tnL, nk, jk, N_add, N_mul, N_sub, N_neg, J_add, J_mul, J_sub, J_neg, N_J, ↓gN13, ↓gR13, ↓gI_q sB, b3, b4, a3]
          · simp (disch := omega) only [↓iNlt_t, ↓iNlt_f, ↓iNle_t, ↓iNle_f, ↓iNeq_t, ↓iNeq_f, ↓iJlt_t, ↓iJlt_f, ↓iJle_t, ↓iJle_f, ↓iJeq_t, ↓iJeq_f, ↓iZlt_t, ↓iZlt_f, ↓iZle_t, ↓iZle_f, ↓iZeq_t, ↓iZeq_f, ↓iQlt_t, ↓iQlt_f, ↓iQle_t, ↓iQle_f, ↓iQeq_t, ↓iQeq_f, ↓iAnd_t, ↓iAnd_f, ↓iOr_t, ↓iOr_f, ↓iIff_t, ↓iIff_f, ↓iNot_t, ↓iNot_f, ↓iTrue, ↓iFalse, ↓ckN, ↓ckJ, ↓gIT, ↓gLT, ↓gRT, ↓cvT, ↓pIT, ↓pLT, ↓pZT, ↓asZ, ↓aNT, ↓arL, ↓asL, ↓arI, ↓asI, ↓aR_1, ↓bnd_some, ↓wh_eq, ↓on_some, ↓on_none, asZ, arL, asL, arI, asI, aR_1, bnd_some, wh_eq, on_some, on_none, tnT, tnU, tnL, nk, jk, N_add, N_mul, N_sub, N_neg, J_add, J_mul, J_sub, J_neg, N_J, ↓gN13, ↓gR13, ↓gI_q sB, b3, b4, a3]
        · simp (disch := omega) only [↓iNlt_t, ↓iNlt_f, ↓iNle_t, ↓iNle_f, ↓iNeq_t, ↓iNeq_f, ↓iJlt_t, ↓iJlt_f, ↓iJle_t, ↓iJle_f, ↓iJeq_t, ↓iJeq_f, ↓iZlt_t, ↓iZlt_f, ↓iZle_t, ↓iZle_f, ↓iZeq_t, ↓iZeq_f, ↓iQlt_t, ↓iQlt_f, ↓iQle_t, ↓iQle_f, ↓iQeq_t, ↓iQeq_f, ↓iAnd_t, ↓iAnd_f, ↓iOr_t, ↓iOr_f, ↓iIff_t, ↓iIff_f, ↓iNot_t, ↓iNot_f, ↓iTrue, ↓iFalse, ↓ckN, ↓ckJ, ↓gIT, ↓gLT, ↓gRT, ↓cvT, ↓pIT, ↓pLT, ↓pZT, ↓asZ, ↓aNT, ↓arL, ↓asL, ↓arI, ↓asI, ↓aR_1, ↓bnd_some, ↓wh_eq, ↓on_some, ↓on_none, asZ, arL, asL, arI, asI, aR_1, bnd_some, wh_eq, on_some, on_none, tnT, tnU, tnL, nk, jk, N_add, N_mul, N_sub, N_neg, J_add, J_mul, J_sub, J_neg, N_J, ↓gN13, ↓gR13, ↓gI_q sB, b3, b4, a3]
      refine ⟨fun c3 => ⟨l', ?_, K⟩, fun c3 => ?_⟩
      · rw [ibF c3] at HE
        unfold fX1_takeFrom
        simp only [nk]
        simp (disch := omega) only [↓iNlt_t, ↓iNlt_f, ↓iNle_t, ↓iNle_f, ↓iNeq_t, ↓iNeq_f, ↓iJlt_t, ↓iJlt_f, ↓iJle_t, ↓iJle_f, ↓iJeq_t, ↓iJeq_f, ↓iZlt_t, ↓iZlt_f, ↓iZle_t, ↓iZle_f, ↓iZeq_t, ↓iZeq_f, ↓iQlt_t, ↓iQlt_f, ↓iQle_t, ↓iQle_f, ↓iQeq_t, ↓iQeq_f, ↓iAnd_t, ↓iAnd_f, ↓iOr_t, ↓iOr_f, ↓iIff_t, ↓iIff_f, ↓iNot_t, ↓iNot_f, ↓iTrue, ↓iFalse, ↓ckN, ↓ckJ, ↓gIT, ↓gLT, ↓gRT, ↓cvT, ↓pIT, ↓pLT, ↓pZT, ↓asZ, ↓aNT, ↓arL, ↓asL, ↓arI, ↓asI, ↓aR_1, ↓bnd_some, ↓wh_eq, ↓on_some, ↓on_none, asZ, arL, asL, arI, asI, aR_1, bnd_some, wh_eq, on_some, on_none, tnT, tnU, tnL, nk, jk, N_add, N_mul, N_sub, N_neg, J_add, J_mul, J_sub, J_neg, N_J, ↓gN13, ↓gR13, h4, h3, ↓gI_q sB, ↓cv_q sB, hk, ↓bq P, ↓bq E, ↓bq HE]
      · rw [ibT c3] at HE
        obtain ⟨l2, E2, K2⟩ := q_takeEndX (i := (w1 (w1 i 12 8 ((n + 1 : Nat) : Int)) 13 3 ((f + 1 : Nat) : Int))) (l := l') (x := some B) (y := y) (v := gdv (tkX (p f) v)) (fun j hj => ⟨K.1 j hj, tkX_nf p2 (fun j hj => (hv j hj).2) c2 j hj⟩) (by rw [w1_n _ _ (by omega), w1_na _ _ _ _ (by omega)]; exact h1) (by rw [w1_n _ _ (by omega), w1_na _ _ _ _ (by omega)]; exact h0) (n := n + 1) (by omega) (by rw [w1_na _ _ _ _ (by omega), w1_s])
        refine ⟨l', l2, ?_, K, K2⟩
        unfold fX1_takeFrom
        simp only [nk]
        simp (disch := omega) only [↓iNlt_t, ↓iNlt_f, ↓iNle_t, ↓iNle_f, ↓iNeq_t, ↓iNeq_f, ↓iJlt_t, ↓iJlt_f, ↓iJle_t, ↓iJle_f, ↓iJeq_t, ↓iJeq_f, ↓iZlt_t, ↓iZlt_f, ↓iZle_t, ↓iZle_f, ↓iZeq_t, ↓iZeq_f, ↓iQlt_t, ↓iQlt_f, ↓iQle_t, ↓iQle_f, ↓iQeq_t, ↓iQeq_f, ↓iAnd_t, ↓iAnd_f, ↓iOr_t, ↓iOr_f, ↓iIff_t, ↓iIff_f, ↓iNot_t, ↓iNot_f, ↓iTrue, ↓iFalse, ↓ckN, ↓ckJ, ↓gIT, ↓gLT, ↓gRT, ↓cvT, ↓pIT, ↓pLT, ↓pZT, ↓asZ, ↓aNT, ↓arL, ↓asL, ↓arI, ↓asI, ↓aR_1, ↓bnd_some, ↓wh_eq, ↓on_some, ↓on_none, asZ, arL, asL, arI, asI, aR_1, bnd_some, wh_eq, on_some, on_none, tnT, tnU, tnL, nk, jk, N_add, N_mul, N_sub, N_neg, J_add, J_mul, J_sub, J_neg, N_J, ↓gN13, ↓gR13, h4, h3, ↓gI_q sB, ↓cv_q sB, hk, ↓bq P, ↓bq E, ↓bq HE, ↓bq E2]
  · refine ⟨fun _ => ⟨l, ?_, fun _ _ => rfl⟩, fun z => absurd z.1 c1⟩
    unfold fX1_takeFrom
    simp only [nk]
    simp (disch := omega) only [↓iNlt_t, ↓iNlt_f, ↓iNle_t, ↓iNle_f, ↓iNeq_t, ↓iNeq_f, ↓iJlt_t, ↓iJlt_f, ↓iJle_t, ↓iJle_f, ↓iJeq_t, ↓iJeq_f, ↓iZlt_t, ↓iZlt_f, ↓iZle_t, ↓iZle_f, ↓iZeq_t, ↓iZeq_f, ↓iQlt_t, ↓iQlt_f, ↓iQle_t, ↓iQle_f, ↓iQeq_t, ↓iQeq_f, ↓iAnd_t, ↓iAnd_f, ↓iOr_t, ↓iOr_f, ↓iIff_t, ↓iIff_f, ↓iNot_t, ↓iNot_f, ↓iTrue, ↓iFalse, ↓ckN, ↓ckJ, ↓gIT, ↓gLT, ↓gRT, ↓cvT, ↓pIT, ↓pLT, ↓pZT, ↓asZ, ↓aNT, ↓arL, ↓asL, ↓arI, ↓asI, ↓aR_1, ↓bnd_some, ↓wh_eq, ↓on_some, ↓on_none, asZ, arL, asL, arI, asI, aR_1, bnd_some, wh_eq, on_some, on_none, tnT, tnU, tnL, nk, jk, N_add, N_mul, N_sub, N_neg, J_add, J_mul, J_sub, J_neg, N_J, ↓gN13, ↓gR13, h4, h3, ↓gI_q sB, ↓cv_q sB, hk]
theorem q_fromY {i l : Nat → Nat → Int} {x : Option Nat} {B : Nat} (hB : St B) (hB2 : 28 ≤ B) {v p : Nat → Int} {e : Int} {k n f : Nat} (hv : ∀ j, j < 8 → l 15 j = v j ∧ ¬ far (v j)) (h0 : i 14 0 = 1) (h1 : i 14 1 = 1) (h3 : i 14 3 = f) (h4 : i 14 4 = 0) (hn : n + 1 < 182) (h8 : i 12 8 = n) (hk : i B 3 = k) (hk2 : k ≤ 60) (he : i B 4 = e) (he2 : 0 ≤ e ∧ e ≤ 1) (hf : f ≤ k) (hp : ∀ j, j < k → l (B + 1) j = p j ∧ ¬ far (p j)) :
    (¬ (f < k ∧ ¬ farY (p f) v) → ∃ l', fX1_takeFrom 12 14 (hq i l x (some B)) = some (N 0, hq i l' x (some B)) ∧ ∀ c, c ≠ 16 → l' c = l c) ∧
    (f < k ∧ ¬ farY (p f) v → (¬ (e = 1 ∧ f + 1 = k) → ∃ l', fX1_takeFrom 12 14 (hq i l x (some B)) = some (N 1, hq (w1 (w1 i 12 8 ((n + 1 : Nat) : Int)) 14 3 ((f + 1 : Nat) : Int)) l' x (some B)) ∧ Kept l l' n 1 (p f) (gdv (tkY (p f) v))) ∧ (e = 1 ∧ f + 1 = k → ∃ l1 l', fX1_takeFrom 12 14 (hq i l x (some B)) = some (N 1, hq (w1 (w1 (w1 (w1 i 12 8 ((n + 1 : Nat) : Int)) 14 3 ((f + 1 : Nat) : Int)) 14 4 1) 12 8 ((n + 1 + 1 : Nat) : Int)) l' x (some B)) ∧ Kept l l1 n 1 (p f) (gdv (tkY (p f) v)) ∧ Kept l1 l' (n + 1) 3 0 (gdv (ouY (gdv (tkY (p f) v)))))) := by
  have sB := hB.1.1
  by_cases c1 : f < k
  · obtain ⟨p1, p2⟩ := hp f c1
    have P := q_partAt (i := i) (l := l) (x := x) (y := some B) hB (k := (f : Int)) (by omega) (by omega)
    rw [if_neg (by omega), (tnT f).1, p1] at P
    obtain ⟨T1, T2⟩ := q_takePartY (i := i) (l := l) (x := x) (y := some B) p2 hv h1 h0 (n := n) (by omega) h8 h3 (by omega)
    by_cases c2 : farY (p f) v
    · refine ⟨fun _ => ?_, fun z => absurd c2 z.2⟩
      obtain ⟨l', E, K⟩ := T1 c2
      refine ⟨l', ?_, K⟩
      unfold fX1_takeFrom
      simp only [nk]
      simp (disch := omega) only [↓iNlt_t, ↓iNlt_f, ↓iNle_t, ↓iNle_f, ↓iNeq_t, ↓iNeq_f, ↓iJlt_t, ↓iJlt_f, ↓iJle_t, ↓iJle_f, ↓iJeq_t, ↓iJeq_f, ↓iZlt_t, ↓iZlt_f, ↓iZle_t, ↓iZle_f, ↓iZeq_t, ↓iZeq_f, ↓iQlt_t, ↓iQlt_f, ↓iQle_t, ↓iQle_f, ↓iQeq_t, ↓iQeq_f, ↓iAnd_t, ↓iAnd_f, ↓iOr_t, ↓iOr_f, ↓iIff_t, ↓iIff_f, ↓iNot_t, ↓iNot_f, ↓iTrue, ↓iFalse, ↓ckN, ↓ckJ, ↓gIT, ↓gLT, ↓gRT, ↓cvT, ↓pIT, ↓pLT, ↓pZT, ↓asZ, ↓aNT, ↓arL, ↓asL, ↓arI, ↓asI, ↓aR_1, ↓bnd_some, ↓wh_eq, ↓on_some, ↓on_none, asZ, arL, asL, arI, asI, aR_1, bnd_some, wh_eq, on_some, on_none, tnT, tnU, tnL, nk, jk, N_add, N_mul, N_sub, N_neg, J_add, J_mul, J_sub, J_neg, N_J, ↓gN14, ↓gR14, h4, h3, ↓gI_q sB, ↓cv_q sB, hk, ↓bq P, ↓bq E]
    · refine ⟨fun z => absurd ⟨c1, c2⟩ z, fun _ => ?_⟩
      obtain ⟨l', E, K⟩ := T2 c2
      have b3 : (w1 (w1 i 12 8 ((n + 1 : Nat) : Int)) 14 3 ((f + 1 : Nat) : Int)) B 3 = k := by rw [w1_na _ _ _ _ (by omega), w1_na _ _ _ _ (by omega)]; exact hk
      have b4 : (w1 (w1 i 12 8 ((n + 1 : Nat) : Int)) 14 3 ((f + 1 : Nat) : Int)) B 4 = e := by rw [w1_na _ _ _ _ (by omega), w1_na _ _ _ _ (by omega)]; exact he
      have a3 : (w1 (w1 i 12 8 ((n + 1 : Nat) : Int)) 14 3 ((f + 1 : Nat) : Int)) 14 3 = ((f + 1 : Nat) : Int) := w1_s _ _ _ _
      have HE : fX6_hasEnded 14 (hq (w1 (w1 i 12 8 ((n + 1 : Nat) : Int)) 14 3 ((f + 1 : Nat) : Int)) l' x (some B)) = some (N (ib (e = 1 ∧ f + 1 = k)), hq (w1 (w1 i 12 8 ((n + 1 : Nat) : Int)) 14 3 ((f + 1 : Nat) : Int)) l' x (some B)) := by
        unfold fX6_hasEnded ib
        simp only [nk]
        by_cases q1 : e = 1
        · by_cases q2 : f + 1 = k
          · simp (disch := omega) only [↓iNlt_t, ↓iNlt_f, ↓iNle_t, ↓iNle_f, ↓iNeq_t, ↓iNeq_f, ↓iJlt_t, ↓iJlt_f, ↓iJle_t, ↓iJle_f, ↓iJeq_t, ↓iJeq_f, ↓iZlt_t, ↓iZlt_f, ↓iZle_t, ↓iZle_f, ↓iZeq_t, ↓iZeq_f, ↓iQlt_t, ↓iQlt_f, ↓iQle_t, ↓iQle_f, ↓iQeq_t, ↓iQeq_f, ↓iAnd_t, ↓iAnd_f, ↓iOr_t, ↓iOr_f, ↓iIff_t, ↓iIff_f, ↓iNot_t, ↓iNot_f, ↓iTrue, ↓iFalse, ↓ckN, ↓ckJ, ↓gIT, ↓gLT, ↓gRT, ↓cvT, ↓pIT, ↓pLT, ↓pZT, ↓asZ, ↓aNT, ↓arL, ↓asL, ↓arI, ↓asI, ↓aR_1, ↓bnd_some, ↓wh_eq, ↓on_some, ↓on_none, asZ, arL, asL, arI, asI, aR_1, bnd_some, wh_eq, on_some, on_none, tnT, tnU, tnL, nk, jk, N_add, N_mul, N_sub, N_neg, J_add, J_mul, J_sub, J_neg, N_J, ↓gN14, ↓gR14, ↓gI_q sB, b3, b4, a3]
          · simp (disch := omega) only [↓iNlt_t, ↓iNlt_f, ↓iNle_t, ↓iNle_f, ↓iNeq_t, ↓iNeq_f, ↓iJlt_t, ↓iJlt_f, ↓iJle_t, ↓iJle_f, ↓iJeq_t, ↓iJeq_f, ↓iZlt_t, ↓iZlt_f, ↓iZle_t, ↓iZle_f, ↓iZeq_t, ↓iZeq_f, ↓iQlt_t, ↓iQlt_f, ↓iQle_t, ↓iQle_f, ↓iQeq_t, ↓iQeq_f, ↓iAnd_t, ↓iAnd_f, ↓iOr_t, ↓iOr_f, ↓iIff_t, ↓iIff_f, ↓iNot_t, ↓iNot_f, ↓iTrue, ↓iFalse, ↓ckN, ↓ckJ, ↓gIT, ↓gLT, ↓gRT, ↓cvT, ↓pIT, ↓pLT, ↓pZT, ↓asZ, ↓aNT, ↓arL, ↓asL, ↓arI, ↓asI, ↓aR_1, ↓bnd_some, ↓wh_eq, ↓on_some, ↓on_none, asZ, arL, asL, arI, asI, aR_1, bnd_some, wh_eq, on_some, on_none, tnT, tnU, tnL, nk, jk, N_add, N_mul, N_sub, N_neg, J_add, J_mul, J_sub, J_neg, N_J, ↓gN14, ↓gR14, ↓gI_q sB, b3, b4, a3]
        · simp (disch := omega) only [↓iNlt_t, ↓iNlt_f, ↓iNle_t, ↓iNle_f, ↓iNeq_t, ↓iNeq_f, ↓iJlt_t, ↓iJlt_f, ↓iJle_t, ↓iJle_f, ↓iJeq_t, ↓iJeq_f, ↓iZlt_t, ↓iZlt_f, ↓iZle_t, ↓iZle_f, ↓iZeq_t, ↓iZeq_f, ↓iQlt_t, ↓iQlt_f, ↓iQle_t, ↓iQle_f, ↓iQeq_t, ↓iQeq_f, ↓iAnd_t, ↓iAnd_f, ↓iOr_t, ↓iOr_f, ↓iIff_t, ↓iIff_f, ↓iNot_t, ↓iNot_f, ↓iTrue, ↓iFalse, ↓ckN, ↓ckJ, ↓gIT, ↓gLT, ↓gRT, ↓cvT, ↓pIT, ↓pLT, ↓pZT, ↓asZ, ↓aNT, ↓arL, ↓asL, ↓arI, ↓asI, ↓aR_1, ↓bnd_some, ↓wh_eq, ↓on_some, ↓on_none, asZ, arL, asL, arI, asI, aR_1, bnd_some, wh_eq, on_some, on_none, tnT, tnU, tnL, nk, jk, N_add, N_mul, N_sub, N_neg, J_add, J_mul, J_sub, J_neg, N_J, ↓gN14, ↓gR14, ↓gI_q sB, b3, b4, a3]
      refine ⟨fun c3 => ⟨l', ?_, K⟩, fun c3 => ?_⟩
      · rw [ibF c3] at HE
        unfold fX1_takeFrom
        simp only [nk]
        simp (disch := omega) only [↓iNlt_t, ↓iNlt_f, ↓iNle_t, ↓iNle_f, ↓iNeq_t, ↓iNeq_f, ↓iJlt_t, ↓iJlt_f, ↓iJle_t, ↓iJle_f, ↓iJeq_t, ↓iJeq_f, ↓iZlt_t, ↓iZlt_f, ↓iZle_t, ↓iZle_f, ↓iZeq_t, ↓iZeq_f, ↓iQlt_t, ↓iQlt_f, ↓iQle_t, ↓iQle_f, ↓iQeq_t, ↓iQeq_f, ↓iAnd_t, ↓iAnd_f, ↓iOr_t, ↓iOr_f, ↓iIff_t, ↓iIff_f, ↓iNot_t, ↓iNot_f, ↓iTrue, ↓iFalse, ↓ckN, ↓ckJ, ↓gIT, ↓gLT, ↓gRT, ↓cvT, ↓pIT, ↓pLT, ↓pZT, ↓asZ, ↓aNT, ↓arL, ↓asL, ↓arI, ↓asI, ↓aR_1, ↓bnd_some, ↓wh_eq, ↓on_some, ↓on_none, asZ, arL, asL, arI, asI, aR_1, bnd_some, wh_eq, on_some, on_none, tnT, tnU, tnL, nk, jk, N_add, N_mul, N_sub, N_neg, J_add, J_mul, J_sub, J_neg, N_J, ↓gN14, ↓gR14, h4, h3, ↓gI_q sB, ↓cv_q sB, hk, ↓bq P, ↓bq E, ↓bq HE]
      · rw [ibT c3] at HE
        obtain ⟨l2, E2, K2⟩ := q_takeEndY (i := (w1 (w1 i 12 8 ((n + 1 : Nat) : Int)) 14 3 ((f + 1 : Nat) : Int))) (l := l') (x := x) (y := some B) (v := gdv (tkY (p f) v)) (fun j hj => ⟨K.1 j hj, tkY_nf p2 (fun j hj => (hv j hj).2) c2 j hj⟩) (by rw [w1_n _ _ (by omega), w1_na _ _ _ _ (by omega)]; exact h1) (by rw [w1_n _ _ (by omega), w1_na _ _ _ _ (by omega)]; exact h0) (n := n + 1) (by omega) (by rw [w1_na _ _ _ _ (by omega), w1_s])
        refine ⟨l', l2, ?_, K, K2⟩
        unfold fX1_takeFrom
        simp only [nk]
        simp (disch := omega) only [↓iNlt_t, ↓iNlt_f, ↓iNle_t, ↓iNle_f, ↓iNeq_t, ↓iNeq_f, ↓iJlt_t, ↓iJlt_f, ↓iJle_t, ↓iJle_f, ↓iJeq_t, ↓iJeq_f, ↓iZlt_t, ↓iZlt_f, ↓iZle_t, ↓iZle_f, ↓iZeq_t, ↓iZeq_f, ↓iQlt_t, ↓iQlt_f, ↓iQle_t, ↓iQle_f, ↓iQeq_t, ↓iQeq_f, ↓iAnd_t, ↓iAnd_f, ↓iOr_t, ↓iOr_f, ↓iIff_t, ↓iIff_f, ↓iNot_t, ↓iNot_f, ↓iTrue, ↓iFalse, ↓ckN, ↓ckJ, ↓gIT, ↓gLT, ↓gRT, ↓cvT, ↓pIT, ↓pLT, ↓pZT, ↓asZ, ↓aNT, ↓arL, ↓asL, ↓arI, ↓asI, ↓aR_1, ↓bnd_some, ↓wh_eq, ↓on_some, ↓on_none, asZ, arL, asL, arI, asI, aR_1, bnd_some, wh_eq, on_some, on_none, tnT, tnU, tnL, nk, jk, N_add, N_mul, N_sub, N_neg, J_add, J_mul, J_sub, J_neg, N_J, ↓gN14, ↓gR14, h4, h3, ↓gI_q sB, ↓cv_q sB, hk, ↓bq P, ↓bq E, ↓bq HE, ↓bq E2]
  · refine ⟨fun _ => ⟨l, ?_, fun _ _ => rfl⟩, fun z => absurd z.1 c1⟩
    unfold fX1_takeFrom
    simp only [nk]
    simp (disch := omega) only [↓iNlt_t, ↓iNlt_f, ↓iNle_t, ↓iNle_f, ↓iNeq_t, ↓iNeq_f, ↓iJlt_t, ↓iJlt_f, ↓iJle_t, ↓iJle_f, ↓iJeq_t, ↓iJeq_f, ↓iZlt_t, ↓iZlt_f, ↓iZle_t, ↓iZle_f, ↓iZeq_t, ↓iZeq_f, ↓iQlt_t, ↓iQlt_f, ↓iQle_t, ↓iQle_f, ↓iQeq_t, ↓iQeq_f, ↓iAnd_t, ↓iAnd_f, ↓iOr_t, ↓iOr_f, ↓iIff_t, ↓iIff_f, ↓iNot_t, ↓iNot_f, ↓iTrue, ↓iFalse, ↓ckN, ↓ckJ, ↓gIT, ↓gLT, ↓gRT, ↓cvT, ↓pIT, ↓pLT, ↓pZT, ↓asZ, ↓aNT, ↓arL, ↓asL, ↓arI, ↓asI, ↓aR_1, ↓bnd_some, ↓wh_eq, ↓on_some, ↓on_none, asZ, arL, asL, arI, asI, aR_1, bnd_some, wh_eq, on_some, on_none, tnT, tnU, tnL, nk, jk, N_add, N_mul, N_sub, N_neg, J_add, J_mul, J_sub, J_neg, N_J, ↓gN14, ↓gR14, h4, h3, ↓gI_q sB, ↓cv_q sB, hk]
