/-! ===== act, whole ===== -/
theorem a86_s (n : Nat) : fX9_act_86L (n + 1) = fX9_act_86 (fX9_act_86L n) := rfl
theorem ib_ne {P : Prop} [Decidable P] : (N (ib P) = N 0 ↔ ¬ P) := by
  by_cases h : P
  · rw [ibT h]; exact ⟨fun z => absurd z (by decide), fun z => absurd h z⟩
  · rw [ibF h]; exact ⟨fun _ => h, fun _ => rfl⟩
section CA
variable {i l : Nat → Nat → Int} {x y : Option Nat}
/-- the reference fills the eight for an act -/
theorem r_act86 {how s t : Nat} (hh : how < 4) : ∃ lr : Nat → Nat → Int, (∀ j, j < 8 → lr 121 j = vAct how j) ∧ (∀ c, c ≠ 121 → lr c = l c) ∧ fX9_act_86L 1000 108 (N how) (N s) (N t) (N 0) (hq i l x y) = bnd (fX9_make 108 (N s) (N t) (hq i lr x y)) (fun x h => some (x, h)) := by
  obtain ⟨lz, hz⟩ : ∃ lz, lz = wr l 121 (fl (fun _ => 0) (l 121) 8) := ⟨_, rfl⟩
  have z0 : ∀ j, j < 8 → lz 121 j = 0 := fun j hj => by rw [hz, wr_s, fl, if_pos hj]
  have zo : ∀ c, c ≠ 121 → lz c = l c := fun c hc => by rw [hz, wr_n _ _ hc]
  have E0 : fX9_act_86L 1000 108 (N how) (N s) (N t) (N 0) (hq i l x y) = fX9_act_107 108 (N how) (N s) (N t) (hq i lz x y) := by
    have key : ∀ (m k q : Nat), k + m = 8 → m + 1 ≤ q → fX9_act_86L q 108 (N how) (N s) (N t) (N k) (hq i (wr l 121 (fl (fun _ => 0) (l 121) k)) x y) = fX9_act_107 108 (N how) (N s) (N t) (hq i (wr l 121 (fl (fun _ => 0) (l 121) 8)) x y) := by
      intro m
      induction m with
      | zero =>
        intro k q hk hq'
        obtain ⟨z, rfl⟩ : ∃ z, q = z + 1 := ⟨q - 1, by omega⟩
        obtain rfl : k = 8 := by omega
        rw [a86_s]
        unfold fX9_act_86
        simp only [nk, ctT]
        simp (disch := omega) only [↓iNlt_t, ↓iNlt_f, ↓iNle_t, ↓iNle_f, ↓iNeq_t, ↓iNeq_f, ↓iJlt_t, ↓iJlt_f, ↓iJle_t, ↓iJle_f, ↓iJeq_t, ↓iJeq_f, ↓iZlt_t, ↓iZlt_f, ↓iZle_t, ↓iZle_f, ↓iZeq_t, ↓iZeq_f, ↓iQlt_t, ↓iQlt_f, ↓iQle_t, ↓iQle_f, ↓iQeq_t, ↓iQeq_f, ↓iAnd_t, ↓iAnd_f, ↓iOr_t, ↓iOr_f, ↓iIff_t, ↓iIff_f, ↓iNot_t, ↓iNot_f, ↓iTrue, ↓iFalse, ↓ckN, ↓ckJ, ↓gIT, ↓gLT, ↓gRT, ↓cvT, ↓pIT, ↓pLT, ↓pZT, ↓asZ, ↓aNT, ↓arL, ↓asL, ↓arI, ↓asI, ↓aR_1, ↓bnd_some, ↓wh_eq, ↓on_some, ↓on_none, asZ, arL, asL, arI, asI, aR_1, bnd_some, wh_eq, on_some, on_none, tnT, tnU, tnL, nk, jk, N_add, N_mul, N_sub, N_neg, J_add, J_mul, J_sub, J_neg, N_J]
      | succ m ih =>
        intro k q hk hq'
        obtain ⟨z, rfl⟩ : ∃ z, q = z + 1 := ⟨q - 1, by omega⟩
        have ih := ih (k + 1) z (by omega) (by omega)
        have e := w1_fl l 121 k (fun _ => 0) (l 121)
        rw [a86_s]
        unfold fX9_act_86
        simp only [nk, jk, N_add, N_mul, N_sub, N_neg, J_add, J_mul, J_sub, J_neg]
        simp (disch := omega) only [↓iNlt_t, ↓iNlt_f, ↓iNle_t, ↓iNle_f, ↓iNeq_t, ↓iNeq_f, ↓iJlt_t, ↓iJlt_f, ↓iJle_t, ↓iJle_f, ↓iJeq_t, ↓iJeq_f, ↓iZlt_t, ↓iZlt_f, ↓iZle_t, ↓iZle_f, ↓iZeq_t, ↓iZeq_f, ↓iQlt_t, ↓iQlt_f, ↓iQle_t, ↓iQle_f, ↓iQeq_t, ↓iQeq_f, ↓iAnd_t, ↓iAnd_f, ↓iOr_t, ↓iOr_f, ↓iIff_t, ↓iIff_f, ↓iNot_t, ↓iNot_f, ↓iTrue, ↓iFalse, ↓ckN, ↓ckJ, ↓gIT, ↓gLT, ↓gRT, ↓cvT, ↓pIT, ↓pLT, ↓pZT, ↓asZ, ↓aNT, ↓arL, ↓asL, ↓arI, ↓asI, ↓aR_1, ↓bnd_some, ↓wh_eq, ↓on_some, ↓on_none, asZ, arL, asL, arI, asI, aR_1, bnd_some, wh_eq, on_some, on_none, tnT, tnU, tnL, nk, jk, N_add, N_mul, N_sub, N_neg, J_add, J_mul, J_sub, J_neg, N_J, e]
        exact ih
    have := key 8 0 1000 (by omega) (by omega)
    rw [fl_0, wr_id, ← hz] at this
    exact this
  rw [E0]
  obtain ⟨b0, b1, b2, b3, b4, b5, b6, b7⟩ := all8.mp z0
  rcases (by omega : how = 0 ∨ how = 1 ∨ how = 2 ∨ how = 3) with rfl | rfl | rfl | rfl
  · refine ⟨w1 (w1 (w1 lz 121 1 1) 121 2 1) 121 7 1, ?_, fun c hc => by simp (disch := omega) only [w1_r, w1_n, w1_s, true_and, and_true]; exact zo c hc, ?_⟩
    · rw [all8]
      exact ⟨by simp (disch := omega) only [w1_r, w1_n, w1_s, true_and, and_true]; exact b0, by simp (disch := omega) only [w1_r, w1_n, w1_s, true_and, and_true]; rfl, by simp (disch := omega) only [w1_r, w1_n, w1_s, true_and, and_true]; rfl, by simp (disch := omega) only [w1_r, w1_n, w1_s, true_and, and_true]; exact b3, by simp (disch := omega) only [w1_r, w1_n, w1_s, true_and, and_true]; exact b4, by simp (disch := omega) only [w1_r, w1_n, w1_s, true_and, and_true]; exact b5, by simp (disch := omega) only [w1_r, w1_n, w1_s, true_and, and_true]; exact b6, by simp (disch := omega) only [w1_r, w1_n, w1_s, true_and, and_true]; rfl⟩
    · unfold fX9_act_107
      simp only [nk, jk, ctT]
      simp (disch := omega) only [↓iNlt_t, ↓iNlt_f, ↓iNle_t, ↓iNle_f, ↓iNeq_t, ↓iNeq_f, ↓iJlt_t, ↓iJlt_f, ↓iJle_t, ↓iJle_f, ↓iJeq_t, ↓iJeq_f, ↓iZlt_t, ↓iZlt_f, ↓iZle_t, ↓iZle_f, ↓iZeq_t, ↓iZeq_f, ↓iQlt_t, ↓iQlt_f, ↓iQle_t, ↓iQle_f, ↓iQeq_t, ↓iQeq_f, ↓iAnd_t, ↓iAnd_f, ↓iOr_t, ↓iOr_f, ↓iIff_t, ↓iIff_f, ↓iNot_t, ↓iNot_f, ↓iTrue, ↓iFalse, ↓ckN, ↓ckJ, ↓gIT, ↓gLT, ↓gRT, ↓cvT, ↓pIT, ↓pLT, ↓pZT, ↓asZ, ↓aNT, ↓arL, ↓asL, ↓arI, ↓asI, ↓aR_1, ↓bnd_some, ↓wh_eq, ↓on_some, ↓on_none, asZ, arL, asL, arI, asI, aR_1, bnd_some, wh_eq, on_some, on_none, tnT, tnU, tnL, nk, jk, N_add, N_mul, N_sub, N_neg, J_add, J_mul, J_sub, J_neg, N_J]
  · refine ⟨w1 (w1 (w1 lz 121 1 1) 121 2 (-1)) 121 7 1, ?_, fun c hc => by simp (disch := omega) only [w1_r, w1_n, w1_s, true_and, and_true]; exact zo c hc, ?_⟩
    · rw [all8]
      exact ⟨by simp (disch := omega) only [w1_r, w1_n, w1_s, true_and, and_true]; exact b0, by simp (disch := omega) only [w1_r, w1_n, w1_s, true_and, and_true]; rfl, by simp (disch := omega) only [w1_r, w1_n, w1_s, true_and, and_true]; rfl, by simp (disch := omega) only [w1_r, w1_n, w1_s, true_and, and_true]; exact b3, by simp (disch := omega) only [w1_r, w1_n, w1_s, true_and, and_true]; exact b4, by simp (disch := omega) only [w1_r, w1_n, w1_s, true_and, and_true]; exact b5, by simp (disch := omega) only [w1_r, w1_n, w1_s, true_and, and_true]; exact b6, by simp (disch := omega) only [w1_r, w1_n, w1_s, true_and, and_true]; rfl⟩
    · unfold fX9_act_107
      simp only [nk, jk, ctT, J_neg]
      simp (disch := omega) only [↓iNlt_t, ↓iNlt_f, ↓iNle_t, ↓iNle_f, ↓iNeq_t, ↓iNeq_f, ↓iJlt_t, ↓iJlt_f, ↓iJle_t, ↓iJle_f, ↓iJeq_t, ↓iJeq_f, ↓iZlt_t, ↓iZlt_f, ↓iZle_t, ↓iZle_f, ↓iZeq_t, ↓iZeq_f, ↓iQlt_t, ↓iQlt_f, ↓iQle_t, ↓iQle_f, ↓iQeq_t, ↓iQeq_f, ↓iAnd_t, ↓iAnd_f, ↓iOr_t, ↓iOr_f, ↓iIff_t, ↓iIff_f, ↓iNot_t, ↓iNot_f, ↓iTrue, ↓iFalse, ↓ckN, ↓ckJ, ↓gIT, ↓gLT, ↓gRT, ↓cvT, ↓pIT, ↓pLT, ↓pZT, ↓asZ, ↓aNT, ↓arL, ↓asL, ↓arI, ↓asI, ↓aR_1, ↓bnd_some, ↓wh_eq, ↓on_some, ↓on_none, asZ, arL, asL, arI, asI, aR_1, bnd_some, wh_eq, on_some, on_none, tnT, tnU, tnL, nk, jk, N_add, N_mul, N_sub, N_neg, J_add, J_mul, J_sub, J_neg, N_J]
  · refine ⟨w1 (w1 lz 121 0 1) 121 7 1, ?_, fun c hc => by simp (disch := omega) only [w1_r, w1_n, w1_s, true_and, and_true]; exact zo c hc, ?_⟩
    · rw [all8]
      exact ⟨by simp (disch := omega) only [w1_r, w1_n, w1_s, true_and, and_true]; rfl, by simp (disch := omega) only [w1_r, w1_n, w1_s, true_and, and_true]; exact b1, by simp (disch := omega) only [w1_r, w1_n, w1_s, true_and, and_true]; exact b2, by simp (disch := omega) only [w1_r, w1_n, w1_s, true_and, and_true]; exact b3, by simp (disch := omega) only [w1_r, w1_n, w1_s, true_and, and_true]; exact b4, by simp (disch := omega) only [w1_r, w1_n, w1_s, true_and, and_true]; exact b5, by simp (disch := omega) only [w1_r, w1_n, w1_s, true_and, and_true]; exact b6, by simp (disch := omega) only [w1_r, w1_n, w1_s, true_and, and_true]; rfl⟩
    · unfold fX9_act_107
      simp only [nk, jk, ctT]
      simp (disch := omega) only [↓iNlt_t, ↓iNlt_f, ↓iNle_t, ↓iNle_f, ↓iNeq_t, ↓iNeq_f, ↓iJlt_t, ↓iJlt_f, ↓iJle_t, ↓iJle_f, ↓iJeq_t, ↓iJeq_f, ↓iZlt_t, ↓iZlt_f, ↓iZle_t, ↓iZle_f, ↓iZeq_t, ↓iZeq_f, ↓iQlt_t, ↓iQlt_f, ↓iQle_t, ↓iQle_f, ↓iQeq_t, ↓iQeq_f, ↓iAnd_t, ↓iAnd_f, ↓iOr_t, ↓iOr_f, ↓iIff_t, ↓iIff_f, ↓iNot_t, ↓iNot_f, ↓iTrue, ↓iFalse, ↓ckN, ↓ckJ, ↓gIT, ↓gLT, ↓gRT, ↓cvT, ↓pIT, ↓pLT, ↓pZT, ↓asZ, ↓aNT, ↓arL, ↓asL, ↓arI, ↓asI, ↓aR_1, ↓bnd_some, ↓wh_eq, ↓on_some, ↓on_none, asZ, arL, asL, arI, asI, aR_1, bnd_some, wh_eq, on_some, on_none, tnT, tnU, tnL, nk, jk, N_add, N_mul, N_sub, N_neg, J_add, J_mul, J_sub, J_neg, N_J]
  · refine ⟨w1 (w1 lz 121 1 1) 121 6 1, ?_, fun c hc => by simp (disch := omega) only [w1_r, w1_n, w1_s, true_and, and_true]; exact zo c hc, ?_⟩
    · rw [all8]
      exact ⟨by simp (disch := omega) only [w1_r, w1_n, w1_s, true_and, and_true]; exact b0, by simp (disch := omega) only [w1_r, w1_n, w1_s, true_and, and_true]; rfl, by simp (disch := omega) only [w1_r, w1_n, w1_s, true_and, and_true]; exact b2, by simp (disch := omega) only [w1_r, w1_n, w1_s, true_and, and_true]; exact b3, by simp (disch := omega) only [w1_r, w1_n, w1_s, true_and, and_true]; exact b4, by simp (disch := omega) only [w1_r, w1_n, w1_s, true_and, and_true]; exact b5, by simp (disch := omega) only [w1_r, w1_n, w1_s, true_and, and_true]; rfl, by simp (disch := omega) only [w1_r, w1_n, w1_s, true_and, and_true]; exact b7⟩
    · unfold fX9_act_107
      simp only [nk, jk, ctT]
      simp (disch := omega) only [↓iNlt_t, ↓iNlt_f, ↓iNle_t, ↓iNle_f, ↓iNeq_t, ↓iNeq_f, ↓iJlt_t, ↓iJlt_f, ↓iJle_t, ↓iJle_f, ↓iJeq_t, ↓iJeq_f, ↓iZlt_t, ↓iZlt_f, ↓iZle_t, ↓iZle_f, ↓iZeq_t, ↓iZeq_f, ↓iQlt_t, ↓iQlt_f, ↓iQle_t, ↓iQle_f, ↓iQeq_t, ↓iQeq_f, ↓iAnd_t, ↓iAnd_f, ↓iOr_t, ↓iOr_f, ↓iIff_t, ↓iIff_f, ↓iNot_t, ↓iNot_f, ↓iTrue, ↓iFalse, ↓ckN, ↓ckJ, ↓gIT, ↓gLT, ↓gRT, ↓cvT, ↓pIT, ↓pLT, ↓pZT, ↓asZ, ↓aNT, ↓arL, ↓asL, ↓arI, ↓asI, ↓aR_1, ↓bnd_some, ↓wh_eq, ↓on_some, ↓on_none, asZ, arL, asL, arI, asI, aR_1, bnd_some, wh_eq, on_some, on_none, tnT, tnU, tnL, nk, jk, N_add, N_mul, N_sub, N_neg, J_add, J_mul, J_sub, J_neg, N_J]
end CA
theorem c_act (a b c : Int32) : Agree (fX8_act 0 a b c) (fX9_act 108 a b c) := by
  intro i l x y r
  rcases r.who (x := x) (y := y) b with ⟨f, g⟩ | ⟨s, hs, rfl, h1, sd, f, g⟩
  · rcases r.who (x := x) (y := y) c with ⟨f', g'⟩ | ⟨t, ht, rfl, h1', sd', f', g'⟩
    · refine agree_of (-2000000000000000001) r ?_ ?_
      · unfold fX8_act
        rw [cv_q s0T, f, bnd_some, on_none, cv_q s0T, f', bnd_some, on_none]
      · unfold fX9_act
        rw [cv_q s9T, g, bnd_some, if10]
    · refine agree_of (-2000000000000000001) r ?_ ?_
      · unfold fX8_act
        rw [cv_q s0T, f, bnd_some, on_none, cv_q s0T, f', bnd_some, on_some]
      · unfold fX9_act
        rw [cv_q s9T, g, bnd_some, if10]
  · rcases r.who (x := x) (y := y) c with ⟨f', g'⟩ | ⟨t, ht, rfl, h1', td, f', g'⟩
    · refine agree_of (-2000000000000000001) r ?_ ?_
      · unfold fX8_act
        rw [cv_q s0T, f, bnd_some, on_some, cv_q s0T, f', bnd_some, on_none]
      · unfold fX9_act
        rw [cv_q s9T, g, bnd_some, if_pos rfl, cv_q s9T, g', bnd_some, if10]
    · have ha := N_rng a
      rw [N_of a]
      generalize a.toInt = how at *
      have st := St_s hs
      have st' := St_s ht
      obtain ⟨⟨k1, k2, k3⟩, -, -, -, -, ⟨-, en1⟩, ra, ro⟩ := id sd
      obtain ⟨⟨k1', k2', k3'⟩, -, -, -, -, ⟨-, en2⟩, ra', ro'⟩ := id td
      by_cases cw : 0 ≤ how ∧ how ≤ 3
      · obtain ⟨hw, rfl⟩ : ∃ hw : Nat, how = hw := ⟨how.toNat, by omega⟩
        have hw4 : hw < 4 := by omega
        have Z1 := q_zeroC (i := i) (l := l) (x := x) (y := y) st' (by omega) (fun z => (ra' (by omega)).2.2.1)
        have Z2 : ∀ i1 l1 : Nat → Nat → Int, (∀ c, 108 ≤ c → i1 c = i c ∧ l1 c = l c) → ∀ x1 y1, fX9_isNought 108 (N t) (hq i1 l1 x1 y1) = some (N (ib (i (2 * t + 28) 2 = 0 ∧ l (2 * t + 28) 6 = 0)), hq i1 l1 x1 y1) := fun i1 l1 hc x1 y1 => by
          have e := q_noughtM (i := i1) (l := l1) (x := x1) (y := y1) ht (by rw [(hc 110 (by omega)).1]; omega) (fun z => by rw [(hc 110 (by omega)).1] at z; rw [(hc 115 (by omega)).2, ← (ra' z).1.1]; exact (ra' z).2.2.1)
          rw [(hc 110 (by omega)).1, (hc 115 (by omega)).2] at e
          rw [e, ib_congr (show i 110 t = 0 ∧ l 115 (4 * t) = 0 ↔ i (2 * t + 28) 2 = 0 ∧ l (2 * t + 28) 6 = 0 from ⟨fun z => ⟨by omega, by rw [(ra' z.1).1.1]; exact z.2⟩, fun z => ⟨by omega, by rw [← (ra' (by omega)).1.1]; exact z.2⟩⟩)]
        have NS : ∀ i1 l1 : Nat → Nat → Int, (∀ c, 108 ≤ c → i1 c = i c ∧ l1 c = l c) → ∀ x1 y1, fX9_noStream 108 (N s) (hq i1 l1 x1 y1) = some (0, hq i1 l1 x1 y1) ∧ fX9_noStream 108 (N t) (hq i1 l1 x1 y1) = some (0, hq i1 l1 x1 y1) := fun i1 l1 hc x1 y1 => by
          have e1 := q_noStream (i := i1) (l := l1) (x := x1) (y := y1) (s := (s : Int)) (by rw [(hc 109 (by omega)).1]; exact r.m) (by omega) (by omega)
          have e2 := q_noStream (i := i1) (l := l1) (x := x1) (y := y1) (s := (t : Int)) (by rw [(hc 109 (by omega)).1]; exact r.m) (by omega) (by omega)
          rw [(tnT s).1, (hc 109 (by omega)).1, if_pos (by omega)] at e1
          rw [(tnT t).1, (hc 109 (by omega)).1, if_pos (by omega)] at e2
          exact ⟨e1, e2⟩
        by_cases c3 : hw = 3 ∧ i (2 * t + 28) 2 = 0 ∧ l (2 * t + 28) 6 = 0
        · rw [ibT c3.2] at Z1
          have Z2 := Z2 i l (fun _ _ => ⟨rfl, rfl⟩) x y
          rw [ibT c3.2] at Z2
          refine agree_of (-2000000000000000003) r ?_ ?_
          · unfold fX8_act
            rw [cv_q s0T, f, bnd_some, on_some, cv_q s0T, f', bnd_some, on_some]
            simp only [nk]
            simp (disch := omega) only [↓iNlt_t, ↓iNlt_f, ↓iNle_t, ↓iNle_f, ↓iNeq_t, ↓iNeq_f, ↓iJlt_t, ↓iJlt_f, ↓iJle_t, ↓iJle_f, ↓iJeq_t, ↓iJeq_f, ↓iZlt_t, ↓iZlt_f, ↓iZle_t, ↓iZle_f, ↓iZeq_t, ↓iZeq_f, ↓iQlt_t, ↓iQlt_f, ↓iQle_t, ↓iQle_f, ↓iQeq_t, ↓iQeq_f, ↓iAnd_t, ↓iAnd_f, ↓iOr_t, ↓iOr_f, ↓iIff_t, ↓iIff_f, ↓iNot_t, ↓iNot_f, ↓iTrue, ↓iFalse, ↓ckN, ↓ckJ, ↓gIT, ↓gLT, ↓gRT, ↓cvT, ↓pIT, ↓pLT, ↓pZT, ↓asZ, ↓aNT, ↓arL, ↓asL, ↓arI, ↓asI, ↓aR_1, ↓bnd_some, ↓wh_eq, ↓on_some, ↓on_none, asZ, arL, asL, arI, asI, aR_1, bnd_some, wh_eq, on_some, on_none, tnT, tnU, tnL, nk, jk, N_add, N_mul, N_sub, N_neg, J_add, J_mul, J_sub, J_neg, N_J, ↓cv_q st'.1.1, ↓bq Z1]
          · unfold fX9_act
            rw [cv_q s9T, g, bnd_some, if_pos rfl, cv_q s9T, g', bnd_some, if_pos rfl]
            simp only [nk, jk, N_add, N_mul, N_sub, N_neg, J_add, J_mul, J_sub, J_neg]
            simp (disch := omega) only [↓iNlt_t, ↓iNlt_f, ↓iNle_t, ↓iNle_f, ↓iNeq_t, ↓iNeq_f, ↓iJlt_t, ↓iJlt_f, ↓iJle_t, ↓iJle_f, ↓iJeq_t, ↓iJeq_f, ↓iZlt_t, ↓iZlt_f, ↓iZle_t, ↓iZle_f, ↓iZeq_t, ↓iZeq_f, ↓iQlt_t, ↓iQlt_f, ↓iQle_t, ↓iQle_f, ↓iQeq_t, ↓iQeq_f, ↓iAnd_t, ↓iAnd_f, ↓iOr_t, ↓iOr_f, ↓iIff_t, ↓iIff_f, ↓iNot_t, ↓iNot_f, ↓iTrue, ↓iFalse, ↓ckN, ↓ckJ, ↓gIT, ↓gLT, ↓gRT, ↓cvT, ↓pIT, ↓pLT, ↓pZT, ↓asZ, ↓aNT, ↓arL, ↓asL, ↓arI, ↓asI, ↓aR_1, ↓bnd_some, ↓wh_eq, ↓on_some, ↓on_none, asZ, arL, asL, arI, asI, aR_1, bnd_some, wh_eq, on_some, on_none, tnT, tnU, tnL, nk, jk, N_add, N_mul, N_sub, N_neg, J_add, J_mul, J_sub, J_neg, N_J, ↓b_in, ↓iIb, ↓bq Z2]
        · have C0 : fX8_act 0 (N (hw : Int)) (N s) (N t) (hq i l x y) = fX8_act_58 0 (N (hw : Int)) (2 * s + 28) (2 * t + 28) (hq i l x y) := by
            unfold fX8_act
            rw [cv_q s0T, f, bnd_some, on_some, cv_q s0T, f', bnd_some, on_some]
            simp only [nk]
            by_cases q3 : hw = 3
            · rw [ibF (fun z => c3 ⟨q3, z⟩)] at Z1
              simp (disch := omega) only [↓iNlt_t, ↓iNlt_f, ↓iNle_t, ↓iNle_f, ↓iNeq_t, ↓iNeq_f, ↓iJlt_t, ↓iJlt_f, ↓iJle_t, ↓iJle_f, ↓iJeq_t, ↓iJeq_f, ↓iZlt_t, ↓iZlt_f, ↓iZle_t, ↓iZle_f, ↓iZeq_t, ↓iZeq_f, ↓iQlt_t, ↓iQlt_f, ↓iQle_t, ↓iQle_f, ↓iQeq_t, ↓iQeq_f, ↓iAnd_t, ↓iAnd_f, ↓iOr_t, ↓iOr_f, ↓iIff_t, ↓iIff_f, ↓iNot_t, ↓iNot_f, ↓iTrue, ↓iFalse, ↓ckN, ↓ckJ, ↓gIT, ↓gLT, ↓gRT, ↓cvT, ↓pIT, ↓pLT, ↓pZT, ↓asZ, ↓aNT, ↓arL, ↓asL, ↓arI, ↓asI, ↓aR_1, ↓bnd_some, ↓wh_eq, ↓on_some, ↓on_none, asZ, arL, asL, arI, asI, aR_1, bnd_some, wh_eq, on_some, on_none, tnT, tnU, tnL, nk, jk, N_add, N_mul, N_sub, N_neg, J_add, J_mul, J_sub, J_neg, N_J, ↓cv_q st'.1.1, ↓bq Z1]
            · simp (disch := omega) only [↓iNlt_t, ↓iNlt_f, ↓iNle_t, ↓iNle_f, ↓iNeq_t, ↓iNeq_f, ↓iJlt_t, ↓iJlt_f, ↓iJle_t, ↓iJle_f, ↓iJeq_t, ↓iJeq_f, ↓iZlt_t, ↓iZlt_f, ↓iZle_t, ↓iZle_f, ↓iZeq_t, ↓iZeq_f, ↓iQlt_t, ↓iQlt_f, ↓iQle_t, ↓iQle_f, ↓iQeq_t, ↓iQeq_f, ↓iAnd_t, ↓iAnd_f, ↓iOr_t, ↓iOr_f, ↓iIff_t, ↓iIff_f, ↓iNot_t, ↓iNot_f, ↓iTrue, ↓iFalse, ↓ckN, ↓ckJ, ↓gIT, ↓gLT, ↓gRT, ↓cvT, ↓pIT, ↓pLT, ↓pZT, ↓asZ, ↓aNT, ↓arL, ↓asL, ↓arI, ↓asI, ↓aR_1, ↓bnd_some, ↓wh_eq, ↓on_some, ↓on_none, asZ, arL, asL, arI, asI, aR_1, bnd_some, wh_eq, on_some, on_none, tnT, tnU, tnL, nk, jk, N_add, N_mul, N_sub, N_neg, J_add, J_mul, J_sub, J_neg, N_J]
          have M0 : ∀ i1 l1 : Nat → Nat → Int, (∀ c, 108 ≤ c → i1 c = i c ∧ l1 c = l c) → ∀ x1 y1, fX9_act 108 (N (hw : Int)) (N s) (N t) (hq i1 l1 x1 y1) = fX9_act_53 108 (N (hw : Int)) (N s) (N t) (hq i1 l1 x1 y1) := fun i1 l1 hc x1 y1 => by
            obtain ⟨n1, n2⟩ := NS i1 l1 hc x1 y1
            have Z2 := Z2 i1 l1 hc x1 y1
            unfold fX9_act
            rw [cv_q s9T, n1, bnd_some, if_pos rfl, cv_q s9T, n2, bnd_some, if_pos rfl]
            simp only [nk, jk, N_add, N_mul, N_sub, N_neg, J_add, J_mul, J_sub, J_neg]
            by_cases q3 : hw = 3
            · rw [ibF (fun z => c3 ⟨q3, z⟩)] at Z2
              simp (disch := omega) only [↓iNlt_t, ↓iNlt_f, ↓iNle_t, ↓iNle_f, ↓iNeq_t, ↓iNeq_f, ↓iJlt_t, ↓iJlt_f, ↓iJle_t, ↓iJle_f, ↓iJeq_t, ↓iJeq_f, ↓iZlt_t, ↓iZlt_f, ↓iZle_t, ↓iZle_f, ↓iZeq_t, ↓iZeq_f, ↓iQlt_t, ↓iQlt_f, ↓iQle_t, ↓iQle_f, ↓iQeq_t, ↓iQeq_f, ↓iAnd_t, ↓iAnd_f, ↓iOr_t, ↓iOr_f, ↓iIff_t, ↓iIff_f, ↓iNot_t, ↓iNot_f, ↓iTrue, ↓iFalse, ↓ckN, ↓ckJ, ↓gIT, ↓gLT, ↓gRT, ↓cvT, ↓pIT, ↓pLT, ↓pZT, ↓asZ, ↓aNT, ↓arL, ↓asL, ↓arI, ↓asI, ↓aR_1, ↓bnd_some, ↓wh_eq, ↓on_some, ↓on_none, asZ, arL, asL, arI, asI, aR_1, bnd_some, wh_eq, on_some, on_none, tnT, tnU, tnL, nk, jk, N_add, N_mul, N_sub, N_neg, J_add, J_mul, J_sub, J_neg, N_J, ↓b_in, ↓iIb, ↓bq Z2]
            · simp (disch := omega) only [↓iNlt_t, ↓iNlt_f, ↓iNle_t, ↓iNle_f, ↓iNeq_t, ↓iNeq_f, ↓iJlt_t, ↓iJlt_f, ↓iJle_t, ↓iJle_f, ↓iJeq_t, ↓iJeq_f, ↓iZlt_t, ↓iZlt_f, ↓iZle_t, ↓iZle_f, ↓iZeq_t, ↓iZeq_f, ↓iQlt_t, ↓iQlt_f, ↓iQle_t, ↓iQle_f, ↓iQeq_t, ↓iQeq_f, ↓iAnd_t, ↓iAnd_f, ↓iOr_t, ↓iOr_f, ↓iIff_t, ↓iIff_f, ↓iNot_t, ↓iNot_f, ↓iTrue, ↓iFalse, ↓ckN, ↓ckJ, ↓gIT, ↓gLT, ↓gRT, ↓cvT, ↓pIT, ↓pLT, ↓pZT, ↓asZ, ↓aNT, ↓arL, ↓asL, ↓arI, ↓asI, ↓aR_1, ↓bnd_some, ↓wh_eq, ↓on_some, ↓on_none, asZ, arL, asL, arI, asI, aR_1, bnd_some, wh_eq, on_some, on_none, tnT, tnU, tnL, nk, jk, N_add, N_mul, N_sub, N_neg, J_add, J_mul, J_sub, J_neg, N_J, ↓b_in, ↓iIb]
          rcases r.free with ⟨f1, f2⟩ | ⟨u, f1, f2, f3, f4, f5, f6⟩
          · refine agree_of (-2000000000000000004) r ?_ ?_
            · rw [C0]
              unfold fX8_act_58
              simp only [nk]
              simp (disch := omega) only [↓iNlt_t, ↓iNlt_f, ↓iNle_t, ↓iNle_f, ↓iNeq_t, ↓iNeq_f, ↓iJlt_t, ↓iJlt_f, ↓iJle_t, ↓iJle_f, ↓iJeq_t, ↓iJeq_f, ↓iZlt_t, ↓iZlt_f, ↓iZle_t, ↓iZle_f, ↓iZeq_t, ↓iZeq_f, ↓iQlt_t, ↓iQlt_f, ↓iQle_t, ↓iQle_f, ↓iQeq_t, ↓iQeq_f, ↓iAnd_t, ↓iAnd_f, ↓iOr_t, ↓iOr_f, ↓iIff_t, ↓iIff_f, ↓iNot_t, ↓iNot_f, ↓iTrue, ↓iFalse, ↓ckN, ↓ckJ, ↓gIT, ↓gLT, ↓gRT, ↓cvT, ↓pIT, ↓pLT, ↓pZT, ↓asZ, ↓aNT, ↓arL, ↓asL, ↓arI, ↓asI, ↓aR_1, ↓bnd_some, ↓wh_eq, ↓on_some, ↓on_none, asZ, arL, asL, arI, asI, aR_1, bnd_some, wh_eq, on_some, on_none, tnT, tnU, tnL, nk, jk, N_add, N_mul, N_sub, N_neg, J_add, J_mul, J_sub, J_neg, N_J, ↓bq (q_leastFree r.t), f1]
            · rw [M0 i l (fun _ _ => ⟨rfl, rfl⟩)]
              unfold fX9_act_53
              simp only [nk]
              simp (disch := omega) only [↓iNlt_t, ↓iNlt_f, ↓iNle_t, ↓iNle_f, ↓iNeq_t, ↓iNeq_f, ↓iJlt_t, ↓iJlt_f, ↓iJle_t, ↓iJle_f, ↓iJeq_t, ↓iJeq_f, ↓iZlt_t, ↓iZlt_f, ↓iZle_t, ↓iZle_f, ↓iZeq_t, ↓iZeq_f, ↓iQlt_t, ↓iQlt_f, ↓iQle_t, ↓iQle_f, ↓iQeq_t, ↓iQeq_f, ↓iAnd_t, ↓iAnd_f, ↓iOr_t, ↓iOr_f, ↓iIff_t, ↓iIff_f, ↓iNot_t, ↓iNot_f, ↓iTrue, ↓iFalse, ↓ckN, ↓ckJ, ↓gIT, ↓gLT, ↓gRT, ↓cvT, ↓pIT, ↓pLT, ↓pZT, ↓asZ, ↓aNT, ↓arL, ↓asL, ↓arI, ↓asI, ↓aR_1, ↓bnd_some, ↓wh_eq, ↓on_some, ↓on_none, asZ, arL, asL, arI, asI, aR_1, bnd_some, wh_eq, on_some, on_none, tnT, tnU, tnL, nk, jk, N_add, N_mul, N_sub, N_neg, J_add, J_mul, J_sub, J_neg, N_J]
          · have EXI : (i (2 * s + 28) 2 ≤ 1 ∧ i (2 * t + 28) 2 ≤ 1) ∧ (i (2 * s + 28) 2 = 0 ∨ i (2 * t + 28) 2 = 0 ∨ l (2 * s + 28) 8 = l (2 * t + 28) 8) ↔ EXc i l s t := by
              unfold EXc
              rw [k1, k1']
              constructor
              · rintro ⟨q, w⟩
                refine ⟨q, ?_⟩
                by_cases d1 : i 110 s = 0
                · exact Or.inl d1
                · by_cases d2 : i 110 t = 0
                  · exact Or.inr (Or.inl d2)
                  · right; right
                    have := ((sd.num q.1).2.2.2.2 (by omega)).1.2.2.1
                    have := ((td.num q.2).2.2.2.2 (by omega)).1.2.2.1
                    omega
              · rintro ⟨q, w⟩
                refine ⟨q, ?_⟩
                by_cases d1 : i 110 s = 0
                · exact Or.inl d1
                · by_cases d2 : i 110 t = 0
                  · exact Or.inr (Or.inl d2)
                  · right; right
                    have := ((sd.num q.1).2.2.2.2 (by omega)).1.2.2.1
                    have := ((td.num q.2).2.2.2.2 (by omega)).1.2.2.1
                    omega
            have X1 := q_isExactC (i := i) (l := l) (x := x) (y := y) st st' (by omega) (by omega) (fun z1 z2 => by
              obtain ⟨-, -, q1, -⟩ := sd.num (by omega)
              obtain ⟨-, -, q2, -⟩ := td.num (by omega)
              omega)
            rw [ib_congr EXI] at X1
            have X2 : ∀ i1 l1 : Nat → Nat → Int, (∀ c, 108 ≤ c → i1 c = i c ∧ l1 c = l c) → ∀ x1 y1, fX9_isExact 108 (N s) (N t) (hq i1 l1 x1 y1) = some (N (ib (EXc i l s t)), hq i1 l1 x1 y1) := fun i1 l1 hc x1 y1 => by
              have e := q_isExactM (i := i1) (l := l1) (x := x1) (y := y1) hs ht (by rw [(hc 110 (by omega)).1]; omega) (by rw [(hc 110 (by omega)).1]; omega) (fun z1 z2 => by
                rw [(hc 110 (by omega)).1] at z1 z2
                rw [(hc 115 (by omega)).2]
                obtain ⟨-, -, q1, -, q3⟩ := sd.num (by omega)
                obtain ⟨-, -, q2, -, q4⟩ := td.num (by omega)
                have := (q3 z1).1.2.2.1
                have := (q4 z2).1.2.2.1
                omega)
              rw [e, ib_congr (show EXc i1 l1 s t ↔ EXc i l s t by unfold EXc; rw [(hc 110 (by omega)).1, (hc 115 (by omega)).2])]
            have nF : ∀ i1 l1 : Nat → Nat → Int, (∀ c, 108 ≤ c → i1 c = i c ∧ l1 c = l c) → i1 108 10 = i 108 10 := fun i1 l1 hc => by rw [(hc 108 (by omega)).1]
            by_cases cE : EXc i l s t
            · -- exact
              rw [ibT cE] at X1
              obtain ⟨⟨e1, e2⟩, e3⟩ := id cE
              obtain ⟨⟨fa, fb, fd⟩, dp, nq, z0, z1⟩ := sd.num e1
              obtain ⟨⟨fe, ff, fg⟩, gp, nq', z0', z1'⟩ := td.num e2
              have hnc : ∃ nc, (if i (2 * s + 28) 2 = 1 then l (2 * s + 28) 8 else l (2 * t + 28) 8) = nc ∧ 0 ≤ nc ∧ nc ≤ 10000000 := by
                by_cases q : i (2 * s + 28) 2 = 1
                · exact ⟨_, if_pos q, nq⟩
                · exact ⟨_, if_neg q, nq'⟩
              obtain ⟨nc, hnc, nc1, nc2⟩ := hnc
              have hnr : ∃ nr, (if i 110 s = 1 then l 115 (4 * s + 2) else if i 110 t = 1 then l 115 (4 * t + 2) else 2) = nr ∧ (0 ≤ nr ∧ nr ≤ 10000000) ∧ (nc = nr ∨ (i 110 s = 0 ∧ i 110 t = 0)) := by
                rw [k1] at hnc
                by_cases q : i 110 s = 1
                · rw [if_pos q] at hnc ⊢
                  have := (z1 q).1.2.2.1
                  exact ⟨_, rfl, by omega, Or.inl (by omega)⟩
                · rw [if_neg q] at hnc ⊢
                  by_cases q2 : i 110 t = 1
                  · rw [if_pos q2]
                    have := (z1' q2).1.2.2.1
                    exact ⟨_, rfl, by omega, Or.inl (by omega)⟩
                  · rw [if_neg q2]
                    exact ⟨2, rfl, by omega, Or.inr ⟨by omega, by omega⟩⟩
              obtain ⟨nr, hnr, nr1, nr2⟩ := hnr
              have W := q_work (i := i) (l := l) (x := x) (y := y) st st' (by omega) (how := (hw : Int)) (by omega) rfl rfl rfl rfl rfl rfl (by omega) (by omega) hnc fa fb fd fe ff fg (by omega)
              have RXh := rx_all (how := (hw : Int)) (a := l (2 * s + 28) 6) (b := l (2 * s + 28) 7) (d := l (2 * s + 28) 9) (e := l (2 * t + 28) 6) (f := l (2 * t + 28) 7) (g := l (2 * t + 28) 9) (nc := nc) (nr := nr) (r := i (2 * t + 28) 2) (by omega) (by omega) fa fb fd fe ff fg (by omega) (by omega) (by
                rcases nr2 with z | ⟨z, z'⟩
                · exact Or.inl z
                · exact Or.inr ⟨Or.inl (z0 z).1, by omega⟩)
              have oA : ok64 (wA (hw : Int) (l (2 * s + 28) 6) (l (2 * s + 28) 9) (l (2 * s + 28) 7) (l (2 * t + 28) 6) (l (2 * t + 28) 9) (l (2 * t + 28) 7) nc (i (2 * t + 28) 2)) := by
                unfold wA
                split
                · exact pl_ok _ _
                · split
                  · exact mi_ok _ _
                  · split
                    · exact pl_ok _ _
                    · split
                      · exact tm_ok _ _
                      · exact tm_ok _ _
              have oB : ok64 (wB (hw : Int) (l (2 * s + 28) 6) (l (2 * s + 28) 9) (l (2 * s + 28) 7) (l (2 * t + 28) 6) (l (2 * t + 28) 9) (l (2 * t + 28) 7) (i (2 * t + 28) 2)) := by
                unfold wB
                split
                · exact pl_ok _ _
                · split
                  · exact mi_ok _ _
                  · split
                    · exact pl_ok _ _
                    · split
                      · exact tm_ok _ _
                      · exact tm_ok _ _
              have oD : ok64 (wD (hw : Int) (l (2 * s + 28) 9) (l (2 * t + 28) 6) (l (2 * t + 28) 9) (l (2 * t + 28) 7) nc (i (2 * t + 28) 2)) := by
                unfold wD
                split
                · exact tm_ok _ _
                · split
                  · exact tm_ok _ _
                  · exact tm_ok _ _
              -- no root, no b
              have hB0 : wB (hw : Int) (l (2 * s + 28) 6) (l (2 * s + 28) 9) (l (2 * s + 28) 7) (l (2 * t + 28) 6) (l (2 * t + 28) 9) (l (2 * t + 28) 7) (i (2 * t + 28) 2) ≠ 0 → 2 ≤ nc ∧ (∀ m : Int, m * m ≠ nc) ∧ nc = nr := by
                intro hB
                by_cases q : i 110 s = 0 ∧ i 110 t = 0
                · exfalso
                  apply hB
                  have b0 := (z0 q.1).1
                  have f0 := (z0' q.2).1
                  rw [b0, f0]
                  unfold wB
                  rw [(tm_0n fg).1, (tm_0n fd).1, (tm_0n fa).2, (tm_0n fe).2, (tm_0n fe).1]
                  have p0 : pl 0 0 = 0 := by decide
                  have m00 : mi 0 0 = 0 := by decide
                  rw [p0, m00, (tm_0n fg).1]
                  split
                  · rfl
                  · split
                    · rfl
                    · split
                      · rfl
                      · split <;> rfl
                · have hn : nc = nr := by
                    rcases nr2 with z | z
                    · exact z
                    · exact absurd z q
                  rw [k1] at hnc
                  by_cases q2 : i 110 s = 1
                  · rw [if_pos q2] at hnc
                    obtain ⟨-, -, ⟨-, w1'⟩, -, w2⟩ := (z1 q2).2
                    rw [hnc] at w1' w2
                    exact ⟨w1', w2, hn⟩
                  · rw [if_neg q2] at hnc
                    have q3 : i 110 t = 1 := by omega
                    obtain ⟨-, -, ⟨-, w1'⟩, -, w2⟩ := (z1' q3).2
                    rw [hnc] at w1' w2
                    exact ⟨w1', w2, hn⟩
              have hDz := wD_ne (how := (hw : Int)) (d := l (2 * s + 28) 9) (e := l (2 * t + 28) 6) (g := l (2 * t + 28) 9) (f := l (2 * t + 28) 7) (n := nc) (r := i (2 * t + 28) 2) (by omega) (by omega) (by omega) fd fe fg ff (by omega) (fun q1 q2 z => c3 ⟨by omega, q2, z⟩) (fun q1 q2 => by
                have q3 : i 110 t = 1 := by omega
                obtain ⟨-, -, ⟨wb, -⟩, -, w2⟩ := (z1' q3).2
                have hn8 : l (2 * t + 28) 8 = nc := by
                  rw [k1] at hnc
                  by_cases q4 : i 110 s = 1
                  · rw [if_pos q4] at hnc
                    have := (z1 q4).1.2.2.1
                    have := (z1' q3).1.2.2.1
                    rcases e3 with z | z | z <;> omega
                  · rw [if_neg q4] at hnc
                    exact hnc
                rw [hn8] at w2
                exact ⟨wb, w2⟩)
              obtain ⟨v, i1, l1, i2, l2, E1, E2, R2, hc⟩ := T_exact (x := x) (y := y) r f2 f3 f4 oA oB oD ⟨nc1, nc2⟩ nr1 hB0 (fun z => hDz (fun w => z (Or.inr (Or.inr w)))) RXh
              refine ⟨v, i1, l1, x, y, i2, l2, x, y, ?_, ?_, R2⟩
              · rw [C0]
                have s7 : S0 7 = some (3, 0) := by simp only [shT]
                unfold fX8_act_58
                simp only [nk]
                simp (disch := omega) only [↓iNlt_t, ↓iNlt_f, ↓iNle_t, ↓iNle_f, ↓iNeq_t, ↓iNeq_f, ↓iJlt_t, ↓iJlt_f, ↓iJle_t, ↓iJle_f, ↓iJeq_t, ↓iJeq_f, ↓iZlt_t, ↓iZlt_f, ↓iZle_t, ↓iZle_f, ↓iZeq_t, ↓iZeq_f, ↓iQlt_t, ↓iQlt_f, ↓iQle_t, ↓iQle_f, ↓iQeq_t, ↓iQeq_f, ↓iAnd_t, ↓iAnd_f, ↓iOr_t, ↓iOr_f, ↓iIff_t, ↓iIff_f, ↓iNot_t, ↓iNot_f, ↓iTrue, ↓iFalse, ↓ckN, ↓ckJ, ↓gIT, ↓gLT, ↓gRT, ↓cvT, ↓pIT, ↓pLT, ↓pZT, ↓asZ, ↓aNT, ↓arL, ↓asL, ↓arI, ↓asI, ↓aR_1, ↓bnd_some, ↓wh_eq, ↓on_some, ↓on_none, asZ, arL, asL, arI, asI, aR_1, bnd_some, wh_eq, on_some, on_none, tnT, tnU, tnL, nk, jk, N_add, N_mul, N_sub, N_neg, J_add, J_mul, J_sub, J_neg, N_J, ↓bq (q_leastFree r.t), f1, ↓bq X1, ↓bq W, ↓bq E1]
              · rw [M0 i1 l1 hc]
                have X2 := X2 i1 l1 hc x y
                rw [ibT cE] at X2
                have Q := q_exactOf (i := i1) (l := l1) (x := x) (y := y) hw4 hs ht (a := l (2 * s + 28) 6) (b := l (2 * s + 28) 7) (d := l (2 * s + 28) 9) (e := l (2 * t + 28) 6) (f := l (2 * t + 28) 7) (g := l (2 * t + 28) 9) (n := nr) (by rw [(hc 110 (by omega)).1]; omega) (by rw [(hc 110 (by omega)).1]; omega)
                  (by
                    rw [(hc 115 (by omega)).2]
                    by_cases q : i 110 s = 0
                    · exact (z0 q).2.2.1
                    · exact (z1 (by omega)).1.1)
                  (by
                    rw [(hc 110 (by omega)).1, (hc 115 (by omega)).2]
                    by_cases q : i 110 s = 0
                    · rw [if_neg (by omega)]; exact (z0 q).1.symm
                    · rw [if_pos (by omega)]; exact (z1 (by omega)).1.2.1)
                  (by
                    rw [(hc 110 (by omega)).1, (hc 115 (by omega)).2]
                    by_cases q : i 110 s = 0
                    · rw [if_neg (by omega)]; exact (z0 q).2.2.2
                    · rw [if_pos (by omega)]; exact (z1 (by omega)).1.2.2.2)
                  (by
                    rw [(hc 115 (by omega)).2]
                    by_cases q : i 110 t = 0
                    · exact (z0' q).2.2.1
                    · exact (z1' (by omega)).1.1)
                  (by
                    rw [(hc 110 (by omega)).1, (hc 115 (by omega)).2]
                    by_cases q : i 110 t = 0
                    · rw [if_neg (by omega)]; exact (z0' q).1.symm
                    · rw [if_pos (by omega)]; exact (z1' (by omega)).1.2.1)
                  (by
                    rw [(hc 110 (by omega)).1, (hc 115 (by omega)).2]
                    by_cases q : i 110 t = 0
                    · rw [if_neg (by omega)]; exact (z0' q).2.2.2
                    · rw [if_pos (by omega)]; exact (z1' (by omega)).1.2.2.2)
                  (by rw [(hc 110 (by omega)).1, (hc 115 (by omega)).2]; exact hnr)
                rw [(hc 110 (by omega)).1, ← k1', E2] at Q
                have e10 := nF i1 l1 hc
                unfold fX9_act_53
                simp only [nk]
                simp (disch := omega) only [↓iNlt_t, ↓iNlt_f, ↓iNle_t, ↓iNle_f, ↓iNeq_t, ↓iNeq_f, ↓iJlt_t, ↓iJlt_f, ↓iJle_t, ↓iJle_f, ↓iJeq_t, ↓iJeq_f, ↓iZlt_t, ↓iZlt_f, ↓iZle_t, ↓iZle_f, ↓iZeq_t, ↓iZeq_f, ↓iQlt_t, ↓iQlt_f, ↓iQle_t, ↓iQle_f, ↓iQeq_t, ↓iQeq_f, ↓iAnd_t, ↓iAnd_f, ↓iOr_t, ↓iOr_f, ↓iIff_t, ↓iIff_f, ↓iNot_t, ↓iNot_f, ↓iTrue, ↓iFalse, ↓ckN, ↓ckJ, ↓gIT, ↓gLT, ↓gRT, ↓cvT, ↓pIT, ↓pLT, ↓pZT, ↓asZ, ↓aNT, ↓arL, ↓asL, ↓arI, ↓asI, ↓aR_1, ↓bnd_some, ↓wh_eq, ↓on_some, ↓on_none, asZ, arL, asL, arI, asI, aR_1, bnd_some, wh_eq, on_some, on_none, tnT, tnU, tnL, nk, jk, N_add, N_mul, N_sub, N_neg, J_add, J_mul, J_sub, J_neg, N_J, e10, ↓bq X2, ↓bq Q]
            · -- made
              rw [ibF cE] at X1
              have hne : ¬ (i 112 s = 1 ∧ i 112 t = 1) := by
                rintro ⟨z1, z2⟩
                apply cE
                have q1 : i 110 s = 0 := by
                  rcases Classical.em (i 110 s = 0) with z | z
                  · exact z
                  · have := en1 z; omega
                have q2 : i 110 t = 0 := by
                  rcases Classical.em (i 110 t = 0) with z | z
                  · exact z
                  · have := en2 z; omega
                exact ⟨⟨by omega, by omega⟩, Or.inl q1⟩
              have SA := q_startAct (i := i) (l := l) (x := x) (y := y) (h := hw) (by omega)
              obtain ⟨i1, l1, x1, y1, E1, hc, E2⟩ := T_make (x := x) (y := y) (lc := wr l 15 (fl (vAct hw) (l 15) 8)) r f2 f3 f4 hs ht h1 h1' hne (v := vAct hw) (vAct_nf (by omega)) (fun j hj => by rw [wr_s, fl, if_pos hj]) (fun c hc => wr_n _ _ hc)
              obtain ⟨lr, q1, q2, q3⟩ := r_act86 (i := i1) (l := l1) (x := x1) (y := y1) (how := hw) (s := s) (t := t) hw4
              obtain ⟨i2, l2, E3, R2⟩ := E2 lr q1 q2
              refine ⟨J u, i1, l1, x1, y1, i2, l2, x1, y1, ?_, ?_, R2⟩
              · rw [C0]
                unfold fX8_act_58
                simp only [nk]
                simp (disch := omega) only [↓iNlt_t, ↓iNlt_f, ↓iNle_t, ↓iNle_f, ↓iNeq_t, ↓iNeq_f, ↓iJlt_t, ↓iJlt_f, ↓iJle_t, ↓iJle_f, ↓iJeq_t, ↓iJeq_f, ↓iZlt_t, ↓iZlt_f, ↓iZle_t, ↓iZle_f, ↓iZeq_t, ↓iZeq_f, ↓iQlt_t, ↓iQlt_f, ↓iQle_t, ↓iQle_f, ↓iQeq_t, ↓iQeq_f, ↓iAnd_t, ↓iAnd_f, ↓iOr_t, ↓iOr_f, ↓iIff_t, ↓iIff_f, ↓iNot_t, ↓iNot_f, ↓iTrue, ↓iFalse, ↓ckN, ↓ckJ, ↓gIT, ↓gLT, ↓gRT, ↓cvT, ↓pIT, ↓pLT, ↓pZT, ↓asZ, ↓aNT, ↓arL, ↓asL, ↓arI, ↓asI, ↓aR_1, ↓bnd_some, ↓wh_eq, ↓on_some, ↓on_none, asZ, arL, asL, arI, asI, aR_1, bnd_some, wh_eq, on_some, on_none, tnT, tnU, tnL, nk, jk, N_add, N_mul, N_sub, N_neg, J_add, J_mul, J_sub, J_neg, N_J, ↓bq (q_leastFree r.t), f1, ↓bq X1, ↓bq SA]
                exact E1
              · rw [M0 i1 l1 hc]
                have X2 := X2 i1 l1 hc x1 y1
                rw [ibF cE] at X2
                have e10 := nF i1 l1 hc
                unfold fX9_act_53
                simp only [nk]
                simp (disch := omega) only [↓iNlt_t, ↓iNlt_f, ↓iNle_t, ↓iNle_f, ↓iNeq_t, ↓iNeq_f, ↓iJlt_t, ↓iJlt_f, ↓iJle_t, ↓iJle_f, ↓iJeq_t, ↓iJeq_f, ↓iZlt_t, ↓iZlt_f, ↓iZle_t, ↓iZle_f, ↓iZeq_t, ↓iZeq_f, ↓iQlt_t, ↓iQlt_f, ↓iQle_t, ↓iQle_f, ↓iQeq_t, ↓iQeq_f, ↓iAnd_t, ↓iAnd_f, ↓iOr_t, ↓iOr_f, ↓iIff_t, ↓iIff_f, ↓iNot_t, ↓iNot_f, ↓iTrue, ↓iFalse, ↓ckN, ↓ckJ, ↓gIT, ↓gLT, ↓gRT, ↓cvT, ↓pIT, ↓pLT, ↓pZT, ↓asZ, ↓aNT, ↓arL, ↓asL, ↓arI, ↓asI, ↓aR_1, ↓bnd_some, ↓wh_eq, ↓on_some, ↓on_none, asZ, arL, asL, arI, asI, aR_1, bnd_some, wh_eq, on_some, on_none, tnT, tnU, tnL, nk, jk, N_add, N_mul, N_sub, N_neg, J_add, J_mul, J_sub, J_neg, N_J, e10, ↓bq X2]
                rw [q3, bq E3]
      · refine agree_of (-2000000000000000002) r ?_ ?_
        · unfold fX8_act
          rw [cv_q s0T, f, bnd_some, on_some, cv_q s0T, f', bnd_some, on_some]
          simp only [nk]
          by_cases q : how < 0
          · simp (disch := omega) only [↓iNlt_t, ↓iNlt_f, ↓iNle_t, ↓iNle_f, ↓iNeq_t, ↓iNeq_f, ↓iJlt_t, ↓iJlt_f, ↓iJle_t, ↓iJle_f, ↓iJeq_t, ↓iJeq_f, ↓iZlt_t, ↓iZlt_f, ↓iZle_t, ↓iZle_f, ↓iZeq_t, ↓iZeq_f, ↓iQlt_t, ↓iQlt_f, ↓iQle_t, ↓iQle_f, ↓iQeq_t, ↓iQeq_f, ↓iAnd_t, ↓iAnd_f, ↓iOr_t, ↓iOr_f, ↓iIff_t, ↓iIff_f, ↓iNot_t, ↓iNot_f, ↓iTrue, ↓iFalse, ↓ckN, ↓ckJ, ↓gIT, ↓gLT, ↓gRT, ↓cvT, ↓pIT, ↓pLT, ↓pZT, ↓asZ, ↓aNT, ↓arL, ↓asL, ↓arI, ↓asI, ↓aR_1, ↓bnd_some, ↓wh_eq, ↓on_some, ↓on_none, asZ, arL, asL, arI, asI, aR_1, bnd_some, wh_eq, on_some, on_none, tnT, tnU, tnL, nk, jk, N_add, N_mul, N_sub, N_neg, J_add, J_mul, J_sub, J_neg, N_J]
          · simp (disch := omega) only [↓iNlt_t, ↓iNlt_f, ↓iNle_t, ↓iNle_f, ↓iNeq_t, ↓iNeq_f, ↓iJlt_t, ↓iJlt_f, ↓iJle_t, ↓iJle_f, ↓iJeq_t, ↓iJeq_f, ↓iZlt_t, ↓iZlt_f, ↓iZle_t, ↓iZle_f, ↓iZeq_t, ↓iZeq_f, ↓iQlt_t, ↓iQlt_f, ↓iQle_t, ↓iQle_f, ↓iQeq_t, ↓iQeq_f, ↓iAnd_t, ↓iAnd_f, ↓iOr_t, ↓iOr_f, ↓iIff_t, ↓iIff_f, ↓iNot_t, ↓iNot_f, ↓iTrue, ↓iFalse, ↓ckN, ↓ckJ, ↓gIT, ↓gLT, ↓gRT, ↓cvT, ↓pIT, ↓pLT, ↓pZT, ↓asZ, ↓aNT, ↓arL, ↓asL, ↓arI, ↓asI, ↓aR_1, ↓bnd_some, ↓wh_eq, ↓on_some, ↓on_none, asZ, arL, asL, arI, asI, aR_1, bnd_some, wh_eq, on_some, on_none, tnT, tnU, tnL, nk, jk, N_add, N_mul, N_sub, N_neg, J_add, J_mul, J_sub, J_neg, N_J]
        · unfold fX9_act
          rw [cv_q s9T, g, bnd_some, if_pos rfl, cv_q s9T, g', bnd_some, if_pos rfl]
          simp only [nk, jk, N_add, N_mul, N_sub, N_neg, J_add, J_mul, J_sub, J_neg]
          simp (disch := omega) only [↓iNlt_t, ↓iNlt_f, ↓iNle_t, ↓iNle_f, ↓iNeq_t, ↓iNeq_f, ↓iJlt_t, ↓iJlt_f, ↓iJle_t, ↓iJle_f, ↓iJeq_t, ↓iJeq_f, ↓iZlt_t, ↓iZlt_f, ↓iZle_t, ↓iZle_f, ↓iZeq_t, ↓iZeq_f, ↓iQlt_t, ↓iQlt_f, ↓iQle_t, ↓iQle_f, ↓iQeq_t, ↓iQeq_f, ↓iAnd_t, ↓iAnd_f, ↓iOr_t, ↓iOr_f, ↓iIff_t, ↓iIff_f, ↓iNot_t, ↓iNot_f, ↓iTrue, ↓iFalse, ↓ckN, ↓ckJ, ↓gIT, ↓gLT, ↓gRT, ↓cvT, ↓pIT, ↓pLT, ↓pZT, ↓asZ, ↓aNT, ↓arL, ↓asL, ↓arI, ↓asI, ↓aR_1, ↓bnd_some, ↓wh_eq, ↓on_some, ↓on_none, asZ, arL, asL, arI, asI, aR_1, bnd_some, wh_eq, on_some, on_none, tnT, tnU, tnL, nk, jk, N_add, N_mul, N_sub, N_neg, J_add, J_mul, J_sub, J_neg, N_J, ↓b_in, ↓iIb]
