/-! ===== turn ===== -/
theorem t173_s (n : Nat) : fX9_turn_173L (n + 1) = fX9_turn_173 (fX9_turn_173L n) := rfl
theorem vAct4 (k : Nat) (hk : k < 8) : vAct (4 : Nat) k = if k = 3 ∨ k = 5 then 1 else 0 := by
  revert k
  decide
section CT
variable {i l : Nat → Nat → Int} {x y : Option Nat}
theorem r_turn173 {s : Nat} : ∃ lr : Nat → Nat → Int, (∀ j, j < 8 → lr 121 j = vAct (4 : Nat) j) ∧ (∀ c, c ≠ 121 → lr c = l c) ∧ fX9_turn_173L 1000 108 (N s) (N 0) (hq i l x y) = bnd (fX9_make 108 (N s) (N s) (hq i lr x y)) (fun x h => some (x, h)) := by
  refine ⟨wr l 121 (fl (vAct (4 : Nat)) (l 121) 8), fun j hj => by rw [wr_s, fl, if_pos hj], fun c hc => by rw [wr_n _ _ hc], ?_⟩
  have key : ∀ (m k q : Nat), k + m = 8 → m + 1 ≤ q → fX9_turn_173L q 108 (N s) (N k) (hq i (wr l 121 (fl (vAct (4 : Nat)) (l 121) k)) x y) = fX9_turn_206 108 (N s) (hq i (wr l 121 (fl (vAct (4 : Nat)) (l 121) 8)) x y) := by
    intro m
    induction m with
    | zero =>
      intro k q hk hq'
      obtain ⟨z, rfl⟩ : ∃ z, q = z + 1 := ⟨q - 1, by omega⟩
      obtain rfl : k = 8 := by omega
      rw [t173_s]
      unfold fX9_turn_173
      simp only [nk, ctT]
      simp (disch := omega) only [↓iNlt_t, ↓iNlt_f, ↓iNle_t, ↓iNle_f, ↓iNeq_t, ↓iNeq_f, ↓iJlt_t, ↓iJlt_f, ↓iJle_t, ↓iJle_f, ↓iJeq_t, ↓iJeq_f, ↓iZlt_t, ↓iZlt_f, ↓iZle_t, ↓iZle_f, ↓iZeq_t, ↓iZeq_f, ↓iQlt_t, ↓iQlt_f, ↓iQle_t, ↓iQle_f, ↓iQeq_t, ↓iQeq_f, ↓iAnd_t, ↓iAnd_f, ↓iOr_t, ↓iOr_f, ↓iIff_t, ↓iIff_f, ↓iNot_t, ↓iNot_f, ↓iTrue, ↓iFalse, ↓ckN, ↓ckJ, ↓gIT, ↓gLT, ↓gRT, ↓cvT, ↓pIT, ↓pLT, ↓pZT, ↓asZ, ↓aNT, ↓arL, ↓asL, ↓arI, ↓asI, ↓aR_1, ↓bnd_some, ↓wh_eq, ↓on_some, ↓on_none, asZ, arL, asL, arI, asI, aR_1, bnd_some, wh_eq, on_some, on_none, tnT, tnU, tnL, nk, jk, N_add, N_mul, N_sub, N_neg, J_add, J_mul, J_sub, J_neg, N_J]
    | succ m ih =>
      intro k q hk hq'
      obtain ⟨z, rfl⟩ : ∃ z, q = z + 1 := ⟨q - 1, by omega⟩
      have ih := ih (k + 1) z (by omega) (by omega)
      have e := w1_fl l 121 k (vAct (4 : Nat)) (l 121)
      rw [vAct4 k (by omega)] at e
      rw [t173_s]
      unfold fX9_turn_173
      simp only [nk, jk, N_add, N_mul, N_sub, N_neg, J_add, J_mul, J_sub, J_neg]
      by_cases c3 : k = 3
      · rw [if_pos (Or.inl c3)] at e
        simp (disch := omega) only [↓iNlt_t, ↓iNlt_f, ↓iNle_t, ↓iNle_f, ↓iNeq_t, ↓iNeq_f, ↓iJlt_t, ↓iJlt_f, ↓iJle_t, ↓iJle_f, ↓iJeq_t, ↓iJeq_f, ↓iZlt_t, ↓iZlt_f, ↓iZle_t, ↓iZle_f, ↓iZeq_t, ↓iZeq_f, ↓iQlt_t, ↓iQlt_f, ↓iQle_t, ↓iQle_f, ↓iQeq_t, ↓iQeq_f, ↓iAnd_t, ↓iAnd_f, ↓iOr_t, ↓iOr_f, ↓iIff_t, ↓iIff_f, ↓iNot_t, ↓iNot_f, ↓iTrue, ↓iFalse, ↓ckN, ↓ckJ, ↓gIT, ↓gLT, ↓gRT, ↓cvT, ↓pIT, ↓pLT, ↓pZT, ↓asZ, ↓aNT, ↓arL, ↓asL, ↓arI, ↓asI, ↓aR_1, ↓bnd_some, ↓wh_eq, ↓on_some, ↓on_none, asZ, arL, asL, arI, asI, aR_1, bnd_some, wh_eq, on_some, on_none, tnT, tnU, tnL, nk, jk, N_add, N_mul, N_sub, N_neg, J_add, J_mul, J_sub, J_neg, N_J, e]
        exact ih
      · by_cases c5 : k = 5
        · rw [if_pos (Or.inr c5)] at e
          simp (disch := omega) only [↓iNlt_t, ↓iNlt_f, ↓iNle_t, ↓iNle_f, ↓iNeq_t, ↓iNeq_f, ↓iJlt_t, ↓iJlt_f, ↓iJle_t, ↓iJle_f, ↓iJeq_t, ↓iJeq_f, ↓iZlt_t, ↓iZlt_f, ↓iZle_t, ↓iZle_f, ↓iZeq_t, ↓iZeq_f, ↓iQlt_t, ↓iQlt_f, ↓iQle_t, ↓iQle_f, ↓iQeq_t, ↓iQeq_f, ↓iAnd_t, ↓iAnd_f, ↓iOr_t, ↓iOr_f, ↓iIff_t, ↓iIff_f, ↓iNot_t, ↓iNot_f, ↓iTrue, ↓iFalse, ↓ckN, ↓ckJ, ↓gIT, ↓gLT, ↓gRT, ↓cvT, ↓pIT, ↓pLT, ↓pZT, ↓asZ, ↓aNT, ↓arL, ↓asL, ↓arI, ↓asI, ↓aR_1, ↓bnd_some, ↓wh_eq, ↓on_some, ↓on_none, asZ, arL, asL, arI, asI, aR_1, bnd_some, wh_eq, on_some, on_none, tnT, tnU, tnL, nk, jk, N_add, N_mul, N_sub, N_neg, J_add, J_mul, J_sub, J_neg, N_J, e]
          exact ih
        · rw [if_neg (by omega)] at e
          simp (disch := omega) only [↓iNlt_t, ↓iNlt_f, ↓iNle_t, ↓iNle_f, ↓iNeq_t, ↓iNeq_f, ↓iJlt_t, ↓iJlt_f, ↓iJle_t, ↓iJle_f, ↓iJeq_t, ↓iJeq_f, ↓iZlt_t, ↓iZlt_f, ↓iZle_t, ↓iZle_f, ↓iZeq_t, ↓iZeq_f, ↓iQlt_t, ↓iQlt_f, ↓iQle_t, ↓iQle_f, ↓iQeq_t, ↓iQeq_f, ↓iAnd_t, ↓iAnd_f, ↓iOr_t, ↓iOr_f, ↓iIff_t, ↓iIff_f, ↓iNot_t, ↓iNot_f, ↓iTrue, ↓iFalse, ↓ckN, ↓ckJ, ↓gIT, ↓gLT, ↓gRT, ↓cvT, ↓pIT, ↓pLT, ↓pZT, ↓asZ, ↓aNT, ↓arL, ↓asL, ↓arI, ↓asI, ↓aR_1, ↓bnd_some, ↓wh_eq, ↓on_some, ↓on_none, asZ, arL, asL, arI, asI, aR_1, bnd_some, wh_eq, on_some, on_none, tnT, tnU, tnL, nk, jk, N_add, N_mul, N_sub, N_neg, J_add, J_mul, J_sub, J_neg, N_J, e]
          exact ih
  have := key 8 0 1000 (by omega) (by omega)
  rw [fl_0, wr_id] at this
  refine Eq.trans this ?_
  unfold fX9_turn_206
  rw [cv_q s9T]
theorem q_turn62 {s : Nat} (hs : s < 40) {e f g n : Int} (ks : i 110 s = 0 ∨ i 110 s = 1) (b1 : l 115 (4 * s) = e) (b2 : (if i 110 s = 1 then l 115 (4 * s + 1) else 0) = f) (b3 : (if i 110 s = 1 then l 115 (4 * s + 3) else l 115 (4 * s + 1)) = g) (hn : (if i 110 s = 1 then l 115 (4 * s + 2) else 2) = n) :
    fX9_turn_62 108 (N s) (N (i 110 s)) (hq i l x y) = bnd (fX9_exactly 108 (N 3) (J 1) (J 0) (J 1) (J e) (J f) (J g) (J n) (N (i 110 s)) (hq i l x y)) (fun _ h => rtl h) := by
  unfold fX9_turn_62 fX9_turn_110 fX9_turn_132 rtl
  simp only [nk, jk, N_mul, N_add]
  rcases ks with k1 | k1
  · rw [if_neg (by omega)] at b2 b3 hn
    subst b2 hn
    simp (disch := omega) only [↓iNlt_t, ↓iNlt_f, ↓iNle_t, ↓iNle_f, ↓iNeq_t, ↓iNeq_f, ↓iJlt_t, ↓iJlt_f, ↓iJle_t, ↓iJle_f, ↓iJeq_t, ↓iJeq_f, ↓iZlt_t, ↓iZlt_f, ↓iZle_t, ↓iZle_f, ↓iZeq_t, ↓iZeq_f, ↓iQlt_t, ↓iQlt_f, ↓iQle_t, ↓iQle_f, ↓iQeq_t, ↓iQeq_f, ↓iAnd_t, ↓iAnd_f, ↓iOr_t, ↓iOr_f, ↓iIff_t, ↓iIff_f, ↓iNot_t, ↓iNot_f, ↓iTrue, ↓iFalse, ↓ckN, ↓ckJ, ↓gIT, ↓gLT, ↓gRT, ↓cvT, ↓pIT, ↓pLT, ↓pZT, ↓asZ, ↓aNT, ↓arL, ↓asL, ↓arI, ↓asI, ↓aR_1, ↓bnd_some, ↓wh_eq, ↓on_some, ↓on_none, asZ, arL, asL, arI, asI, aR_1, bnd_some, wh_eq, on_some, on_none, tnT, tnU, tnL, nk, jk, N_add, N_mul, N_sub, N_neg, J_add, J_mul, J_sub, J_neg, N_J, k1, b1, b3]
  · rw [if_pos k1] at b2 b3 hn
    simp (disch := omega) only [↓iNlt_t, ↓iNlt_f, ↓iNle_t, ↓iNle_f, ↓iNeq_t, ↓iNeq_f, ↓iJlt_t, ↓iJlt_f, ↓iJle_t, ↓iJle_f, ↓iJeq_t, ↓iJeq_f, ↓iZlt_t, ↓iZlt_f, ↓iZle_t, ↓iZle_f, ↓iZeq_t, ↓iZeq_f, ↓iQlt_t, ↓iQlt_f, ↓iQle_t, ↓iQle_f, ↓iQeq_t, ↓iQeq_f, ↓iAnd_t, ↓iAnd_f, ↓iOr_t, ↓iOr_f, ↓iIff_t, ↓iIff_f, ↓iNot_t, ↓iNot_f, ↓iTrue, ↓iFalse, ↓ckN, ↓ckJ, ↓gIT, ↓gLT, ↓gRT, ↓cvT, ↓pIT, ↓pLT, ↓pZT, ↓asZ, ↓aNT, ↓arL, ↓asL, ↓arI, ↓asI, ↓aR_1, ↓bnd_some, ↓wh_eq, ↓on_some, ↓on_none, asZ, arL, asL, arI, asI, aR_1, bnd_some, wh_eq, on_some, on_none, tnT, tnU, tnL, nk, jk, N_add, N_mul, N_sub, N_neg, J_add, J_mul, J_sub, J_neg, N_J, k1, b1, b2, b3, hn]
end CT
theorem c_turn (b : Int32) : Agree (fX8_turn 0 b) (fX9_turn 108 b) := by
  intro i l x y r
  rcases r.who (x := x) (y := y) b with ⟨f, g⟩ | ⟨s, hs, rfl, h1, sd, f, g⟩
  · refine agree_of (-2000000000000000001) r ?_ ?_
    · unfold fX8_turn
      rw [cv_q s0T, f, bnd_some, on_none]
    · unfold fX9_turn
      rw [cv_q s9T, g, bnd_some, if10]
  · have st := St_s hs
    obtain ⟨⟨k1, k2, k3⟩, -, -, -, -, ⟨-, en1⟩, ra, ro⟩ := id sd
    obtain ⟨o0, o1, o2, o3, o4⟩ := r.2.2.2.2.2.2.1
    have Z1 := q_zeroC (i := i) (l := l) (x := x) (y := y) st (by omega) (fun z => (ra (by omega)).2.2.1)
    have Z2 : ∀ i1 l1 : Nat → Nat → Int, (∀ c, 108 ≤ c → i1 c = i c ∧ l1 c = l c) → ∀ x1 y1, fX9_isNought 108 (N s) (hq i1 l1 x1 y1) = some (N (ib (i (2 * s + 28) 2 = 0 ∧ l (2 * s + 28) 6 = 0)), hq i1 l1 x1 y1) := fun i1 l1 hc x1 y1 => by
      have e := q_noughtM (i := i1) (l := l1) (x := x1) (y := y1) hs (by rw [(hc 110 (by omega)).1]; omega) (fun z => by rw [(hc 110 (by omega)).1] at z; rw [(hc 115 (by omega)).2, ← (ra z).1.1]; exact (ra z).2.2.1)
      rw [(hc 110 (by omega)).1, (hc 115 (by omega)).2] at e
      rw [e, ib_congr (show i 110 s = 0 ∧ l 115 (4 * s) = 0 ↔ i (2 * s + 28) 2 = 0 ∧ l (2 * s + 28) 6 = 0 from ⟨fun z => ⟨by omega, by rw [(ra z.1).1.1]; exact z.2⟩, fun z => ⟨by omega, by rw [← (ra (by omega)).1.1]; exact z.2⟩⟩)]
    have NS : ∀ i1 l1 : Nat → Nat → Int, (∀ c, 108 ≤ c → i1 c = i c ∧ l1 c = l c) → ∀ x1 y1, fX9_noStream 108 (N s) (hq i1 l1 x1 y1) = some (0, hq i1 l1 x1 y1) := fun i1 l1 hc x1 y1 => by
      have e1 := q_noStream (i := i1) (l := l1) (x := x1) (y := y1) (s := (s : Int)) (by rw [(hc 109 (by omega)).1]; exact r.m) (by omega) (by omega)
      rw [(tnT s).1, (hc 109 (by omega)).1, if_pos (by omega)] at e1
      exact e1
    by_cases c3 : i (2 * s + 28) 2 = 0 ∧ l (2 * s + 28) 6 = 0
    · rw [ibT c3] at Z1
      have Z2 := Z2 i l (fun _ _ => ⟨rfl, rfl⟩) x y
      rw [ibT c3] at Z2
      refine agree_of (-2000000000000000003) r ?_ ?_
      · unfold fX8_turn
        rw [cv_q s0T, f, bnd_some, on_some]
        simp only [nk]
        simp (disch := omega) only [↓iNlt_t, ↓iNlt_f, ↓iNle_t, ↓iNle_f, ↓iNeq_t, ↓iNeq_f, ↓iJlt_t, ↓iJlt_f, ↓iJle_t, ↓iJle_f, ↓iJeq_t, ↓iJeq_f, ↓iZlt_t, ↓iZlt_f, ↓iZle_t, ↓iZle_f, ↓iZeq_t, ↓iZeq_f, ↓iQlt_t, ↓iQlt_f, ↓iQle_t, ↓iQle_f, ↓iQeq_t, ↓iQeq_f, ↓iAnd_t, ↓iAnd_f, ↓iOr_t, ↓iOr_f, ↓iIff_t, ↓iIff_f, ↓iNot_t, ↓iNot_f, ↓iTrue, ↓iFalse, ↓ckN, ↓ckJ, ↓gIT, ↓gLT, ↓gRT, ↓cvT, ↓pIT, ↓pLT, ↓pZT, ↓asZ, ↓aNT, ↓arL, ↓asL, ↓arI, ↓asI, ↓aR_1, ↓bnd_some, ↓wh_eq, ↓on_some, ↓on_none, asZ, arL, asL, arI, asI, aR_1, bnd_some, wh_eq, on_some, on_none, tnT, tnU, tnL, nk, jk, N_add, N_mul, N_sub, N_neg, J_add, J_mul, J_sub, J_neg, N_J, ↓cv_q st.1.1, ↓bq Z1]
      · unfold fX9_turn
        rw [cv_q s9T, g, bnd_some, if_pos rfl]
        simp only [nk]
        simp (disch := omega) only [↓iNlt_t, ↓iNlt_f, ↓iNle_t, ↓iNle_f, ↓iNeq_t, ↓iNeq_f, ↓iJlt_t, ↓iJlt_f, ↓iJle_t, ↓iJle_f, ↓iJeq_t, ↓iJeq_f, ↓iZlt_t, ↓iZlt_f, ↓iZle_t, ↓iZle_f, ↓iZeq_t, ↓iZeq_f, ↓iQlt_t, ↓iQlt_f, ↓iQle_t, ↓iQle_f, ↓iQeq_t, ↓iQeq_f, ↓iAnd_t, ↓iAnd_f, ↓iOr_t, ↓iOr_f, ↓iIff_t, ↓iIff_f, ↓iNot_t, ↓iNot_f, ↓iTrue, ↓iFalse, ↓ckN, ↓ckJ, ↓gIT, ↓gLT, ↓gRT, ↓cvT, ↓pIT, ↓pLT, ↓pZT, ↓asZ, ↓aNT, ↓arL, ↓asL, ↓arI, ↓asI, ↓aR_1, ↓bnd_some, ↓wh_eq, ↓on_some, ↓on_none, asZ, arL, asL, arI, asI, aR_1, bnd_some, wh_eq, on_some, on_none, tnT, tnU, tnL, nk, jk, N_add, N_mul, N_sub, N_neg, J_add, J_mul, J_sub, J_neg, N_J, ↓bq Z2]
    · rw [ibF c3] at Z1
      rcases r.free with ⟨f1, f2⟩ | ⟨u, f1, f2, f3, f4, f5, f6⟩
      · have Z2 := Z2 i l (fun _ _ => ⟨rfl, rfl⟩) x y
        rw [ibF c3] at Z2
        refine agree_of (-2000000000000000004) r ?_ ?_
        · unfold fX8_turn
          rw [cv_q s0T, f, bnd_some, on_some]
          simp only [nk]
          simp (disch := omega) only [↓iNlt_t, ↓iNlt_f, ↓iNle_t, ↓iNle_f, ↓iNeq_t, ↓iNeq_f, ↓iJlt_t, ↓iJlt_f, ↓iJle_t, ↓iJle_f, ↓iJeq_t, ↓iJeq_f, ↓iZlt_t, ↓iZlt_f, ↓iZle_t, ↓iZle_f, ↓iZeq_t, ↓iZeq_f, ↓iQlt_t, ↓iQlt_f, ↓iQle_t, ↓iQle_f, ↓iQeq_t, ↓iQeq_f, ↓iAnd_t, ↓iAnd_f, ↓iOr_t, ↓iOr_f, ↓iIff_t, ↓iIff_f, ↓iNot_t, ↓iNot_f, ↓iTrue, ↓iFalse, ↓ckN, ↓ckJ, ↓gIT, ↓gLT, ↓gRT, ↓cvT, ↓pIT, ↓pLT, ↓pZT, ↓asZ, ↓aNT, ↓arL, ↓asL, ↓arI, ↓asI, ↓aR_1, ↓bnd_some, ↓wh_eq, ↓on_some, ↓on_none, asZ, arL, asL, arI, asI, aR_1, bnd_some, wh_eq, on_some, on_none, tnT, tnU, tnL, nk, jk, N_add, N_mul, N_sub, N_neg, J_add, J_mul, J_sub, J_neg, N_J, ↓cv_q st.1.1, ↓bq Z1, ↓bq (q_leastFree r.t), f1]
        · unfold fX9_turn
          rw [cv_q s9T, g, bnd_some, if_pos rfl]
          simp only [nk]
          simp (disch := omega) only [↓iNlt_t, ↓iNlt_f, ↓iNle_t, ↓iNle_f, ↓iNeq_t, ↓iNeq_f, ↓iJlt_t, ↓iJlt_f, ↓iJle_t, ↓iJle_f, ↓iJeq_t, ↓iJeq_f, ↓iZlt_t, ↓iZlt_f, ↓iZle_t, ↓iZle_f, ↓iZeq_t, ↓iZeq_f, ↓iQlt_t, ↓iQlt_f, ↓iQle_t, ↓iQle_f, ↓iQeq_t, ↓iQeq_f, ↓iAnd_t, ↓iAnd_f, ↓iOr_t, ↓iOr_f, ↓iIff_t, ↓iIff_f, ↓iNot_t, ↓iNot_f, ↓iTrue, ↓iFalse, ↓ckN, ↓ckJ, ↓gIT, ↓gLT, ↓gRT, ↓cvT, ↓pIT, ↓pLT, ↓pZT, ↓asZ, ↓aNT, ↓arL, ↓asL, ↓arI, ↓asI, ↓aR_1, ↓bnd_some, ↓wh_eq, ↓on_some, ↓on_none, asZ, arL, asL, arI, asI, aR_1, bnd_some, wh_eq, on_some, on_none, tnT, tnU, tnL, nk, jk, N_add, N_mul, N_sub, N_neg, J_add, J_mul, J_sub, J_neg, N_J, ↓bq Z2]
      · have X1 := q_isExactC (i := i) (l := l) (x := x) (y := y) St_2 st (by omega) (by omega) (fun z1 z2 => by omega)
        have nF : ∀ i1 l1 : Nat → Nat → Int, (∀ c, 108 ≤ c → i1 c = i c ∧ l1 c = l c) → i1 108 10 = i 108 10 ∧ i1 110 s = i 110 s := fun i1 l1 hc => by rw [(hc 108 (by omega)).1, (hc 110 (by omega)).1]; exact ⟨rfl, rfl⟩
        by_cases cE : i 110 s ≤ 1
        · -- exact
          rw [ibT (show (i 2 2 ≤ 1 ∧ i (2 * s + 28) 2 ≤ 1) ∧ (i 2 2 = 0 ∨ i (2 * s + 28) 2 = 0 ∨ l 2 8 = l (2 * s + 28) 8) from ⟨⟨by omega, by omega⟩, Or.inl o0⟩)] at X1
          obtain ⟨⟨fe, ff, fg⟩, gp, nq, z0, z1⟩ := sd.num cE
          have d1 : ¬ far 1 := by decide
          have d0 : ¬ far 0 := by decide
          have hnr : ∃ nr, (if i 110 s = 1 then l 115 (4 * s + 2) else 2) = nr ∧ (0 ≤ nr ∧ nr ≤ 10000000) ∧ (l (2 * s + 28) 8 = nr ∨ i 110 s = 0) := by
            by_cases q : i 110 s = 1
            · rw [if_pos q]
              have := (z1 q).1.2.2.1
              exact ⟨_, rfl, by omega, Or.inl (by omega)⟩
            · rw [if_neg q]
              exact ⟨2, rfl, by omega, Or.inr (by omega)⟩
          obtain ⟨nr, hnr, nr1, nr2⟩ := hnr
          have W := q_work (i := i) (l := l) (x := x) (y := y) St_2 st (by omega) (how := 3) (by omega) o1 o2 o4 rfl rfl rfl (by omega) (by omega) (if_neg (by omega)) d1 d0 d1 fe ff fg (by omega)
          have RXh := rx_all (how := 3) (a := 1) (b := 0) (d := 1) (e := l (2 * s + 28) 6) (f := l (2 * s + 28) 7) (g := l (2 * s + 28) 9) (nc := l (2 * s + 28) 8) (nr := nr) (r := i (2 * s + 28) 2) (by omega) (by omega) d1 d0 d1 fe ff fg (by omega) (by omega) (by
            rcases nr2 with z | z
            · exact Or.inl z
            · exact Or.inr ⟨Or.inl rfl, by omega⟩)
          have oA : ok64 (wA 3 1 1 0 (l (2 * s + 28) 6) (l (2 * s + 28) 9) (l (2 * s + 28) 7) (l (2 * s + 28) 8) (i (2 * s + 28) 2)) := by
            unfold wA
            rw [if_neg (by decide), if_neg (by decide), if_neg (by decide)]
            split
            · exact tm_ok _ _
            · exact tm_ok _ _
          have oB : ok64 (wB 3 1 1 0 (l (2 * s + 28) 6) (l (2 * s + 28) 9) (l (2 * s + 28) 7) (i (2 * s + 28) 2)) := by
            unfold wB
            rw [if_neg (by decide), if_neg (by decide), if_neg (by decide)]
            split
            · exact tm_ok _ _
            · exact tm_ok _ _
          have oD : ok64 (wD 3 1 (l (2 * s + 28) 6) (l (2 * s + 28) 9) (l (2 * s + 28) 7) (l (2 * s + 28) 8) (i (2 * s + 28) 2)) := by
            unfold wD
            rw [if_neg (by decide)]
            split
            · exact tm_ok _ _
            · exact tm_ok _ _
          have hB0 : wB 3 1 1 0 (l (2 * s + 28) 6) (l (2 * s + 28) 9) (l (2 * s + 28) 7) (i (2 * s + 28) 2) ≠ 0 → 2 ≤ l (2 * s + 28) 8 ∧ (∀ m : Int, m * m ≠ l (2 * s + 28) 8) ∧ l (2 * s + 28) 8 = nr := by
            intro hB
            by_cases q : i 110 s = 0
            · exfalso
              apply hB
              unfold wB
              rw [if_neg (by decide), if_neg (by decide), if_neg (by decide), if_pos (by omega), (tm_0n fg).1]
            · have q3 : i 110 s = 1 := by omega
              obtain ⟨-, -, ⟨-, w1'⟩, -, w2⟩ := (z1 q3).2
              exact ⟨w1', w2, by omega⟩
          have hDz := wD_ne (how := 3) (d := 1) (e := l (2 * s + 28) 6) (g := l (2 * s + 28) 9) (f := l (2 * s + 28) 7) (n := l (2 * s + 28) 8) (r := i (2 * s + 28) 2) (by omega) (by omega) (by omega) d1 fe fg ff (by omega) (fun _ q2 z => c3 ⟨q2, z⟩) (fun _ q2 => by
            have q3 : i 110 s = 1 := by omega
            obtain ⟨-, -, ⟨wb, -⟩, -, w2⟩ := (z1 q3).2
            exact ⟨wb, w2⟩)
          obtain ⟨v, i1, l1, i2, l2, E1, E2, R2, hc⟩ := T_exact (x := x) (y := y) r f2 f3 f4 oA oB oD nq nr1 hB0 (fun z => hDz (fun w => z (Or.inr (Or.inr w)))) RXh
          refine ⟨v, i1, l1, x, y, i2, l2, x, y, ?_, ?_, R2⟩
          · have s7 : S0 7 = some (3, 0) := by simp only [shT]
            unfold fX8_turn
            rw [cv_q s0T, f, bnd_some, on_some]
            simp only [nk]
            simp (disch := omega) only [↓iNlt_t, ↓iNlt_f, ↓iNle_t, ↓iNle_f, ↓iNeq_t, ↓iNeq_f, ↓iJlt_t, ↓iJlt_f, ↓iJle_t, ↓iJle_f, ↓iJeq_t, ↓iJeq_f, ↓iZlt_t, ↓iZlt_f, ↓iZle_t, ↓iZle_f, ↓iZeq_t, ↓iZeq_f, ↓iQlt_t, ↓iQlt_f, ↓iQle_t, ↓iQle_f, ↓iQeq_t, ↓iQeq_f, ↓iAnd_t, ↓iAnd_f, ↓iOr_t, ↓iOr_f, ↓iIff_t, ↓iIff_f, ↓iNot_t, ↓iNot_f, ↓iTrue, ↓iFalse, ↓ckN, ↓ckJ, ↓gIT, ↓gLT, ↓gRT, ↓cvT, ↓pIT, ↓pLT, ↓pZT, ↓asZ, ↓aNT, ↓arL, ↓asL, ↓arI, ↓asI, ↓aR_1, ↓bnd_some, ↓wh_eq, ↓on_some, ↓on_none, asZ, arL, asL, arI, asI, aR_1, bnd_some, wh_eq, on_some, on_none, tnT, tnU, tnL, nk, jk, N_add, N_mul, N_sub, N_neg, J_add, J_mul, J_sub, J_neg, N_J, ↓cv_q st.1.1, ↓bq Z1, ↓bq (q_leastFree r.t), f1, ↓bq X1, ↓bq W, ↓bq E1]
          · have Z2 := Z2 i1 l1 hc x y
            rw [ibF c3] at Z2
            obtain ⟨e10, e11⟩ := nF i1 l1 hc
            have Q := q_turn62 (i := i1) (l := l1) (x := x) (y := y) hs (e := l (2 * s + 28) 6) (f := l (2 * s + 28) 7) (g := l (2 * s + 28) 9) (n := nr) (by rw [e11]; omega)
              (by
                rw [(hc 115 (by omega)).2]
                by_cases q : i 110 s = 0
                · exact (z0 q).2.2.1
                · exact (z1 (by omega)).1.1)
              (by
                rw [e11, (hc 115 (by omega)).2]
                by_cases q : i 110 s = 0
                · rw [if_neg (by omega)]; exact (z0 q).1.symm
                · rw [if_pos (by omega)]; exact (z1 (by omega)).1.2.1)
              (by
                rw [e11, (hc 115 (by omega)).2]
                by_cases q : i 110 s = 0
                · rw [if_neg (by omega)]; exact (z0 q).2.2.2
                · rw [if_pos (by omega)]; exact (z1 (by omega)).1.2.2.2)
              (by rw [e11, (hc 115 (by omega)).2]; exact hnr)
            rw [e11, ← k1, E2, k1] at Q
            unfold fX9_turn
            rw [cv_q s9T, NS i1 l1 hc x y, bnd_some, if_pos rfl]
            simp only [nk]
            by_cases q : i 110 s = 1
            · rw [q] at Q
              simp (disch := omega) only [↓iNlt_t, ↓iNlt_f, ↓iNle_t, ↓iNle_f, ↓iNeq_t, ↓iNeq_f, ↓iJlt_t, ↓iJlt_f, ↓iJle_t, ↓iJle_f, ↓iJeq_t, ↓iJeq_f, ↓iZlt_t, ↓iZlt_f, ↓iZle_t, ↓iZle_f, ↓iZeq_t, ↓iZeq_f, ↓iQlt_t, ↓iQlt_f, ↓iQle_t, ↓iQle_f, ↓iQeq_t, ↓iQeq_f, ↓iAnd_t, ↓iAnd_f, ↓iOr_t, ↓iOr_f, ↓iIff_t, ↓iIff_f, ↓iNot_t, ↓iNot_f, ↓iTrue, ↓iFalse, ↓ckN, ↓ckJ, ↓gIT, ↓gLT, ↓gRT, ↓cvT, ↓pIT, ↓pLT, ↓pZT, ↓asZ, ↓aNT, ↓arL, ↓asL, ↓arI, ↓asI, ↓aR_1, ↓bnd_some, ↓wh_eq, ↓on_some, ↓on_none, asZ, arL, asL, arI, asI, aR_1, bnd_some, wh_eq, on_some, on_none, tnT, tnU, tnL, nk, jk, N_add, N_mul, N_sub, N_neg, J_add, J_mul, J_sub, J_neg, N_J, ↓bq Z2, e10, e11, q, Q]
            · rw [show i 110 s = 0 by omega] at Q
              simp (disch := omega) only [↓iNlt_t, ↓iNlt_f, ↓iNle_t, ↓iNle_f, ↓iNeq_t, ↓iNeq_f, ↓iJlt_t, ↓iJlt_f, ↓iJle_t, ↓iJle_f, ↓iJeq_t, ↓iJeq_f, ↓iZlt_t, ↓iZlt_f, ↓iZle_t, ↓iZle_f, ↓iZeq_t, ↓iZeq_f, ↓iQlt_t, ↓iQlt_f, ↓iQle_t, ↓iQle_f, ↓iQeq_t, ↓iQeq_f, ↓iAnd_t, ↓iAnd_f, ↓iOr_t, ↓iOr_f, ↓iIff_t, ↓iIff_f, ↓iNot_t, ↓iNot_f, ↓iTrue, ↓iFalse, ↓ckN, ↓ckJ, ↓gIT, ↓gLT, ↓gRT, ↓cvT, ↓pIT, ↓pLT, ↓pZT, ↓asZ, ↓aNT, ↓arL, ↓asL, ↓arI, ↓asI, ↓aR_1, ↓bnd_some, ↓wh_eq, ↓on_some, ↓on_none, asZ, arL, asL, arI, asI, aR_1, bnd_some, wh_eq, on_some, on_none, tnT, tnU, tnL, nk, jk, N_add, N_mul, N_sub, N_neg, J_add, J_mul, J_sub, J_neg, N_J, ↓bq Z2, e10, e11, Q]
        · -- made
          rw [ibF (show ¬ ((i 2 2 ≤ 1 ∧ i (2 * s + 28) 2 ≤ 1) ∧ (i 2 2 = 0 ∨ i (2 * s + 28) 2 = 0 ∨ l 2 8 = l (2 * s + 28) 8)) from fun z => by omega)] at X1
          have hne : ¬ (i 112 s = 1 ∧ i 112 s = 1) := by
            rintro ⟨z1, z2⟩
            have := en1 (by omega)
            omega
          have SA : fX1_startWithAct 12 (N 4) (hq i l x y) = some ((), hq i (wr l 15 (fl (vAct (4 : Nat)) (l 15) 8)) x y) := q_startAct (h := 4) (by omega)
          obtain ⟨i1, l1, x1, y1, E1, hc, E2⟩ := T_make (x := x) (y := y) (lc := wr l 15 (fl (vAct (4 : Nat)) (l 15) 8)) r f2 f3 f4 hs hs h1 h1 hne (v := vAct (4 : Nat)) (vAct_nf (by omega)) (fun j hj => by rw [wr_s, fl, if_pos hj]) (fun c hc => wr_n _ _ hc)
          obtain ⟨lr, q1, q2, q3⟩ := r_turn173 (i := i1) (l := l1) (x := x1) (y := y1) (s := s)
          obtain ⟨i2, l2, E3, R2⟩ := E2 lr q1 q2
          refine ⟨J u, i1, l1, x1, y1, i2, l2, x1, y1, ?_, ?_, R2⟩
          · unfold fX8_turn
            rw [cv_q s0T, f, bnd_some, on_some]
            simp only [nk]
            simp (disch := omega) only [↓iNlt_t, ↓iNlt_f, ↓iNle_t, ↓iNle_f, ↓iNeq_t, ↓iNeq_f, ↓iJlt_t, ↓iJlt_f, ↓iJle_t, ↓iJle_f, ↓iJeq_t, ↓iJeq_f, ↓iZlt_t, ↓iZlt_f, ↓iZle_t, ↓iZle_f, ↓iZeq_t, ↓iZeq_f, ↓iQlt_t, ↓iQlt_f, ↓iQle_t, ↓iQle_f, ↓iQeq_t, ↓iQeq_f, ↓iAnd_t, ↓iAnd_f, ↓iOr_t, ↓iOr_f, ↓iIff_t, ↓iIff_f, ↓iNot_t, ↓iNot_f, ↓iTrue, ↓iFalse, ↓ckN, ↓ckJ, ↓gIT, ↓gLT, ↓gRT, ↓cvT, ↓pIT, ↓pLT, ↓pZT, ↓asZ, ↓aNT, ↓arL, ↓asL, ↓arI, ↓asI, ↓aR_1, ↓bnd_some, ↓wh_eq, ↓on_some, ↓on_none, asZ, arL, asL, arI, asI, aR_1, bnd_some, wh_eq, on_some, on_none, tnT, tnU, tnL, nk, jk, N_add, N_mul, N_sub, N_neg, J_add, J_mul, J_sub, J_neg, N_J, ↓cv_q st.1.1, ↓bq Z1, ↓bq (q_leastFree r.t), f1, ↓bq X1, ↓bq SA]
            exact E1
          · have Z2 := Z2 i1 l1 hc x1 y1
            rw [ibF c3] at Z2
            obtain ⟨e10, e11⟩ := nF i1 l1 hc
            unfold fX9_turn
            rw [cv_q s9T, NS i1 l1 hc x1 y1, bnd_some, if_pos rfl]
            simp only [nk]
            simp (disch := omega) only [↓iNlt_t, ↓iNlt_f, ↓iNle_t, ↓iNle_f, ↓iNeq_t, ↓iNeq_f, ↓iJlt_t, ↓iJlt_f, ↓iJle_t, ↓iJle_f, ↓iJeq_t, ↓iJeq_f, ↓iZlt_t, ↓iZlt_f, ↓iZle_t, ↓iZle_f, ↓iZeq_t, ↓iZeq_f, ↓iQlt_t, ↓iQlt_f, ↓iQle_t, ↓iQle_f, ↓iQeq_t, ↓iQeq_f, ↓iAnd_t, ↓iAnd_f, ↓iOr_t, ↓iOr_f, ↓iIff_t, ↓iIff_f, ↓iNot_t, ↓iNot_f, ↓iTrue, ↓iFalse, ↓ckN, ↓ckJ, ↓gIT, ↓gLT, ↓gRT, ↓cvT, ↓pIT, ↓pLT, ↓pZT, ↓asZ, ↓aNT, ↓arL, ↓asL, ↓arI, ↓asI, ↓aR_1, ↓bnd_some, ↓wh_eq, ↓on_some, ↓on_none, asZ, arL, asL, arI, asI, aR_1, bnd_some, wh_eq, on_some, on_none, tnT, tnU, tnL, nk, jk, N_add, N_mul, N_sub, N_neg, J_add, J_mul, J_sub, J_neg, N_J, ↓bq Z2, e10, e11]
            rw [q3, bq E3]
