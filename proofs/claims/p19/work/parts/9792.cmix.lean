/-! ===== mix ===== -/
theorem mix156_s (n : Nat) : fX9_mix_156L (n + 1) = fX9_mix_156 (fX9_mix_156L n) := rfl
section CM
variable {i l : Nat → Nat → Int} {x y : Option Nat}
theorem q_startWith : fX1_startWith 12 6 (hq i l x y) = some ((), hq i (wr l 15 (fl (l 6) (l 15) 8)) x y) := by
  have key : ∀ (m k q : Nat), k + m = 8 → m + 1 ≤ q → fX1_startWith_2L q 12 6 (N k) (hq i (wr l 15 (fl (l 6) (l 15) k)) x y) = some ((), hq i (wr l 15 (fl (l 6) (l 15) 8)) x y) := by
    intro m
    induction m with
    | zero =>
      intro k q hk hq'
      obtain ⟨z, rfl⟩ : ∃ z, q = z + 1 := ⟨q - 1, by omega⟩
      obtain rfl : k = 8 := by omega
      show fX1_startWith_2 (fX1_startWith_2L z) 12 6 _ _ = _
      unfold fX1_startWith_2
      simp only [nk, jk, N_add, N_mul, N_sub, N_neg, J_add, J_mul, J_sub, J_neg]
      simp (disch := omega) only [↓iNlt_t, ↓iNlt_f, ↓iNle_t, ↓iNle_f, ↓iNeq_t, ↓iNeq_f, ↓iJlt_t, ↓iJlt_f, ↓iJle_t, ↓iJle_f, ↓iJeq_t, ↓iJeq_f, ↓iZlt_t, ↓iZlt_f, ↓iZle_t, ↓iZle_f, ↓iZeq_t, ↓iZeq_f, ↓iQlt_t, ↓iQlt_f, ↓iQle_t, ↓iQle_f, ↓iQeq_t, ↓iQeq_f, ↓iAnd_t, ↓iAnd_f, ↓iOr_t, ↓iOr_f, ↓iIff_t, ↓iIff_f, ↓iNot_t, ↓iNot_f, ↓iTrue, ↓iFalse, ↓ckN, ↓ckJ, ↓gIT, ↓gLT, ↓gRT, ↓cvT, ↓pIT, ↓pLT, ↓pZT, ↓asZ, ↓aNT, ↓arL, ↓asL, ↓arI, ↓asI, ↓aR_1, ↓bnd_some, ↓wh_eq, ↓on_some, ↓on_none, asZ, arL, asL, arI, asI, aR_1, bnd_some, wh_eq, on_some, on_none, tnT, tnU, tnL, nk, jk, N_add, N_mul, N_sub, N_neg, J_add, J_mul, J_sub, J_neg, N_J]
    | succ m ih =>
      intro k q hk hq'
      obtain ⟨z, rfl⟩ : ∃ z, q = z + 1 := ⟨q - 1, by omega⟩
      have ih := ih (k + 1) z (by omega) (by omega)
      have e := w1_fl l 15 k (l 6) (l 15)
      have e6 : wr l 15 (fl (l 6) (l 15) k) 6 k = l 6 k := by rw [wr_n _ _ (by omega)]
      have s12 : S0 12 = some (1, 0) := by simp only [shT]
      show fX1_startWith_2 (fX1_startWith_2L z) 12 6 _ _ = _
      unfold fX1_startWith_2
      simp only [nk, jk, N_add, N_mul, N_sub, N_neg, J_add, J_mul, J_sub, J_neg]
      simp (disch := omega) only [↓iNlt_t, ↓iNlt_f, ↓iNle_t, ↓iNle_f, ↓iNeq_t, ↓iNeq_f, ↓iJlt_t, ↓iJlt_f, ↓iJle_t, ↓iJle_f, ↓iJeq_t, ↓iJeq_f, ↓iZlt_t, ↓iZlt_f, ↓iZle_t, ↓iZle_f, ↓iZeq_t, ↓iZeq_f, ↓iQlt_t, ↓iQlt_f, ↓iQle_t, ↓iQle_f, ↓iQeq_t, ↓iQeq_f, ↓iAnd_t, ↓iAnd_f, ↓iOr_t, ↓iOr_f, ↓iIff_t, ↓iIff_f, ↓iNot_t, ↓iNot_f, ↓iTrue, ↓iFalse, ↓ckN, ↓ckJ, ↓gIT, ↓gLT, ↓gRT, ↓cvT, ↓pIT, ↓pLT, ↓pZT, ↓asZ, ↓aNT, ↓arL, ↓asL, ↓arI, ↓asI, ↓aR_1, ↓bnd_some, ↓wh_eq, ↓on_some, ↓on_none, asZ, arL, asL, arI, asI, aR_1, bnd_some, wh_eq, on_some, on_none, tnT, tnU, tnL, nk, jk, N_add, N_mul, N_sub, N_neg, J_add, J_mul, J_sub, J_neg, N_J, e6, e]
      exact ih
  have := key 8 0 1000 (by omega) (by omega)
  rw [fl_0, wr_id] at this
  exact this
theorem r_mix156 {s t : Nat} : ∃ lr : Nat → Nat → Int, (∀ j, j < 8 → lr 121 j = l 120 j) ∧ (∀ c, c ≠ 121 → lr c = l c) ∧ fX9_mix_156L 1000 108 (N s) (N t) (N 0) (hq i l x y) = bnd (fX9_make 108 (N s) (N t) (hq i lr x y)) (fun x h => some (x, h)) := by
  refine ⟨wr l 121 (fl (l 120) (l 121) 8), fun j hj => by rw [wr_s, fl, if_pos hj], fun c hc => by rw [wr_n _ _ hc], ?_⟩
  have key : ∀ (m k q : Nat), k + m = 8 → m + 1 ≤ q → fX9_mix_156L q 108 (N s) (N t) (N k) (hq i (wr l 121 (fl (l 120) (l 121) k)) x y) = fX9_mix_183 108 (N s) (N t) (hq i (wr l 121 (fl (l 120) (l 121) 8)) x y) := by
    intro m
    induction m with
    | zero =>
      intro k q hk hq'
      obtain ⟨z, rfl⟩ : ∃ z, q = z + 1 := ⟨q - 1, by omega⟩
      obtain rfl : k = 8 := by omega
      rw [mix156_s]
      unfold fX9_mix_156
      simp only [nk, ctT]
      simp (disch := omega) only [↓iNlt_t, ↓iNlt_f, ↓iNle_t, ↓iNle_f, ↓iNeq_t, ↓iNeq_f, ↓iJlt_t, ↓iJlt_f, ↓iJle_t, ↓iJle_f, ↓iJeq_t, ↓iJeq_f, ↓iZlt_t, ↓iZlt_f, ↓iZle_t, ↓iZle_f, ↓iZeq_t, ↓iZeq_f, ↓iQlt_t, ↓iQlt_f, ↓iQle_t, ↓iQle_f, ↓iQeq_t, ↓iQeq_f, ↓iAnd_t, ↓iAnd_f, ↓iOr_t, ↓iOr_f, ↓iIff_t, ↓iIff_f, ↓iNot_t, ↓iNot_f, ↓iTrue, ↓iFalse, ↓ckN, ↓ckJ, ↓gIT, ↓gLT, ↓gRT, ↓cvT, ↓pIT, ↓pLT, ↓pZT, ↓asZ, ↓aNT, ↓arL, ↓asL, ↓arI, ↓asI, ↓aR_1, ↓bnd_some, ↓wh_eq, ↓on_some, ↓on_none, asZ, arL, asL, arI, asI, aR_1, bnd_some, wh_eq, on_some, on_none, tnT, tnU, tnL, nk, jk, N_add, N_mul, N_sub, N_neg, J_add, J_mul, J_sub, J_neg, N_J]
    | succ m ih =>
      intro k q hk hq'
      obtain ⟨z, rfl⟩ : ∃ z, q = z + 1 := ⟨q - 1, by omega⟩
      have ih := ih (k + 1) z (by omega) (by omega)
      have e := w1_fl l 121 k (l 120) (l 121)
      have e6 : wr l 121 (fl (l 120) (l 121) k) 120 k = l 120 k := by rw [wr_n _ _ (by omega)]
      rw [mix156_s]
      unfold fX9_mix_156
      simp only [nk, jk, N_add, N_mul, N_sub, N_neg, J_add, J_mul, J_sub, J_neg]
      simp (disch := omega) only [↓iNlt_t, ↓iNlt_f, ↓iNle_t, ↓iNle_f, ↓iNeq_t, ↓iNeq_f, ↓iJlt_t, ↓iJlt_f, ↓iJle_t, ↓iJle_f, ↓iJeq_t, ↓iJeq_f, ↓iZlt_t, ↓iZlt_f, ↓iZle_t, ↓iZle_f, ↓iZeq_t, ↓iZeq_f, ↓iQlt_t, ↓iQlt_f, ↓iQle_t, ↓iQle_f, ↓iQeq_t, ↓iQeq_f, ↓iAnd_t, ↓iAnd_f, ↓iOr_t, ↓iOr_f, ↓iIff_t, ↓iIff_f, ↓iNot_t, ↓iNot_f, ↓iTrue, ↓iFalse, ↓ckN, ↓ckJ, ↓gIT, ↓gLT, ↓gRT, ↓cvT, ↓pIT, ↓pLT, ↓pZT, ↓asZ, ↓aNT, ↓arL, ↓asL, ↓arI, ↓asI, ↓aR_1, ↓bnd_some, ↓wh_eq, ↓on_some, ↓on_none, asZ, arL, asL, arI, asI, aR_1, bnd_some, wh_eq, on_some, on_none, tnT, tnU, tnL, nk, jk, N_add, N_mul, N_sub, N_neg, J_add, J_mul, J_sub, J_neg, N_J, e6, e]
      exact ih
  have := key 8 0 1000 (by omega) (by omega)
  rw [fl_0, wr_id] at this
  refine Eq.trans this ?_
  unfold fX9_mix_183
  rw [cv_q s9T]
/-- a ratio that is worked out, placed in both -/
theorem T_ratio (r : Rel i l) {s : Nat} (f2 : lfr (i 109) 40 0 = s) (f3 : s < 40) (f4 : i 109 s = 0) {A D : Int} (oA : ok64 A) (oD : ok64 D) (fA : ¬ far A) (fD : ¬ far D) (hD0 : D ≠ 0) :
    ∃ (i1 l1 i2 l2 : Nat → Nat → Int), fX8_placeOutcome 0 (N s) (hq i (oc l 7 A 0 0 D) x y) = some (J s, hq i1 l1 x y) ∧ fX9_newRatio 108 (J A) (J D) (hq (w1 i1 108 0 0) l1 x y) = some (N s, hq i2 l2 x y) ∧ Rel i2 l2 ∧ ∀ c, 108 ≤ c → i1 c = i c ∧ l1 c = l c := by
  have hP := q_placeOutcome (i := i) (l := oc l 7 A 0 0 D) (x := x) (y := y) f3 (oc_0 _ _ _ _ _ _) (oc_1 _ _ _ _ _ _) (oc_2 _ _ _ _ _ _) (oc_3 _ _ _ _ _ _) oA (by omega) oD (by omega) (fun z => absurd rfl z)
  have ro : ∀ a b n d, Rel i (oc l 7 a b n d) := fun a b n d => r.outc (Or.inl rfl) a b n d
  rw [if_neg (show ¬ (far A ∨ far 0 ∨ far D ∨ D = 0) by omega), Int.zero_tdiv, if_pos rfl] at hP
  obtain ⟨dd1, dd2⟩ := lsg_ok (a := A) (b := 0) (d := D) fD hD0
  have fa := tdiv_far (a := A) (s := lsg A 0 D) fA
  have i9 : ∀ v, w1 (crI i s (A.tdiv (lsg A 0 D)) (D.tdiv (lsg A 0 D))) 108 0 v 109 = i 109 := fun v => by rw [w1_r _ _ _ (by omega)]; funext j; rw [crI_n _ _ _ _ (by omega)]
  have Q := fun v lq => q_newRatio (i := w1 (crI i s (A.tdiv (lsg A 0 D)) (D.tdiv (lsg A 0 D))) 108 0 v) (l := lq) (x := x) (y := y) (s := s) (by rw [i9]; exact r.m) (by rw [i9]; exact f2) f3 fA fD hD0
  rw [← lsg_rby] at Q
  generalize A.tdiv (lsg A 0 D) = U at *
  generalize D.tdiv (lsg A 0 D) = V at *
  refine ⟨crI i s U V, crL (oc (oc l 7 A 0 0 D) 7 U 0 0 V) s U V, mrI (w1 (crI i s U V) 108 0 0) s U V, mrL (crL (oc (oc l 7 A 0 0 D) 7 U 0 0 V) s U V) s U V, hP, Q 0 _, ?_, fun c hc => ⟨by funext j; rw [crI_n _ _ _ _ (by omega)], by rw [crL_n _ _ _ _ (by omega) (by omega), oc_n _ _ _ _ _ (by omega), oc_n _ _ _ _ _ (by omega)]⟩⟩
  rw [mrI_w, oc_oc]
  exact ((ro _ _ _ _).ratio f3 f4 fa (by omega) dd2).aside (Or.inl rfl) (fun c hc => rfl)
end CM
theorem c_mix (b c : Int32) : Agree (fX8_mix 0 b c) (fX9_mix 108 b c) := by
  intro i l x y r
  rcases r.who (x := x) (y := y) b with ⟨f, g⟩ | ⟨s, hs, rfl, h1, sd, f, g⟩
  · rcases r.who (x := x) (y := y) c with ⟨f', g'⟩ | ⟨t, ht, rfl, h1', sd', f', g'⟩
    · refine agree_of (-2000000000000000001) r ?_ ?_
      · unfold fX8_mix
        rw [cv_q s0T, f, bnd_some, on_none, cv_q s0T, f', bnd_some, on_none]
      · unfold fX9_mix
        rw [cv_q s9T, g, bnd_some, if10]
    · refine agree_of (-2000000000000000001) r ?_ ?_
      · unfold fX8_mix
        rw [cv_q s0T, f, bnd_some, on_none, cv_q s0T, f', bnd_some, on_some]
      · unfold fX9_mix
        rw [cv_q s9T, g, bnd_some, if10]
  · rcases r.who (x := x) (y := y) c with ⟨f', g'⟩ | ⟨t, ht, rfl, h1', td, f', g'⟩
    · refine agree_of (-2000000000000000001) r ?_ ?_
      · unfold fX8_mix
        rw [cv_q s0T, f, bnd_some, on_some, cv_q s0T, f', bnd_some, on_none]
      · unfold fX9_mix
        rw [cv_q s9T, g, bnd_some, if_pos rfl, cv_q s9T, g', bnd_some, if10]
    · have st := St_s hs
      have st' := St_s ht
      have s7 : S0 7 = some (3, 0) := by simp only [shT]
      obtain ⟨⟨k1, k2, k3⟩, -, -, -, -, ⟨-, en1⟩, ra, ro⟩ := id sd
      obtain ⟨⟨k1', k2', k3'⟩, -, -, -, -, ⟨-, en2⟩, ra', ro'⟩ := id td
      have r6 := r.2.2.2.1
      have NS : ∀ i1 l1 : Nat → Nat → Int, (∀ c, 108 ≤ c → i1 c = i c ∧ l1 c = l c) → ∀ x1 y1, fX9_noStream 108 (N s) (hq i1 l1 x1 y1) = some (0, hq i1 l1 x1 y1) ∧ fX9_noStream 108 (N t) (hq i1 l1 x1 y1) = some (0, hq i1 l1 x1 y1) := fun i1 l1 hc x1 y1 => by
        have e1 := q_noStream (i := i1) (l := l1) (x := x1) (y := y1) (s := (s : Int)) (by rw [(hc 109 (by omega)).1]; exact r.m) (by omega) (by omega)
        have e2 := q_noStream (i := i1) (l := l1) (x := x1) (y := y1) (s := (t : Int)) (by rw [(hc 109 (by omega)).1]; exact r.m) (by omega) (by omega)
        rw [(tnT s).1, (hc 109 (by omega)).1, if_pos (by omega)] at e1
        rw [(tnT t).1, (hc 109 (by omega)).1, if_pos (by omega)] at e2
        exact ⟨e1, e2⟩
      have nF : ∀ i1 l1 : Nat → Nat → Int, (∀ c, 108 ≤ c → i1 c = i c ∧ l1 c = l c) → i1 108 10 = i 108 10 ∧ i1 110 s = i 110 s ∧ i1 110 t = i 110 t := fun i1 l1 hc => by rw [(hc 108 (by omega)).1, (hc 110 (by omega)).1]; exact ⟨rfl, rfl, rfl⟩
      by_cases cR : i 110 s = 0 ∧ i 110 t = 0
      · -- two ratios
        obtain ⟨c1, c2⟩ := cR
        obtain ⟨⟨fa, -, fd⟩, -, -, z0, -⟩ := sd.num (by omega)
        obtain ⟨⟨fe, -, fg⟩, -, -, z0', -⟩ := td.num (by omega)
        obtain ⟨-, -, a1, a2⟩ := z0 c1
        obtain ⟨-, -, a3, a4⟩ := z0' c2
        obtain ⟨q0, q1, q2, q3, q4, q5, q6, q7⟩ := all8.mp r6
        have g0 : ∀ {v : Int}, v.natAbs ≤ 1000000 → ¬ far v := fun h => by omega
        have C0 := q_mixed0 (i := i) (l := l) (x := x) (y := y) st st' q0.1 q1.1 q2.1 q3.1 rfl rfl rfl rfl (g0 q0.2) (g0 q1.2) (g0 q2.2) (g0 q3.2) fa fd fe fg
        have C4 := q_mixed4 (i := i) (l := l) (x := x) (y := y) st st' q4.1 q5.1 q6.1 q7.1 rfl rfl rfl rfl (g0 q4.2) (g0 q5.2) (g0 q6.2) (g0 q7.2) fa fd fe fg
        have M0 : ∀ i1 l1 : Nat → Nat → Int, l1 115 = l 115 → l1 120 = l 120 → ∀ x1 y1, _ := fun i1 l1 e1 e2 x1 y1 => r_mixed0 (i := i1) (l := l1) (x := x1) (y := y1) hs ht (by rw [e2]) (by rw [e2]) (by rw [e2]) (by rw [e2]) (by rw [e1]; exact a1) (by rw [e1]; exact a2) (by rw [e1]; exact a3) (by rw [e1]; exact a4) (g0 q0.2) (g0 q1.2) (g0 q2.2) (g0 q3.2) fa fd fe fg
        have M4 : ∀ i1 l1 : Nat → Nat → Int, l1 115 = l 115 → l1 120 = l 120 → ∀ x1 y1, _ := fun i1 l1 e1 e2 x1 y1 => r_mixed4 (i := i1) (l := l1) (x := x1) (y := y1) hs ht (by rw [e2]) (by rw [e2]) (by rw [e2]) (by rw [e2]) (by rw [e1]; exact a1) (by rw [e1]; exact a2) (by rw [e1]; exact a3) (by rw [e1]; exact a4) (g0 q4.2) (g0 q5.2) (g0 q6.2) (g0 q7.2) fa fd fe fg
        have oA := mxV_ok (p := l 120 0) (q := l 120 1) (u := l 120 2) (w := l 120 3) (a := l (2 * s + 28) 6) (d := l (2 * s + 28) 9) (e := l (2 * t + 28) 6) (g := l (2 * t + 28) 9)
        have oD := mxV_ok (p := l 120 4) (q := l 120 5) (u := l 120 6) (w := l 120 7) (a := l (2 * s + 28) 6) (d := l (2 * s + 28) 9) (e := l (2 * t + 28) 6) (g := l (2 * t + 28) 9)
        generalize mxV (l 120 0) (l 120 1) (l 120 2) (l 120 3) (l (2 * s + 28) 6) (l (2 * s + 28) 9) (l (2 * t + 28) 6) (l (2 * t + 28) 9) = A at *
        generalize mxV (l 120 4) (l 120 5) (l 120 6) (l 120 7) (l (2 * s + 28) 6) (l (2 * s + 28) 9) (l (2 * t + 28) 6) (l (2 * t + 28) 9) = D at *
        have W : fX3_workMix 7 6 (2 * s + 28) (2 * t + 28) (hq i l x y) = some ((), hq i (oc l 7 A 0 0 D) x y) := by
          have B := q_become (i := i) (l := l) (x := x) (y := y) s7 A 0 0 D
          unfold fX3_workMix
          simp only [nk, jk]
          rw [bq C0, bq C4, cv_q s7, bq B]
        have CC : fX8_mix 0 (N s) (N t) (hq i l x y) = if D = 0 then some (-2000000000000000003, hq i (oc l 7 A 0 0 D) x y) else fX8_mix_83 0 (2 * s + 28) (2 * t + 28) (N 1) (hq i (oc l 7 A 0 0 D) x y) := by
          have e3 := oc_3 l 7 A 0 0 D
          unfold fX8_mix
          rw [cv_q s0T, f, bnd_some, on_some, cv_q s0T, f', bnd_some, on_some]
          unfold fX8_mix_46
          simp only [nk, jk]
          by_cases cD : D = 0
          · rw [if_pos cD]
            simp (disch := omega) only [↓iNlt_t, ↓iNlt_f, ↓iNle_t, ↓iNle_f, ↓iNeq_t, ↓iNeq_f, ↓iJlt_t, ↓iJlt_f, ↓iJle_t, ↓iJle_f, ↓iJeq_t, ↓iJeq_f, ↓iZlt_t, ↓iZlt_f, ↓iZle_t, ↓iZle_f, ↓iZeq_t, ↓iZeq_f, ↓iQlt_t, ↓iQlt_f, ↓iQle_t, ↓iQle_f, ↓iQeq_t, ↓iQeq_f, ↓iAnd_t, ↓iAnd_f, ↓iOr_t, ↓iOr_f, ↓iIff_t, ↓iIff_f, ↓iNot_t, ↓iNot_f, ↓iTrue, ↓iFalse, ↓ckN, ↓ckJ, ↓gIT, ↓gLT, ↓gRT, ↓cvT, ↓pIT, ↓pLT, ↓pZT, ↓asZ, ↓aNT, ↓arL, ↓asL, ↓arI, ↓asI, ↓aR_1, ↓bnd_some, ↓wh_eq, ↓on_some, ↓on_none, asZ, arL, asL, arI, asI, aR_1, bnd_some, wh_eq, on_some, on_none, tnT, tnU, tnL, nk, jk, N_add, N_mul, N_sub, N_neg, J_add, J_mul, J_sub, J_neg, N_J, ↓gI_q st.1.1, ↓gI_q st'.1.1, ↓bq W, e3]
          · rw [if_neg cD]
            simp (disch := omega) only [↓iNlt_t, ↓iNlt_f, ↓iNle_t, ↓iNle_f, ↓iNeq_t, ↓iNeq_f, ↓iJlt_t, ↓iJlt_f, ↓iJle_t, ↓iJle_f, ↓iJeq_t, ↓iJeq_f, ↓iZlt_t, ↓iZlt_f, ↓iZle_t, ↓iZle_f, ↓iZeq_t, ↓iZeq_f, ↓iQlt_t, ↓iQlt_f, ↓iQle_t, ↓iQle_f, ↓iQeq_t, ↓iQeq_f, ↓iAnd_t, ↓iAnd_f, ↓iOr_t, ↓iOr_f, ↓iIff_t, ↓iIff_f, ↓iNot_t, ↓iNot_f, ↓iTrue, ↓iFalse, ↓ckN, ↓ckJ, ↓gIT, ↓gLT, ↓gRT, ↓cvT, ↓pIT, ↓pLT, ↓pZT, ↓asZ, ↓aNT, ↓arL, ↓asL, ↓arI, ↓asI, ↓aR_1, ↓bnd_some, ↓wh_eq, ↓on_some, ↓on_none, asZ, arL, asL, arI, asI, aR_1, bnd_some, wh_eq, on_some, on_none, tnT, tnU, tnL, nk, jk, N_add, N_mul, N_sub, N_neg, J_add, J_mul, J_sub, J_neg, N_J, ↓gI_q st.1.1, ↓gI_q st'.1.1, ↓bq W, e3]
        have ro7 : ∀ a b n d, Rel i (oc l 7 a b n d) := fun a b n d => r.outc (Or.inl rfl) a b n d
        have hc7 : ∀ c, 108 ≤ c → i c = i c ∧ oc l 7 A 0 0 D c = l c := fun c hc => ⟨rfl, oc_n _ _ _ _ _ (by omega)⟩
        have MM : ∀ i1 l1 : Nat → Nat → Int, (∀ c, 108 ≤ c → i1 c = i c ∧ l1 c = l c) → ∀ x1 y1, ∃ v : Int, fX9_mix 108 (N s) (N t) (hq i1 l1 x1 y1) = (if ¬ far D ∧ D = 0 then some (-2000000000000000003, hq (w1 i1 108 0 (ib (far D))) l1 x1 y1) else fX9_mix_99 108 (N s) (N t) (N 1) (J v) (N (ib (far D))) (hq (w1 i1 108 0 (ib (far D))) l1 x1 y1)) ∧ (¬ far D → v = D) := fun i1 l1 hc x1 y1 => by
          obtain ⟨n1, n2⟩ := NS i1 l1 hc x1 y1
          obtain ⟨e10, e11, e12⟩ := nF i1 l1 hc
          obtain ⟨v, m1, m2, m3⟩ := M4 i1 l1 (hc 115 (by omega)).2 (hc 120 (by omega)).2 x1 y1
          refine ⟨v, ?_, m2⟩
          unfold fX9_mix
          rw [cv_q s9T, n1, bnd_some, if_pos rfl, cv_q s9T, n2, bnd_some, if_pos rfl]
          unfold fX9_mix_59 fX9_mix_77
          simp only [nk, jk]
          by_cases cF : far D
          · rw [ibT cF] at m1 ⊢
            rw [if_neg (show ¬ (¬ far D ∧ D = 0) from fun z => z.1 cF)]
            simp (disch := omega) only [↓iNlt_t, ↓iNlt_f, ↓iNle_t, ↓iNle_f, ↓iNeq_t, ↓iNeq_f, ↓iJlt_t, ↓iJlt_f, ↓iJle_t, ↓iJle_f, ↓iJeq_t, ↓iJeq_f, ↓iZlt_t, ↓iZlt_f, ↓iZle_t, ↓iZle_f, ↓iZeq_t, ↓iZeq_f, ↓iQlt_t, ↓iQlt_f, ↓iQle_t, ↓iQle_f, ↓iQeq_t, ↓iQeq_f, ↓iAnd_t, ↓iAnd_f, ↓iOr_t, ↓iOr_f, ↓iIff_t, ↓iIff_f, ↓iNot_t, ↓iNot_f, ↓iTrue, ↓iFalse, ↓ckN, ↓ckJ, ↓gIT, ↓gLT, ↓gRT, ↓cvT, ↓pIT, ↓pLT, ↓pZT, ↓asZ, ↓aNT, ↓arL, ↓asL, ↓arI, ↓asI, ↓aR_1, ↓bnd_some, ↓wh_eq, ↓on_some, ↓on_none, asZ, arL, asL, arI, asI, aR_1, bnd_some, wh_eq, on_some, on_none, tnT, tnU, tnL, nk, jk, N_add, N_mul, N_sub, N_neg, J_add, J_mul, J_sub, J_neg, N_J, e11, e12, ↓bq m1, w1_s]
          · have hv := m2 cF
            subst hv
            rw [ibF cF] at m1 ⊢
            by_cases cD : v = 0
            · rw [if_pos (show ¬ far v ∧ v = 0 from ⟨cF, cD⟩)]
              simp (disch := omega) only [↓iNlt_t, ↓iNlt_f, ↓iNle_t, ↓iNle_f, ↓iNeq_t, ↓iNeq_f, ↓iJlt_t, ↓iJlt_f, ↓iJle_t, ↓iJle_f, ↓iJeq_t, ↓iJeq_f, ↓iZlt_t, ↓iZlt_f, ↓iZle_t, ↓iZle_f, ↓iZeq_t, ↓iZeq_f, ↓iQlt_t, ↓iQlt_f, ↓iQle_t, ↓iQle_f, ↓iQeq_t, ↓iQeq_f, ↓iAnd_t, ↓iAnd_f, ↓iOr_t, ↓iOr_f, ↓iIff_t, ↓iIff_f, ↓iNot_t, ↓iNot_f, ↓iTrue, ↓iFalse, ↓ckN, ↓ckJ, ↓gIT, ↓gLT, ↓gRT, ↓cvT, ↓pIT, ↓pLT, ↓pZT, ↓asZ, ↓aNT, ↓arL, ↓asL, ↓arI, ↓asI, ↓aR_1, ↓bnd_some, ↓wh_eq, ↓on_some, ↓on_none, asZ, arL, asL, arI, asI, aR_1, bnd_some, wh_eq, on_some, on_none, tnT, tnU, tnL, nk, jk, N_add, N_mul, N_sub, N_neg, J_add, J_mul, J_sub, J_neg, N_J, e11, e12, ↓bq m1, w1_s]
            · rw [if_neg (show ¬ (¬ far v ∧ v = 0) from fun z => cD z.2)]
              simp (disch := omega) only [↓iNlt_t, ↓iNlt_f, ↓iNle_t, ↓iNle_f, ↓iNeq_t, ↓iNeq_f, ↓iJlt_t, ↓iJlt_f, ↓iJle_t, ↓iJle_f, ↓iJeq_t, ↓iJeq_f, ↓iZlt_t, ↓iZlt_f, ↓iZle_t, ↓iZle_f, ↓iZeq_t, ↓iZeq_f, ↓iQlt_t, ↓iQlt_f, ↓iQle_t, ↓iQle_f, ↓iQeq_t, ↓iQeq_f, ↓iAnd_t, ↓iAnd_f, ↓iOr_t, ↓iOr_f, ↓iIff_t, ↓iIff_f, ↓iNot_t, ↓iNot_f, ↓iTrue, ↓iFalse, ↓ckN, ↓ckJ, ↓gIT, ↓gLT, ↓gRT, ↓cvT, ↓pIT, ↓pLT, ↓pZT, ↓asZ, ↓aNT, ↓arL, ↓asL, ↓arI, ↓asI, ↓aR_1, ↓bnd_some, ↓wh_eq, ↓on_some, ↓on_none, asZ, arL, asL, arI, asI, aR_1, bnd_some, wh_eq, on_some, on_none, tnT, tnU, tnL, nk, jk, N_add, N_mul, N_sub, N_neg, J_add, J_mul, J_sub, J_neg, N_J, e11, e12, ↓bq m1, w1_s]
        by_cases cD : D = 0
        · obtain ⟨v, m1, -⟩ := MM i (oc l 7 A 0 0 D) hc7 x y
          have cF : ¬ far D := by omega
          rw [if_pos ⟨cF, cD⟩, ibF cF] at m1
          rw [if_pos cD] at CC
          exact ⟨_, _, _, _, _, _, _, _, _, CC, m1, (ro7 _ _ _ _).aside (Or.inl rfl) (fun c hc => rfl)⟩
        · rw [if_neg cD] at CC
          rcases r.free with ⟨f1, f2⟩ | ⟨u, f1, f2, f3, f4, f5, f6⟩
          · obtain ⟨v, m1, -⟩ := MM i (oc l 7 A 0 0 D) hc7 x y
            rw [if_neg (fun z => cD z.2)] at m1
            refine ⟨-2000000000000000004, i, oc l 7 A 0 0 D, x, y, w1 i 108 0 (ib (far D)), oc l 7 A 0 0 D, x, y, ?_, ?_, (ro7 _ _ _ _).aside (by unfold ib; split; exact Or.inr rfl; exact Or.inl rfl) (fun c hc => rfl)⟩
            · rw [CC]
              unfold fX8_mix_83
              simp only [nk]
              simp (disch := omega) only [↓iNlt_t, ↓iNlt_f, ↓iNle_t, ↓iNle_f, ↓iNeq_t, ↓iNeq_f, ↓iJlt_t, ↓iJlt_f, ↓iJle_t, ↓iJle_f, ↓iJeq_t, ↓iJeq_f, ↓iZlt_t, ↓iZlt_f, ↓iZle_t, ↓iZle_f, ↓iZeq_t, ↓iZeq_f, ↓iQlt_t, ↓iQlt_f, ↓iQle_t, ↓iQle_f, ↓iQeq_t, ↓iQeq_f, ↓iAnd_t, ↓iAnd_f, ↓iOr_t, ↓iOr_f, ↓iIff_t, ↓iIff_f, ↓iNot_t, ↓iNot_f, ↓iTrue, ↓iFalse, ↓ckN, ↓ckJ, ↓gIT, ↓gLT, ↓gRT, ↓cvT, ↓pIT, ↓pLT, ↓pZT, ↓asZ, ↓aNT, ↓arL, ↓asL, ↓arI, ↓asI, ↓aR_1, ↓bnd_some, ↓wh_eq, ↓on_some, ↓on_none, asZ, arL, asL, arI, asI, aR_1, bnd_some, wh_eq, on_some, on_none, tnT, tnU, tnL, nk, jk, N_add, N_mul, N_sub, N_neg, J_add, J_mul, J_sub, J_neg, N_J, ↓bq (q_leastFree r.t), f1]
            · have e10 : w1 i 108 0 (ib (far D)) 108 10 = i 108 10 := by simp (disch := omega) only [w1_r, w1_n, w1_s, true_and, and_true]
              rw [m1]
              unfold fX9_mix_99
              simp only [nk]
              simp (disch := omega) only [↓iNlt_t, ↓iNlt_f, ↓iNle_t, ↓iNle_f, ↓iNeq_t, ↓iNeq_f, ↓iJlt_t, ↓iJlt_f, ↓iJle_t, ↓iJle_f, ↓iJeq_t, ↓iJeq_f, ↓iZlt_t, ↓iZlt_f, ↓iZle_t, ↓iZle_f, ↓iZeq_t, ↓iZeq_f, ↓iQlt_t, ↓iQlt_f, ↓iQle_t, ↓iQle_f, ↓iQeq_t, ↓iQeq_f, ↓iAnd_t, ↓iAnd_f, ↓iOr_t, ↓iOr_f, ↓iIff_t, ↓iIff_f, ↓iNot_t, ↓iNot_f, ↓iTrue, ↓iFalse, ↓ckN, ↓ckJ, ↓gIT, ↓gLT, ↓gRT, ↓cvT, ↓pIT, ↓pLT, ↓pZT, ↓asZ, ↓aNT, ↓arL, ↓asL, ↓arI, ↓asI, ↓aR_1, ↓bnd_some, ↓wh_eq, ↓on_some, ↓on_none, asZ, arL, asL, arI, asI, aR_1, bnd_some, wh_eq, on_some, on_none, tnT, tnU, tnL, nk, jk, N_add, N_mul, N_sub, N_neg, J_add, J_mul, J_sub, J_neg, N_J, e10]
          · by_cases cF : far A ∨ far D
            · obtain ⟨v, m1, -⟩ := MM i (oc l 7 A 0 0 D) hc7 x y
              rw [if_neg (fun z => cD z.2)] at m1
              obtain ⟨v0, m2, -, -⟩ := M0 (w1 i 108 0 (ib (far D))) (oc l 7 A 0 0 D) (oc_n _ _ _ _ _ (by omega)) (oc_n _ _ _ _ _ (by omega)) x y
              have hP := q_placeOutcome (i := i) (l := oc l 7 A 0 0 D) (x := x) (y := y) f3 (oc_0 _ _ _ _ _ _) (oc_1 _ _ _ _ _ _) (oc_2 _ _ _ _ _ _) (oc_3 _ _ _ _ _ _) oA (by omega) oD (by omega) (fun z => absurd rfl z)
              rw [if_pos (show far A ∨ far 0 ∨ far D ∨ D = 0 by omega)] at hP
              refine ⟨-2000000000000000005, i, oc l 7 A 0 0 D, x, y, w1 (w1 i 108 0 (ib (far D))) 108 0 (ib (far A)), oc l 7 A 0 0 D, x, y, ?_, ?_, ?_⟩
              · rw [CC]
                unfold fX8_mix_83
                simp only [nk]
                simp (disch := omega) only [↓iNlt_t, ↓iNlt_f, ↓iNle_t, ↓iNle_f, ↓iNeq_t, ↓iNeq_f, ↓iJlt_t, ↓iJlt_f, ↓iJle_t, ↓iJle_f, ↓iJeq_t, ↓iJeq_f, ↓iZlt_t, ↓iZlt_f, ↓iZle_t, ↓iZle_f, ↓iZeq_t, ↓iZeq_f, ↓iQlt_t, ↓iQlt_f, ↓iQle_t, ↓iQle_f, ↓iQeq_t, ↓iQeq_f, ↓iAnd_t, ↓iAnd_f, ↓iOr_t, ↓iOr_f, ↓iIff_t, ↓iIff_f, ↓iNot_t, ↓iNot_f, ↓iTrue, ↓iFalse, ↓ckN, ↓ckJ, ↓gIT, ↓gLT, ↓gRT, ↓cvT, ↓pIT, ↓pLT, ↓pZT, ↓asZ, ↓aNT, ↓arL, ↓asL, ↓arI, ↓asI, ↓aR_1, ↓bnd_some, ↓wh_eq, ↓on_some, ↓on_none, asZ, arL, asL, arI, asI, aR_1, bnd_some, wh_eq, on_some, on_none, tnT, tnU, tnL, nk, jk, N_add, N_mul, N_sub, N_neg, J_add, J_mul, J_sub, J_neg, N_J, ↓bq (q_leastFree r.t), f1, ↓bq hP]
              · have e10 : w1 i 108 0 (ib (far D)) 108 10 = i 108 10 := by simp (disch := omega) only [w1_r, w1_n, w1_s, true_and, and_true]
                rw [m1]
                unfold fX9_mix_99
                simp only [nk]
                by_cases cF2 : far D
                · rw [ibT cF2] at m2 e10 ⊢
                  simp (disch := omega) only [↓iNlt_t, ↓iNlt_f, ↓iNle_t, ↓iNle_f, ↓iNeq_t, ↓iNeq_f, ↓iJlt_t, ↓iJlt_f, ↓iJle_t, ↓iJle_f, ↓iJeq_t, ↓iJeq_f, ↓iZlt_t, ↓iZlt_f, ↓iZle_t, ↓iZle_f, ↓iZeq_t, ↓iZeq_f, ↓iQlt_t, ↓iQlt_f, ↓iQle_t, ↓iQle_f, ↓iQeq_t, ↓iQeq_f, ↓iAnd_t, ↓iAnd_f, ↓iOr_t, ↓iOr_f, ↓iIff_t, ↓iIff_f, ↓iNot_t, ↓iNot_f, ↓iTrue, ↓iFalse, ↓ckN, ↓ckJ, ↓gIT, ↓gLT, ↓gRT, ↓cvT, ↓pIT, ↓pLT, ↓pZT, ↓asZ, ↓aNT, ↓arL, ↓asL, ↓arI, ↓asI, ↓aR_1, ↓bnd_some, ↓wh_eq, ↓on_some, ↓on_none, asZ, arL, asL, arI, asI, aR_1, bnd_some, wh_eq, on_some, on_none, tnT, tnU, tnL, nk, jk, N_add, N_mul, N_sub, N_neg, J_add, J_mul, J_sub, J_neg, N_J, e10, ↓bq m2]
                · rw [ibF cF2] at m2 e10 ⊢
                  rw [ibT (show far A by omega)] at m2 ⊢
                  simp (disch := omega) only [↓iNlt_t, ↓iNlt_f, ↓iNle_t, ↓iNle_f, ↓iNeq_t, ↓iNeq_f, ↓iJlt_t, ↓iJlt_f, ↓iJle_t, ↓iJle_f, ↓iJeq_t, ↓iJeq_f, ↓iZlt_t, ↓iZlt_f, ↓iZle_t, ↓iZle_f, ↓iZeq_t, ↓iZeq_f, ↓iQlt_t, ↓iQlt_f, ↓iQle_t, ↓iQle_f, ↓iQeq_t, ↓iQeq_f, ↓iAnd_t, ↓iAnd_f, ↓iOr_t, ↓iOr_f, ↓iIff_t, ↓iIff_f, ↓iNot_t, ↓iNot_f, ↓iTrue, ↓iFalse, ↓ckN, ↓ckJ, ↓gIT, ↓gLT, ↓gRT, ↓cvT, ↓pIT, ↓pLT, ↓pZT, ↓asZ, ↓aNT, ↓arL, ↓asL, ↓arI, ↓asI, ↓aR_1, ↓bnd_some, ↓wh_eq, ↓on_some, ↓on_none, asZ, arL, asL, arI, asI, aR_1, bnd_some, wh_eq, on_some, on_none, tnT, tnU, tnL, nk, jk, N_add, N_mul, N_sub, N_neg, J_add, J_mul, J_sub, J_neg, N_J, e10, ↓bq m2, w1_s]
              · rw [w1_w1]
                exact (ro7 _ _ _ _).aside (by unfold ib; split; exact Or.inr rfl; exact Or.inl rfl) (fun c hc => rfl)
            · have cA : ¬ far A := fun z => cF (Or.inl z)
              have cD' : ¬ far D := fun z => cF (Or.inr z)
              obtain ⟨i1, l1, i2, l2, E1, E2, R2, hc⟩ := T_ratio (x := x) (y := y) r f2 f3 f4 oA oD cA cD' cD
              obtain ⟨v, m1, hv⟩ := MM i1 l1 hc x y
              have hv := hv cD'
              subst hv
              rw [if_neg (fun z => cD z.2), ibF cD'] at m1
              obtain ⟨v0, m2, hv0, -⟩ := M0 (w1 i1 108 0 0) l1 (hc 115 (by omega)).2 (hc 120 (by omega)).2 x y
              have hv0 := hv0 cA
              subst hv0
              rw [ibF cA, w1_w1] at m2
              obtain ⟨e10, -⟩ := nF i1 l1 hc
              refine ⟨J u, i1, l1, x, y, i2, l2, x, y, ?_, ?_, R2⟩
              · rw [CC]
                unfold fX8_mix_83
                simp only [nk]
                simp (disch := omega) only [↓iNlt_t, ↓iNlt_f, ↓iNle_t, ↓iNle_f, ↓iNeq_t, ↓iNeq_f, ↓iJlt_t, ↓iJlt_f, ↓iJle_t, ↓iJle_f, ↓iJeq_t, ↓iJeq_f, ↓iZlt_t, ↓iZlt_f, ↓iZle_t, ↓iZle_f, ↓iZeq_t, ↓iZeq_f, ↓iQlt_t, ↓iQlt_f, ↓iQle_t, ↓iQle_f, ↓iQeq_t, ↓iQeq_f, ↓iAnd_t, ↓iAnd_f, ↓iOr_t, ↓iOr_f, ↓iIff_t, ↓iIff_f, ↓iNot_t, ↓iNot_f, ↓iTrue, ↓iFalse, ↓ckN, ↓ckJ, ↓gIT, ↓gLT, ↓gRT, ↓cvT, ↓pIT, ↓pLT, ↓pZT, ↓asZ, ↓aNT, ↓arL, ↓asL, ↓arI, ↓asI, ↓aR_1, ↓bnd_some, ↓wh_eq, ↓on_some, ↓on_none, asZ, arL, asL, arI, asI, aR_1, bnd_some, wh_eq, on_some, on_none, tnT, tnU, tnL, nk, jk, N_add, N_mul, N_sub, N_neg, J_add, J_mul, J_sub, J_neg, N_J, ↓bq (q_leastFree r.t), f1, ↓bq E1]
              · have e10' : w1 i1 108 0 0 108 10 = i 108 10 := by rw [← e10]; simp (disch := omega) only [w1_r, w1_n, w1_s, true_and, and_true]
                rw [m1]
                unfold fX9_mix_99
                simp only [nk]
                simp (disch := omega) only [↓iNlt_t, ↓iNlt_f, ↓iNle_t, ↓iNle_f, ↓iNeq_t, ↓iNeq_f, ↓iJlt_t, ↓iJlt_f, ↓iJle_t, ↓iJle_f, ↓iJeq_t, ↓iJeq_f, ↓iZlt_t, ↓iZlt_f, ↓iZle_t, ↓iZle_f, ↓iZeq_t, ↓iZeq_f, ↓iQlt_t, ↓iQlt_f, ↓iQle_t, ↓iQle_f, ↓iQeq_t, ↓iQeq_f, ↓iAnd_t, ↓iAnd_f, ↓iOr_t, ↓iOr_f, ↓iIff_t, ↓iIff_f, ↓iNot_t, ↓iNot_f, ↓iTrue, ↓iFalse, ↓ckN, ↓ckJ, ↓gIT, ↓gLT, ↓gRT, ↓cvT, ↓pIT, ↓pLT, ↓pZT, ↓asZ, ↓aNT, ↓arL, ↓asL, ↓arI, ↓asI, ↓aR_1, ↓bnd_some, ↓wh_eq, ↓on_some, ↓on_none, asZ, arL, asL, arI, asI, aR_1, bnd_some, wh_eq, on_some, on_none, tnT, tnU, tnL, nk, jk, N_add, N_mul, N_sub, N_neg, J_add, J_mul, J_sub, J_neg, N_J, e10', ↓bq m2, w1_s, ↓bq E2, N_J]
      · -- made
        have hne : ¬ (i 112 s = 1 ∧ i 112 t = 1) := by
          rintro ⟨z1, z2⟩
          apply cR
          constructor
          · rcases Classical.em (i 110 s = 0) with z | z
            · exact z
            · have := en1 z; omega
          · rcases Classical.em (i 110 t = 0) with z | z
            · exact z
            · have := en2 z; omega
        have CC : fX8_mix 0 (N s) (N t) (hq i l x y) = fX8_mix_83 0 (2 * s + 28) (2 * t + 28) (N 0) (hq i l x y) := by
          unfold fX8_mix
          rw [cv_q s0T, f, bnd_some, on_some, cv_q s0T, f', bnd_some, on_some]
          unfold fX8_mix_46
          simp only [nk]
          by_cases d1 : i 110 s = 0
          · simp (disch := omega) only [↓iNlt_t, ↓iNlt_f, ↓iNle_t, ↓iNle_f, ↓iNeq_t, ↓iNeq_f, ↓iJlt_t, ↓iJlt_f, ↓iJle_t, ↓iJle_f, ↓iJeq_t, ↓iJeq_f, ↓iZlt_t, ↓iZlt_f, ↓iZle_t, ↓iZle_f, ↓iZeq_t, ↓iZeq_f, ↓iQlt_t, ↓iQlt_f, ↓iQle_t, ↓iQle_f, ↓iQeq_t, ↓iQeq_f, ↓iAnd_t, ↓iAnd_f, ↓iOr_t, ↓iOr_f, ↓iIff_t, ↓iIff_f, ↓iNot_t, ↓iNot_f, ↓iTrue, ↓iFalse, ↓ckN, ↓ckJ, ↓gIT, ↓gLT, ↓gRT, ↓cvT, ↓pIT, ↓pLT, ↓pZT, ↓asZ, ↓aNT, ↓arL, ↓asL, ↓arI, ↓asI, ↓aR_1, ↓bnd_some, ↓wh_eq, ↓on_some, ↓on_none, asZ, arL, asL, arI, asI, aR_1, bnd_some, wh_eq, on_some, on_none, tnT, tnU, tnL, nk, jk, N_add, N_mul, N_sub, N_neg, J_add, J_mul, J_sub, J_neg, N_J, ↓gI_q st.1.1, ↓gI_q st'.1.1]
          · simp (disch := omega) only [↓iNlt_t, ↓iNlt_f, ↓iNle_t, ↓iNle_f, ↓iNeq_t, ↓iNeq_f, ↓iJlt_t, ↓iJlt_f, ↓iJle_t, ↓iJle_f, ↓iJeq_t, ↓iJeq_f, ↓iZlt_t, ↓iZlt_f, ↓iZle_t, ↓iZle_f, ↓iZeq_t, ↓iZeq_f, ↓iQlt_t, ↓iQlt_f, ↓iQle_t, ↓iQle_f, ↓iQeq_t, ↓iQeq_f, ↓iAnd_t, ↓iAnd_f, ↓iOr_t, ↓iOr_f, ↓iIff_t, ↓iIff_f, ↓iNot_t, ↓iNot_f, ↓iTrue, ↓iFalse, ↓ckN, ↓ckJ, ↓gIT, ↓gLT, ↓gRT, ↓cvT, ↓pIT, ↓pLT, ↓pZT, ↓asZ, ↓aNT, ↓arL, ↓asL, ↓arI, ↓asI, ↓aR_1, ↓bnd_some, ↓wh_eq, ↓on_some, ↓on_none, asZ, arL, asL, arI, asI, aR_1, bnd_some, wh_eq, on_some, on_none, tnT, tnU, tnL, nk, jk, N_add, N_mul, N_sub, N_neg, J_add, J_mul, J_sub, J_neg, N_J, ↓gI_q st.1.1, ↓gI_q st'.1.1]
        have MM : ∀ i1 l1 : Nat → Nat → Int, (∀ c, 108 ≤ c → i1 c = i c ∧ l1 c = l c) → ∀ x1 y1, fX9_mix 108 (N s) (N t) (hq i1 l1 x1 y1) = fX9_mix_99 108 (N s) (N t) (N 0) (J 1) (N 0) (hq i1 l1 x1 y1) := fun i1 l1 hc x1 y1 => by
          obtain ⟨n1, n2⟩ := NS i1 l1 hc x1 y1
          obtain ⟨e10, e11, e12⟩ := nF i1 l1 hc
          unfold fX9_mix
          rw [cv_q s9T, n1, bnd_some, if_pos rfl, cv_q s9T, n2, bnd_some, if_pos rfl]
          unfold fX9_mix_42 fX9_mix_59 fX9_mix_77
          simp only [nk, jk]
          by_cases d1 : i 110 s = 0
          · simp (disch := omega) only [↓iNlt_t, ↓iNlt_f, ↓iNle_t, ↓iNle_f, ↓iNeq_t, ↓iNeq_f, ↓iJlt_t, ↓iJlt_f, ↓iJle_t, ↓iJle_f, ↓iJeq_t, ↓iJeq_f, ↓iZlt_t, ↓iZlt_f, ↓iZle_t, ↓iZle_f, ↓iZeq_t, ↓iZeq_f, ↓iQlt_t, ↓iQlt_f, ↓iQle_t, ↓iQle_f, ↓iQeq_t, ↓iQeq_f, ↓iAnd_t, ↓iAnd_f, ↓iOr_t, ↓iOr_f, ↓iIff_t, ↓iIff_f, ↓iNot_t, ↓iNot_f, ↓iTrue, ↓iFalse, ↓ckN, ↓ckJ, ↓gIT, ↓gLT, ↓gRT, ↓cvT, ↓pIT, ↓pLT, ↓pZT, ↓asZ, ↓aNT, ↓arL, ↓asL, ↓arI, ↓asI, ↓aR_1, ↓bnd_some, ↓wh_eq, ↓on_some, ↓on_none, asZ, arL, asL, arI, asI, aR_1, bnd_some, wh_eq, on_some, on_none, tnT, tnU, tnL, nk, jk, N_add, N_mul, N_sub, N_neg, J_add, J_mul, J_sub, J_neg, N_J, e11, e12]
          · simp (disch := omega) only [↓iNlt_t, ↓iNlt_f, ↓iNle_t, ↓iNle_f, ↓iNeq_t, ↓iNeq_f, ↓iJlt_t, ↓iJlt_f, ↓iJle_t, ↓iJle_f, ↓iJeq_t, ↓iJeq_f, ↓iZlt_t, ↓iZlt_f, ↓iZle_t, ↓iZle_f, ↓iZeq_t, ↓iZeq_f, ↓iQlt_t, ↓iQlt_f, ↓iQle_t, ↓iQle_f, ↓iQeq_t, ↓iQeq_f, ↓iAnd_t, ↓iAnd_f, ↓iOr_t, ↓iOr_f, ↓iIff_t, ↓iIff_f, ↓iNot_t, ↓iNot_f, ↓iTrue, ↓iFalse, ↓ckN, ↓ckJ, ↓gIT, ↓gLT, ↓gRT, ↓cvT, ↓pIT, ↓pLT, ↓pZT, ↓asZ, ↓aNT, ↓arL, ↓asL, ↓arI, ↓asI, ↓aR_1, ↓bnd_some, ↓wh_eq, ↓on_some, ↓on_none, asZ, arL, asL, arI, asI, aR_1, bnd_some, wh_eq, on_some, on_none, tnT, tnU, tnL, nk, jk, N_add, N_mul, N_sub, N_neg, J_add, J_mul, J_sub, J_neg, N_J, e11, e12]
        rcases r.free with ⟨f1, f2⟩ | ⟨u, f1, f2, f3, f4, f5, f6⟩
        · refine agree_of (-2000000000000000004) r ?_ ?_
          · rw [CC]
            unfold fX8_mix_83
            simp only [nk]
            simp (disch := omega) only [↓iNlt_t, ↓iNlt_f, ↓iNle_t, ↓iNle_f, ↓iNeq_t, ↓iNeq_f, ↓iJlt_t, ↓iJlt_f, ↓iJle_t, ↓iJle_f, ↓iJeq_t, ↓iJeq_f, ↓iZlt_t, ↓iZlt_f, ↓iZle_t, ↓iZle_f, ↓iZeq_t, ↓iZeq_f, ↓iQlt_t, ↓iQlt_f, ↓iQle_t, ↓iQle_f, ↓iQeq_t, ↓iQeq_f, ↓iAnd_t, ↓iAnd_f, ↓iOr_t, ↓iOr_f, ↓iIff_t, ↓iIff_f, ↓iNot_t, ↓iNot_f, ↓iTrue, ↓iFalse, ↓ckN, ↓ckJ, ↓gIT, ↓gLT, ↓gRT, ↓cvT, ↓pIT, ↓pLT, ↓pZT, ↓asZ, ↓aNT, ↓arL, ↓asL, ↓arI, ↓asI, ↓aR_1, ↓bnd_some, ↓wh_eq, ↓on_some, ↓on_none, asZ, arL, asL, arI, asI, aR_1, bnd_some, wh_eq, on_some, on_none, tnT, tnU, tnL, nk, jk, N_add, N_mul, N_sub, N_neg, J_add, J_mul, J_sub, J_neg, N_J, ↓bq (q_leastFree r.t), f1]
          · rw [MM i l (fun _ _ => ⟨rfl, rfl⟩)]
            unfold fX9_mix_99
            simp only [nk]
            simp (disch := omega) only [↓iNlt_t, ↓iNlt_f, ↓iNle_t, ↓iNle_f, ↓iNeq_t, ↓iNeq_f, ↓iJlt_t, ↓iJlt_f, ↓iJle_t, ↓iJle_f, ↓iJeq_t, ↓iJeq_f, ↓iZlt_t, ↓iZlt_f, ↓iZle_t, ↓iZle_f, ↓iZeq_t, ↓iZeq_f, ↓iQlt_t, ↓iQlt_f, ↓iQle_t, ↓iQle_f, ↓iQeq_t, ↓iQeq_f, ↓iAnd_t, ↓iAnd_f, ↓iOr_t, ↓iOr_f, ↓iIff_t, ↓iIff_f, ↓iNot_t, ↓iNot_f, ↓iTrue, ↓iFalse, ↓ckN, ↓ckJ, ↓gIT, ↓gLT, ↓gRT, ↓cvT, ↓pIT, ↓pLT, ↓pZT, ↓asZ, ↓aNT, ↓arL, ↓asL, ↓arI, ↓asI, ↓aR_1, ↓bnd_some, ↓wh_eq, ↓on_some, ↓on_none, asZ, arL, asL, arI, asI, aR_1, bnd_some, wh_eq, on_some, on_none, tnT, tnU, tnL, nk, jk, N_add, N_mul, N_sub, N_neg, J_add, J_mul, J_sub, J_neg, N_J]
        · have SA := q_startWith (i := i) (l := l) (x := x) (y := y)
          obtain ⟨i1, l1, x1, y1, E1, hc, E2⟩ := T_make (x := x) (y := y) (lc := wr l 15 (fl (l 6) (l 15) 8)) r f2 f3 f4 hs ht h1 h1' hne (v := l 6) (fun j hj => by have := r6 j hj; omega) (fun j hj => by rw [wr_s, fl, if_pos hj]) (fun c hc => wr_n _ _ hc)
          obtain ⟨lr, q1, q2, q3⟩ := r_mix156 (i := i1) (l := l1) (x := x1) (y := y1) (s := s) (t := t)
          obtain ⟨i2, l2, E3, R2⟩ := E2 lr (fun j hj => by rw [q1 j hj, (hc 120 (by omega)).2, (r6 j hj).1]) q2
          obtain ⟨e10, e11, e12⟩ := nF i1 l1 hc
          refine ⟨J u, i1, l1, x1, y1, i2, l2, x1, y1, ?_, ?_, R2⟩
          · rw [CC]
            unfold fX8_mix_83
            simp only [nk]
            simp (disch := omega) only [↓iNlt_t, ↓iNlt_f, ↓iNle_t, ↓iNle_f, ↓iNeq_t, ↓iNeq_f, ↓iJlt_t, ↓iJlt_f, ↓iJle_t, ↓iJle_f, ↓iJeq_t, ↓iJeq_f, ↓iZlt_t, ↓iZlt_f, ↓iZle_t, ↓iZle_f, ↓iZeq_t, ↓iZeq_f, ↓iQlt_t, ↓iQlt_f, ↓iQle_t, ↓iQle_f, ↓iQeq_t, ↓iQeq_f, ↓iAnd_t, ↓iAnd_f, ↓iOr_t, ↓iOr_f, ↓iIff_t, ↓iIff_f, ↓iNot_t, ↓iNot_f, ↓iTrue, ↓iFalse, ↓ckN, ↓ckJ, ↓gIT, ↓gLT, ↓gRT, ↓cvT, ↓pIT, ↓pLT, ↓pZT, ↓asZ, ↓aNT, ↓arL, ↓asL, ↓arI, ↓asI, ↓aR_1, ↓bnd_some, ↓wh_eq, ↓on_some, ↓on_none, asZ, arL, asL, arI, asI, aR_1, bnd_some, wh_eq, on_some, on_none, tnT, tnU, tnL, nk, jk, N_add, N_mul, N_sub, N_neg, J_add, J_mul, J_sub, J_neg, N_J, ↓bq (q_leastFree r.t), f1, ↓bq SA]
            exact E1
          · rw [MM i1 l1 hc]
            unfold fX9_mix_99
            simp only [nk]
            simp (disch := omega) only [↓iNlt_t, ↓iNlt_f, ↓iNle_t, ↓iNle_f, ↓iNeq_t, ↓iNeq_f, ↓iJlt_t, ↓iJlt_f, ↓iJle_t, ↓iJle_f, ↓iJeq_t, ↓iJeq_f, ↓iZlt_t, ↓iZlt_f, ↓iZle_t, ↓iZle_f, ↓iZeq_t, ↓iZeq_f, ↓iQlt_t, ↓iQlt_f, ↓iQle_t, ↓iQle_f, ↓iQeq_t, ↓iQeq_f, ↓iAnd_t, ↓iAnd_f, ↓iOr_t, ↓iOr_f, ↓iIff_t, ↓iIff_f, ↓iNot_t, ↓iNot_f, ↓iTrue, ↓iFalse, ↓ckN, ↓ckJ, ↓gIT, ↓gLT, ↓gRT, ↓cvT, ↓pIT, ↓pLT, ↓pZT, ↓asZ, ↓aNT, ↓arL, ↓asL, ↓arI, ↓asI, ↓aR_1, ↓bnd_some, ↓wh_eq, ↓on_some, ↓on_none, asZ, arL, asL, arI, asI, aR_1, bnd_some, wh_eq, on_some, on_none, tnT, tnU, tnL, nk, jk, N_add, N_mul, N_sub, N_neg, J_add, J_mul, J_sub, J_neg, N_J, e10]
            rw [q3, bq E3]
