/-! ===== best: both end ===== -/
section BST
variable {ρ α : Type} {i l : Nat → Nat → Int} {x y : Option Nat}
/-- the class, behind its NEAR numbers -/
theorem C_best {s : Nat} (hs : s < 40) (sd : SD i l s) (hF : 0 ≤ i 20 2 ∧ i 20 2 ≤ 60) (a b : Int32) (X : Int64) : Ends (bnd (fX5_seek 23 (2 * s + 28) 20 X (hq i l x y)) (fun x109 h108 => (if x109 = 0 then (if a = 0 then gR h108 0 8 10 (fun b110 => cv h108 b110 5 (bnd (fX5_againstMiddle b110 (2 * s + 28) h108) (fun x112 h111 => (if x112 = (-2000000000000000005) then some (x112, h111) else (if x112 = (-2000000000000000006) then some (x112, h111) else gR h111 0 8 10 (fun b113 => (if 0 < x112 then cv h111 b113 5 (bnd (fX5_tell b113 1 b h111) (fun x115 h114 => some (x115, h114))) else (if x112 = 0 then gR h111 0 8 10 (fun b118 => cv h111 b118 5 (bnd (fX5_upperIsSimpler b118 h111) (fun x120 h119 => (if x120 = 0 then cv h119 b113 5 (bnd (fX5_tell b113 0 b h119) (fun x122 h121 => some (x122, h121))) else cv h119 b113 5 (bnd (fX5_tell b113 1 b h119) (fun x124 h123 => some (x124, h123))))))) else cv h111 b113 5 (bnd (fX5_tell b113 0 b h111) (fun x117 h116 => some (x117, h116))))))))))) else gR h108 0 8 10 (fun b125 => (if a = 2 then cv h108 b125 5 (bnd (fX5_tell b125 1 b h108) (fun x129 h128 => some (x129, h128))) else cv h108 b125 5 (bnd (fX5_tell b125 0 b h108) (fun x127 h126 => some (x127, h126)))))) else some (x109, h108)))) i l x y := by
  have s3 : S0 23 = some (5, 0) := by simp only [shT]
  have T : ∀ (i l : Nat → Nat → Int) (c : Int32), Ends (cv (hq i l x y) 23 5 (bnd (fX5_tell 23 c b (hq i l x y)) (fun v h => some (v, h)))) i l x y := fun i l c => Ends.cv s3 ((E_tell c b).bnd (fun _ _ _ _ => Ends.ret _))
  refine (E_seek (St_s hs).1.1 hF X).bnd (fun v i' l' k => ?_)
  refine Ends.ite (Ends.ite ?_ ?_) (Ends.ret _)
  · simp only [gRT]
    refine Ends.cv s3 ?_
    obtain ⟨-, ⟨n1, n2, n3⟩, ⟨d1, d2⟩, -, hp, -⟩ := sd
    have e1 : i' (2 * s + 28) = i (2 * s + 28) := k.1 _ (by omega) (by omega)
    have e2 : l' (2 * s + 28 + 1) = l (2 * s + 28 + 1) := k.2.2.2 _ (by omega) (by omega)
    refine (E_middle hs (by rw [e1]; omega) (by rw [e1, d1]; exact d2) (fun j hj => ?_)).bnd (fun w i2 l2 k2 => ?_)
    · rw [e1, n1] at hj
      rw [e2]
      have := hp j hj
      rw [show l (2 * s + 28 + 1) j = l 113 (60 * s + j) from this.1]
      exact this.2.1
    · refine Ends.ite (Ends.ret _) (Ends.ite (Ends.ret _) ?_)
      simp only [gRT]
      refine Ends.ite (T _ _ _) (Ends.ite ?_ (T _ _ _))
      exact Ends.cv s3 (E_simpler.bnd (fun _ _ _ _ => Ends.ite (T _ _ _) (T _ _ _)))
  · simp only [gRT]
    exact Ends.ite (T _ _ _) (T _ _ _)
theorem mul_tot (X Y : Int64) : Ends (fX9_mul 108 X Y (hq i l x y)) i l x y := by
  have P : ∀ F : AH → Fn Int64, (∀ i l, Ends (F (hq i l x y)) i l x y) → Ends (pZ (hq i l x y) 108 9 0 1 F) i l x y := fun F hF => by
    rw [nk.2.1, pZ91]
    exact (hF _ _).kp (Kp.f (Or.inr rfl))
  have Z : ∀ Y : Int64, ¬ Y = 0 → ∃ v, fX9_size Y (hq i l x y) = some (v, hq i l x y) ∧ ¬ v = 0 := fun Y hY => by
    unfold fX9_size
    split
    · exact ⟨_, rfl, hY⟩
    · refine ⟨_, rfl, fun z => hY ?_⟩
      rw [← Int64.neg_neg (a := Y), z]
      rfl
  unfold fX9_mul
  refine Ends.ite (Ends.ret _) (Ends.dite (fun _ => Ends.ret _) (fun hY => ?_))
  have ZX : ∃ v, fX9_size X (hq i l x y) = some (v, hq i l x y) := by
    unfold fX9_size
    split <;> exact ⟨_, rfl⟩
  obtain ⟨v, hv⟩ := ZX
  obtain ⟨w, hw, hw0⟩ := Z Y hY
  rw [bq hv]
  refine Ends.ite (P _ (fun _ _ => Ends.ret _)) ?_
  rw [bq hw]
  refine Ends.ite (P _ (fun _ _ => Ends.ret _)) ?_
  rw [bq hv, bq hw, ck_t hw0]
  exact Ends.ite (Ends.ret _) (P _ (fun _ _ => Ends.ret _))
theorem add_tot (X Y : Int64) : Ends (fX9_add 108 X Y (hq i l x y)) i l x y := by
  have P : ∀ (v : Int) (F : AH → Fn Int64), a01 v → (∀ i l, Ends (F (hq i l x y)) i l x y) → Ends (pZ (hq i l x y) 108 9 0 (N v) F) i l x y := fun v F hv hF => by
    rw [pZ_q s9T hv]
    exact (hF _ _).kp (Kp.f hv)
  have ZX : ∃ v, fX9_size (X + Y) (hq i l x y) = some (v, hq i l x y) := by
    unfold fX9_size
    split <;> exact ⟨_, rfl⟩
  obtain ⟨v, hv⟩ := ZX
  unfold fX9_add
  simp only [nk, wh_eq]
  rw [gI_q s9T]
  refine Ends.ite ?_ (P 1 _ (Or.inr rfl) (fun _ _ => ?_))
  · rw [bq hv]
    refine Ends.ite (P 0 _ (Or.inl rfl) (fun _ _ => ?_)) (P 1 _ (Or.inr rfl) (fun _ _ => ?_))
    · rw [gI_q s9T]
      exact Ends.ite (Ends.ret _) (Ends.ret _)
    · rw [gI_q s9T]
      exact Ends.ite (Ends.ret _) (Ends.ret _)
  · rw [gI_q s9T]
    exact Ends.ite (Ends.ret _) (Ends.ret _)
theorem floor_tot (X Y : Int64) (hY : ¬ Y = 0) : Ends (fX9_floor X Y (hq i l x y)) i l x y := by
  unfold fX9_floor fX9_floor_24
  rw [ck_t hY, wh_eq, ck_t hY]
  refine Ends.ite (Ends.ret _) (Ends.ite ?_ ?_)
  all_goals exact Ends.ite (Ends.ite (Ends.ret _) (Ends.ret _)) (Ends.ite (Ends.ret _) (Ends.ret _))
theorem E_133 (a b : Int32) : Ends (fX9_against_133 a b (hq i l x y)) i l x y := by
  unfold fX9_against_133
  rw [ck_t (by decide)]
  exact Ends.ite (Ends.ite (Ends.ret _) (Ends.ret _)) (Ends.ite (Ends.ret _) (Ends.ret _))
theorem E_againstR {s : Nat} (hs : s < 40) (hn : 0 ≤ i 111 s ∧ i 111 s ≤ 60) (U V : Int64) : Ends (fX9_against 108 (N s) U V (hq i l x y)) i l x y := by
  have key : ∀ (m k n : Nat) (i' l' : Nat → Nat → Int) (U V : Int64), Kp i l i' l' → k + m = 61 → m + 1 ≤ n → Ends (fX9_against_10L n 108 (N s) U V (N k) (hq i' l' x y)) i' l' x y := by
    intro m
    induction m with
    | zero =>
      intro k n i' l' U V kp hk hn'
      obtain ⟨z, rfl⟩ : ∃ z, n = z + 1 := ⟨n - 1, by omega⟩
      show Ends (fX9_against_10 (fX9_against_10L z) 108 _ _ _ _ _) i' l' x y
      unfold fX9_against_10
      simp only [nk]
      rw [if_pos (by rw [N_lt (by omega) (by omega) (by omega) (by omega)]; omega)]
      exact Ends.ret _
    | succ m ih =>
      intro k n i' l' U V kp hk hn'
      obtain ⟨z, rfl⟩ : ∃ z, n = z + 1 := ⟨n - 1, by omega⟩
      have e1 : i' 111 = i 111 := kp.1 _ (by omega) (by omega)
      have I : ∀ (i2 l2 : Nat → Nat → Int) (A B C D : Int64), Kp i' l' i2 l2 → Ends (fX9_against_110 (fX9_against_10L z) 108 (N s) A B (N k) C D (hq i2 l2 x y)) i2 l2 x y := fun i2 l2 A B C D k2 => by
        unfold fX9_against_110 fX9_against_120
        simp only [nk, N_add, wh_eq]
        exact Ends.ite (ih (k + 1) z i2 l2 _ _ (kp.trans k2) (by omega) (by omega)) (Ends.ite (E_133 _ _) (E_133 _ _))
      have Q : ∀ q : Int, a01 q → (q = 1 → (k : Int) < i 111 s) → Ends (fX9_against_65 (fX9_against_10L z) 108 (N s) U V (N k) (N q) (hq i' l' x y)) i' l' x y := fun q hq1 hq2 => by
        unfold fX9_against_65
        simp only [nk]
        refine Ends.dite (fun _ => Ends.dite (fun _ => I _ _ _ _ _ _ Kp.rfl') (fun hV => (floor_tot U V hV).bnd (fun _ _ _ k2 => I _ _ _ _ _ _ k2))) (fun hne => ?_)
        have hq3 : q = 1 := by
          rcases hq1 with rfl | rfl
          · exact absurd rfl hne
          · rfl
        have := hq2 hq3
        simp only [gRT, N_mul, N_add]
        rw [aL_q (n := 2400) (by simp only [shT]) (by omega) (by omega) (by omega)]
        exact Ends.dite (fun _ => I _ _ _ _ _ _ Kp.rfl') (fun hV => (floor_tot U V hV).bnd (fun _ _ _ k2 => I _ _ _ _ _ _ k2))
      show Ends (fX9_against_10 (fX9_against_10L z) 108 _ _ _ _ _) i' l' x y
      unfold fX9_against_10 fX9_against_33
      simp only [nk, gRT]
      refine Ends.ite (Ends.ret _) ?_
      rw [aI_q (t := 0) (n := 40) (by simp only [shT]) (by omega) (by omega) (by omega), (tnT s).1, e1]
      refine Ends.dite (fun _ => ?_) (fun hlt => ?_)
      · rw [if_pos trivial, aI_q (t := 2) (n := 40) (by simp only [shT]) (by omega) (by omega) (by omega)]
        refine Ends.ite (Ends.ret _) ?_
        rw [if_pos trivial]
        exact Ends.ite (Ends.ret _) (Q 0 (Or.inl rfl) (fun z => by omega))
      · rw [if_neg (by decide), if_neg (by decide)]
        refine Q 1 (Or.inr rfl) (fun _ => ?_)
        rw [N_le (by omega) (by omega) (by omega) (by omega)] at hlt
        omega
  unfold fX9_against
  simp only [nk]
  exact key 61 0 1000 i l U V Kp.rfl' (by omega) (by omega)
theorem E_247 (A : Int64) (b : Int32) (B : Int64) : Ends (fX9_findBoth_247 108 A b 108 B (hq i l x y)) i l x y := by
  unfold fX9_findBoth_247
  exact Ends.pL s9T (by omega) (Ends.ite (Ends.gL s9T (Ends.pL s9T (by omega) (Ends.ret _))) (Ends.pL s9T (by omega) (Ends.ret _)))
theorem E_211 (A B : Int64) (b : Int32) (C : Int64) : Ends (fX9_findBoth_211 108 A B b 108 C (hq i l x y)) i l x y := by
  unfold fX9_findBoth_211
  exact Ends.pL s9T (by omega) (Ends.ite (Ends.pL s9T (by omega) (Ends.ite (Ends.gL s9T (E_247 _ _ _)) (E_247 _ _ _))) (Ends.gL s9T (Ends.pL s9T (by omega) (Ends.ite (Ends.gL s9T (E_247 _ _ _)) (E_247 _ _ _)))))
theorem E_97 {w : Int} (hw : 1 ≤ w ∧ w ≤ 1000000) (k : Int32) (h : w < l 108 27 → l 108 29 ≠ 0) (h27 : ¬ far (l 108 27)) (h29 : ¬ far (l 108 29)) : Ends (fX9_findBoth_97 108 (N w) k (hq i l x y)) i l x y := by
  unfold fX9_findBoth_97
  rw [N_J (by omega) (by omega)]
  refine Ends.gL s9T (Ends.dite (fun hlt => ?_) (fun _ => ?_))
  · rw [J_lt (by omega) (by omega) (by omega) (by omega)] at hlt
    have hne := h hlt
    refine Ends.gL s9T (Ends.gL s9T ?_)
    simp only [jk]
    rw [ck_t (by rw [J_eq (by omega) (by omega) (by omega) (by omega)]; exact hne)]
    refine Ends.wh (Ends.gL s9T (Ends.gL s9T (Ends.wh (Ends.gL s9T (Ends.gL s9T (Ends.wh ?_))))))
    rw [ck_t (by decide)]
    exact Ends.ite (Ends.ite (E_211 _ _ _ _) (Ends.gL s9T (E_211 _ _ _ _))) (Ends.ite (E_211 _ _ _ _) (Ends.gL s9T (E_211 _ _ _ _)))
  · exact Ends.gL s9T (Ends.pL s9T (by omega) (Ends.gL s9T (Ends.pL s9T (by omega) (Ends.gL s9T (Ends.pL s9T (by omega) (Ends.gL s9T (Ends.pL s9T (by omega) (Ends.ret _))))))))
theorem E_54far {s : Nat} (a b : Int32) : Ends (fX9_findBoth_54 108 (N s) a b (hq (w1 i 108 0 1) l x y)) (w1 i 108 0 1) l x y := by
  unfold fX9_findBoth_54
  rw [gI_q s9T, w1_s, if_neg (by decide)]
  exact Ends.ret _
theorem E_54 {s : Nat} (hs : s < 40) {w : Int} (hw : 1 ≤ w ∧ w ≤ 1000000) (k : Int32) (h : w < l 108 27 → l 108 29 ≠ 0) (h27 : ¬ far (l 108 27)) (h29 : ¬ far (l 108 29)) : Ends (fX9_findBoth_54 108 (N s) (N w) k (hq i l x y)) i l x y := by
  unfold fX9_findBoth_54
  rw [gI_q s9T]
  refine Ends.ite (Ends.gL s9T (Ends.ite (E_97 hw k h h27 h29) ?_)) (Ends.ret _)
  simp only [gRT]
  rw [aI_q (t := 2) (n := 40) (by simp only [shT]) (by omega) (by omega) (by omega)]
  refine Ends.ite (Ends.ret _) ?_
  rw [aI_q (t := 0) (n := 40) (by simp only [shT]) (by omega) (by omega) (by omega)]
  exact Ends.ite (Ends.ret _) (E_97 hw k h h27 h29)
theorem E_find {s : Nat} (hs : s < 40) {p : Nat → Int} {n0 : Nat} (hn0 : n0 ≤ 60) (hn : i 111 s = n0) (hp : ∀ k, k < n0 → l 113 (60 * s + k) = p k ∧ ¬ far (p k)) (hpos : ∀ j, 0 < j → j < n0 → 1 ≤ p j) {w : Int} (hw : 1 ≤ w ∧ w ≤ 1000000) : ∀ (m j n : Nat), j + m = n0 → m + 2 ≤ n → j ≤ nK p n0 0 → ∀ e f : Int,
    Ends (fX9_findBoth_6L n 108 (N s) (N w) (N j) (hq (w1 i 108 0 0) (gnL l (ne p j).1.1 (ne p j).1.2 (ne p j).2.1 (ne p j).2.2 e f) x y)) (w1 i 108 0 0) (gnL l (ne p j).1.1 (ne p j).1.2 (ne p j).2.1 (ne p j).2.2 e f) x y := by
  have hK := nK_le p n0 0
  have n111 : ∀ v, w1 i 108 0 v 111 s = n0 := fun v => by rw [w1_na _ _ _ _ (by omega)]; exact hn
  -- the end without FAR
  have E : ∀ (j : Nat) (e f : Int), j ≤ nK p n0 0 → Ends (fX9_findBoth_54 108 (N s) (N w) (N j) (hq (w1 i 108 0 0) (gnL l (ne p j).1.1 (ne p j).1.2 (ne p j).2.1 (ne p j).2.2 e f) x y)) (w1 i 108 0 0) (gnL l (ne p j).1.1 (ne p j).1.2 (ne p j).2.1 (ne p j).2.2 e f) x y := by
    intro j e f hj
    obtain ⟨⟨f1, f2⟩, f3, f4⟩ := ne_far p j (fun q hq => nK_no p n0 0 q (by omega) (by omega))
    obtain ⟨g1, g2, g3, g4, -⟩ := gnL_g l (ne p j).1.1 (ne p j).1.2 (ne p j).2.1 (ne p j).2.2 e f
    refine E_54 hs hw (N j) (fun z => ?_) (by rw [g2]; exact f2) (by rw [g4]; exact f4)
    rw [g2] at z
    rw [g4]
    by_cases c0 : j = 0
    · subst c0
      unfold ne at z
      dsimp only at z
      omega
    · by_cases c1 : j = 1
      · subst c1
        have : (ne p 1).1.2 = p 0 * 0 + 1 := rfl
        rw [this] at z
        omega
      · obtain ⟨q, rfl⟩ : ∃ q, j = q + 1 := ⟨j - 1, by omega⟩
        have n2 : (ne p (q + 1)).2 = (ne p q).1 := rfl
        obtain ⟨-, -, -, t4⟩ := ne_pos p q (fun j z1 z2 => hpos j z1 (by omega))
        have t4 := t4 (by omega)
        rw [n2]
        omega
  intro m
  induction m with
  | zero =>
    intro j n hj hn' h2 e f
    obtain ⟨z, rfl⟩ : ∃ z, n = z + 1 := ⟨n - 1, by omega⟩
    show Ends (fX9_findBoth_6 (fX9_findBoth_6L z) 108 _ _ _ _) _ _ x y
    unfold fX9_findBoth_6
    simp only [gRT]
    rw [aI_q (t := 0) (n := 40) (by simp only [shT]) (by omega) (by omega) (by omega), (tnT s).1, n111, if_pos (by rw [N_le (by omega) (by omega) (by omega) (by omega)]; omega)]
    exact E j e f h2
  | succ m ih =>
    intro j n hj hn' h2 e f
    obtain ⟨z, rfl⟩ : ∃ z, n = z + 1 := ⟨n - 1, by omega⟩
    obtain ⟨p1, p2⟩ := hp j (by omega)
    have p1' : ∀ a b c d e f, gnL l a b c d e f 113 (60 * s + j) = p j := fun a b c d e f => by rw [gnL_n _ _ _ _ _ _ _ (by omega)]; exact p1
    obtain ⟨⟨f1, f2⟩, f3, f4⟩ := ne_far p j (fun q hq => nK_no p n0 0 q (by omega) (by omega))
    obtain ⟨v, w', G, hv⟩ := q_goNear (i := i) (l := l) (x := x) (y := y) e f p2 f1 f2 f3 f4
    show Ends (fX9_findBoth_6 (fX9_findBoth_6L z) 108 _ _ _ _) _ _ x y
    unfold fX9_findBoth_6
    simp only [gRT]
    rw [aI_q (t := 0) (n := 40) (by simp only [shT]) (by omega) (by omega) (by omega), (tnT s).1, n111, if_neg (by rw [N_le (by omega) (by omega) (by omega) (by omega)]; omega)]
    refine Ends.gL s9T (Ends.ite (E j e f h2) ?_)
    rw [gI_q s9T, w1_s, if_pos (by decide)]
    simp only [nk, N_mul, N_add]
    rw [aL_q (n := 2400) (by simp only [shT]) (by omega) (by omega) (by omega), (tnU s j).1, p1', cv_q s9T, bq G, wh_eq]
    have kg : ∀ (a1 a2 a3 a4 a5 a6 : Int) (b : Int), a01 b → Kp (w1 i 108 0 0) (gnL l (ne p j).1.1 (ne p j).1.2 (ne p j).2.1 (ne p j).2.2 e f) (w1 i 108 0 b) (gnL l a1 a2 a3 a4 a5 a6) := fun a1 a2 a3 a4 a5 a6 b hb => ⟨fun c h1 h2 => by rw [w1_r _ _ _ h2, w1_r _ _ _ h2], fun j hj => by rw [w1_n _ _ (by omega), w1_n _ _ (by omega)], fun _ => by rw [w1_s]; exact hb, fun c h1 h2 => by rw [gnL_n _ _ _ _ _ _ _ h2, gnL_n _ _ _ _ _ _ _ h2]⟩
    by_cases cF : neF p j
    · rw [ibT cF]
      obtain ⟨z, rfl⟩ : ∃ q, z = q + 1 := ⟨z - 1, by omega⟩
      refine Ends.kp (kg v w' (ne p j).1.1 (ne p j).1.2 (ne p j).2.1 (ne p j).2.2 1 (Or.inr rfl)) ?_
      show Ends (fX9_findBoth_6 (fX9_findBoth_6L z) 108 _ _ _ _) _ _ x y
      unfold fX9_findBoth_6
      simp only [gRT]
      rw [aI_q (t := 0) (n := 40) (by simp only [shT]) (by omega) (by omega) (by omega)]
      refine Ends.ite (E_54far _ _) (Ends.gL s9T (Ends.ite (E_54far _ _) ?_))
      rw [gI_q s9T, w1_s, if_neg (by decide)]
      exact E_54far _ _
    · rw [ibF cF]
      obtain ⟨hv1, hv2⟩ := hv cF
      subst hv1 hv2
      have hKj : j + 1 ≤ nK p n0 0 := by
        rcases Nat.lt_or_ge j (nK p n0 0) with z | z
        · omega
        · exact absurd (by rw [show j = nK p n0 0 by omega]; exact nK_at p n0 0 (by omega)) cF
      refine Ends.kp (kg (p j * (ne p j).1.1 + (ne p j).2.1) (p j * (ne p j).1.2 + (ne p j).2.2) (ne p j).1.1 (ne p j).1.2 (ne p j).2.1 (ne p j).2.2 0 (Or.inl rfl)) ?_
      exact ih (j + 1) z (by omega) (by omega) hKj (ne p j).2.1 (ne p j).2.2
theorem E_226 (a b : Int32) : Ends (fX9_best_226 108 a b (hq i l x y)) i l x y := by
  unfold fX9_best_226
  exact Ends.ite (Ends.ite (Ends.gL s9T (Ends.ret _)) (Ends.gL s9T (Ends.ret _))) (Ends.ite (Ends.gL s9T (Ends.ret _)) (Ends.gL s9T (Ends.ret _)))
theorem E_109 {s : Nat} (hs : s < 40) (hn : 0 ≤ i 111 s ∧ i 111 s ≤ 60) (a : Int32) : Ends (fX9_best_109 108 (N s) a (hq i l x y)) i l x y := by
  unfold fX9_best_109
  rw [nk.1, pZ90]
  refine Ends.kp (Kp.f (Or.inl rfl)) ?_
  have hn : 0 ≤ w1 i 108 0 0 111 s ∧ w1 i 108 0 0 111 s ≤ 60 := by rw [w1_na _ _ _ _ (by omega)]; exact hn
  generalize w1 i 108 0 0 = i at *
  refine Ends.gL s9T (Ends.gL s9T (Ends.cv s9T ((mul_tot _ _).bnd (fun v1 i1 l1 k1 => ?_))))
  refine Ends.gL s9T (Ends.gL s9T (Ends.cv s9T ((mul_tot _ _).bnd (fun v2 i2 l2 k2 => ?_))))
  refine Ends.cv s9T ((add_tot _ _).bnd (fun v3 i3 l3 k3 => ?_))
  refine Ends.gL s9T (Ends.cv s9T ((mul_tot _ _).bnd (fun v4 i4 l4 k4 => ?_)))
  refine Ends.gL s9T (Ends.cv s9T ((mul_tot _ _).bnd (fun v5 i5 l5 k5 => ?_)))
  have e : i5 111 = i 111 := (((k1.trans k2).trans (k3.trans k4)).trans k5).1 _ (by omega) (by omega)
  rw [gI_q s9T]
  refine Ends.ite (Ends.cv s9T ((E_againstR hs (by rw [e]; exact hn) _ _).bnd (fun v6 i6 l6 k6 => ?_))) (Ends.ret _)
  exact Ends.ite (Ends.ret _) (Ends.ite (E_226 _ _) (Ends.ite (Ends.gL s9T (Ends.gL s9T (Ends.ite (E_226 _ _) (E_226 _ _)))) (E_226 _ _)))
theorem E_79 {s : Nat} (hs : s < 40) (hn : 0 ≤ i 111 s ∧ i 111 s ≤ 60) (a b c : Int32) : Ends (fX9_best_79 108 (N s) a b c (hq i l x y)) i l x y := by
  unfold fX9_best_79
  exact Ends.ite (Ends.gL s9T (Ends.gL s9T (Ends.ite (Ends.gL s9T (Ends.gL s9T (Ends.ite (E_226 _ _) (E_109 hs hn _)))) (E_109 hs hn _)))) (E_226 _ _)
end BST
theorem M_best {i l : Nat → Nat → Int} {x y : Option Nat} (r : Rel i l) (a b c d : Int32) : ∃ (v : Int64) (i1 l1 : Nat → Nat → Int), fX9_best 108 a b c d (hq i l x y) = some (v, hq i1 l1 x y) ∧ Rel i1 l1 := by
  rcases r.who (x := x) (y := y) a with ⟨f, g⟩ | ⟨s, hs, rfl, h1, sd, f, g⟩
  · refine ⟨-2000000000000000001, i, l, ?_, r⟩
    unfold fX9_best
    rw [cv_q s9T, g, bnd_some, if10]
  · have hb := N_rng b
    have hc := N_rng c
    have hd := N_rng d
    obtain ⟨-, ⟨n1, n2, n3⟩, ⟨d1, d2⟩, -, hp, -⟩ := sd
    obtain ⟨p, hpe⟩ : ∃ p : Nat → Int, ∀ k, p k = l 113 (60 * s + k) := ⟨fun k => l 113 (60 * s + k), fun _ => rfl⟩
    obtain ⟨n0, hn0⟩ : ∃ n0 : Nat, i 111 s = n0 := ⟨(i 111 s).toNat, by omega⟩
    have hp' : ∀ k, k < n0 → l 113 (60 * s + k) = p k ∧ ¬ far (p k) := fun k hk => by rw [hpe]; exact ⟨rfl, (hp k (by omega)).2.1⟩
    have hpos : ∀ j, 0 < j → j < n0 → 1 ≤ p j := fun j z1 z2 => by rw [hpe]; exact (hp j (by omega)).2.2 z1
    have E : Ends (fX9_best 108 (N s) b c d (hq i l x y)) i l x y := by
      unfold fX9_best
      rw [cv_q s9T, g, bnd_some, if_pos rfl, N_of b, N_of c, N_of d]
      generalize b.toInt = w at *
      generalize c.toInt = u at *
      generalize d.toInt = v at *
      rw [N_J hb.1 hb.2, N_J hc.1 hc.2, N_J hd.1 hd.2]
      simp only [jk]
      rw [b_in _ (by omega)]
      refine Ends.dite (fun _ => Ends.ret _) (fun z1 => ?_)
      have hw : 1 ≤ w ∧ w ≤ 1000000 := by
        rcases Classical.em (1 ≤ w ∧ w ≤ 1000000) with z | z
        · exact z
        · exact absurd (by rw [ibF z]; rfl) z1
      rw [b_in _ (by omega)]
      refine Ends.ite (Ends.ret _) ?_
      rw [b_in _ (by omega)]
      refine Ends.ite (Ends.ret _) (Ends.cv s9T ?_)
      have F : Ends (fX9_findBoth 108 (N s) (N w) (hq i l x y)) i l x y := by
        unfold fX9_findBoth
        rw [cv_q s9T, bq q_beginNear]
        refine Ends.kp ⟨fun c h1 h2 => w1_r _ _ _ h2, fun j hj => w1_n _ _ (by omega), fun _ => by rw [w1_s]; exact Or.inl rfl, fun c h1 h2 => gnL_n _ _ _ _ _ _ _ h2⟩ (i' := w1 i 108 0 0) (l' := gnL l 1 0 0 1 (l 108 30) (l 108 31)) ?_
        exact E_find hs (by omega) hn0 hp' hpos hw n0 0 1000 (by omega) (by omega) (by omega) (l 108 30) (l 108 31)
      refine F.bnd (fun v i1 l1 k1 => ?_)
      have e : i1 111 = i 111 := k1.1 _ (by omega) (by omega)
      exact Ends.ite (Ends.ite (E_79 hs (by rw [e]; omega) _ _ _) (E_79 hs (by rw [e]; omega) _ _ _)) (Ends.ret _)
    obtain ⟨v, i1, l1, e, k⟩ := E
    exact ⟨v, i1, l1, e, r.kp k⟩
theorem calm_best (a b c d : Int32) : Calm (fX8_best 0 a b c d) (fX9_best 108 a b c d) := by
  intro i l x y r
  rcases r.who (x := x) (y := y) a with ⟨f, g⟩ | ⟨s, hs, rfl, h1, sd, f, g⟩
  · refine ⟨-2000000000000000001, -2000000000000000001, i, l, x, y, i, l, x, y, ?_, ?_, r⟩
    · unfold fX8_best
      rw [cv_q s0T, f, bnd_some, on_none]
    · unfold fX9_best
      rw [cv_q s9T, g, bnd_some, if10]
  · have hb := N_rng b
    rw [N_of b]
    generalize b.toInt = w at *
    have sd0 := sd
    obtain ⟨-, ⟨n1, n2, n3⟩, ⟨d1, d2⟩, -, hp, -⟩ := sd
    obtain ⟨p, hpe⟩ : ∃ p : Nat → Int, ∀ k, p k = l 113 (60 * s + k) := ⟨fun k => l 113 (60 * s + k), fun _ => rfl⟩
    obtain ⟨n0, hn0⟩ : ∃ n0 : Nat, i 111 s = n0 := ⟨(i 111 s).toNat, by omega⟩
    have hp' : ∀ k, k < n0 → l (2 * s + 28 + 1) k = p k ∧ ¬ far (p k) := fun k hk => by rw [hpe]; exact ⟨(hp k (by omega)).1, (hp k (by omega)).2.1⟩
    have hpos : ∀ j, 0 < j → j < n0 → 1 ≤ p j := fun j z1 z2 => by rw [hpe]; exact (hp j (by omega)).2.2 z1
    have W := q_workOut (i := i) (l := l) (x := x) (y := y) (St_s hs) (by omega) (p := p) (n0 := n0) (by omega) (by omega) hp'
    have hK := nK_le p n0 0
    have s2 : S0 20 = some (2, 0) := by simp only [shT]
    have s3 : S0 23 = some (5, 0) := by simp only [shT]
    -- the class ends
    have C : ∃ (v : Int64) (i1 l1 : Nat → Nat → Int), fX8_best 0 (N s) (N w) c d (hq i l x y) = some (v, hq i1 l1 x y) ∧ Rel i1 l1 := by
      have rN : Rel (w1 i 20 2 (nK p n0 0 : Nat)) (neL l p (nK p n0 0)) := by
        have e : ∀ c, c ≠ 21 → c ≠ 22 → neL l p (nK p n0 0) c = l c := fun c h2 h3 => neL_n _ _ _ h2 h3
        refine r.keep (fun s hs => ⟨by simp (disch := omega) only [w1_r, w1_n, w1_s, true_and, and_true], e _ (by omega) (by omega), e _ (by omega) (by omega)⟩) ⟨⟨by simp (disch := omega) only [w1_r, w1_n, w1_s, true_and, and_true], by simp (disch := omega) only [w1_r, w1_n, w1_s, true_and, and_true], by simp (disch := omega) only [w1_r, w1_n, w1_s, true_and, and_true], by simp (disch := omega) only [w1_r, w1_n, w1_s, true_and, and_true], by simp (disch := omega) only [w1_r, w1_n, w1_s, true_and, and_true], by simp (disch := omega) only [w1_r, w1_n, w1_s, true_and, and_true], by simp (disch := omega) only [w1_r, w1_n, w1_s, true_and, and_true]⟩, ⟨e _ (by omega) (by omega), e _ (by omega) (by omega), e _ (by omega) (by omega), e _ (by omega) (by omega), e _ (by omega) (by omega), e _ (by omega) (by omega)⟩, e _ (by omega) (by omega), e _ (by omega) (by omega), e _ (by omega) (by omega), e _ (by omega) (by omega), e _ (by omega) (by omega)⟩ ⟨by simp (disch := omega) only [w1_r, w1_n, w1_s, true_and, and_true], by simp (disch := omega) only [w1_r, w1_n, w1_s, true_and, and_true], by simp (disch := omega) only [w1_r, w1_n, w1_s, true_and, and_true], by simp (disch := omega) only [w1_r, w1_n, w1_s, true_and, and_true], by simp (disch := omega) only [w1_r, w1_n, w1_s, true_and, and_true], by simp (disch := omega) only [w1_r, w1_n, w1_s, true_and, and_true], by simp (disch := omega) only [w1_r, w1_n, w1_s, true_and, and_true], by simp (disch := omega) only [w1_r, w1_n, w1_s, true_and, and_true], by simp (disch := omega) only [w1_r, w1_n, w1_s, true_and, and_true], by simp (disch := omega) only [w1_r, w1_n, w1_s, true_and, and_true]⟩ ?_
        simp (disch := omega) only [w1_r, w1_n, w1_s, true_and, and_true]
        exact r.2.2.2.2.2.1
      have sN := (rN.1 s hs).2.2 (by rw [w1_na _ _ _ _ (by omega)]; exact h1)
      obtain ⟨v, i1, l1, e1, k1⟩ := C_best (x := x) (y := y) hs sN (by rw [w1_s]; omega) c d (Int32.toInt64 (N w))
      have E2 : fX8_best 0 (N s) (N w) c d (hq i l x y) = if N w < 1 then some (-2000000000000000002, hq i l x y) else if 1000000 < N w then some (-2000000000000000002, hq i l x y) else if c < 0 then some (-2000000000000000002, hq i l x y) else if 2 < c then some (-2000000000000000002, hq i l x y) else if d < 0 then some (-2000000000000000002, hq i l x y) else if d ≤ 1 then some (v, hq i1 l1 x y) else some (-2000000000000000002, hq i l x y) := by
        unfold fX8_best
        rw [cv_q s0T, f, bnd_some, on_some, ← e1]
        simp only [gRT]
        rw [cv_q s2, bq W]
        simp only [gRT]
        rw [cv_q s3]
      rw [E2]
      by_cases q1 : N w < 1
      · exact ⟨_, _, _, if_pos q1, r⟩
      rw [if_neg q1]
      by_cases q2 : 1000000 < N w
      · exact ⟨_, _, _, if_pos q2, r⟩
      rw [if_neg q2]
      by_cases q3 : c < 0
      · exact ⟨_, _, _, if_pos q3, r⟩
      rw [if_neg q3]
      by_cases q4 : 2 < c
      · exact ⟨_, _, _, if_pos q4, r⟩
      rw [if_neg q4]
      by_cases q5 : d < 0
      · exact ⟨_, _, _, if_pos q5, r⟩
      rw [if_neg q5]
      by_cases q6 : d ≤ 1
      · exact ⟨_, _, _, if_pos q6, rN.kp k1⟩
      · exact ⟨_, _, _, if_neg q6, r⟩
    obtain ⟨v, i1, l1, e1, r1⟩ := C
    obtain ⟨w', i2, l2, e2, r2⟩ := M_best (x := x) (y := y) r1 (N s) (N w) c d
    exact ⟨v, w', i1, l1, x, y, i2, l2, x, y, e1, e2, r2⟩
