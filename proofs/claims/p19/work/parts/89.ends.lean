/-! ===== calls that end, whatever they answer: best ===== -/
/-- what best may change -/
def Kp (i l i' l' : Nat → Nat → Int) : Prop := (∀ c, c ≠ 25 → c ≠ 108 → i' c = i c) ∧ (∀ j, j ≠ 0 → i' 108 j = i 108 j) ∧ (a01 (i 108 0) → a01 (i' 108 0)) ∧ ∀ c, (c < 23 ∨ 26 < c) → c ≠ 108 → l' c = l c
theorem Kp.rfl' {i l : Nat → Nat → Int} : Kp i l i l := ⟨fun _ _ _ => rfl, fun _ _ => rfl, fun h => h, fun _ _ _ => rfl⟩
theorem Kp.trans {i l i' l' i2 l2 : Nat → Nat → Int} (h : Kp i l i' l') (g : Kp i' l' i2 l2) : Kp i l i2 l2 :=
  ⟨fun c h1 h2 => (g.1 c h1 h2).trans (h.1 c h1 h2), fun j hj => (g.2.1 j hj).trans (h.2.1 j hj), fun z => g.2.2.1 (h.2.2.1 z), fun c h1 h2 => (g.2.2.2 c h1 h2).trans (h.2.2.2 c h1 h2)⟩
theorem Rel.kp {i l i' l' : Nat → Nat → Int} (h : Rel i l) (k : Kp i l i' l') : Rel i' l' := by
  obtain ⟨k1, k2, k3, k4⟩ := k
  exact h.keep (fun s hs => ⟨k1 _ (by omega) (by omega), k4 _ (by omega) (by omega), k4 _ (by omega) (by omega)⟩) ⟨⟨k1 _ (by omega) (by omega), k1 _ (by omega) (by omega), k1 _ (by omega) (by omega), k1 _ (by omega) (by omega), k1 _ (by omega) (by omega), k1 _ (by omega) (by omega), k1 _ (by omega) (by omega)⟩, ⟨k4 _ (by omega) (by omega), k4 _ (by omega) (by omega), k4 _ (by omega) (by omega), k4 _ (by omega) (by omega), k4 _ (by omega) (by omega), k4 _ (by omega) (by omega)⟩, k4 _ (by omega) (by omega), k4 _ (by omega) (by omega), k4 _ (by omega) (by omega), k4 _ (by omega) (by omega), k4 _ (by omega) (by omega)⟩ ⟨k2 _ (by omega), k2 _ (by omega), k2 _ (by omega), by rw [k1 _ (by omega) (by omega)], by rw [k1 _ (by omega) (by omega)], by rw [k1 _ (by omega) (by omega)], by rw [k1 _ (by omega) (by omega)], by rw [k1 _ (by omega) (by omega)], by rw [k1 _ (by omega) (by omega)], by rw [k1 _ (by omega) (by omega)]⟩ (k3 h.2.2.2.2.2.1)
def Ends {ρ : Type} (F : Fn ρ) (i l : Nat → Nat → Int) (x y : Option Nat) : Prop := ∃ (v : ρ) (i' l' : Nat → Nat → Int), F = some (v, hq i' l' x y) ∧ Kp i l i' l'
section EN
variable {ρ α : Type} {i l : Nat → Nat → Int} {x y : Option Nat}
theorem Ends.ret (v : ρ) : Ends (some (v, hq i l x y)) i l x y := ⟨v, i, l, rfl, Kp.rfl'⟩
theorem Ends.bnd {r : Fn α} {K : α → AH → Fn ρ} (h : Ends r i l x y) (g : ∀ v i' l', Kp i l i' l' → Ends (K v (hq i' l' x y)) i' l' x y) : Ends (bnd r K) i l x y := by
  obtain ⟨v, i', l', e, k⟩ := h
  obtain ⟨w, i2, l2, e2, k2⟩ := g v i' l' k
  exact ⟨w, i2, l2, by rw [bq e]; exact e2, k.trans k2⟩
theorem Ends.ite {p : Prop} [Decidable p] {A B : Fn ρ} (h : Ends A i l x y) (g : Ends B i l x y) : Ends (if p then A else B) i l x y := by
  split
  · exact h
  · exact g
theorem Ends.dite {p : Prop} [Decidable p] {A B : Fn ρ} (h : p → Ends A i l x y) (g : ¬ p → Ends B i l x y) : Ends (if p then A else B) i l x y := by
  split
  · exact h (by assumption)
  · exact g (by assumption)
theorem pL_any {a c k : Nat} {X : Int64} {F : AH → Fn ρ} (h : S0 a = some (c, 0)) : pL (hq i l x y) a c k X F = F (hq i (w1 l a k X.toInt) x y) := by
  rw [J_of X, pL_q h, ← J_of]
theorem Kp.w {a k : Nat} (v : Int) (h : 23 ≤ a ∧ a ≤ 26 ∨ a = 108) : Kp i l i (w1 l a k v) := ⟨fun _ _ _ => rfl, fun _ _ => rfl, fun h => h, fun c h1 h2 => w1_r _ _ _ (by omega)⟩
theorem Kp.f {v : Int} (h : a01 v) : Kp i l (w1 i 108 0 v) l := ⟨fun c h1 h2 => w1_r _ _ _ h2, fun j hj => w1_n _ _ (by omega), fun _ => by rw [w1_s]; exact h, fun _ _ _ => rfl⟩
theorem Ends.kp {F : Fn ρ} {i' l' : Nat → Nat → Int} (k : Kp i l i' l') (h : Ends F i' l' x y) : Ends F i l x y := by
  obtain ⟨v, i2, l2, e, k2⟩ := h
  exact ⟨v, i2, l2, e, k.trans k2⟩
theorem Ends.pL {a c k : Nat} {X : Int64} {F : AH → Fn ρ} (h : S0 a = some (c, 0)) (ha : 23 ≤ a ∧ a ≤ 26 ∨ a = 108) (g : Ends (F (hq i (w1 l a k X.toInt) x y)) i (w1 l a k X.toInt) x y) : Ends (pL (hq i l x y) a c k X F) i l x y := by
  rw [pL_any h]
  exact g.kp (Kp.w _ ha)
theorem Ends.gL {a c k : Nat} {F : Int64 → Fn ρ} (h : S0 a = some (c, 0)) (g : Ends (F (J (l a k))) i l x y) : Ends (gL (hq i l x y) a c k F) i l x y := by
  rw [gL_q h]
  exact g
theorem Ends.cv {a c : Nat} {F : Fn ρ} (h : S0 a = some (c, 0)) (g : Ends F i l x y) : Ends (cv (hq i l x y) a c F) i l x y := by
  rw [cv_q h]
  exact g
theorem Ends.wh {e : α} {F : α → Fn ρ} (g : Ends (F e) i l x y) : Ends (wh e F) i l x y := g
def upA (l : Nat → Nat → Int) (k : Int) : Int := if 0 ≤ k then (if 60 ≤ k then 0 else l 21 k.toNat) else if k = -1 then 1 else 0
def loA (l : Nat → Nat → Int) (k : Int) : Int := if 0 ≤ k then (if 60 ≤ k then 1 else l 22 k.toNat) else if k = -1 then 0 else 1
theorem q_upA {k : Int} (h : -2147483648 ≤ k ∧ k ≤ 2147483647) : fX2_upperAt 20 (N k) (hq i l x y) = some (J (upA l k), hq i l x y) := by
  unfold fX2_upperAt upA
  simp only [nk, jk, N_add, N_mul, N_sub, N_neg, J_add, J_mul, J_sub, J_neg]
  by_cases c1 : 0 ≤ k
  · by_cases c2 : 60 ≤ k
    · simp (disch := omega) only [↓iNlt_t, ↓iNlt_f, ↓iNle_t, ↓iNle_f, ↓iNeq_t, ↓iNeq_f, ↓iJlt_t, ↓iJlt_f, ↓iJle_t, ↓iJle_f, ↓iJeq_t, ↓iJeq_f, ↓iZlt_t, ↓iZlt_f, ↓iZle_t, ↓iZle_f, ↓iZeq_t, ↓iZeq_f, ↓iQlt_t, ↓iQlt_f, ↓iQle_t, ↓iQle_f, ↓iQeq_t, ↓iQeq_f, ↓iAnd_t, ↓iAnd_f, ↓iOr_t, ↓iOr_f, ↓iIff_t, ↓iIff_f, ↓iNot_t, ↓iNot_f, ↓iTrue, ↓iFalse, ↓ckN, ↓ckJ, ↓gIT, ↓gLT, ↓gRT, ↓cvT, ↓pIT, ↓pLT, ↓pZT, ↓asZ, ↓aNT, ↓arL, ↓asL, ↓arI, ↓asI, ↓aR_1, ↓bnd_some, ↓wh_eq, ↓on_some, ↓on_none, asZ, arL, asL, arI, asI, aR_1, bnd_some, wh_eq, on_some, on_none, tnT, tnU, tnL, nk, jk, N_add, N_mul, N_sub, N_neg, J_add, J_mul, J_sub, J_neg, N_J]
    · simp (disch := omega) only [↓iNlt_t, ↓iNlt_f, ↓iNle_t, ↓iNle_f, ↓iNeq_t, ↓iNeq_f, ↓iJlt_t, ↓iJlt_f, ↓iJle_t, ↓iJle_f, ↓iJeq_t, ↓iJeq_f, ↓iZlt_t, ↓iZlt_f, ↓iZle_t, ↓iZle_f, ↓iZeq_t, ↓iZeq_f, ↓iQlt_t, ↓iQlt_f, ↓iQle_t, ↓iQle_f, ↓iQeq_t, ↓iQeq_f, ↓iAnd_t, ↓iAnd_f, ↓iOr_t, ↓iOr_f, ↓iIff_t, ↓iIff_f, ↓iNot_t, ↓iNot_f, ↓iTrue, ↓iFalse, ↓ckN, ↓ckJ, ↓gIT, ↓gLT, ↓gRT, ↓cvT, ↓pIT, ↓pLT, ↓pZT, ↓asZ, ↓aNT, ↓arL, ↓asL, ↓arI, ↓asI, ↓aR_1, ↓bnd_some, ↓wh_eq, ↓on_some, ↓on_none, asZ, arL, asL, arI, asI, aR_1, bnd_some, wh_eq, on_some, on_none, tnT, tnU, tnL, nk, jk, N_add, N_mul, N_sub, N_neg, J_add, J_mul, J_sub, J_neg, N_J]
  · by_cases c2 : k = -1
    · simp (disch := omega) only [↓iNlt_t, ↓iNlt_f, ↓iNle_t, ↓iNle_f, ↓iNeq_t, ↓iNeq_f, ↓iJlt_t, ↓iJlt_f, ↓iJle_t, ↓iJle_f, ↓iJeq_t, ↓iJeq_f, ↓iZlt_t, ↓iZlt_f, ↓iZle_t, ↓iZle_f, ↓iZeq_t, ↓iZeq_f, ↓iQlt_t, ↓iQlt_f, ↓iQle_t, ↓iQle_f, ↓iQeq_t, ↓iQeq_f, ↓iAnd_t, ↓iAnd_f, ↓iOr_t, ↓iOr_f, ↓iIff_t, ↓iIff_f, ↓iNot_t, ↓iNot_f, ↓iTrue, ↓iFalse, ↓ckN, ↓ckJ, ↓gIT, ↓gLT, ↓gRT, ↓cvT, ↓pIT, ↓pLT, ↓pZT, ↓asZ, ↓aNT, ↓arL, ↓asL, ↓arI, ↓asI, ↓aR_1, ↓bnd_some, ↓wh_eq, ↓on_some, ↓on_none, asZ, arL, asL, arI, asI, aR_1, bnd_some, wh_eq, on_some, on_none, tnT, tnU, tnL, nk, jk, N_add, N_mul, N_sub, N_neg, J_add, J_mul, J_sub, J_neg, N_J]
    · simp (disch := omega) only [↓iNlt_t, ↓iNlt_f, ↓iNle_t, ↓iNle_f, ↓iNeq_t, ↓iNeq_f, ↓iJlt_t, ↓iJlt_f, ↓iJle_t, ↓iJle_f, ↓iJeq_t, ↓iJeq_f, ↓iZlt_t, ↓iZlt_f, ↓iZle_t, ↓iZle_f, ↓iZeq_t, ↓iZeq_f, ↓iQlt_t, ↓iQlt_f, ↓iQle_t, ↓iQle_f, ↓iQeq_t, ↓iQeq_f, ↓iAnd_t, ↓iAnd_f, ↓iOr_t, ↓iOr_f, ↓iIff_t, ↓iIff_f, ↓iNot_t, ↓iNot_f, ↓iTrue, ↓iFalse, ↓ckN, ↓ckJ, ↓gIT, ↓gLT, ↓gRT, ↓cvT, ↓pIT, ↓pLT, ↓pZT, ↓asZ, ↓aNT, ↓arL, ↓asL, ↓arI, ↓asI, ↓aR_1, ↓bnd_some, ↓wh_eq, ↓on_some, ↓on_none, asZ, arL, asL, arI, asI, aR_1, bnd_some, wh_eq, on_some, on_none, tnT, tnU, tnL, nk, jk, N_add, N_mul, N_sub, N_neg, J_add, J_mul, J_sub, J_neg, N_J]
theorem q_loA {k : Int} (h : -2147483648 ≤ k ∧ k ≤ 2147483647) : fX2_lowerAt 20 (N k) (hq i l x y) = some (J (loA l k), hq i l x y) := by
  unfold fX2_lowerAt loA
  simp only [nk, jk, N_add, N_mul, N_sub, N_neg, J_add, J_mul, J_sub, J_neg]
  by_cases c1 : 0 ≤ k
  · by_cases c2 : 60 ≤ k
    · simp (disch := omega) only [↓iNlt_t, ↓iNlt_f, ↓iNle_t, ↓iNle_f, ↓iNeq_t, ↓iNeq_f, ↓iJlt_t, ↓iJlt_f, ↓iJle_t, ↓iJle_f, ↓iJeq_t, ↓iJeq_f, ↓iZlt_t, ↓iZlt_f, ↓iZle_t, ↓iZle_f, ↓iZeq_t, ↓iZeq_f, ↓iQlt_t, ↓iQlt_f, ↓iQle_t, ↓iQle_f, ↓iQeq_t, ↓iQeq_f, ↓iAnd_t, ↓iAnd_f, ↓iOr_t, ↓iOr_f, ↓iIff_t, ↓iIff_f, ↓iNot_t, ↓iNot_f, ↓iTrue, ↓iFalse, ↓ckN, ↓ckJ, ↓gIT, ↓gLT, ↓gRT, ↓cvT, ↓pIT, ↓pLT, ↓pZT, ↓asZ, ↓aNT, ↓arL, ↓asL, ↓arI, ↓asI, ↓aR_1, ↓bnd_some, ↓wh_eq, ↓on_some, ↓on_none, asZ, arL, asL, arI, asI, aR_1, bnd_some, wh_eq, on_some, on_none, tnT, tnU, tnL, nk, jk, N_add, N_mul, N_sub, N_neg, J_add, J_mul, J_sub, J_neg, N_J]
    · simp (disch := omega) only [↓iNlt_t, ↓iNlt_f, ↓iNle_t, ↓iNle_f, ↓iNeq_t, ↓iNeq_f, ↓iJlt_t, ↓iJlt_f, ↓iJle_t, ↓iJle_f, ↓iJeq_t, ↓iJeq_f, ↓iZlt_t, ↓iZlt_f, ↓iZle_t, ↓iZle_f, ↓iZeq_t, ↓iZeq_f, ↓iQlt_t, ↓iQlt_f, ↓iQle_t, ↓iQle_f, ↓iQeq_t, ↓iQeq_f, ↓iAnd_t, ↓iAnd_f, ↓iOr_t, ↓iOr_f, ↓iIff_t, ↓iIff_f, ↓iNot_t, ↓iNot_f, ↓iTrue, ↓iFalse, ↓ckN, ↓ckJ, ↓gIT, ↓gLT, ↓gRT, ↓cvT, ↓pIT, ↓pLT, ↓pZT, ↓asZ, ↓aNT, ↓arL, ↓asL, ↓arI, ↓asI, ↓aR_1, ↓bnd_some, ↓wh_eq, ↓on_some, ↓on_none, asZ, arL, asL, arI, asI, aR_1, bnd_some, wh_eq, on_some, on_none, tnT, tnU, tnL, nk, jk, N_add, N_mul, N_sub, N_neg, J_add, J_mul, J_sub, J_neg, N_J]
  · by_cases c2 : k = -1
    · simp (disch := omega) only [↓iNlt_t, ↓iNlt_f, ↓iNle_t, ↓iNle_f, ↓iNeq_t, ↓iNeq_f, ↓iJlt_t, ↓iJlt_f, ↓iJle_t, ↓iJle_f, ↓iJeq_t, ↓iJeq_f, ↓iZlt_t, ↓iZlt_f, ↓iZle_t, ↓iZle_f, ↓iZeq_t, ↓iZeq_f, ↓iQlt_t, ↓iQlt_f, ↓iQle_t, ↓iQle_f, ↓iQeq_t, ↓iQeq_f, ↓iAnd_t, ↓iAnd_f, ↓iOr_t, ↓iOr_f, ↓iIff_t, ↓iIff_f, ↓iNot_t, ↓iNot_f, ↓iTrue, ↓iFalse, ↓ckN, ↓ckJ, ↓gIT, ↓gLT, ↓gRT, ↓cvT, ↓pIT, ↓pLT, ↓pZT, ↓asZ, ↓aNT, ↓arL, ↓asL, ↓arI, ↓asI, ↓aR_1, ↓bnd_some, ↓wh_eq, ↓on_some, ↓on_none, asZ, arL, asL, arI, asI, aR_1, bnd_some, wh_eq, on_some, on_none, tnT, tnU, tnL, nk, jk, N_add, N_mul, N_sub, N_neg, J_add, J_mul, J_sub, J_neg, N_J]
    · simp (disch := omega) only [↓iNlt_t, ↓iNlt_f, ↓iNle_t, ↓iNle_f, ↓iNeq_t, ↓iNeq_f, ↓iJlt_t, ↓iJlt_f, ↓iJle_t, ↓iJle_f, ↓iJeq_t, ↓iJeq_f, ↓iZlt_t, ↓iZlt_f, ↓iZle_t, ↓iZle_f, ↓iZeq_t, ↓iZeq_f, ↓iQlt_t, ↓iQlt_f, ↓iQle_t, ↓iQle_f, ↓iQeq_t, ↓iQeq_f, ↓iAnd_t, ↓iAnd_f, ↓iOr_t, ↓iOr_f, ↓iIff_t, ↓iIff_f, ↓iNot_t, ↓iNot_f, ↓iTrue, ↓iFalse, ↓ckN, ↓ckJ, ↓gIT, ↓gLT, ↓gRT, ↓cvT, ↓pIT, ↓pLT, ↓pZT, ↓asZ, ↓aNT, ↓arL, ↓asL, ↓arI, ↓asI, ↓aR_1, ↓bnd_some, ↓wh_eq, ↓on_some, ↓on_none, asZ, arL, asL, arI, asI, aR_1, bnd_some, wh_eq, on_some, on_none, tnT, tnU, tnL, nk, jk, N_add, N_mul, N_sub, N_neg, J_add, J_mul, J_sub, J_neg, N_J]
theorem fl_tot (X Y : Int64) (h : AH) : ∃ v, fX8_floorOf X Y h = some (v, h) := by
  unfold fX8_floorOf
  by_cases c : Y = 0
  · exact ⟨_, if_pos c⟩
  · rw [if_neg c]
    unfold fJ9_floorDiv_f86c9
    rw [ck_t c]
    simp only [wh_eq]
    split
    · exact ⟨_, rfl⟩
    · split
      · exact ⟨_, rfl⟩
      · exact ⟨_, rfl⟩
theorem times_tot (X Y : Int64) (h : AH) : ∃ v, fX8_times X Y h = some (J v, h) ∧ ok64 v := by
  have hx := J_rng X
  have hy := J_rng Y
  rw [J_of X, J_of Y]
  generalize X.toInt = a at *
  generalize Y.toInt = b at *
  by_cases c1 : far a
  · refine ⟨4000000000000000000, ?_, by omega⟩
    unfold fX8_times
    rw [q_isFar hx.1 hx.2, bnd_some, bif0, if_pos c1]
    rfl
  · by_cases c2 : far b
    · refine ⟨4000000000000000000, ?_, by omega⟩
      unfold fX8_times
      rw [q_isFar hx.1 hx.2, bnd_some, bif0, if_neg c1, q_isFar hy.1 hy.2, bnd_some, bif0, if_pos c2]
      rfl
    · exact ⟨_, q_times (by omega) (by omega) h, tm_ok _ _⟩
theorem E_setSide (b : Int32) (X Y : Int64) : Ends (fX5_setSide 23 b X Y (hq i l x y)) i l x y := by
  have s : S0 23 = some (5, 0) := by simp only [shT]
  unfold fX5_setSide
  exact Ends.ite (Ends.pL s (by omega) (Ends.pL s (by omega) (Ends.ret _))) (Ends.pL s (by omega) (Ends.pL s (by omega) (Ends.ret _)))
theorem E_66 {k : Int} (hk : -2 ≤ k ∧ k ≤ 100) (X Y : Int64) (b : Int32) : Ends (fX5_settleAhead_66 20 (N k) X Y 23 b (hq i l x y)) i l x y := by
  have s : S0 23 = some (5, 0) := by simp only [shT]
  have s2 : S0 20 = some (2, 0) := by simp only [shT]
  unfold fX5_settleAhead_66
  simp only [nk, N_sub]
  rw [cv_q s2, bq (q_upA (by omega)), cv_q s2, bq (q_upA (by omega)), cv_q s2, bq (q_loA (by omega)), cv_q s]
  exact (E_setSide _ _ _).bnd (fun _ _ _ _ => Ends.ret _)
theorem E_38 {k : Int} (hk : -2 ≤ k ∧ k ≤ 100) (X Y : Int64) (b : Int32) : Ends (fX5_settleAhead_38 23 20 (N k) X Y b (hq i l x y)) i l x y := by
  have s : S0 23 = some (5, 0) := by simp only [shT]
  have s2 : S0 20 = some (2, 0) := by simp only [shT]
  unfold fX5_settleAhead_38
  simp only [nk, N_sub]
  rw [cv_q s2, bq (q_upA (by omega)), cv_q s]
  exact (E_setSide _ _ _).bnd (fun _ _ _ _ => Ends.ite (E_66 hk _ _ _) (E_66 hk _ _ _))
theorem E_settle {k : Int} (hk : -2 ≤ k ∧ k ≤ 100) (X : Int64) : Ends (fX5_settleAhead 23 20 (N k) X (hq i l x y)) i l x y := by
  have s2 : S0 20 = some (2, 0) := by simp only [shT]
  unfold fX5_settleAhead
  simp only [nk, N_sub]
  rw [cv_q s2, bq (q_loA (by omega)), cv_q s2, bq (q_loA (by omega))]
  obtain ⟨v, hv⟩ := fl_tot (X - J (loA l (k - 2))) (J (loA l (k - 1))) (hq i l x y)
  rw [bq hv, ck_t (by decide)]
  exact Ends.ite (E_38 hk _ _ _) (E_38 hk _ _ _)
theorem E_seek39 {a : Nat} (ha : S0 a = some (7, 0)) (hF : 0 ≤ i 20 2 ∧ i 20 2 ≤ 60) : Ends (fX5_seek_39 23 a 20 (hq i l x y)) i l x y := by
  have s : S0 23 = some (5, 0) := by simp only [shT]
  have s2 : S0 20 = some (2, 0) := by simp only [shT]
  unfold fX5_seek_39
  rw [gI_q s2, gI_q ha]
  refine Ends.ite ?_ (Ends.ret _)
  rw [gI_q ha]
  refine Ends.ite (Ends.ret _) ?_
  simp only [nk]
  rw [gI_q s2, N_sub, cv_q s2, bq (q_upA (by omega)), gI_q s2, N_sub, cv_q s2, bq (q_loA (by omega)), cv_q s]
  refine (E_setSide _ _ _).bnd (fun _ i' l' k => ?_)
  have e : i' 20 2 = i 20 2 := by rw [k.1 20 (by omega) (by omega)]
  rw [gI_q s2, N_sub, cv_q s2, bq (q_upA (by omega)), gI_q s2, N_sub, cv_q s2, bq (q_loA (by omega)), cv_q s]
  exact (E_setSide _ _ _).bnd (fun _ _ _ _ => Ends.ret _)
theorem E_seek {a : Nat} (ha : S0 a = some (7, 0)) (hF : 0 ≤ i 20 2 ∧ i 20 2 ≤ 60) (X : Int64) : Ends (fX5_seek 23 a 20 X (hq i l x y)) i l x y := by
  have s : S0 23 = some (5, 0) := by simp only [shT]
  have s2 : S0 20 = some (2, 0) := by simp only [shT]
  have key : ∀ (m k n : Nat), k + m = 61 → m + 1 ≤ n → Ends (fX5_seek_3L n 23 a 20 X (N k) (hq i l x y)) i l x y := by
    intro m
    induction m with
    | zero =>
      intro k n hk hn
      obtain ⟨z, rfl⟩ : ∃ z, n = z + 1 := ⟨n - 1, by omega⟩
      show Ends (fX5_seek_3 (fX5_seek_3L z) 23 a 20 _ _ _) i l x y
      unfold fX5_seek_3
      rw [gI_q s2, if_pos (by rw [N_le (by omega) (by omega) (by omega) (by omega)]; omega)]
      exact E_seek39 ha hF
    | succ m ih =>
      intro k n hk hn
      obtain ⟨z, rfl⟩ : ∃ z, n = z + 1 := ⟨n - 1, by omega⟩
      have ih := ih (k + 1) z (by omega) (by omega)
      show Ends (fX5_seek_3 (fX5_seek_3L z) 23 a 20 _ _ _) i l x y
      unfold fX5_seek_3 fX5_seek_23
      rw [gI_q s2]
      refine Ends.ite (E_seek39 ha hF) ?_
      simp only [nk, N_add]
      rw [cv_q s2, bq (q_loA (by omega))]
      refine Ends.ite ih ?_
      rw [cv_q s]
      exact (E_settle (by omega) _).bnd (fun _ _ _ _ => Ends.ret _)
  unfold fX5_seek
  exact key 61 0 1000 (by omega) (by omega)
theorem E_tell (a b : Int32) : Ends (fX5_tell 23 a b (hq i l x y)) i l x y := by
  have s : S0 23 = some (5, 0) := by simp only [shT]
  unfold fX5_tell
  exact Ends.ite (Ends.ite (Ends.gL s (Ends.ret _)) (Ends.gL s (Ends.ret _))) (Ends.ite (Ends.gL s (Ends.ret _)) (Ends.gL s (Ends.ret _)))
theorem E_simpler : Ends (fX5_upperIsSimpler 23 (hq i l x y)) i l x y := by
  have s : S0 23 = some (5, 0) := by simp only [shT]
  unfold fX5_upperIsSimpler
  exact Ends.gL s (Ends.gL s (Ends.ite (Ends.ret _) (Ends.ret _)))
theorem E_middle {s : Nat} (hs : s < 40) (h1 : 0 ≤ i (2 * s + 28) 3 ∧ i (2 * s + 28) 3 ≤ 60) (h2 : a01 (i (2 * s + 28) 4)) (hp : ∀ k : Nat, (k : Int) < i (2 * s + 28) 3 → ¬ far (l (2 * s + 28 + 1) k)) : Ends (fX5_againstMiddle 23 (2 * s + 28) (hq i l x y)) i l x y := by
  have s3 : S0 23 = some (5, 0) := by simp only [shT]
  have s4 : S0 24 = some (3, 0) := by simp only [shT]
  have st := St_s hs
  unfold fX5_againstMiddle
  simp only [jk]
  rw [gL_q s3, gL_q s3]
  obtain ⟨v1, e1, o1⟩ := times_tot (J (l 23 0)) (J (l 23 3)) (hq i l x y)
  rw [bq e1, gL_q s3, gL_q s3]
  obtain ⟨v2, e2, o2⟩ := times_tot (J (l 23 2)) (J (l 23 1)) (hq i l x y)
  rw [bq e2, b_plus _ o1 o2, gL_q s3]
  obtain ⟨v3, e3, o3⟩ := times_tot (J 2) (J (l 23 1)) (hq i l x y)
  rw [bq e3, gL_q s3]
  obtain ⟨v4, e4, o4⟩ := times_tot (J v3) (J (l 23 3)) (hq i l x y)
  have o5 := pl_ok v1 v2
  generalize pl v1 v2 = v5 at *
  rw [bq e4]
  simp only [gRT]
  rw [cv_q s4, bq (q_become s4 _ _ _ _)]
  simp only [gRT]
  rw [cv_q s4, q_bring s4 (oc_0 _ _ _ _ _ _) (oc_1 _ _ _ _ _ _) (oc_2 _ _ _ _ _ _) (oc_3 _ _ _ _ _ _) o5 (by omega) o4 (by omega)]
  have K0 : ∀ a b n d, Kp i l i (oc l 24 a b n d) := fun a b n d => ⟨fun _ _ _ => rfl, fun _ _ => rfl, fun h => h, fun c h1 h2 => oc_n _ _ _ _ _ (by omega)⟩
  by_cases c : far v5 ∨ far 0 ∨ far v4 ∨ v4 = 0
  · rw [if_pos c, bnd_some, if_pos rfl]
    exact (Ends.ret _).kp (K0 _ _ _ _)
  · rw [if_neg c, bnd_some, Int.zero_tdiv, if_pos (show (0 : Int) = 0 ∨ _ from Or.inl rfl), if_neg (by decide)]
    obtain ⟨d1, d2⟩ := lsg_ok (a := v5) (b := 0) (d := v4) (by omega) (by omega)
    have fa := tdiv_far (a := v5) (s := lsg v5 0 v4) (by omega)
    generalize v5.tdiv (lsg v5 0 v4) = u at *
    generalize v4.tdiv (lsg v5 0 v4) = v at *
    simp only [gRT]
    rw [gL_q s4, oc_0, gL_q s4, oc_3, cv_q St_25.1.1, bq (q_becomeRatio St_25 fa (by omega) d2)]
    simp only [gRT]
    rw [cv_q st.1.1]
    have hK := cK_le u v 60 0
    have H := q_held (i := stI i 25 0 (cK u v 60 0 : Nat) (ib ((cs u v (cK u v 60 0)).2 = 0)) 0) (l := wr (stL (oc (oc l 24 v5 0 0 v4) 24 u 0 0 v) 25 u 0 0 v) (25 + 1) (fl (cp u v) (oc (oc l 24 v5 0 0 v4) 24 u 0 0 v (25 + 1)) (cK u v 60 0))) (x := x) (y := y) st St_25 (p := l (2 * s + 28 + 1)) (q := cp u v) (np := i (2 * s + 28) 3) (ep := i (2 * s + 28) 4) (nq := (cK u v 60 0 : Nat)) (eq := ib ((cs u v (cK u v 60 0)).2 = 0)) (by rw [stI_n _ _ _ _ _ (by omega)]) (stI_3 _ _ _ _ _ _) (by rw [stI_n _ _ _ _ _ (by omega)]) (stI_4 _ _ _ _ _ _) h1 (by omega) h2 (ib_01 _) (fun k hk => ⟨by rw [wr_n _ _ (by omega), stL_n _ _ _ _ _ (by omega), oc_n _ _ _ _ _ (by omega), oc_n _ _ _ _ _ (by omega)], hp k hk⟩) (fun k hk => ⟨by rw [wr_s, fl, if_pos (by omega)], (cp_rng fa (by omega) d2 (k := k) (fun j hj => cK_nz u v 60 0 j (by omega) (by omega))).1⟩)
    rw [bq H]
    refine (Ends.ret _).kp ⟨fun c z1 z2 => stI_n _ _ _ _ _ (by omega), fun j hj => by rw [stI_n _ _ _ _ _ (by omega)], fun z => by rw [stI_n _ _ _ _ _ (by omega)]; exact z, fun c z1 z2 => ?_⟩
    rw [wr_n _ _ (by omega), stL_n _ _ _ _ _ (by omega), oc_n _ _ _ _ _ (by omega), oc_n _ _ _ _ _ (by omega)]
end EN
