/-! ===== the law's calls ===== -/
theorem e_ratio (a b : Int64) : Agree (fX8_ratio 0 a b) (fX9_ratio 108 a b) := by
  have := c_ratio (J_rng a).1 (J_rng a).2 (J_rng b).1 (J_rng b).2
  rw [← J_of, ← J_of] at this
  exact this
theorem e_root (a b c d : Int32) : Agree (fX8_root 0 a b c d) (fX9_root 108 a b c d) := by
  have := c_root (N_rng a).1 (N_rng a).2 (N_rng b).1 (N_rng b).2 (N_rng c).1 (N_rng c).2 (N_rng d).1 (N_rng d).2
  rw [← N_of, ← N_of, ← N_of, ← N_of] at this
  exact this
/-- from every related state the rest of the law ends with 1 -/
def LEnd (K : AH → Fn Int32) : Prop := ∀ (i l : Nat → Nat → Int) (x y : Option Nat), Rel i l → ∃ h1, K (hq i l x y) = some (1, h1)
theorem callA {F G : AH → Fn Int64} (A : Agree F G) {K : AH → Fn Int32} (hK : LEnd K) {i l : Nat → Nat → Int} {x y : Option Nat} (r : Rel i l) : ∃ h1, cv (hq i l x y) 0 8 (bnd (F (hq i l x y)) (fun v h => cv h 108 9 (bnd (G h) (fun w h' => if v = w then K h' else some (0, h'))))) = some (1, h1) := by
  obtain ⟨v, i1, l1, x1, y1, i2, l2, x2, y2, a, b, r2⟩ := A i l x y r
  obtain ⟨h1, e⟩ := hK i2 l2 x2 y2 r2
  refine ⟨h1, ?_⟩
  rw [cv_q s0T, a, bnd_some, cv_q s9T, b, bnd_some, if_pos rfl, e]
theorem callC {F G : AH → Fn Int64} (A : Calm F G) {K : AH → Fn Int32} (hK : LEnd K) {i l : Nat → Nat → Int} {x y : Option Nat} (r : Rel i l) : ∃ h1, cv (hq i l x y) 0 8 (bnd (F (hq i l x y)) (fun _ h => cv h 108 9 (bnd (G h) (fun _ h' => K h')))) = some (1, h1) := by
  obtain ⟨v, w, i1, l1, x1, y1, i2, l2, x2, y2, a, b, r2⟩ := A i l x y r
  obtain ⟨h1, e⟩ := hK i2 l2 x2 y2 r2
  refine ⟨h1, ?_⟩
  rw [cv_q s0T, a, bnd_some, cv_q s9T, b, bnd_some, e]
theorem xI_q {ρ : Type} {L : Nat} (hL : L ≤ 2560) (xs : Nat → Int32) {k : Nat} (hk : k < L) (F : Int32 → Fn ρ) : xI L xs (N k) F = F (xs k) := by
  unfold xI
  rw [ck_t (by
    rw [nk.1, N_lt (by omega) (by omega) (by omega) (by omega), N_cl (by omega) (by omega)]
    omega), N_cl (by omega) (by omega), (tnT k).1]
theorem xI_5 {ρ : Type} {L : Nat} (hL : L ≤ 2560) (xs : Nat → Int32) {k : Nat} (hk : k + 5 ≤ L) (F : Int32 → Fn ρ) : xI L xs (N k) F = F (xs k) ∧ xI L xs (N k + 1) F = F (xs (k + 1)) ∧ xI L xs (N k + 2) F = F (xs (k + 2)) ∧ xI L xs (N k + 3) F = F (xs (k + 3)) ∧ xI L xs (N k + 4) F = F (xs (k + 4)) := by
  have e : ∀ j : Nat, N (k : Int) + N (j : Int) = N ((k + j : Nat) : Int) := fun j => by rw [N_add]; rfl
  exact ⟨xI_q hL xs (by omega) F, (congrArg (fun z => xI L xs z F) (e 1)).trans (xI_q hL xs (by omega) F), (congrArg (fun z => xI L xs z F) (e 2)).trans (xI_q hL xs (by omega) F), (congrArg (fun z => xI L xs z F) (e 3)).trans (xI_q hL xs (by omega) F), (congrArg (fun z => xI L xs z F) (e 4)).trans (xI_q hL xs (by omega) F)⟩
