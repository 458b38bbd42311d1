/-! ===== a new object ===== -/
section
variable {x y : Option Nat}
theorem find0 (s : Int32) : fX8_find 0 s (hq i0 l0 x y) = some (none, hq i0 l0 x y) := by
  have h := q_find (x := x) (y := y) (l := l0) Rel.start.t (N_rng s).1 (N_rng s).2
  rw [← N_of] at h
  rw [h, if_neg]
  rintro ⟨h1, h2, h3⟩
  exact h3 (inT.1 _ (by omega)).1
theorem no0 (s : Int32) : fX9_noStream 108 s (hq i0 l0 x y) = some (1, hq i0 l0 x y) := by
  have h := q_noStream (x := x) (y := y) (l := l0) Rel.start.m (N_rng s).1 (N_rng s).2
  rw [← N_of] at h
  rw [h, if_neg]
  rintro ⟨h1, h2, h3⟩
  exact h3 (inT.1 _ (by omega)).2
end
/-- both answer alike on a new object -/
def Alk0 (F G : AH → Fn Int64) : Prop := ∀ (x y : Option Nat), ∃ (v : Int64) (i1 l1 : Nat → Nat → Int) (x1 y1 : Option Nat) (h2 : AH), F (hq i0 l0 x y) = some (v, hq i1 l1 x1 y1) ∧ G (hq i1 l1 x1 y1) = some (v, h2)
theorem Agree.alk0 {F G : AH → Fn Int64} (h : Agree F G) : Alk0 F G := fun x y => by
  obtain ⟨v, i1, l1, x1, y1, i2, l2, x2, y2, a, b, -⟩ := h i0 l0 x y Rel.start
  exact ⟨v, i1, l1, x1, y1, _, a, b⟩
theorem alk0_of {F G : AH → Fn Int64} (v : Int64) (h1 : ∀ x y, F (hq i0 l0 x y) = some (v, hq i0 l0 x y)) (h2 : ∀ x y, G (hq i0 l0 x y) = some (v, hq i0 l0 x y)) : Alk0 F G := fun x y => ⟨v, i0, l0, x, y, _, h1 x y, h2 x y⟩
theorem s0T : S0 0 = some (8, 0) := by simp only [shT]
theorem s9T : S0 108 = some (9, 0) := by simp only [shT]
theorem if10 {ρ : Type} (A B : Fn ρ) : (if (1 : Int32) = 0 then A else B) = B := if_neg (by decide)
theorem u_turn (x1 : Int32) : Alk0 (fX8_turn 0 x1 ) (fX9_turn 108 x1 ) := by
  refine alk0_of (-2000000000000000001) (fun x y => ?_) (fun x y => ?_)
  · unfold fX8_turn
    rw [cv_q s0T, find0, bnd_some, on_none]
  · unfold fX9_turn
    rw [cv_q s9T, no0, bnd_some, if10]
theorem u_drop (x1 : Int32) : Alk0 (fX8_drop 0 x1 ) (fX9_drop 108 x1 ) := by
  refine alk0_of (-2000000000000000001) (fun x y => ?_) (fun x y => ?_)
  · unfold fX8_drop
    rw [cv_q s0T, find0, bnd_some, on_none]
  · unfold fX9_drop
    rw [cv_q s9T, no0, bnd_some, if10]
theorem u_told (x1 x2 : Int32) : Alk0 (fX8_told 0 x1 x2 ) (fX9_told 108 x1 x2 ) := by
  refine alk0_of (-2000000000000000001) (fun x y => ?_) (fun x y => ?_)
  · unfold fX8_told
    rw [cv_q s0T, find0, bnd_some, on_none]
  · unfold fX9_told
    rw [cv_q s9T, no0, bnd_some, if10]
theorem u_part (x1 x2 : Int32) : Alk0 (fX8_part 0 x1 x2 ) (fX9_part 108 x1 x2 ) := by
  refine alk0_of (-2000000000000000001) (fun x y => ?_) (fun x y => ?_)
  · unfold fX8_part
    rw [cv_q s0T, find0, bnd_some, on_none]
  · unfold fX9_part
    rw [cv_q s9T, no0, bnd_some, if10]
theorem u_exact (x1 x2 : Int32) : Alk0 (fX8_exact 0 x1 x2 ) (fX9_exact 108 x1 x2 ) := by
  refine alk0_of (-2000000000000000001) (fun x y => ?_) (fun x y => ?_)
  · unfold fX8_exact
    rw [cv_q s0T, find0, bnd_some, on_none]
  · unfold fX9_exact
    rw [cv_q s9T, no0, bnd_some, if10]
theorem u_round (x1 x2 : Int32) : Alk0 (fX8_round 0 x1 x2 ) (fX9_round 108 x1 x2 ) := by
  refine alk0_of (-2000000000000000001) (fun x y => ?_) (fun x y => ?_)
  · unfold fX8_round
    rw [cv_q s0T, find0, bnd_some, on_none]
  · unfold fX9_round
    rw [cv_q s9T, no0, bnd_some, if10]
theorem u_sign (x1 : Int32) : Alk0 (fX8_sign 0 x1 ) (fX9_sign 108 x1 ) := by
  refine alk0_of (-2000000000000000001) (fun x y => ?_) (fun x y => ?_)
  · unfold fX8_sign
    rw [cv_q s0T, find0, bnd_some, on_none]
  · unfold fX9_sign
    rw [cv_q s9T, no0, bnd_some, if10]
theorem u_near (x1 x2 x3 : Int32) : Alk0 (fX8_near 0 x1 x2 x3 ) (fX9_near 108 x1 x2 x3 ) := by
  refine alk0_of (-2000000000000000001) (fun x y => ?_) (fun x y => ?_)
  · unfold fX8_near
    rw [cv_q s0T, find0, bnd_some, on_none]
  · unfold fX9_near
    rw [cv_q s9T, no0, bnd_some, if10]
theorem u_best (x1 x2 x3 x4 : Int32) : Alk0 (fX8_best 0 x1 x2 x3 x4 ) (fX9_best 108 x1 x2 x3 x4 ) := by
  refine alk0_of (-2000000000000000001) (fun x y => ?_) (fun x y => ?_)
  · unfold fX8_best
    rw [cv_q s0T, find0, bnd_some, on_none]
  · unfold fX9_best
    rw [cv_q s9T, no0, bnd_some, if10]
theorem u_figure (x1 x2 x3 : Int32) : Alk0 (fX8_figure 0 x1 x2 x3 ) (fX9_figure 108 x1 x2 x3 ) := by
  refine alk0_of (-2000000000000000001) (fun x y => ?_) (fun x y => ?_)
  · unfold fX8_figure
    rw [cv_q s0T, find0, bnd_some, on_none]
  · unfold fX9_figure
    rw [cv_q s9T, no0, bnd_some, if10]
theorem u_act (x1 x2 x3 : Int32) : Alk0 (fX8_act 0 x1 x2 x3 ) (fX9_act 108 x1 x2 x3 ) := by
  refine alk0_of (-2000000000000000001) (fun x y => ?_) (fun x y => ?_)
  · unfold fX8_act
    rw [cv_q s0T, find0, bnd_some, on_none, cv_q s0T, find0, bnd_some, on_none]
  · unfold fX9_act
    rw [cv_q s9T, no0, bnd_some, if10]
theorem u_mix (x1 x2 : Int32) : Alk0 (fX8_mix 0 x1 x2 ) (fX9_mix 108 x1 x2 ) := by
  refine alk0_of (-2000000000000000001) (fun x y => ?_) (fun x y => ?_)
  · unfold fX8_mix
    rw [cv_q s0T, find0, bnd_some, on_none, cv_q s0T, find0, bnd_some, on_none]
  · unfold fX9_mix
    rw [cv_q s9T, no0, bnd_some, if10]
theorem u_compare (x1 x2 : Int32) : Alk0 (fX8_compare 0 x1 x2 ) (fX9_compare 108 x1 x2 ) := by
  refine alk0_of (-2000000000000000001) (fun x y => ?_) (fun x y => ?_)
  · unfold fX8_compare
    rw [cv_q s0T, find0, bnd_some, on_none, cv_q s0T, find0, bnd_some, on_none]
  · unfold fX9_compare
    rw [cv_q s9T, no0, bnd_some, if10]
