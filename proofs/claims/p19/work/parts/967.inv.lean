/-! ===== making: what stays ===== -/
theorem nC_rng (ox oy : Int) : 2 ≤ nC ox oy ∧ nC ox oy ≤ 4 := by
  unfold nC
  split <;> omega
section INV
variable {px py : Nat → Int} {nx ny : Nat} {ex ey : Int}
theorem tkX_nf {p : Int} {v : Nat → Int} (hp : ¬ far p) (hv : ∀ j, j < 8 → ¬ far (v j)) (h : ¬ farX p v) : ∀ j, j < 8 → ¬ far (gdv (tkX p v) j) := fun j hj => gdv_far _ ((wkX_f hp hv).2.1 h j hj).2
theorem tkY_nf {p : Int} {v : Nat → Int} (hp : ¬ far p) (hv : ∀ j, j < 8 → ¬ far (v j)) (h : ¬ farY p v) : ∀ j, j < 8 → ¬ far (gdv (tkY p v) j) := fun j hj => gdv_far _ ((wkY_f hp hv).2.1 h j hj).2
theorem MI_gX (sh : SH px nx ex py ny ey) {m : MS} (h : MI nx ex ny ey m) (h0 : m.2.2.1.1 = 0) : MI nx ex ny ey (gX px nx ex m).2 ∧ ((gX px nx ex m).1 = 0 ∨ ((gX px nx ex m).1 = 1 ∧ mea nx ny (gX px nx ex m).2 + 1 ≤ mea nx ny m)) := by
  obtain ⟨v, ⟨fx, fy⟩, ⟨ox, oy⟩, ⟨kn, pt⟩, n, rl⟩ := m
  have h' := h
  obtain ⟨hv, ⟨h1, h2⟩, ho, ⟨h3, h4⟩, h5, h6, h7, h8⟩ := h
  dsimp only at hv h0 h1 h2 ho h3 h4 h5 h6 h7 h8
  subst h0
  obtain ⟨⟨s1, s2⟩, ⟨s3, s4, s5⟩, s6, s7⟩ := sh
  unfold gX
  dsimp only
  by_cases c : fx < nx ∧ ¬ farX (px fx) v
  · rw [iff_t c]
    obtain ⟨c1, c2⟩ := c
    obtain ⟨p1, p2⟩ := s6 fx c1
    have V := tkX_nf p1 hv c2
    have oy01 : oy = 0 ∨ oy = 1 := by omega
    have PX : 0 < kn → ∃ σ : Int, (σ = 1 ∨ σ = -1) ∧ ∀ k, k < nC 0 oy → PP σ (cor 0 oy (gdv (tkX (px fx) v) 0) (gdv (tkX (px fx) v) 1) (gdv (tkX (px fx) v) 2) (gdv (tkX (px fx) v) 3) k) (cor 0 oy (gdv (tkX (px fx) v) 4) (gdv (tkX (px fx) v) 5) (gdv (tkX (px fx) v) 6) (gdv (tkX (px fx) v) 7) k) := fun hk => by
      obtain ⟨⟨q1, q2⟩, σ, hσ, P⟩ := h8 hk
      exact ⟨σ, hσ, pos_gdv (pos_tkX oy01 (p2 q1) P)⟩
    by_cases c3 : ex = 1 ∧ fx + 1 = nx
    · rw [iff_t c3]
      have hoy : oy = 0 := by
        rcases oy01 with z | z
        · exact z
        · exact absurd ⟨c3.1, (h4 z).1⟩ s5
      subst hoy
      refine ⟨⟨fun j hj => gdv_far _ (ouX_f V j hj), ⟨by dsimp only; omega, h2⟩, Or.inr (Or.inl ⟨rfl, rfl⟩), ⟨fun _ => ⟨c3.1, c3.2⟩, fun z => by dsimp only at z; omega⟩, h5, by dsimp only; omega, h7, fun hk => ⟨⟨by dsimp only; omega, ((h8 hk).1).2⟩, ?_⟩⟩, Or.inr ⟨rfl, by unfold mea; dsimp only; omega⟩⟩
      obtain ⟨σ, hσ, P⟩ := PX hk
      exact ⟨σ, hσ, pos_gdv (pos_ouX P)⟩
    · rw [iff_f c3]
      exact ⟨⟨V, ⟨by dsimp only; omega, h2⟩, ho, ⟨fun z => by dsimp only at z; omega, h4⟩, h5, by dsimp only; omega, h7, fun hk => ⟨⟨by dsimp only; omega, ((h8 hk).1).2⟩, PX hk⟩⟩, Or.inr ⟨rfl, by unfold mea; dsimp only; omega⟩⟩
  · rw [iff_f c]
    exact ⟨h', Or.inl rfl⟩
theorem MI_gY (sh : SH px nx ex py ny ey) {m : MS} (h : MI nx ex ny ey m) (h0 : m.2.2.1.2 = 0) : MI nx ex ny ey (gY py ny ey m).2 ∧ ((gY py ny ey m).1 = 0 ∨ ((gY py ny ey m).1 = 1 ∧ mea nx ny (gY py ny ey m).2 + 1 ≤ mea nx ny m)) := by
  obtain ⟨v, ⟨fx, fy⟩, ⟨ox, oy⟩, ⟨kn, pt⟩, n, rl⟩ := m
  have h' := h
  obtain ⟨hv, ⟨h1, h2⟩, ho, ⟨h3, h4⟩, h5, h6, h7, h8⟩ := h
  dsimp only at hv h0 h1 h2 ho h3 h4 h5 h6 h7 h8
  subst h0
  obtain ⟨⟨s1, s2⟩, ⟨s3, s4, s5⟩, s6, s7⟩ := sh
  unfold gY
  dsimp only
  by_cases c : fy < ny ∧ ¬ farY (py fy) v
  · rw [iff_t c]
    obtain ⟨c1, c2⟩ := c
    obtain ⟨p1, p2⟩ := s7 fy c1
    have V := tkY_nf p1 hv c2
    have ox01 : ox = 0 ∨ ox = 1 := by omega
    have PX : 0 < kn → ∃ σ : Int, (σ = 1 ∨ σ = -1) ∧ ∀ k, k < nC ox 0 → PP σ (cor ox 0 (gdv (tkY (py fy) v) 0) (gdv (tkY (py fy) v) 1) (gdv (tkY (py fy) v) 2) (gdv (tkY (py fy) v) 3) k) (cor ox 0 (gdv (tkY (py fy) v) 4) (gdv (tkY (py fy) v) 5) (gdv (tkY (py fy) v) 6) (gdv (tkY (py fy) v) 7) k) := fun hk => by
      obtain ⟨⟨q1, q2⟩, σ, hσ, P⟩ := h8 hk
      exact ⟨σ, hσ, pos_gdv (pos_tkY ox01 (p2 q2) P)⟩
    by_cases c3 : ey = 1 ∧ fy + 1 = ny
    · rw [iff_t c3]
      have hox : ox = 0 := by
        rcases ox01 with z | z
        · exact z
        · exact absurd ⟨(h3 z).1, c3.1⟩ s5
      subst hox
      refine ⟨⟨fun j hj => gdv_far _ (ouY_f V j hj), ⟨h1, by dsimp only; omega⟩, Or.inr (Or.inr ⟨rfl, rfl⟩), ⟨fun z => by dsimp only at z; omega, fun _ => ⟨c3.1, c3.2⟩⟩, h5, by dsimp only; omega, h7, fun hk => ⟨⟨((h8 hk).1).1, by dsimp only; omega⟩, ?_⟩⟩, Or.inr ⟨rfl, by unfold mea; dsimp only; omega⟩⟩
      obtain ⟨σ, hσ, P⟩ := PX hk
      exact ⟨σ, hσ, pos_gdv (pos_ouY P)⟩
    · rw [iff_f c3]
      exact ⟨⟨V, ⟨h1, by dsimp only; omega⟩, ho, ⟨h3, fun z => by dsimp only at z; omega⟩, h5, by dsimp only; omega, h7, fun hk => ⟨⟨((h8 hk).1).1, by dsimp only; omega⟩, PX hk⟩⟩, Or.inr ⟨rfl, by unfold mea; dsimp only; omega⟩⟩
  · rw [iff_f c]
    exact ⟨h', Or.inl rfl⟩
theorem cor_nf {ox oy a b c d : Int} (ho : (ox = 0 ∧ oy = 0) ∨ (ox = 1 ∧ oy = 0) ∨ (ox = 0 ∧ oy = 1)) (fa : ¬ far a) (fb : ¬ far b) (fc : ¬ far c) (h : ¬ farC ox oy a b c d) : ∀ k, k < nC ox oy → ¬ far (cor ox oy a b c d k) := by
  rcases ho with ⟨rfl, rfl⟩ | ⟨rfl, rfl⟩ | ⟨rfl, rfl⟩
  · rw [farC00] at h
    rw [show nC 0 0 = 4 from rfl, lt4]
    simp only [corT]
    exact ⟨fun z => h (Or.inr (Or.inr (Or.inl z))), fun z => h (Or.inl z), fun z => h (Or.inr (Or.inr (Or.inr z))), fa⟩
  · rw [farC10] at h
    rw [show nC 1 0 = 2 from rfl, lt2]
    simp only [corT]
    exact ⟨h, fc⟩
  · rw [farC01] at h
    rw [show nC 0 1 = 2 from rfl, lt2]
    simp only [corT]
    exact ⟨h, fb⟩
/-- the part that is given, and why it is above 0 -/
theorem give_q {m : MS} (h : MI nx ex ny ey m) (hF : ¬ cFar m) (hA : AGp (cUp m) (cLo m) (nC m.2.2.1.1 m.2.2.1.2)) : ¬ far ((cUp m 0).fdiv (cLo m 0)) ∧ (0 < m.2.2.2.1.1 → 1 ≤ (cUp m 0).fdiv (cLo m 0)) := by
  have hn := nC_rng m.2.2.1.1 m.2.2.1.2
  obtain ⟨hv, -, ho, -, -, -, -, h8⟩ := h
  obtain ⟨a1, a2⟩ := hA
  obtain ⟨l0, -⟩ := a1 0 (by omega)
  have fU : ¬ far (cUp m 0) := cor_nf ho (hv 0 (by omega)) (hv 1 (by omega)) (hv 2 (by omega)) (fun z => hF (Or.inl z)) 0 (by omega)
  refine ⟨fdiv_far fU l0, fun hk => ?_⟩
  obtain ⟨-, σ, hσ, P⟩ := h8 hk
  have P0 := P 0 (by omega)
  unfold PP at P0
  rcases hσ with rfl | rfl
  · have hL : 0 < cLo m 0 := by omega
    have := fdiv_rng (a := cUp m 0) hL
    rcases Int.lt_or_le ((cUp m 0).fdiv (cLo m 0)) 1 with z | z
    · exfalso
      have e : (cUp m 0).fdiv (cLo m 0) * cLo m 0 ≤ 0 * cLo m 0 := Int.mul_le_mul_of_nonneg_right (by omega) (by omega)
      omega
    · exact z
  · have hL : 0 < -cLo m 0 := by omega
    have e : (cUp m 0).fdiv (cLo m 0) = (-cUp m 0).fdiv (-cLo m 0) := (Int.neg_fdiv_neg ..).symm
    rw [e]
    have := fdiv_rng (a := -cUp m 0) hL
    rcases Int.lt_or_le ((-cUp m 0).fdiv (-cLo m 0)) 1 with z | z
    · exfalso
      have e : (-cUp m 0).fdiv (-cLo m 0) * (-cLo m 0) ≤ 0 * (-cLo m 0) := Int.mul_le_mul_of_nonneg_right (by omega) (by omega)
      omega
    · exact z
theorem MI_gG {m : MS} (h : MI nx ex ny ey m) (hk : m.2.2.2.1.1 < 60) (hf : 0 < m.2.1.1 ∧ 0 < m.2.1.2) (hF : ¬ cFar m) (hA : AGp (cUp m) (cLo m) (nC m.2.2.1.1 m.2.2.1.2)) : MI nx ex ny ey (gG ((cUp m 0).fdiv (cLo m 0)) m).2 ∧ ((gG ((cUp m 0).fdiv (cLo m 0)) m).1 = 0 ∨ ((gG ((cUp m 0).fdiv (cLo m 0)) m).1 = 1 ∧ mea nx ny (gG ((cUp m 0).fdiv (cLo m 0)) m).2 + 1 ≤ mea nx ny m)) := by
  obtain ⟨q1, q2⟩ := give_q h hF hA
  have hn := nC_rng m.2.2.1.1 m.2.2.1.2
  have h' := h
  obtain ⟨a1, a2⟩ := hA
  generalize hqq : (cUp m 0).fdiv (cLo m 0) = q at *
  obtain ⟨v, ⟨fx, fy⟩, ⟨ox, oy⟩, ⟨kn, pt⟩, n, rl⟩ := m
  obtain ⟨hv, ⟨h1, h2⟩, ho, ⟨h3, h4⟩, h5, h6, h7, h8⟩ := h
  dsimp only at *
  unfold gG
  dsimp only
  by_cases c : ¬ farG q v
  · rw [iff_t c]
    have G := (wkG_f q1 hv).2.1 c
    refine ⟨⟨fun j hj => gdv_far _ (G j hj).2, ⟨h1, h2⟩, ho, ⟨h3, h4⟩, by dsimp only; omega, by dsimp only; omega, fun j hj => ?_, fun _ => ⟨hf, ?_⟩⟩, Or.inr ⟨rfl, by unfold mea; dsimp only; omega⟩⟩
    · dsimp only at hj ⊢
      by_cases e : j = kn
      · rw [if_pos e]
        exact ⟨q1, fun z => q2 (by omega)⟩
      · rw [if_neg e]
        exact h7 j (by omega)
    · -- the corners behind it
      have key : ∀ σ : Int, (∀ k, k < nC ox oy → (0 < cLo (v, (fx, fy), (ox, oy), (kn, pt), n, rl) k ∧ σ = 1) ∨ (cLo (v, (fx, fy), (ox, oy), (kn, pt), n, rl) k < 0 ∧ σ = -1)) → (σ = 1 ∨ σ = -1) → Pos (gdv (gvE q v), (fx, fy), (ox, oy), (kn + 1, fun j => if j = kn then q else pt j), n + 1, rlA rl n 4 q (gdv (gvE q v))) := fun σ hs hσ => by
        refine ⟨σ, hσ, pos_gdv ?_⟩
        intro k hk
        unfold gvE
        simp only [v8_g]
        rw [cor_sub]
        exact pos_give1 (hs k hk) (a2 k hk)
      rcases Int.lt_or_gt_of_ne (a1 0 (by omega)).1 with z | z
      · refine key (-1) (fun k hk => Or.inr ⟨((a1 k hk).2).mpr z, rfl⟩) (Or.inr rfl)
      · refine key 1 (fun k hk => Or.inl ⟨?_, rfl⟩) (Or.inl rfl)
        have b1 := (a1 k hk).1
        have b2 : ¬ cLo (v, (fx, fy), (ox, oy), (kn, pt), n, rl) k < 0 := fun w => by
          have := ((a1 k hk).2).mp w
          omega
        omega
  · rw [iff_f c]
    exact ⟨h', Or.inl rfl⟩
theorem MI_gT (sh : SH px nx ex py ny ey) {m : MS} (h : MI nx ex ny ey m) : MI nx ex ny ey (gT px nx ex py ny ey m).2 ∧ ((gT px nx ex py ny ey m).1 = 0 ∨ ((gT px nx ex py ny ey m).1 = 1 ∧ mea nx ny (gT px nx ex py ny ey m).2 + 1 ≤ mea nx ny m)) := by
  have ho := h.2.2.1
  unfold gT
  by_cases c : m.2.2.1.1 = 0 ∧ (m.2.2.1.2 = 1 ∨ m.2.1.1 ≤ m.2.1.2)
  · rw [iff_t c]
    exact MI_gX sh h c.1
  · rw [iff_f c]
    exact MI_gY sh h (by omega)
theorem MI_stp (sh : SH px nx ex py ny ey) {m : MS} (h : MI nx ex ny ey m) : MI nx ex ny ey (stp' px nx ex py ny ey m).2 ∧ ((stp' px nx ex py ny ey m).1 = 0 ∨ ((stp' px nx ex py ny ey m).1 = 1 ∧ mea nx ny (stp' px nx ex py ny ey m).2 + 1 ≤ mea nx ny m)) := by
  unfold stp'
  by_cases c1 : 60 ≤ m.2.2.2.1.1
  · rw [iff_t c1]
    exact ⟨h, Or.inl rfl⟩
  · rw [iff_f c1]
    by_cases c2 : 0 < m.2.1.1 ∧ 0 < m.2.1.2
    · rw [iff_t c2]
      by_cases c3 : cFar m
      · rw [iff_t c3]
        exact ⟨h, Or.inl rfl⟩
      · rw [iff_f c3]
        by_cases c4 : AGp (cUp m) (cLo m) (nC m.2.2.1.1 m.2.2.1.2)
        · rw [iff_t c4]
          exact MI_gG h (by omega) c2 c3 c4
        · rw [iff_f c4]
          exact MI_gT sh h
    · rw [iff_f c2]
      exact MI_gT sh h
end INV
