/-! ===== making, as a function of the numbers ===== -/
/-- eight numbers; taken of both; out; known and parts; steps and the roll -/
abbrev MS : Type := (Nat → Int) × (Nat × Nat) × (Int × Int) × (Nat × (Nat → Int)) × (Nat × (Nat → Int))
noncomputable def iff' {α : Type} (p : Prop) (a b : α) : α := @ite α p (Classical.propDecidable p) a b
theorem iff_t {α : Type} {p : Prop} (h : p) (a b : α) : iff' p a b = a := if_pos h
theorem iff_f {α : Type} {p : Prop} (h : ¬ p) (a b : α) : iff' p a b = b := if_neg h
noncomputable def gX (px : Nat → Int) (nx : Nat) (ex : Int) (m : MS) : Int × MS :=
  iff' (m.2.1.1 < nx ∧ ¬ farX (px m.2.1.1) m.1)
    (1, iff' (ex = 1 ∧ m.2.1.1 + 1 = nx)
      (gdv (ouX (gdv (tkX (px m.2.1.1) m.1))), (m.2.1.1 + 1, m.2.1.2), (1, m.2.2.1.2), m.2.2.2.1, (m.2.2.2.2.1 + 2, rlA (rlA m.2.2.2.2.2 m.2.2.2.2.1 0 (px m.2.1.1) (gdv (tkX (px m.2.1.1) m.1))) (m.2.2.2.2.1 + 1) 2 0 (gdv (ouX (gdv (tkX (px m.2.1.1) m.1))))))
      (gdv (tkX (px m.2.1.1) m.1), (m.2.1.1 + 1, m.2.1.2), m.2.2.1, m.2.2.2.1, (m.2.2.2.2.1 + 1, rlA m.2.2.2.2.2 m.2.2.2.2.1 0 (px m.2.1.1) (gdv (tkX (px m.2.1.1) m.1)))))
    (0, m)
noncomputable def gY (py : Nat → Int) (ny : Nat) (ey : Int) (m : MS) : Int × MS :=
  iff' (m.2.1.2 < ny ∧ ¬ farY (py m.2.1.2) m.1)
    (1, iff' (ey = 1 ∧ m.2.1.2 + 1 = ny)
      (gdv (ouY (gdv (tkY (py m.2.1.2) m.1))), (m.2.1.1, m.2.1.2 + 1), (m.2.2.1.1, 1), m.2.2.2.1, (m.2.2.2.2.1 + 2, rlA (rlA m.2.2.2.2.2 m.2.2.2.2.1 1 (py m.2.1.2) (gdv (tkY (py m.2.1.2) m.1))) (m.2.2.2.2.1 + 1) 3 0 (gdv (ouY (gdv (tkY (py m.2.1.2) m.1))))))
      (gdv (tkY (py m.2.1.2) m.1), (m.2.1.1, m.2.1.2 + 1), m.2.2.1, m.2.2.2.1, (m.2.2.2.2.1 + 1, rlA m.2.2.2.2.2 m.2.2.2.2.1 1 (py m.2.1.2) (gdv (tkY (py m.2.1.2) m.1)))))
    (0, m)
noncomputable def gG (q : Int) (m : MS) : Int × MS :=
  iff' (¬ farG q m.1) (1, (gdv (gvE q m.1), m.2.1, m.2.2.1, (m.2.2.2.1.1 + 1, fun j => if j = m.2.2.2.1.1 then q else m.2.2.2.1.2 j), (m.2.2.2.2.1 + 1, rlA m.2.2.2.2.2 m.2.2.2.2.1 4 q (gdv (gvE q m.1))))) (0, m)
def cUp (m : MS) : Nat → Int := cor m.2.2.1.1 m.2.2.1.2 (m.1 0) (m.1 1) (m.1 2) (m.1 3)
def cLo (m : MS) : Nat → Int := cor m.2.2.1.1 m.2.2.1.2 (m.1 4) (m.1 5) (m.1 6) (m.1 7)
def cFar (m : MS) : Prop := farC m.2.2.1.1 m.2.2.1.2 (m.1 0) (m.1 1) (m.1 2) (m.1 3) ∨ farC m.2.2.1.1 m.2.2.1.2 (m.1 4) (m.1 5) (m.1 6) (m.1 7)
noncomputable def gT (px : Nat → Int) (nx : Nat) (ex : Int) (py : Nat → Int) (ny : Nat) (ey : Int) (m : MS) : Int × MS := iff' (m.2.2.1.1 = 0 ∧ (m.2.2.1.2 = 1 ∨ m.2.1.1 ≤ m.2.1.2)) (gX px nx ex m) (gY py ny ey m)
noncomputable def stp' (px : Nat → Int) (nx : Nat) (ex : Int) (py : Nat → Int) (ny : Nat) (ey : Int) (m : MS) : Int × MS :=
  iff' (60 ≤ m.2.2.2.1.1) (0, m) (iff' (0 < m.2.1.1 ∧ 0 < m.2.1.2) (iff' (cFar m) (0, m) (iff' (AGp (cUp m) (cLo m) (nC m.2.2.1.1 m.2.2.1.2)) (gG ((cUp m 0).fdiv (cLo m 0)) m) (gT px nx ex py ny ey m))) (gT px nx ex py ny ey m))
noncomputable def runM (px : Nat → Int) (nx : Nat) (ex : Int) (py : Nat → Int) (ny : Nat) (ey : Int) : Nat → MS → MS
  | 0, m => m
  | k + 1, m => iff' ((stp' px nx ex py ny ey m).1 = 0) (stp' px nx ex py ny ey m).2 (runM px nx ex py ny ey k (stp' px nx ex py ny ey m).2)
/-- the two that it is made of -/
def SH (px : Nat → Int) (nx : Nat) (ex : Int) (py : Nat → Int) (ny : Nat) (ey : Int) : Prop :=
  (nx ≤ 60 ∧ ny ≤ 60) ∧ (a01 ex ∧ a01 ey ∧ ¬ (ex = 1 ∧ ey = 1)) ∧ (∀ j, j < nx → ¬ far (px j) ∧ (0 < j → 1 ≤ px j)) ∧ ∀ j, j < ny → ¬ far (py j) ∧ (0 < j → 1 ≤ py j)
def PP (σ U L : Int) : Prop := 0 < σ * U ∧ 0 ≤ σ * L ∧ σ * L < σ * U
theorem PP.add {σ U L U' L' : Int} (h : PP σ U L) (g : PP σ U' L') : PP σ (U + U') (L + L') := by
  unfold PP at *
  rw [Int.mul_add, Int.mul_add]
  omega
theorem PP.mul {σ U L k : Int} (hk : 1 ≤ k) (h : PP σ U L) : PP σ (k * U) (k * L) := by
  unfold PP at *
  have e1 : σ * (k * U) = k * (σ * U) := by rw [← Int.mul_assoc, ← Int.mul_assoc, Int.mul_comm σ k]
  have e2 : σ * (k * L) = k * (σ * L) := by rw [← Int.mul_assoc, ← Int.mul_assoc, Int.mul_comm σ k]
  rw [e1, e2]
  obtain ⟨h1, h2, h3⟩ := h
  exact ⟨Int.mul_pos (by omega) h1, Int.mul_nonneg (by omega) h2, Int.mul_lt_mul_of_pos_left h3 (by omega)⟩
theorem PP.div {σ U L k : Int} (hk : 1 ≤ k) (h : PP σ (k * U) (k * L)) : PP σ U L := by
  unfold PP at *
  have e1 : σ * (k * U) = k * (σ * U) := by rw [← Int.mul_assoc, ← Int.mul_assoc, Int.mul_comm σ k]
  have e2 : σ * (k * L) = k * (σ * L) := by rw [← Int.mul_assoc, ← Int.mul_assoc, Int.mul_comm σ k]
  rw [e1, e2] at h
  obtain ⟨h1, h2, h3⟩ := h
  have p0 : 0 < σ * U := by
    rcases Int.lt_or_le 0 (σ * U) with z | z
    · exact z
    · exfalso
      have := Int.mul_nonneg (a := k) (b := -(σ * U)) (by omega) (by omega)
      rw [Int.mul_neg] at this
      omega
  refine ⟨p0, ?_, Int.lt_of_mul_lt_mul_left h3 (by omega)⟩
  rcases Int.lt_or_le (σ * L) 0 with z | z
  · exfalso
    have := Int.mul_pos (a := k) (b := -(σ * L)) (by omega) (by omega)
    rw [Int.mul_neg] at this
    omega
  · exact z
/-- p times one, and the other -/
theorem PP.comb {σ U L U' L' p : Int} (hp : 0 ≤ p) (h : PP σ U L) (g : PP σ U' L') : PP σ (p * U + U') (p * L + L') := by
  by_cases c : p = 0
  · subst c
    rw [Int.zero_mul, Int.zero_mul, Int.zero_add, Int.zero_add]
    exact g
  · exact (PP.mul (by omega) h).add g
def Pos (m : MS) : Prop := ∃ σ : Int, (σ = 1 ∨ σ = -1) ∧ ∀ k, k < nC m.2.2.1.1 m.2.2.1.2 → PP σ (cUp m k) (cLo m k)
def MI (nx : Nat) (ex : Int) (ny : Nat) (ey : Int) (m : MS) : Prop :=
  (∀ j, j < 8 → ¬ far (m.1 j)) ∧ (m.2.1.1 ≤ nx ∧ m.2.1.2 ≤ ny) ∧ ((m.2.2.1.1 = 0 ∧ m.2.2.1.2 = 0) ∨ (m.2.2.1.1 = 1 ∧ m.2.2.1.2 = 0) ∨ (m.2.2.1.1 = 0 ∧ m.2.2.1.2 = 1)) ∧ ((m.2.2.1.1 = 1 → ex = 1 ∧ m.2.1.1 = nx) ∧ (m.2.2.1.2 = 1 → ey = 1 ∧ m.2.1.2 = ny)) ∧ m.2.2.2.1.1 ≤ 60 ∧ ((m.2.2.2.2.1 : Int) = m.2.1.1 + m.2.1.2 + m.2.2.2.1.1 + m.2.2.1.1 + m.2.2.1.2) ∧ (∀ j, j < m.2.2.2.1.1 → ¬ far (m.2.2.2.1.2 j) ∧ (0 < j → 1 ≤ m.2.2.2.1.2 j)) ∧ (0 < m.2.2.2.1.1 → (0 < m.2.1.1 ∧ 0 < m.2.1.2) ∧ Pos m)
def mea (nx ny : Nat) (m : MS) : Nat := (nx - m.2.1.1) + (ny - m.2.1.2) + (60 - m.2.2.2.1.1)
/-- corners of what was divided -/
theorem pos_gdv {ox oy σ : Int} {w : Nat → Int} (h : ∀ k, k < nC ox oy → PP σ (cor ox oy (w 0) (w 1) (w 2) (w 3) k) (cor ox oy (w 4) (w 5) (w 6) (w 7) k)) : ∀ k, k < nC ox oy → PP σ (cor ox oy (gdv w 0) (gdv w 1) (gdv w 2) (gdv w 3) k) (cor ox oy (gdv w 4) (gdv w 5) (gdv w 6) (gdv w 7) k) := by
  intro k hk
  have key : ∀ a b c d, cor ox oy (gd w * a) (gd w * b) (gd w * c) (gd w * d) k = gd w * cor ox oy a b c d k := fun a b c d => by
    unfold cor
    split
    · split
      · rw [Int.mul_add, Int.mul_add, Int.mul_add]
      · split
        · rw [Int.mul_add]
        · split
          · rw [Int.mul_add]
          · rfl
    · split
      · split
        · rw [Int.mul_add]
        · rfl
      · split
        · rw [Int.mul_add]
        · rfl
  have h := h k hk
  rw [← gdv_eq w (show 0 < 8 by omega), ← gdv_eq w (show 1 < 8 by omega), ← gdv_eq w (show 2 < 8 by omega), ← gdv_eq w (show 3 < 8 by omega), ← gdv_eq w (show 4 < 8 by omega), ← gdv_eq w (show 5 < 8 by omega), ← gdv_eq w (show 6 < 8 by omega), ← gdv_eq w (show 7 < 8 by omega), key, key] at h
  exact h.div (gd_pos w)
theorem pos_tkX {oy σ p : Int} {v : Nat → Int} (ho : oy = 0 ∨ oy = 1) (hp : 1 ≤ p) (h : ∀ k, k < nC 0 oy → PP σ (cor 0 oy (v 0) (v 1) (v 2) (v 3) k) (cor 0 oy (v 4) (v 5) (v 6) (v 7) k)) : ∀ k, k < nC 0 oy → PP σ (cor 0 oy (tkX p v 0) (tkX p v 1) (tkX p v 2) (tkX p v 3) k) (cor 0 oy (tkX p v 4) (tkX p v 5) (tkX p v 6) (tkX p v 7) k) := by
  unfold tkX
  simp only [v8_g]
  rcases ho with rfl | rfl
  · rw [show nC 0 0 = 4 from rfl, lt4] at h ⊢
    simp only [corT] at h ⊢
    obtain ⟨h0, h1, h2, h3⟩ := h
    have a0 := PP.comb (p := p) (by omega) h1 h0
    have a1 := PP.comb (p := p - 1) (by omega) h1 h0
    have a2 := PP.comb (p := p) (by omega) h3 h2
    have a3 := PP.comb (p := p - 1) (by omega) h3 h2
    refine ⟨?_, ?_, ?_, ?_⟩
    · have e1 : v 0 * p + v 2 + (v 1 * p + v 3) + v 0 + v 1 = p * (v 0 + v 1) + (v 0 + v 1 + v 2 + v 3) := by grind
      have e2 : v 4 * p + v 6 + (v 5 * p + v 7) + v 4 + v 5 = p * (v 4 + v 5) + (v 4 + v 5 + v 6 + v 7) := by grind
      rw [e1, e2]; exact a0
    · have e1 : v 0 * p + v 2 + (v 1 * p + v 3) = (p - 1) * (v 0 + v 1) + (v 0 + v 1 + v 2 + v 3) := by grind
      have e2 : v 4 * p + v 6 + (v 5 * p + v 7) = (p - 1) * (v 4 + v 5) + (v 4 + v 5 + v 6 + v 7) := by grind
      rw [e1, e2]; exact a1
    · have e1 : v 0 * p + v 2 + v 0 = p * v 0 + (v 0 + v 2) := by grind
      have e2 : v 4 * p + v 6 + v 4 = p * v 4 + (v 4 + v 6) := by grind
      rw [e1, e2]; exact a2
    · have e1 : v 0 * p + v 2 = (p - 1) * v 0 + (v 0 + v 2) := by grind
      have e2 : v 4 * p + v 6 = (p - 1) * v 4 + (v 4 + v 6) := by grind
      rw [e1, e2]; exact a3
  · rw [show nC 0 1 = 2 from rfl, lt2] at h ⊢
    simp only [corT] at h ⊢
    obtain ⟨h0, h1⟩ := h
    have a0 := PP.comb (p := p) (by omega) h1 h0
    have a1 := PP.comb (p := p - 1) (by omega) h1 h0
    refine ⟨?_, ?_⟩
    · have e1 : v 1 * p + v 3 + v 1 = p * v 1 + (v 1 + v 3) := by grind
      have e2 : v 5 * p + v 7 + v 5 = p * v 5 + (v 5 + v 7) := by grind
      rw [e1, e2]; exact a0
    · have e1 : v 1 * p + v 3 = (p - 1) * v 1 + (v 1 + v 3) := by grind
      have e2 : v 5 * p + v 7 = (p - 1) * v 5 + (v 5 + v 7) := by grind
      rw [e1, e2]; exact a1
theorem pos_tkY {ox σ p : Int} {v : Nat → Int} (ho : ox = 0 ∨ ox = 1) (hp : 1 ≤ p) (h : ∀ k, k < nC ox 0 → PP σ (cor ox 0 (v 0) (v 1) (v 2) (v 3) k) (cor ox 0 (v 4) (v 5) (v 6) (v 7) k)) : ∀ k, k < nC ox 0 → PP σ (cor ox 0 (tkY p v 0) (tkY p v 1) (tkY p v 2) (tkY p v 3) k) (cor ox 0 (tkY p v 4) (tkY p v 5) (tkY p v 6) (tkY p v 7) k) := by
  unfold tkY
  simp only [v8_g]
  rcases ho with rfl | rfl
  · rw [show nC 0 0 = 4 from rfl, lt4] at h ⊢
    simp only [corT] at h ⊢
    obtain ⟨h0, h1, h2, h3⟩ := h
    have a0 := PP.comb (p := p) (by omega) h2 h0
    have a1 := PP.comb (p := p) (by omega) h3 h1
    have a2 := PP.comb (p := p - 1) (by omega) h2 h0
    have a3 := PP.comb (p := p - 1) (by omega) h3 h1
    refine ⟨?_, ?_, ?_, ?_⟩
    · have e1 : v 0 * p + v 1 + v 0 + (v 2 * p + v 3) + v 2 = p * (v 0 + v 2) + (v 0 + v 1 + v 2 + v 3) := by grind
      have e2 : v 4 * p + v 5 + v 4 + (v 6 * p + v 7) + v 6 = p * (v 4 + v 6) + (v 4 + v 5 + v 6 + v 7) := by grind
      rw [e1, e2]; exact a0
    · have e1 : v 0 * p + v 1 + v 0 = p * v 0 + (v 0 + v 1) := by grind
      have e2 : v 4 * p + v 5 + v 4 = p * v 4 + (v 4 + v 5) := by grind
      rw [e1, e2]; exact a1
    · have e1 : v 0 * p + v 1 + (v 2 * p + v 3) = (p - 1) * (v 0 + v 2) + (v 0 + v 1 + v 2 + v 3) := by grind
      have e2 : v 4 * p + v 5 + (v 6 * p + v 7) = (p - 1) * (v 4 + v 6) + (v 4 + v 5 + v 6 + v 7) := by grind
      rw [e1, e2]; exact a2
    · have e1 : v 0 * p + v 1 = (p - 1) * v 0 + (v 0 + v 1) := by grind
      have e2 : v 4 * p + v 5 = (p - 1) * v 4 + (v 4 + v 5) := by grind
      rw [e1, e2]; exact a3
  · rw [show nC 1 0 = 2 from rfl, lt2] at h ⊢
    simp only [corT] at h ⊢
    obtain ⟨h0, h1⟩ := h
    have a0 := PP.comb (p := p) (by omega) h1 h0
    have a1 := PP.comb (p := p - 1) (by omega) h1 h0
    refine ⟨?_, ?_⟩
    · have e1 : v 2 * p + v 3 + v 2 = p * v 2 + (v 2 + v 3) := by grind
      have e2 : v 6 * p + v 7 + v 6 = p * v 6 + (v 6 + v 7) := by grind
      rw [e1, e2]; exact a0
    · have e1 : v 2 * p + v 3 = (p - 1) * v 2 + (v 2 + v 3) := by grind
      have e2 : v 6 * p + v 7 = (p - 1) * v 6 + (v 6 + v 7) := by grind
      rw [e1, e2]; exact a1
theorem pos_ouX {σ : Int} {v : Nat → Int} (h : ∀ k, k < nC 0 0 → PP σ (cor 0 0 (v 0) (v 1) (v 2) (v 3) k) (cor 0 0 (v 4) (v 5) (v 6) (v 7) k)) : ∀ k, k < nC 1 0 → PP σ (cor 1 0 (ouX v 0) (ouX v 1) (ouX v 2) (ouX v 3) k) (cor 1 0 (ouX v 4) (ouX v 5) (ouX v 6) (ouX v 7) k) := by
  unfold ouX
  simp only [v8_g]
  rw [show nC 0 0 = 4 from rfl, lt4] at h
  rw [show nC 1 0 = 2 from rfl, lt2]
  simp only [corT] at h ⊢
  exact ⟨h.2.1, h.2.2.2⟩
theorem pos_ouY {σ : Int} {v : Nat → Int} (h : ∀ k, k < nC 0 0 → PP σ (cor 0 0 (v 0) (v 1) (v 2) (v 3) k) (cor 0 0 (v 4) (v 5) (v 6) (v 7) k)) : ∀ k, k < nC 0 1 → PP σ (cor 0 1 (ouY v 0) (ouY v 1) (ouY v 2) (ouY v 3) k) (cor 0 1 (ouY v 4) (ouY v 5) (ouY v 6) (ouY v 7) k) := by
  unfold ouY
  simp only [v8_g]
  rw [show nC 0 0 = 4 from rfl, lt4] at h
  rw [show nC 0 1 = 2 from rfl, lt2]
  simp only [corT] at h ⊢
  exact ⟨h.2.2.1, h.2.2.2⟩
/-- a part that all corners give -/
theorem pos_give1 {U L q σ : Int} (hs : (0 < L ∧ σ = 1) ∨ (L < 0 ∧ σ = -1)) (hq' : U.fdiv L = q) : PP σ L (U - q * L) := by
  unfold PP
  rcases hs with ⟨h, rfl⟩ | ⟨h, rfl⟩
  · have := fdiv_rng (a := U) h
    rw [hq'] at this
    omega
  · have e : U.fdiv L = (-U).fdiv (-L) := (Int.neg_fdiv_neg ..).symm
    have := fdiv_rng (a := -U) (b := -L) (by omega)
    rw [← e, hq', Int.mul_neg] at this
    omega
theorem cor_sub (ox oy a b c d a' b' c' d' q : Int) (k : Nat) : cor ox oy (a - q * a') (b - q * b') (c - q * c') (d - q * d') k = cor ox oy a b c d k - q * cor ox oy a' b' c' d' k := by
  unfold cor
  split
  · split
    · grind
    · split
      · grind
      · split
        · grind
        · rfl
  · split
    · split
      · grind
      · rfl
    · split
      · grind
      · rfl
