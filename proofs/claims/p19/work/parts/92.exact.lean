/-! ===== exact acts: numbers that know when they are FAR, side by side ===== -/
/-- the class's: c is FAR's sign where F, else v -/
def CV (c : Int) (F : Prop) (v : Int) : Prop := (F → c = 4000000000000000000) ∧ (¬ F → c = v ∧ ¬ far v)
theorem CV.lit {v : Int} (h : ¬ far v) : CV v False v := ⟨fun z => z.elim, fun _ => ⟨rfl, h⟩⟩
theorem CV.ok {c v : Int} {F : Prop} (h : CV c F v) : ok64 c := by
  rcases Classical.em F with z | z
  · have := h.1 z
    omega
  · have := h.2 z
    omega
theorem CV.tms {c c' v v' : Int} {F F' : Prop} (h : CV c F v) (h' : CV c' F' v') : CV (tm c c') (F ∨ F' ∨ far (v * v')) (v * v') := by
  unfold tm
  constructor
  · intro z
    rw [if_pos]
    rcases Classical.em F with q | q
    · left; have := h.1 q; omega
    · rcases Classical.em F' with q' | q'
      · right; left; have := h'.1 q'; omega
      · right; right
        rw [(h.2 q).1, (h'.2 q').1]
        rcases z with z | z | z
        · exact absurd z q
        · exact absurd z q'
        · exact z
  · intro z
    have q : ¬ F := fun w => z (Or.inl w)
    have q' : ¬ F' := fun w => z (Or.inr (Or.inl w))
    have e := h.2 q
    have e' := h'.2 q'
    have n : ¬ far (v * v') := fun w => z (Or.inr (Or.inr w))
    rw [e.1, e'.1, if_neg]
    · exact ⟨rfl, n⟩
    · rintro (w | w | w)
      · exact e.2 w
      · exact e'.2 w
      · exact n w
theorem CV.pls {c c' v v' : Int} {F F' : Prop} (h : CV c F v) (h' : CV c' F' v') : CV (pl c c') (F ∨ F' ∨ far (v + v')) (v + v') := by
  unfold pl
  constructor
  · intro z
    rw [if_pos]
    rcases Classical.em F with q | q
    · left; have := h.1 q; omega
    · rcases Classical.em F' with q' | q'
      · right; left; have := h'.1 q'; omega
      · right; right
        rw [(h.2 q).1, (h'.2 q').1]
        rcases z with z | z | z
        · exact absurd z q
        · exact absurd z q'
        · exact z
  · intro z
    have q : ¬ F := fun w => z (Or.inl w)
    have q' : ¬ F' := fun w => z (Or.inr (Or.inl w))
    have e := h.2 q
    have e' := h'.2 q'
    have n : ¬ far (v + v') := fun w => z (Or.inr (Or.inr w))
    rw [e.1, e'.1, if_neg]
    · exact ⟨rfl, n⟩
    · rintro (w | w | w)
      · exact e.2 w
      · exact e'.2 w
      · exact n w
theorem CV.mis {c c' v v' : Int} {F F' : Prop} (h : CV c F v) (h' : CV c' F' v') : CV (mi c c') (F ∨ F' ∨ far (v - v')) (v - v') := by
  unfold mi
  constructor
  · intro z
    rw [if_pos]
    rcases Classical.em F with q | q
    · left; have := h.1 q; omega
    · rcases Classical.em F' with q' | q'
      · right; left; have := h'.1 q'; omega
      · right; right
        rw [(h.2 q).1, (h'.2 q').1]
        rcases z with z | z | z
        · exact absurd z q
        · exact absurd z q'
        · exact z
  · intro z
    have q : ¬ F := fun w => z (Or.inl w)
    have q' : ¬ F' := fun w => z (Or.inr (Or.inl w))
    have e := h.2 q
    have e' := h'.2 q'
    have n : ¬ far (v - v') := fun w => z (Or.inr (Or.inr w))
    rw [e.1, e'.1, if_neg]
    · exact ⟨rfl, n⟩
    · rintro (w | w | w)
      · exact e.2 w
      · exact e'.2 w
      · exact n w
theorem CV.fars {c v : Int} {F : Prop} (h : CV c F v) : far c ↔ F := by
  rcases Classical.em F with z | z
  · have := h.1 z
    exact ⟨fun _ => z, fun _ => by omega⟩
  · have := h.2 z
    exact ⟨fun w => absurd (by rw [← this.1]; exact w) this.2, fun w => absurd w z⟩
/-- the reference's: what is flagged, and the value where it is not -/
theorem RS.mul {P Q : Prop} {r r' v v' : Int} (h : P ↔ Q) (h1 : ¬ Q → r = v) (h2 : ¬ Q → r' = v') : ((P ∨ far (r * r')) ↔ (Q ∨ far (v * v'))) ∧ (¬ (Q ∨ far (v * v')) → mu r r' = v * v') := by
  rcases Classical.em Q with z | z
  · exact ⟨⟨fun _ => Or.inl z, fun _ => Or.inl (h.mpr z)⟩, fun w => absurd (Or.inl z) w⟩
  · rw [h1 z, h2 z, h]
    exact ⟨Iff.rfl, fun w => mu_ok (fun q => w (Or.inr q))⟩
theorem RS.add {P Q : Prop} [Decidable P] {r r' v v' : Int} (h : P ↔ Q) (h1 : ¬ Q → r = v) (h2 : ¬ Q → r' = v') : ((P ∨ far (r + r')) ↔ (Q ∨ far (v + v'))) ∧ (¬ (Q ∨ far (v + v')) → ad P r r' = v + v') := by
  rcases Classical.em Q with z | z
  · exact ⟨⟨fun _ => Or.inl z, fun _ => Or.inl (h.mpr z)⟩, fun w => absurd (Or.inl z) w⟩
  · rw [h1 z, h2 z]
    refine ⟨by rw [h], fun w => ad_ok (fun q => w ?_)⟩
    rcases q with q | q
    · exact Or.inl (h.mp q)
    · exact Or.inr q
/-- numbers of an act -/
theorem gcd3 {a b d c : Int} (h1 : c ∣ a) (h2 : c ∣ b) (h3 : c ∣ d) : c ∣ lg a b d := by
  unfold lg
  exact Int.dvd_coe_gcd (Int.dvd_coe_gcd h3 h1) h2
theorem tdiv_neg' (a g : Int) : a.tdiv (-g) = -(a.tdiv g) := Int.tdiv_neg ..
/-- in least terms twice is once -/
theorem lsg_twice {a b d : Int} (hd : d ≠ 0) : lsg (a.tdiv (lg a b d)) (b.tdiv (lg a b d)) (d.tdiv (lg a b d)) = (if 0 ≤ d then 1 else -1) ∧ d.tdiv (lg a b d) ≠ 0 ∧ (b.tdiv (lg a b d) = 0 ↔ b = 0) := by
  have hg := lg_pos (a := a) (b := b) hd
  obtain ⟨d1, d2, d3⟩ := lg_dvd a b d
  have ea := Int.mul_tdiv_cancel' d1
  have eb := Int.mul_tdiv_cancel' d2
  have ed := Int.mul_tdiv_cancel' d3
  have key : ∀ A B D : Int, lg a b d * A = a → lg a b d * B = b → lg a b d * D = d → lg A B D = 1 := fun A B D e1 e2 e3 => by
    have hD : D ≠ 0 := fun z => hd (by rw [← e3, z, Int.mul_zero])
    have hp := lg_pos (a := A) (b := B) hD
    obtain ⟨q1, q2, q3⟩ := lg_dvd A B D
    have hdv : lg a b d * lg A B D ∣ lg a b d := by
      refine gcd3 ?_ ?_ ?_
      · have m := Int.mul_dvd_mul_left (lg a b d) q1
        rw [e1] at m
        exact m
      · have m := Int.mul_dvd_mul_left (lg a b d) q2
        rw [e2] at m
        exact m
      · have m := Int.mul_dvd_mul_left (lg a b d) q3
        rw [e3] at m
        exact m
    have hle := Int.le_of_dvd hg hdv
    have h2 : lg a b d * lg A B D ≤ lg a b d * 1 := by omega
    have := Int.le_of_mul_le_mul_left h2 hg
    omega
  have k := key _ _ _ ea eb ed
  have hD : d.tdiv (lg a b d) ≠ 0 := fun z => hd (by rw [← ed, z, Int.mul_zero])
  refine ⟨?_, hD, ?_⟩
  · unfold lsg
    rw [k]
    have hs : 0 ≤ d.tdiv (lg a b d) ↔ 0 ≤ d := by
      generalize d.tdiv (lg a b d) = D at *
      generalize lg a b d = g at *
      constructor
      · intro z
        have := Int.mul_nonneg (a := g) (b := D) (by omega) z
        omega
      · intro z
        rcases Int.lt_or_le D 0 with q | q
        · have := Int.mul_pos (a := g) (b := -D) hg (by omega)
          rw [Int.mul_neg] at this
          omega
        · exact q
    by_cases c : 0 ≤ d
    · rw [if_pos c, if_pos (hs.mpr c)]
    · rw [if_neg c, if_neg (fun z => c (hs.mp z))]
  · constructor
    · intro z
      rw [← eb, z, Int.mul_zero]
    · intro z
      rw [z, Int.zero_tdiv]
theorem tdiv_twice {a b d : Int} (hd : d ≠ 0) (q : Int) : (q.tdiv (lg a b d)).tdiv (lsg (a.tdiv (lg a b d)) (b.tdiv (lg a b d)) (d.tdiv (lg a b d))) = q.tdiv (lsg a b d) := by
  rw [(lsg_twice hd).1]
  unfold lsg
  by_cases c : 0 ≤ d
  · rw [if_pos c, if_pos c, Int.tdiv_one]
  · rw [if_neg c, if_neg c, tdiv_neg', tdiv_neg', Int.tdiv_one]
abbrev farR2 (a b n d : Int) : Prop := 10000 < d.natAbs ∨ 1000000000 < a.natAbs ∨ 10000 < b.natAbs ∨ 10000000 < b * b * n
theorem farR2_iff {a b n d : Int} (hd : d ≠ 0) (hb : b ≠ 0) (hn : 2 ≤ n) : farR2 (a.tdiv (lg a b d)) (b.tdiv (lg a b d)) n (d.tdiv (lg a b d)) ↔ farRt (a.tdiv (lsg a b d)) (b.tdiv (lsg a b d)) n (d.tdiv (lsg a b d)) := by
  obtain ⟨t1, t2, t3⟩ := lsg_twice (a := a) (b := b) hd
  have hs : ∀ q : Int, q.tdiv (lsg a b d) = q.tdiv (lg a b d) ∨ q.tdiv (lsg a b d) = -(q.tdiv (lg a b d)) := fun q => by
    unfold lsg
    split
    · exact Or.inl rfl
    · exact Or.inr (tdiv_neg' _ _)
  have hsq : b.tdiv (lsg a b d) * b.tdiv (lsg a b d) = b.tdiv (lg a b d) * b.tdiv (lg a b d) := by
    rcases hs b with z | z
    · rw [z]
    · rw [z, Int.neg_mul_neg]
  have dpos : 1 ≤ d.tdiv (lsg a b d) := by
    have e := Int.mul_tdiv_cancel' (show lsg a b d ∣ d by
      unfold lsg
      split
      · exact (lg_dvd a b d).2.2
      · exact Int.neg_dvd.mpr (lg_dvd a b d).2.2)
    have h1 := lg_pos (a := a) (b := b) hd
    rcases Int.lt_or_le 0 (d.tdiv (lsg a b d)) with z | z
    · omega
    · exfalso
      by_cases c : 0 ≤ d
      · have hp : 0 < lsg a b d := by unfold lsg; rw [if_pos c]; omega
        have := Int.mul_nonneg (a := lsg a b d) (b := -(d.tdiv (lsg a b d))) (by omega) (by omega)
        rw [Int.mul_neg, e] at this
        omega
      · have hp : lsg a b d < 0 := by unfold lsg; rw [if_neg c]; omega
        have := Int.mul_nonneg (a := -(lsg a b d)) (b := -(d.tdiv (lsg a b d))) (by omega) (by omega)
        rw [Int.neg_mul_neg, e] at this
        omega
  unfold farR2 farRt
  rw [hsq]
  have big : 3163 < (b.tdiv (lg a b d)).natAbs → 10000000 < b.tdiv (lg a b d) * b.tdiv (lg a b d) * n := fun z => by
    generalize b.tdiv (lg a b d) = B at *
    have h1 : 3164 * 3164 ≤ B.natAbs * B.natAbs := Nat.mul_le_mul z z
    have e : ((B.natAbs * B.natAbs : Nat) : Int) = B * B := Int.natAbs_mul_self
    have h2 : B * B * 2 ≤ B * B * n := Int.mul_le_mul_of_nonneg_left hn (by omega)
    omega
  have e1 := hs a
  have e2 := hs b
  have e3 := hs d
  generalize a.tdiv (lg a b d) = A at *
  generalize b.tdiv (lg a b d) = B at *
  generalize d.tdiv (lg a b d) = D at *
  generalize a.tdiv (lsg a b d) = A' at *
  generalize b.tdiv (lsg a b d) = B' at *
  generalize d.tdiv (lsg a b d) = D' at *
  generalize B * B * n = m at *
  constructor
  · rintro (z | z | z | z)
    · left; omega
    · right; left; omega
    · right; right; right; exact big (by omega)
    · right; right; right; exact z
  · rintro (z | z | z | z)
    · left; omega
    · right; left; omega
    · right; right; right; exact big (by omega)
    · right; right; right; exact z
