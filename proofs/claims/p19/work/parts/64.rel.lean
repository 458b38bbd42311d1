/-! ===== what class and reference have in common ===== -/
def cnt (f : Nat → Int) : Nat → Int
  | 0 => 0
  | m + 1 => cnt f m + (if f m = 0 then 0 else 1)
theorem cnt_rng (f : Nat → Int) : ∀ m, 0 ≤ cnt f m ∧ cnt f m ≤ m := by
  intro m
  induction m with
  | zero => exact ⟨Int.le_refl _, Int.le_refl _⟩
  | succ m ih =>
    unfold cnt
    split <;> omega
theorem cnt_full (f : Nat → Int) : ∀ m : Nat, cnt f m = m ↔ ∀ j, j < m → f j ≠ 0 := by
  intro m
  induction m with
  | zero => exact ⟨fun _ j h => by omega, fun _ => rfl⟩
  | succ m ih =>
    have hr := cnt_rng f m
    unfold cnt
    by_cases c : f m = 0
    · rw [if_pos c]
      constructor
      · intro h; omega
      · intro h; exact absurd c (h m (by omega))
    · rw [if_neg c]
      constructor
      · intro h j hj
        by_cases e : j = m
        · rw [e]; exact c
        · exact ih.mp (by omega) j (by omega)
      · intro h
        have := ih.mpr (fun j hj => h j (by omega))
        omega
theorem cnt_congr {f g : Nat → Int} : ∀ m, (∀ j, j < m → (f j = 0 ↔ g j = 0)) → cnt f m = cnt g m := by
  intro m
  induction m with
  | zero => intro _; rfl
  | succ m ih =>
    intro h
    unfold cnt
    rw [ih (fun j hj => h j (by omega))]
    have := h m (by omega)
    by_cases c : f m = 0
    · rw [if_pos c, if_pos (this.mp c)]
    · rw [if_neg c, if_neg (fun z => c (this.mpr z))]
theorem cnt_put {f g : Nat → Int} {s : Nat} (h1 : f s = 0) (h2 : g s ≠ 0) (h3 : ∀ j, j ≠ s → (f j = 0 ↔ g j = 0)) : ∀ m, cnt g m = cnt f m + (if s < m then 1 else 0) := by
  intro m
  induction m with
  | zero => rfl
  | succ m ih =>
    unfold cnt
    rw [ih]
    by_cases e : m = s
    · subst e
      rw [if_pos h1, if_neg h2, if_neg (by omega), if_pos (by omega)]
      try omega
    · have := h3 m e
      by_cases c : f m = 0
      · rw [if_pos c, if_pos (this.mp c)]
        by_cases d : s < m
        · rw [if_pos d, if_pos (by omega)]; try omega
        · rw [if_neg d, if_neg (by omega)]; try omega
      · rw [if_neg c, if_neg (fun z => c (this.mpr z))]
        by_cases d : s < m
        · rw [if_pos d, if_pos (by omega)]; try omega
        · rw [if_neg d, if_neg (by omega)]; try omega
/-- the numbers of a ratio, of a root -/
def RatAt (l : Nat → Nat → Int) (s : Nat) : Prop := (l (2 * s + 28) 6 = l 115 (4 * s) ∧ l (2 * s + 28) 9 = l 115 (4 * s + 1)) ∧ (l (2 * s + 28) 7 = 0 ∧ l (2 * s + 28) 8 = 0) ∧ ¬ far (l (2 * s + 28) 6) ∧ 1 ≤ l (2 * s + 28) 9 ∧ l (2 * s + 28) 9 ≤ 1000000000000000
abbrev wsA (a b n d : Int) (k : Nat) : Int × Int := ws (rD b n d) (rR b n d) (rX a b d) (rY b d) k
def RtAt (l : Nat → Nat → Int) (s : Nat) : Prop := (l (2 * s + 28) 6 = l 115 (4 * s) ∧ l (2 * s + 28) 7 = l 115 (4 * s + 1) ∧ l (2 * s + 28) 8 = l 115 (4 * s + 2) ∧ l (2 * s + 28) 9 = l 115 (4 * s + 3)) ∧ RootOK (l (2 * s + 28) 6) (l (2 * s + 28) 7) (l (2 * s + 28) 8) (l (2 * s + 28) 9) ∧ ∀ k, k ≤ 60 → l 116 (61 * s + k) = (wsA (l (2 * s + 28) 6) (l (2 * s + 28) 7) (l (2 * s + 28) 8) (l (2 * s + 28) 9) k).1 ∧ l 117 (61 * s + k) = (wsA (l (2 * s + 28) 6) (l (2 * s + 28) 7) (l (2 * s + 28) 8) (l (2 * s + 28) 9) k).2
/-- a stream that is there -/
def SD (i l : Nat → Nat → Int) (s : Nat) : Prop :=
  (i (2 * s + 28) 2 = i 110 s ∧ 0 ≤ i 110 s ∧ i 110 s ≤ 3) ∧ (i (2 * s + 28) 3 = i 111 s ∧ 0 ≤ i 111 s ∧ i 111 s ≤ 60) ∧ (i (2 * s + 28) 4 = i 112 s ∧ a01 (i 112 s)) ∧ (i (2 * s + 28) 5 = i 114 s ∧ 0 ≤ i 114 s ∧ i 114 s ≤ 120) ∧
  (∀ k : Nat, (k : Int) < i 111 s → l (2 * s + 29) k = l 113 (60 * s + k) ∧ ¬ far (l 113 (60 * s + k)) ∧ (0 < k → 1 ≤ l 113 (60 * s + k))) ∧
  ((i 112 s = 1 → 1 ≤ i 111 s) ∧ (i 110 s ≠ 0 → i 112 s = 0)) ∧ (i 110 s = 0 → RatAt l s) ∧ (i 110 s = 1 → RtAt l s)
def Rel (i l : Nat → Nat → Int) : Prop :=
  (∀ s, s < 40 → thr i s = i 109 s ∧ a01 (i 109 s) ∧ (i 109 s = 1 → SD i l s)) ∧ i 108 10 = cnt (i 109) 40 ∧
  ((i 0 4 = i 108 11 ∧ 0 ≤ i 108 11 ∧ i 108 11 ≤ 8) ∧ ∀ j : Nat, (j : Int) < i 108 11 → l 4 j = i 118 j ∧ l 5 j = i 119 j ∧ (1 ≤ i 118 j ∧ i 118 j ≤ 1000000) ∧ 0 ≤ i 119 j ∧ i 119 j ≤ 1000000) ∧
  (∀ j, j < 8 → l 6 j = l 120 j ∧ (l 120 j).natAbs ≤ 1000000) ∧
  ((i 12 8 = i 108 22 ∧ 0 ≤ i 108 22 ∧ i 108 22 ≤ 182) ∧ ∀ j : Nat, (j : Int) < 10 * i 108 22 → l 19 j = l 123 j) ∧
  (a01 (i 108 0) ∧ (i 2 2 = 0 ∧ l 2 6 = 1 ∧ l 2 7 = 0 ∧ l 2 8 = 0 ∧ l 2 9 = 1) ∧ i 13 0 = 0 ∧ i 13 1 = 2 ∧ i 14 0 = 1 ∧ i 14 1 = 1)
theorem Rel.t {i l : Nat → Nat → Int} (h : Rel i l) : ∀ s, s < 40 → a01 (thr i s) := fun s hs => by
  obtain ⟨a, b, -⟩ := h.1 s hs
  rw [a]
  exact b
theorem Rel.m {i l : Nat → Nat → Int} (h : Rel i l) : ∀ s, s < 40 → a01 (i 109 s) := fun s hs => (h.1 s hs).2.1
/-- rows that nothing is told by -/
theorem Rel.keep {i l i' l' : Nat → Nat → Int} (h : Rel i l)
    (h1 : ∀ s, s < 40 → i' (2 * s + 28) = i (2 * s + 28) ∧ l' (2 * s + 28) = l (2 * s + 28) ∧ l' (2 * s + 29) = l (2 * s + 29))
    (h2 : (i' 109 = i 109 ∧ i' 110 = i 110 ∧ i' 111 = i 111 ∧ i' 112 = i 112 ∧ i' 114 = i 114 ∧ i' 118 = i 118 ∧ i' 119 = i 119) ∧ (l' 113 = l 113 ∧ l' 115 = l 115 ∧ l' 116 = l 116 ∧ l' 117 = l 117 ∧ l' 120 = l 120 ∧ l' 123 = l 123) ∧ l' 4 = l 4 ∧ l' 5 = l 5 ∧ l' 6 = l 6 ∧ l' 19 = l 19 ∧ l' 2 = l 2)
    (h3 : i' 108 10 = i 108 10 ∧ i' 108 11 = i 108 11 ∧ i' 108 22 = i 108 22 ∧ i' 0 4 = i 0 4 ∧ i' 12 8 = i 12 8 ∧ i' 2 2 = i 2 2 ∧ i' 13 0 = i 13 0 ∧ i' 13 1 = i 13 1 ∧ i' 14 0 = i 14 0 ∧ i' 14 1 = i 14 1) (h4 : a01 (i' 108 0)) : Rel i' l' := by
  obtain ⟨⟨b1, b2, b3, b4, b5, b6, b7⟩, ⟨c1, c2, c3, c4, c5, c6⟩, d1, d2, d3, d4, d5⟩ := h2
  obtain ⟨e1, e2, e3, e4, e5, e6, e7, e8, e9, e10⟩ := h3
  obtain ⟨r1, r2, r3, r4, r5, r6, r7⟩ := h
  refine ⟨fun s hs => ?_, by rw [e1, b1]; exact r2, ?_, ?_, ?_, h4, ?_⟩
  · obtain ⟨f1, f2, f3⟩ := h1 s hs
    have := r1 s hs
    unfold thr SD RatAt RtAt at this ⊢
    rw [f1, f2, f3, b1, b2, b3, b4, b5, c1, c2, c3, c4]
    exact this
  · rw [e4, e2, d1, d2, b6, b7]; exact r3
  · rw [d3, c5]; exact r4
  · rw [e5, e3, d4, c6]; exact r5
  · rw [e6, d5, e7, e8, e9, e10]; exact r7
/-- both answer alike, and stay alike -/
def Agree (F G : AH → Fn Int64) : Prop := ∀ (i l : Nat → Nat → Int) (x y : Option Nat), Rel i l → ∃ (v : Int64) (i1 l1 : Nat → Nat → Int) (x1 y1 : Option Nat) (i2 l2 : Nat → Nat → Int) (x2 y2 : Option Nat), F (hq i l x y) = some (v, hq i1 l1 x1 y1) ∧ G (hq i1 l1 x1 y1) = some (v, hq i2 l2 x2 y2) ∧ Rel i2 l2
def Calm (F G : AH → Fn Int64) : Prop := ∀ (i l : Nat → Nat → Int) (x y : Option Nat), Rel i l → ∃ (v w : Int64) (i1 l1 : Nat → Nat → Int) (x1 y1 : Option Nat) (i2 l2 : Nat → Nat → Int) (x2 y2 : Option Nat), F (hq i l x y) = some (v, hq i1 l1 x1 y1) ∧ G (hq i1 l1 x1 y1) = some (w, hq i2 l2 x2 y2) ∧ Rel i2 l2
theorem Agree.calm {F G : AH → Fn Int64} (h : Agree F G) : Calm F G := fun i l x y r => by
  obtain ⟨v, i1, l1, x1, y1, i2, l2, x2, y2, a, b, c⟩ := h i l x y r
  exact ⟨v, v, i1, l1, x1, y1, i2, l2, x2, y2, a, b, c⟩
/-- the same answer, nothing changed -/
theorem agree_of {F G : AH → Fn Int64} {i l : Nat → Nat → Int} {x y : Option Nat} (v : Int64) (r : Rel i l) (h1 : F (hq i l x y) = some (v, hq i l x y)) (h2 : G (hq i l x y) = some (v, hq i l x y)) : ∃ (v : Int64) (i1 l1 : Nat → Nat → Int) (x1 y1 : Option Nat) (i2 l2 : Nat → Nat → Int) (x2 y2 : Option Nat), F (hq i l x y) = some (v, hq i1 l1 x1 y1) ∧ G (hq i1 l1 x1 y1) = some (v, hq i2 l2 x2 y2) ∧ Rel i2 l2 := ⟨v, i, l, x, y, i, l, x, y, h1, h2, r⟩
theorem Rel.start : Rel i0 l0 := by
  obtain ⟨a1, a2, a3, a4, a5, a6, a7, a8, a9, a10, a11, a12, a13, a14, a15, a16, a17⟩ := inT
  refine ⟨fun s hs => ?_, ?_, ⟨⟨by omega, by omega, by omega⟩, fun j hj => by omega⟩, fun j hj => ?_, ⟨⟨by omega, by omega, by omega⟩, fun j hj => by omega⟩, Or.inl a8, ⟨a9, a10, a11, a12, a13⟩, a14, a15, a16, a17⟩
  · obtain ⟨b1, b2⟩ := a1 s hs
    refine ⟨by unfold thr; omega, Or.inl b2, fun z => by omega⟩
  · rw [a3]
    have : cnt (i0 109) 40 = cnt (fun _ => 0) 40 := cnt_congr 40 (fun j hj => by
      have := (a1 j hj).2
      simp [this])
    rw [this]
    decide
  · obtain ⟨b1, b2⟩ := a2 j hj
    rw [b1, b2]
    exact ⟨rfl, by decide⟩
