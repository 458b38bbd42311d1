/-! ===== making: GIVE, CORNERS in the class ===== -/
theorem mitm {p s r : Int} (hp : ¬ far p) (hs : ¬ far s) (hr : ¬ far r) : mi r (tm p s) = if far (p * s) ∨ far (r - p * s) then 4000000000000000000 else r - p * s := by
  unfold mi tm
  by_cases c1 : far (p * s)
  · rw [if_pos (show far p ∨ far s ∨ far (p * s) from Or.inr (Or.inr c1)), if_pos (show far (p * s) ∨ far (r - p * s) from Or.inl c1), if_pos (by omega)]
  · rw [if_neg (show ¬ (far p ∨ far s ∨ far (p * s)) by rintro (z | z | z) <;> contradiction)]
    by_cases c2 : far (r - p * s)
    · rw [if_pos (Or.inr (Or.inr c2)), if_pos (Or.inr c2)]
    · rw [if_neg (by rintro (z | z | z) <;> contradiction), if_neg (by rintro (z | z) <;> contradiction)]
def gvE (q : Int) (v : Nat → Int) : Nat → Int := v8 (v 4) (v 5) (v 6) (v 7) (v 0 - q * v 4) (v 1 - q * v 5) (v 2 - q * v 6) (v 3 - q * v 7)
def wkG (q : Int) (v : Nat → Int) : Nat → Int := v8 (v 4) (v 5) (v 6) (v 7) (mi (v 0) (tm q (v 4))) (mi (v 1) (tm q (v 5))) (mi (v 2) (tm q (v 6))) (mi (v 3) (tm q (v 7)))
abbrev farG (q : Int) (v : Nat → Int) : Prop := (far (q * v 4) ∨ far (v 0 - q * v 4)) ∨ (far (q * v 5) ∨ far (v 1 - q * v 5)) ∨ (far (q * v 6) ∨ far (v 2 - q * v 6)) ∨ (far (q * v 7) ∨ far (v 3 - q * v 7))
theorem wkG_f {q : Int} {v : Nat → Int} (hq' : ¬ far q) (hv : ∀ j, j < 8 → ¬ far (v j)) : (farG q v → ∃ j, j < 8 ∧ far (wkG q v j)) ∧ (¬ farG q v → ∀ j, j < 8 → wkG q v j = gvE q v j ∧ ¬ far (gvE q v j)) ∧ ∀ j, j < 8 → ok64 (wkG q v j) := by
  have e4 := mitm hq' (hv 4 (by omega)) (hv 0 (by omega))
  have e5 := mitm hq' (hv 5 (by omega)) (hv 1 (by omega))
  have e6 := mitm hq' (hv 6 (by omega)) (hv 2 (by omega))
  have e7 := mitm hq' (hv 7 (by omega)) (hv 3 (by omega))
  obtain ⟨h0, h1, h2, h3, h4, h5, h6, h7⟩ := all8.mp hv
  refine ⟨?_, fun h => ?_, ?_⟩
  · unfold wkG
    rintro (z | z | z | z)
    · refine ⟨4, by omega, ?_⟩
      rw [(v8_g _ _ _ _ _ _ _ _).2.2.2.2.1, e4, if_pos z]
      omega
    · refine ⟨5, by omega, ?_⟩
      rw [(v8_g _ _ _ _ _ _ _ _).2.2.2.2.2.1, e5, if_pos z]
      omega
    · refine ⟨6, by omega, ?_⟩
      rw [(v8_g _ _ _ _ _ _ _ _).2.2.2.2.2.2.1, e6, if_pos z]
      omega
    · refine ⟨7, by omega, ?_⟩
      rw [(v8_g _ _ _ _ _ _ _ _).2.2.2.2.2.2.2, e7, if_pos z]
      omega
  · have n4 : ¬ (far (q * v 4) ∨ far (v 0 - q * v 4)) := fun z => h (Or.inl z)
    have n5 : ¬ (far (q * v 5) ∨ far (v 1 - q * v 5)) := fun z => h (Or.inr (Or.inl z))
    have n6 : ¬ (far (q * v 6) ∨ far (v 2 - q * v 6)) := fun z => h (Or.inr (Or.inr (Or.inl z)))
    have n7 : ¬ (far (q * v 7) ∨ far (v 3 - q * v 7)) := fun z => h (Or.inr (Or.inr (Or.inr z)))
    rw [if_neg n4] at e4
    rw [if_neg n5] at e5
    rw [if_neg n6] at e6
    rw [if_neg n7] at e7
    rw [all8]
    unfold wkG gvE
    simp only [v8_g, e4, e5, e6, e7, true_and]
    exact ⟨h4, h5, h6, h7, fun z => n4 (Or.inr z), fun z => n5 (Or.inr z), fun z => n6 (Or.inr z), fun z => n7 (Or.inr z)⟩
  · rw [all8]
    unfold wkG
    simp only [v8_g]
    exact ⟨by omega, by omega, by omega, by omega, mi_ok _ _, mi_ok _ _, mi_ok _ _, mi_ok _ _⟩
def grw (W g : Nat → Int) (k : Nat) : Nat → Int := fun j => if j < k ∨ (4 ≤ j ∧ j < 4 + k) then W j else g j
theorem grw_0 (W g : Nat → Int) : grw W g 0 = g := by
  funext j
  unfold grw
  rw [if_neg (by omega)]
theorem grw_s (l : Nat → Nat → Int) (W g : Nat → Int) {k : Nat} (hk : k < 4) : w1 (w1 (wr l 16 (grw W g k)) 16 k (W k)) 16 (k + 4) (W (k + 4)) = wr l 16 (grw W g (k + 1)) := by
  rw [w1_wr_s, w1_wr_s]
  congr 1
  funext j
  unfold grw
  by_cases h1 : j = k + 4
  · rw [if_pos h1, if_pos (by omega), h1]
  · rw [if_neg h1]
    by_cases h2 : j = k
    · rw [if_pos h2, if_pos (by omega), h2]
    · rw [if_neg h2]
      by_cases h3 : j < k ∨ (4 ≤ j ∧ j < 4 + k)
      · rw [if_pos h3, if_pos (by omega)]
      · rw [if_neg h3, if_neg (by omega)]
/-- corners of four numbers -/
def cor (ox oy a b c d : Int) (k : Nat) : Int := if ox = 0 ∧ oy = 0 then (if k = 0 then a + b + c + d else if k = 1 then a + b else if k = 2 then a + c else a) else if oy = 0 then (if k = 0 then c + d else c) else (if k = 0 then b + d else b)
def nC (ox oy : Int) : Nat := if ox = 0 ∧ oy = 0 then 4 else 2
def farC (ox oy a b c d : Int) : Prop := (ox = 0 ∧ oy = 0 ∧ (far (a + b) ∨ far (a + b + c) ∨ far (a + b + c + d) ∨ far (a + c))) ∨ (ox = 1 ∧ far (c + d)) ∨ (oy = 1 ∧ far (b + d))
theorem farC00 {a b c d : Int} : farC 0 0 a b c d ↔ (far (a + b) ∨ far (a + b + c) ∨ far (a + b + c + d) ∨ far (a + c)) := by
  unfold farC
  constructor
  · rintro (⟨-, -, z⟩ | ⟨z, -⟩ | ⟨z, -⟩)
    · exact z
    · omega
    · omega
  · intro z
    exact Or.inl ⟨rfl, rfl, z⟩
theorem farC10 {a b c d : Int} : farC 1 0 a b c d ↔ far (c + d) := by
  unfold farC
  constructor
  · rintro (⟨z, -⟩ | ⟨-, z⟩ | ⟨z, -⟩)
    · omega
    · exact z
    · omega
  · intro z
    exact Or.inr (Or.inl ⟨rfl, z⟩)
theorem farC01 {a b c d : Int} : farC 0 1 a b c d ↔ far (b + d) := by
  unfold farC
  constructor
  · rintro (⟨-, z, -⟩ | ⟨z, -⟩ | ⟨-, z⟩)
    · omega
    · omega
    · exact z
  · intro z
    exact Or.inr (Or.inr ⟨rfl, z⟩)
section GV
variable {ρ : Type} {i l : Nat → Nat → Int} {x y : Option Nat}
theorem q_gvL {a : Nat} {q : Int} {v : Nat → Int} (hq' : ¬ far q) (hv : ∀ j, j < 8 → l 15 j = v j ∧ ¬ far (v j)) (g : Nat → Int) : ∀ (m k z : Nat), k + m = 4 → m + 1 ≤ z → fX1_giveTo_3L z 12 a (J q) (N k) (hq i (wr l 16 (grw (wkG q v) g k)) x y) = fX1_giveTo_63 12 a (J q) (hq i (wr l 16 (grw (wkG q v) g 4)) x y) := by
  intro m
  induction m with
  | zero =>
    intro k z hk hz
    obtain ⟨z, rfl⟩ : ∃ q, z = q + 1 := ⟨z - 1, by omega⟩
    obtain rfl : k = 4 := by omega
    show fX1_giveTo_3 (fX1_giveTo_3L z) 12 a _ _ _ = _
    unfold fX1_giveTo_3
    simp only [nk, jk, N_add, N_mul, N_sub, N_neg, J_add, J_mul, J_sub, J_neg]
    simp (disch := omega) only [↓iNlt_t, ↓iNlt_f, ↓iNle_t, ↓iNle_f, ↓iNeq_t, ↓iNeq_f, ↓iJlt_t, ↓iJlt_f, ↓iJle_t, ↓iJle_f, ↓iJeq_t, ↓iJeq_f, ↓iZlt_t, ↓iZlt_f, ↓iZle_t, ↓iZle_f, ↓iZeq_t, ↓iZeq_f, ↓iQlt_t, ↓iQlt_f, ↓iQle_t, ↓iQle_f, ↓iQeq_t, ↓iQeq_f, ↓iAnd_t, ↓iAnd_f, ↓iOr_t, ↓iOr_f, ↓iIff_t, ↓iIff_f, ↓iNot_t, ↓iNot_f, ↓iTrue, ↓iFalse, ↓ckN, ↓ckJ, ↓gIT, ↓gLT, ↓gRT, ↓cvT, ↓pIT, ↓pLT, ↓pZT, ↓asZ, ↓aNT, ↓arL, ↓asL, ↓arI, ↓asI, ↓aR_1, ↓bnd_some, ↓wh_eq, ↓on_some, ↓on_none, asZ, arL, asL, arI, asI, aR_1, bnd_some, wh_eq, on_some, on_none, tnT, tnU, tnL, nk, jk, N_add, N_mul, N_sub, N_neg, J_add, J_mul, J_sub, J_neg, N_J]
  | succ m ih =>
    intro k z hk hz
    obtain ⟨z, rfl⟩ : ∃ q, z = q + 1 := ⟨z - 1, by omega⟩
    have ih := ih (k + 1) z (by omega) (by omega)
    have e := grw_s l (wkG q v) g (k := k) (by omega)
    have e15 : ∀ k' j, j < 8 → wr l 16 (grw (wkG q v) g k') 15 j = v j := fun k' j hj => by rw [wr_n _ _ (by omega)]; exact (hv j hj).1
    have e15' : ∀ k' a b j, j < 8 → w1 (wr l 16 (grw (wkG q v) g k')) 16 a b 15 j = v j := fun k' a b j hj => by rw [w1_na _ _ _ _ (by omega)]; exact e15 k' j hj
    have gg := v8_g (v 4) (v 5) (v 6) (v 7) (mi (v 0) (tm q (v 4))) (mi (v 1) (tm q (v 5))) (mi (v 2) (tm q (v 6))) (mi (v 3) (tm q (v 7)))
    obtain ⟨⟨a0, f0⟩, ⟨a1, f1⟩, ⟨a2, f2⟩, ⟨a3, f3⟩, ⟨a4, f4⟩, ⟨a5, f5⟩, ⟨a6, f6⟩, ⟨a7, f7⟩⟩ := all8.mp hv
    have t4 := tm_ok q (v 4)
    have t5 := tm_ok q (v 5)
    have t6 := tm_ok q (v 6)
    have t7 := tm_ok q (v 7)
    show fX1_giveTo_3 (fX1_giveTo_3L z) 12 a _ _ _ = _
    unfold fX1_giveTo_3
    rw [← ih, ← e]
    rcases (by omega : k = 0 ∨ k = 1 ∨ k = 2 ∨ k = 3) with rfl | rfl | rfl | rfl
    · have w0 : wkG q v 0 = v 4 := gg.1
      have w4 : wkG q v (0 + 4) = mi (v 0) (tm q (v 4)) := gg.2.2.2.2.1
      rw [w0, w4]
      have E0 := e15 0 4 (by omega)
      have E1 := fun a b => e15' 0 a b 0 (by omega)
      have E2 := fun a b => e15' 0 a b 4 (by omega)
      simp only [nk, N_add, ctT, Int.reduceAdd, Nat.reduceAdd]
      simp (disch := omega) only [↓iNlt_t, ↓iNlt_f, ↓iNle_t, ↓iNle_f, ↓iNeq_t, ↓iNeq_f, ↓iJlt_t, ↓iJlt_f, ↓iJle_t, ↓iJle_f, ↓iJeq_t, ↓iJeq_f, ↓iZlt_t, ↓iZlt_f, ↓iZle_t, ↓iZle_f, ↓iZeq_t, ↓iZeq_f, ↓iQlt_t, ↓iQlt_f, ↓iQle_t, ↓iQle_f, ↓iQeq_t, ↓iQeq_f, ↓iAnd_t, ↓iAnd_f, ↓iOr_t, ↓iOr_f, ↓iIff_t, ↓iIff_f, ↓iNot_t, ↓iNot_f, ↓iTrue, ↓iFalse, ↓ckN, ↓ckJ, ↓gIT, ↓gLT, ↓gRT, ↓cvT, ↓pIT, ↓pLT, ↓pZT, ↓asZ, ↓aNT, ↓arL, ↓asL, ↓arI, ↓asI, ↓aR_1, ↓bnd_some, ↓wh_eq, ↓on_some, ↓on_none, asZ, arL, asL, arI, asI, aR_1, bnd_some, wh_eq, on_some, on_none, tnT, tnU, tnL, nk, jk, N_add, N_mul, N_sub, N_neg, J_add, J_mul, J_sub, J_neg, N_J, E0, E1, E2, ↓b_times, ↓b_minus]
    · have w0 : wkG q v 1 = v 5 := gg.2.1
      have w4 : wkG q v (1 + 4) = mi (v 1) (tm q (v 5)) := gg.2.2.2.2.2.1
      rw [w0, w4]
      have E0 := e15 1 5 (by omega)
      have E1 := fun a b => e15' 1 a b 1 (by omega)
      have E2 := fun a b => e15' 1 a b 5 (by omega)
      simp only [nk, N_add, ctT, Int.reduceAdd, Nat.reduceAdd]
      simp (disch := omega) only [↓iNlt_t, ↓iNlt_f, ↓iNle_t, ↓iNle_f, ↓iNeq_t, ↓iNeq_f, ↓iJlt_t, ↓iJlt_f, ↓iJle_t, ↓iJle_f, ↓iJeq_t, ↓iJeq_f, ↓iZlt_t, ↓iZlt_f, ↓iZle_t, ↓iZle_f, ↓iZeq_t, ↓iZeq_f, ↓iQlt_t, ↓iQlt_f, ↓iQle_t, ↓iQle_f, ↓iQeq_t, ↓iQeq_f, ↓iAnd_t, ↓iAnd_f, ↓iOr_t, ↓iOr_f, ↓iIff_t, ↓iIff_f, ↓iNot_t, ↓iNot_f, ↓iTrue, ↓iFalse, ↓ckN, ↓ckJ, ↓gIT, ↓gLT, ↓gRT, ↓cvT, ↓pIT, ↓pLT, ↓pZT, ↓asZ, ↓aNT, ↓arL, ↓asL, ↓arI, ↓asI, ↓aR_1, ↓bnd_some, ↓wh_eq, ↓on_some, ↓on_none, asZ, arL, asL, arI, asI, aR_1, bnd_some, wh_eq, on_some, on_none, tnT, tnU, tnL, nk, jk, N_add, N_mul, N_sub, N_neg, J_add, J_mul, J_sub, J_neg, N_J, E0, E1, E2, ↓b_times, ↓b_minus]
    · have w0 : wkG q v 2 = v 6 := gg.2.2.1
      have w4 : wkG q v (2 + 4) = mi (v 2) (tm q (v 6)) := gg.2.2.2.2.2.2.1
      rw [w0, w4]
      have E0 := e15 2 6 (by omega)
      have E1 := fun a b => e15' 2 a b 2 (by omega)
      have E2 := fun a b => e15' 2 a b 6 (by omega)
      simp only [nk, N_add, ctT, Int.reduceAdd, Nat.reduceAdd]
      simp (disch := omega) only [↓iNlt_t, ↓iNlt_f, ↓iNle_t, ↓iNle_f, ↓iNeq_t, ↓iNeq_f, ↓iJlt_t, ↓iJlt_f, ↓iJle_t, ↓iJle_f, ↓iJeq_t, ↓iJeq_f, ↓iZlt_t, ↓iZlt_f, ↓iZle_t, ↓iZle_f, ↓iZeq_t, ↓iZeq_f, ↓iQlt_t, ↓iQlt_f, ↓iQle_t, ↓iQle_f, ↓iQeq_t, ↓iQeq_f, ↓iAnd_t, ↓iAnd_f, ↓iOr_t, ↓iOr_f, ↓iIff_t, ↓iIff_f, ↓iNot_t, ↓iNot_f, ↓iTrue, ↓iFalse, ↓ckN, ↓ckJ, ↓gIT, ↓gLT, ↓gRT, ↓cvT, ↓pIT, ↓pLT, ↓pZT, ↓asZ, ↓aNT, ↓arL, ↓asL, ↓arI, ↓asI, ↓aR_1, ↓bnd_some, ↓wh_eq, ↓on_some, ↓on_none, asZ, arL, asL, arI, asI, aR_1, bnd_some, wh_eq, on_some, on_none, tnT, tnU, tnL, nk, jk, N_add, N_mul, N_sub, N_neg, J_add, J_mul, J_sub, J_neg, N_J, E0, E1, E2, ↓b_times, ↓b_minus]
    · have w0 : wkG q v 3 = v 7 := gg.2.2.2.1
      have w4 : wkG q v (3 + 4) = mi (v 3) (tm q (v 7)) := gg.2.2.2.2.2.2.2
      rw [w0, w4]
      have E0 := e15 3 7 (by omega)
      have E1 := fun a b => e15' 3 a b 3 (by omega)
      have E2 := fun a b => e15' 3 a b 7 (by omega)
      simp only [nk, N_add, ctT, Int.reduceAdd, Nat.reduceAdd]
      simp (disch := omega) only [↓iNlt_t, ↓iNlt_f, ↓iNle_t, ↓iNle_f, ↓iNeq_t, ↓iNeq_f, ↓iJlt_t, ↓iJlt_f, ↓iJle_t, ↓iJle_f, ↓iJeq_t, ↓iJeq_f, ↓iZlt_t, ↓iZlt_f, ↓iZle_t, ↓iZle_f, ↓iZeq_t, ↓iZeq_f, ↓iQlt_t, ↓iQlt_f, ↓iQle_t, ↓iQle_f, ↓iQeq_t, ↓iQeq_f, ↓iAnd_t, ↓iAnd_f, ↓iOr_t, ↓iOr_f, ↓iIff_t, ↓iIff_f, ↓iNot_t, ↓iNot_f, ↓iTrue, ↓iFalse, ↓ckN, ↓ckJ, ↓gIT, ↓gLT, ↓gRT, ↓cvT, ↓pIT, ↓pLT, ↓pZT, ↓asZ, ↓aNT, ↓arL, ↓asL, ↓arI, ↓asI, ↓aR_1, ↓bnd_some, ↓wh_eq, ↓on_some, ↓on_none, asZ, arL, asL, arI, asI, aR_1, bnd_some, wh_eq, on_some, on_none, tnT, tnU, tnL, nk, jk, N_add, N_mul, N_sub, N_neg, J_add, J_mul, J_sub, J_neg, N_J, E0, E1, E2, ↓b_times, ↓b_minus]
theorem q_giveTo {s : Nat} (hs : s < 40) {q : Int} {v : Nat → Int} (hq' : ¬ far q) (hv : ∀ j, j < 8 → l 15 j = v j ∧ ¬ far (v j)) {n kn : Nat} (hn : n < 182) (hi : i 12 8 = n) (hk : i (2 * s + 28) 3 = kn) (hk2 : kn < 60) :
    (farG q v → ∃ l', fX1_giveTo 12 (2 * s + 28) (J q) (hq i l x y) = some (N 0, hq i l' x y) ∧ ∀ c, c ≠ 16 → l' c = l c) ∧
    (¬ farG q v → ∃ l', fX1_giveTo 12 (2 * s + 28) (J q) (hq i l x y) = some (N 1, hq (w1 (w1 i 12 8 ((n + 1 : Nat) : Int)) (2 * s + 28) 3 ((kn + 1 : Nat) : Int)) (w1 l' (2 * s + 28 + 1) kn q) x y) ∧ Kept l l' n 4 q (gdv (gvE q v))) := by
  have st := St_s hs
  have L := q_gvL (i := i) (l := l) (x := x) (y := y) (a := 2 * s + 28) hq' hv (l 16) 4 0 1000 (by omega) (by omega)
  rw [grw_0, wr_id] at L
  obtain ⟨k1, k2, k3⟩ := wkG_f (q := q) (v := v) hq' (fun j hj => (hv j hj).2)
  have w16 : ∀ j, j < 8 → wr l 16 (grw (wkG q v) (l 16) 4) 16 j = wkG q v j := fun j hj => by rw [wr_s, grw, if_pos (by omega)]
  have wo : ∀ c, c ≠ 16 → wr l 16 (grw (wkG q v) (l 16) 4) c = l c := fun c hc => wr_n _ _ hc
  have L : fX1_giveTo 12 (2 * s + 28) (J q) (hq i l x y) = _ := L
  rw [L]
  unfold fX1_giveTo_63
  have st7 := st.1.1
  constructor
  · intro h
    have K := q_keepF (i := i) (l := wr l 16 (grw (wkG q v) (l 16) 4)) (x := x) (y := y) (w := wkG q v) (fun j hj => ⟨w16 j hj, k3 j hj⟩) (k1 h) (N 4) (J q)
    refine ⟨_, ?_, wo⟩
    simp only [nk]
    simp (disch := omega) only [↓iNlt_t, ↓iNlt_f, ↓iNle_t, ↓iNle_f, ↓iNeq_t, ↓iNeq_f, ↓iJlt_t, ↓iJlt_f, ↓iJle_t, ↓iJle_f, ↓iJeq_t, ↓iJeq_f, ↓iZlt_t, ↓iZlt_f, ↓iZle_t, ↓iZle_f, ↓iZeq_t, ↓iZeq_f, ↓iQlt_t, ↓iQlt_f, ↓iQle_t, ↓iQle_f, ↓iQeq_t, ↓iQeq_f, ↓iAnd_t, ↓iAnd_f, ↓iOr_t, ↓iOr_f, ↓iIff_t, ↓iIff_f, ↓iNot_t, ↓iNot_f, ↓iTrue, ↓iFalse, ↓ckN, ↓ckJ, ↓gIT, ↓gLT, ↓gRT, ↓cvT, ↓pIT, ↓pLT, ↓pZT, ↓asZ, ↓aNT, ↓arL, ↓asL, ↓arI, ↓asI, ↓aR_1, ↓bnd_some, ↓wh_eq, ↓on_some, ↓on_none, asZ, arL, asL, arI, asI, aR_1, bnd_some, wh_eq, on_some, on_none, tnT, tnU, tnL, nk, jk, N_add, N_mul, N_sub, N_neg, J_add, J_mul, J_sub, J_neg, N_J, ↓bq K]
  · intro h
    have K := q_keepT (i := i) (l := wr l 16 (grw (wkG q v) (l 16) 4)) (x := x) (y := y) hn hi (w := wkG q v) (fun j hj => ⟨w16 j hj, by rw [(k2 h j hj).1]; exact (k2 h j hj).2⟩) (st := 4) (by omega) q
    refine ⟨_, ?_, kept_of wo (fun j hj => gdv_congr (fun j hj => (k2 h j hj).1) hj)⟩
    simp only [nk]
    have A := fun lz => q_addPart (i := w1 i 12 8 ((n + 1 : Nat) : Int)) (l := lz) (x := x) (y := y) st (k := kn) (by rw [w1_na _ _ _ _ (by omega)]; exact hk) hk2 q
    simp (disch := omega) only [↓iNlt_t, ↓iNlt_f, ↓iNle_t, ↓iNle_f, ↓iNeq_t, ↓iNeq_f, ↓iJlt_t, ↓iJlt_f, ↓iJle_t, ↓iJle_f, ↓iJeq_t, ↓iJeq_f, ↓iZlt_t, ↓iZlt_f, ↓iZle_t, ↓iZle_f, ↓iZeq_t, ↓iZeq_f, ↓iQlt_t, ↓iQlt_f, ↓iQle_t, ↓iQle_f, ↓iQeq_t, ↓iQeq_f, ↓iAnd_t, ↓iAnd_f, ↓iOr_t, ↓iOr_f, ↓iIff_t, ↓iIff_f, ↓iNot_t, ↓iNot_f, ↓iTrue, ↓iFalse, ↓ckN, ↓ckJ, ↓gIT, ↓gLT, ↓gRT, ↓cvT, ↓pIT, ↓pLT, ↓pZT, ↓asZ, ↓aNT, ↓arL, ↓asL, ↓arI, ↓asI, ↓aR_1, ↓bnd_some, ↓wh_eq, ↓on_some, ↓on_none, asZ, arL, asL, arI, asI, aR_1, bnd_some, wh_eq, on_some, on_none, tnT, tnU, tnL, nk, jk, N_add, N_mul, N_sub, N_neg, J_add, J_mul, J_sub, J_neg, N_J, ↓bq K, ↓cv_q st7, ↓bq (A _)]
theorem q_165 {r : Nat} (hr : S0 r = some (101, 4)) {c : Nat} (hc : c ≤ 4) (hi : i 12 6 = c) (hl : ∀ j, j < c → ok64 (l r j)) : ∀ (m k q : Nat), k + m = c → m + 1 ≤ q →
    ((∀ j, k ≤ j → j < c → ¬ far (l r j)) → fX1_fillCorners_165L q 12 r (N k) (hq i l x y) = some (N 1, hq i l x y)) ∧ ((∃ j, k ≤ j ∧ j < c ∧ far (l r j)) → fX1_fillCorners_165L q 12 r (N k) (hq i l x y) = some (N 0, hq i l x y)) := by
  intro m
  induction m with
  | zero =>
    intro k q hk hq'
    obtain ⟨z, rfl⟩ : ∃ z, q = z + 1 := ⟨q - 1, by omega⟩
    refine ⟨fun _ => ?_, fun ⟨j, h1, h2, _⟩ => by omega⟩
    show fX1_fillCorners_165 (fX1_fillCorners_165L z) 12 r _ _ = _
    unfold fX1_fillCorners_165
    simp only [nk, jk, N_add, N_mul, N_sub, N_neg, J_add, J_mul, J_sub, J_neg]
    simp (disch := omega) only [↓iNlt_t, ↓iNlt_f, ↓iNle_t, ↓iNle_f, ↓iNeq_t, ↓iNeq_f, ↓iJlt_t, ↓iJlt_f, ↓iJle_t, ↓iJle_f, ↓iJeq_t, ↓iJeq_f, ↓iZlt_t, ↓iZlt_f, ↓iZle_t, ↓iZle_f, ↓iZeq_t, ↓iZeq_f, ↓iQlt_t, ↓iQlt_f, ↓iQle_t, ↓iQle_f, ↓iQeq_t, ↓iQeq_f, ↓iAnd_t, ↓iAnd_f, ↓iOr_t, ↓iOr_f, ↓iIff_t, ↓iIff_f, ↓iNot_t, ↓iNot_f, ↓iTrue, ↓iFalse, ↓ckN, ↓ckJ, ↓gIT, ↓gLT, ↓gRT, ↓cvT, ↓pIT, ↓pLT, ↓pZT, ↓asZ, ↓aNT, ↓arL, ↓asL, ↓arI, ↓asI, ↓aR_1, ↓bnd_some, ↓wh_eq, ↓on_some, ↓on_none, asZ, arL, asL, arI, asI, aR_1, bnd_some, wh_eq, on_some, on_none, tnT, tnU, tnL, nk, jk, N_add, N_mul, N_sub, N_neg, J_add, J_mul, J_sub, J_neg, N_J, hi]
  | succ m ih =>
    intro k q hk hq'
    obtain ⟨z, rfl⟩ : ∃ z, q = z + 1 := ⟨q - 1, by omega⟩
    have ih := ih (k + 1) z (by omega) (by omega)
    have o := hl k (by omega)
    have rd := fun F => aL_q (ρ := Int32) (i := i) (l := l) (x := x) (y := y) (j := (k : Int)) (F := F) hr (by omega) (by omega) (by omega)
    by_cases c1 : far (l r k)
    · refine ⟨fun h => absurd c1 (h k (Nat.le_refl _) (by omega)), fun _ => ?_⟩
      show fX1_fillCorners_165 (fX1_fillCorners_165L z) 12 r _ _ = _
      unfold fX1_fillCorners_165
      simp only [nk, jk, N_add, N_mul, N_sub, N_neg, J_add, J_mul, J_sub, J_neg]
      simp (disch := omega) only [↓iNlt_t, ↓iNlt_f, ↓iNle_t, ↓iNle_f, ↓iNeq_t, ↓iNeq_f, ↓iJlt_t, ↓iJlt_f, ↓iJle_t, ↓iJle_f, ↓iJeq_t, ↓iJeq_f, ↓iZlt_t, ↓iZlt_f, ↓iZle_t, ↓iZle_f, ↓iZeq_t, ↓iZeq_f, ↓iQlt_t, ↓iQlt_f, ↓iQle_t, ↓iQle_f, ↓iQeq_t, ↓iQeq_f, ↓iAnd_t, ↓iAnd_f, ↓iOr_t, ↓iOr_f, ↓iIff_t, ↓iIff_f, ↓iNot_t, ↓iNot_f, ↓iTrue, ↓iFalse, ↓ckN, ↓ckJ, ↓gIT, ↓gLT, ↓gRT, ↓cvT, ↓pIT, ↓pLT, ↓pZT, ↓asZ, ↓aNT, ↓arL, ↓asL, ↓arI, ↓asI, ↓aR_1, ↓bnd_some, ↓wh_eq, ↓on_some, ↓on_none, asZ, arL, asL, arI, asI, aR_1, bnd_some, wh_eq, on_some, on_none, tnT, tnU, tnL, nk, jk, N_add, N_mul, N_sub, N_neg, J_add, J_mul, J_sub, J_neg, N_J, hi, ↓rd, ↓b_isFar, ↓iIb]
    · have S : fX1_fillCorners_165L (z + 1) 12 r (N k) (hq i l x y) = fX1_fillCorners_165L z 12 r (N ((k + 1 : Nat) : Int)) (hq i l x y) := by
        show fX1_fillCorners_165 (fX1_fillCorners_165L z) 12 r _ _ = _
        unfold fX1_fillCorners_165
        simp only [nk, jk, N_add, N_mul, N_sub, N_neg, J_add, J_mul, J_sub, J_neg]
        simp (disch := omega) only [↓iNlt_t, ↓iNlt_f, ↓iNle_t, ↓iNle_f, ↓iNeq_t, ↓iNeq_f, ↓iJlt_t, ↓iJlt_f, ↓iJle_t, ↓iJle_f, ↓iJeq_t, ↓iJeq_f, ↓iZlt_t, ↓iZlt_f, ↓iZle_t, ↓iZle_f, ↓iZeq_t, ↓iZeq_f, ↓iQlt_t, ↓iQlt_f, ↓iQle_t, ↓iQle_f, ↓iQeq_t, ↓iQeq_f, ↓iAnd_t, ↓iAnd_f, ↓iOr_t, ↓iOr_f, ↓iIff_t, ↓iIff_f, ↓iNot_t, ↓iNot_f, ↓iTrue, ↓iFalse, ↓ckN, ↓ckJ, ↓gIT, ↓gLT, ↓gRT, ↓cvT, ↓pIT, ↓pLT, ↓pZT, ↓asZ, ↓aNT, ↓arL, ↓asL, ↓arI, ↓asI, ↓aR_1, ↓bnd_some, ↓wh_eq, ↓on_some, ↓on_none, asZ, arL, asL, arI, asI, aR_1, bnd_some, wh_eq, on_some, on_none, tnT, tnU, tnL, nk, jk, N_add, N_mul, N_sub, N_neg, J_add, J_mul, J_sub, J_neg, N_J, hi, ↓rd, ↓b_isFar, ↓iIb]
        rfl
      rw [S]
      refine ⟨fun h => ih.1 (fun j h1 h2 => h j (by omega) h2), fun ⟨j, h1, h2, h3⟩ => ih.2 ⟨j, ?_, h2, h3⟩⟩
      by_cases e : j = k
      · rw [e] at h3; exact absurd h3 c1
      · omega
end GV
