/-! ===== places of streams ===== -/
theorem w1_na (l : Nat → Nat → Int) {a b : Nat} (k j : Nat) (v : Int) (h : b ≠ a) : w1 l a k v b j = l b j := w1_n l v (fun z => h z.1)
abbrev a01 (v : Int) : Prop := v = 0 ∨ v = 1
/-- the least place from k on, of m, where f is 0; -1 if there is none -/
def lfr (f : Nat → Int) : Nat → Nat → Int
  | 0, _ => -1
  | m + 1, k => if f k = 0 then (k : Int) else lfr f m (k + 1)
theorem lfr_ok (f : Nat → Int) : ∀ m k, (lfr f m k = -1 ∧ ∀ j, k ≤ j → j < k + m → f j ≠ 0) ∨ ∃ s : Nat, lfr f m k = s ∧ k ≤ s ∧ s < k + m ∧ f s = 0 ∧ ∀ j, k ≤ j → j < s → f j ≠ 0 := by
  intro m
  induction m with
  | zero => intro k; left; exact ⟨rfl, fun j h1 h2 => by omega⟩
  | succ m ih =>
    intro k
    unfold lfr
    by_cases c : f k = 0
    · rw [if_pos c]
      right
      exact ⟨k, rfl, Nat.le_refl _, by omega, c, fun j h1 h2 => by omega⟩
    · rw [if_neg c]
      rcases ih (k + 1) with ⟨h1, h2⟩ | ⟨s, h1, h2, h3, h4, h5⟩
      · left
        refine ⟨h1, fun j a b => ?_⟩
        by_cases e : j = k
        · rw [e]; exact c
        · exact h2 j (by omega) (by omega)
      · right
        refine ⟨s, h1, by omega, by omega, h4, fun j a b => ?_⟩
        by_cases e : j = k
        · rw [e]; exact c
        · exact h5 j (by omega) b
theorem lfr_congr {f g : Nat → Int} (h : ∀ j, j < 40 → f j = g j) : ∀ m k, k + m ≤ 40 → lfr f m k = lfr g m k := by
  intro m
  induction m with
  | zero => intro k _; rfl
  | succ m ih =>
    intro k hk
    unfold lfr
    rw [h k (by omega), ih (k + 1) (by omega)]
def thr (i : Nat → Nat → Int) (s : Nat) : Int := i (2 * s + 28) 1
section PL1
variable {i l : Nat → Nat → Int} {x y : Option Nat}
theorem q_leastFree (ht : ∀ s, s < 40 → a01 (thr i s)) : fX8_leastFree 0 (hq i l x y) = some (N (lfr (thr i) 40 0), hq i l x y) := by
  have key : ∀ (m k n : Nat), k + m = 40 → m + 1 ≤ n → fX8_leastFree_2L n 0 (N k) (hq i l x y) = some (N (lfr (thr i) m k), hq i l x y) := by
    intro m
    induction m with
    | zero =>
      intro k n hk hn
      obtain ⟨q, rfl⟩ : ∃ q, n = q + 1 := ⟨n - 1, by omega⟩
      show fX8_leastFree_2 (fX8_leastFree_2L q) 0 _ _ = _
      unfold fX8_leastFree_2
      simp (disch := omega) only [nk, N_le, N_neg]
      rw [if_pos (by omega)]
      rfl
    | succ m ih =>
      intro k n hk hn
      obtain ⟨q, rfl⟩ : ∃ q, n = q + 1 := ⟨n - 1, by omega⟩
      have h1 := ht k (by omega)
      show fX8_leastFree_2 (fX8_leastFree_2L q) 0 _ _ = _
      unfold fX8_leastFree_2 lfr
      rw [gR_q (by simp only [shT]), show rr x y 0 0 = some 1 by simp only [srT], nn_some, aR_1 (by omega) (by omega)]
      rw [show ((k : Int)).toNat = k by omega, gI_q (St_s (show k < 40 by omega)).1.1]
      have e : i (2 * k + 28) 1 = thr i k := rfl
      rw [e]
      simp (disch := omega) only [nk, N_le, N_eq, N_add, wh_eq]
      rw [if_neg (by omega)]
      by_cases c : thr i k = 0
      · rw [if_pos c, if_pos c]
      · rw [if_neg c, if_neg c]
        exact ih (k + 1) q (by omega) (by omega)
  exact key 40 0 1000 (by omega) (by omega)
theorem q_find (ht : ∀ s, s < 40 → a01 (thr i s)) {s : Int} (h1 : -2147483648 ≤ s) (h2 : s ≤ 2147483647) : fX8_find 0 (N s) (hq i l x y) = some (if 0 ≤ s ∧ s < 40 ∧ thr i s.toNat ≠ 0 then some (2 * s.toNat + 28) else none, hq i l x y) := by
  unfold fX8_find
  simp (disch := omega) only [nk, N_lt]
  by_cases c1 : s < 0
  · rw [if_pos c1, if_neg (by omega)]
  · rw [if_neg c1]
    by_cases c2 : s < 40
    · have h3 := ht s.toNat (by omega)
      rw [if_pos c2, gR_q (by simp only [shT]), show rr x y 0 0 = some 1 by simp only [srT], nn_some, aR_1 (by omega) (by omega), gI_q (St_s (show s.toNat < 40 by omega)).1.1]
      have e : i (2 * s.toNat + 28) 1 = thr i s.toNat := rfl
      rw [e]
      simp (disch := omega) only [N_eq]
      by_cases c3 : thr i s.toNat = 0
      · rw [if_pos c3, if_neg (fun z => z.2.2 c3)]
      · rw [if_neg c3, if_pos ⟨by omega, c2, c3⟩]
    · rw [if_neg c2, if_neg (by omega)]
theorem q_place {s : Nat} (hs : s < 40) : fX8_place 0 (N s) (hq i l x y) = some (J s, hq (w1 i (2 * s + 28) 1 1) l x y) := by
  unfold fX8_place
  simp only [nk]
  rw [gR_q (by simp only [shT]), show rr x y 0 0 = some 1 by simp only [srT], nn_some, aR_1 (by omega) (by omega), show ((s : Int)).toNat = s by omega, pZ_q (St_s hs).1.1 (Or.inr rfl), N_J (by omega) (by omega)]
theorem q_noStream (ht : ∀ s, s < 40 → a01 (i 109 s)) {s : Int} (h1 : -2147483648 ≤ s) (h2 : s ≤ 2147483647) : fX9_noStream 108 (N s) (hq i l x y) = some (if 0 ≤ s ∧ s < 40 ∧ i 109 s.toNat ≠ 0 then 0 else 1, hq i l x y) := by
  unfold fX9_noStream fX9_in
  rw [N_J h1 h2]
  simp (disch := omega) only [jk, J_lt]
  by_cases c1 : s < 0
  · rw [if_pos c1, bnd_some, if_pos rfl, if_neg (by omega)]
  · rw [if_neg c1]
    by_cases c2 : 39 < s
    · rw [if_pos c2, bnd_some, if_pos rfl, if_neg (by omega)]
    · have h3 := ht s.toNat (by omega)
      rw [if_neg c2, bnd_some, if_neg (by decide), gR_q (by simp only [shT]), show rr x y 108 1 = some 109 by simp only [srT], nn_some, aI_q (t := 2) (n := 40) (by simp only [shT]) (by omega) (by omega) (by omega)]
      simp (disch := omega) only [nk, N_eq]
      by_cases c3 : i 109 s.toNat = 0
      · rw [if_pos c3, if_neg (fun z => z.2.2 c3)]
      · rw [if_neg c3, if_pos ⟨by omega, by omega, c3⟩]
/-- what a new stream is in the reference, at place s, of kind k -/
def nsI (i : Nat → Nat → Int) (s : Nat) (k : Int) : Nat → Nat → Int := w1 (w1 (w1 (w1 (w1 (w1 i 109 s 1) 110 s k) 111 s 0) 112 s 0) 114 s 0) 108 10 (i 108 10 + 1)
theorem q_newStream (ht : ∀ s, s < 40 → a01 (i 109 s)) (k : Int) {s : Nat} (hs : lfr (i 109) 40 0 = s) : fX9_newStream 108 (N k) (hq i l x y) = some (N s, hq (nsI i s k) l x y) := by
  have key : ∀ (m j n : Nat), j + m = 40 → m + 1 ≤ n → lfr (i 109) m j = s → fX9_newStream_2L n 108 (N k) (N j) (hq i l x y) = some (N s, hq (nsI i s k) l x y) := by
    intro m
    induction m with
    | zero =>
      intro j n hk hn hl
      exfalso
      unfold lfr at hl
      omega
    | succ m ih =>
      intro j n hk hn hl
      obtain ⟨q, rfl⟩ : ∃ q, n = q + 1 := ⟨n - 1, by omega⟩
      have h1 := ht j (by omega)
      unfold lfr at hl
      show fX9_newStream_2 (fX9_newStream_2L q) 108 _ _ _ = _
      unfold fX9_newStream_2
      rw [gR_q (by simp only [shT]), show rr x y 108 1 = some 109 by simp only [srT], nn_some, aI_q (t := 2) (n := 40) (by simp only [shT]) (by omega) (by omega) (by omega)]
      rw [show ((j : Int)).toNat = j by omega]
      simp (disch := omega) only [nk, N_eq, N_add, wh_eq]
      by_cases c : i 109 j = 0
      · rw [if_pos c] at hl ⊢
        obtain rfl : j = s := by omega
        unfold fX9_newStream_17
        simp only [nk]
        rw [gR_q (by simp only [shT]), show rr x y 108 1 = some 109 by simp only [srT], nn_some, zZ_q (n := 40) (by simp only [shT]) (by omega) (by omega) (by omega) (Or.inr rfl)]
        rw [gR_q (by simp only [shT]), show rr x y 108 2 = some 110 by simp only [srT], nn_some, zI_q (n := 40) (by simp only [shT]) (by omega) (by omega) (by omega)]
        rw [gR_q (by simp only [shT]), show rr x y 108 3 = some 111 by simp only [srT], nn_some, zI_q (n := 40) (by simp only [shT]) (by omega) (by omega) (by omega)]
        rw [gR_q (by simp only [shT]), show rr x y 108 4 = some 112 by simp only [srT], nn_some, zZ_q (n := 40) (by simp only [shT]) (by omega) (by omega) (by omega) (Or.inl rfl)]
        rw [gR_q (by simp only [shT]), show rr x y 108 6 = some 114 by simp only [srT], nn_some, zI_q (n := 40) (by simp only [shT]) (by omega) (by omega) (by omega)]
        rw [gI_q (by simp only [shT]), N_add, pI_q (by simp only [shT])]
        rw [show ((j : Int)).toNat = j by omega]
        simp (disch := decide) only [w1_na]
        rfl
      · rw [if_neg c] at hl ⊢
        exact ih (j + 1) q (by omega) (by omega) hl
  exact key 40 0 1000 (by omega) (by omega) hs
theorem q_give {s : Nat} (hs : s < 40) {k : Nat} (hk : i 111 s = k) (h60 : k < 60) (p : Int) : fX9_give 108 (N s) (J p) (hq i l x y) = some ((), hq (w1 i 111 s ((k + 1 : Nat) : Int)) (w1 l 113 (60 * s + k) p) x y) := by
  unfold fX9_give
  simp only [nk]
  rw [gR_q (by simp only [shT]), show rr x y 108 5 = some 113 by simp only [srT], nn_some]
  rw [gR_q (by simp only [shT]), show rr x y 108 3 = some 111 by simp only [srT], nn_some, aI_q (t := 0) (n := 40) (by simp only [shT]) (by omega) (by omega) (by omega), show ((s : Int)).toNat = s by omega, hk, N_mul, N_add]
  rw [zL_q (n := 2400) (by simp only [shT]) (by omega) (by omega) (by omega)]
  rw [gR_q (by simp only [shT]), show rr x y 108 3 = some 111 by simp only [srT], nn_some, aI_q (t := 0) (n := 40) (by simp only [shT]) (by omega) (by omega) (by omega), show ((s : Int)).toNat = s by omega, hk, N_add, zI_q (n := 40) (by simp only [shT]) (by omega) (by omega) (by omega)]
  rw [show ((s : Int)).toNat = s by omega, show (60 * (s : Int) + (k : Int)).toNat = 60 * s + k by omega]
  simp
end PL1
