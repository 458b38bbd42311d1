/-! ===== rows of numbers ===== -/
def wr (l : Nat → Nat → Int) (a : Nat) (f : Nat → Int) : Nat → Nat → Int := fun b => if b = a then f else l b
theorem wr_s (l : Nat → Nat → Int) (a : Nat) (f : Nat → Int) : wr l a f a = f := by simp [wr]
theorem wr_n (l : Nat → Nat → Int) {a b : Nat} (f : Nat → Int) (h : b ≠ a) : wr l a f b = l b := by simp [wr, h]
theorem w1_wr (l : Nat → Nat → Int) (a k : Nat) (v : Int) : w1 l a k v = wr l a (fun j => if j = k then v else l a j) := by
  funext b j
  unfold w1 wr
  by_cases h : b = a
  · subst h; simp
  · simp [h]
theorem wr_wr (l : Nat → Nat → Int) (a : Nat) (f g : Nat → Int) : wr (wr l a f) a g = wr l a g := by
  funext b
  unfold wr
  by_cases h : b = a <;> simp [h]
theorem wr_comm (l : Nat → Nat → Int) {a b : Nat} (f g : Nat → Int) (h : a ≠ b) : wr (wr l a f) b g = wr (wr l b g) a f := by
  funext c
  unfold wr
  by_cases h1 : c = b
  · subst h1; simp [Ne.symm h]
  · by_cases h2 : c = a
    · subst h2; simp [h]
    · simp [h1, h2]
theorem wr_id (l : Nat → Nat → Int) (a : Nat) : wr l a (l a) = l := by
  funext b
  unfold wr
  by_cases h : b = a
  · subst h; simp
  · simp [h]
theorem w1_wr_s (l : Nat → Nat → Int) (a k : Nat) (f : Nat → Int) (v : Int) : w1 (wr l a f) a k v = wr l a (fun j => if j = k then v else f j) := by
  rw [w1_wr, wr_wr, wr_s]
theorem w1_wr_n (l : Nat → Nat → Int) {a b : Nat} (k : Nat) (f : Nat → Int) (v : Int) (h : a ≠ b) : w1 (wr l b f) a k v = wr (w1 l a k v) b f := by
  rw [w1_wr, w1_wr, wr_n _ _ h, wr_comm _ _ _ (Ne.symm h)]
/-- the first k places of f, then g -/
def fl (f g : Nat → Int) (k : Nat) : Nat → Int := fun j => if j < k then f j else g j
theorem fl_0 (f g : Nat → Int) : fl f g 0 = g := by funext j; simp [fl]
theorem fl_s (f g : Nat → Int) (k : Nat) : (fun j => if j = k then f k else fl f g k j) = fl f g (k + 1) := by
  funext j
  unfold fl
  by_cases h1 : j = k
  · subst h1; simp
  · by_cases h2 : j < k
    · simp [h1, h2, show j < k + 1 by omega]
    · simp [h1, h2, show ¬ j < k + 1 by omega]
theorem w1_fl (l : Nat → Nat → Int) (a k : Nat) (f g : Nat → Int) : w1 (wr l a (fl f g k)) a k (f k) = wr l a (fl f g (k + 1)) := by
  rw [w1_wr_s, fl_s]
/-- a stream's fields -/
def stI (i : Nat → Nat → Int) (a : Nat) (kd kn en tk : Int) : Nat → Nat → Int := wr i a (fun j => if j = 2 then kd else if j = 3 then kn else if j = 4 then en else if j = 5 then tk else i a j)
def stL (l : Nat → Nat → Int) (a : Nat) (u b n d : Int) : Nat → Nat → Int := wr l a (fun j => if j = 6 then u else if j = 7 then b else if j = 8 then n else if j = 9 then d else l a j)
theorem stI_mk (i : Nat → Nat → Int) (a : Nat) (kd kn en tk : Int) : w1 (w1 (w1 (w1 i a 2 kd) a 3 kn) a 4 en) a 5 tk = stI i a kd kn en tk := by
  funext b j
  unfold w1 stI wr
  by_cases h : b = a
  · subst h
    by_cases h2 : j = 2
    · subst h2; simp
    · by_cases h3 : j = 3
      · subst h3; simp
      · by_cases h4 : j = 4
        · subst h4; simp
        · by_cases h5 : j = 5
          · subst h5; simp
          · simp [h2, h3, h4, h5]
  · simp [h]
theorem stL_mk (l : Nat → Nat → Int) (a : Nat) (u b n d : Int) : w1 (w1 (w1 (w1 l a 6 u) a 7 b) a 8 n) a 9 d = stL l a u b n d := by
  funext c j
  unfold w1 stL wr
  by_cases h : c = a
  · subst h
    by_cases h2 : j = 6
    · subst h2; simp
    · by_cases h3 : j = 7
      · subst h3; simp
      · by_cases h4 : j = 8
        · subst h4; simp
        · by_cases h5 : j = 9
          · subst h5; simp
          · simp [h2, h3, h4, h5]
  · simp [h]
theorem stI_2 (i : Nat → Nat → Int) (a : Nat) (kd kn en tk : Int) : stI i a kd kn en tk a 2 = kd := by simp [stI, wr_s]
theorem stI_3 (i : Nat → Nat → Int) (a : Nat) (kd kn en tk : Int) : stI i a kd kn en tk a 3 = kn := by simp [stI, wr_s]
theorem stI_4 (i : Nat → Nat → Int) (a : Nat) (kd kn en tk : Int) : stI i a kd kn en tk a 4 = en := by simp [stI, wr_s]
theorem stI_5 (i : Nat → Nat → Int) (a : Nat) (kd kn en tk : Int) : stI i a kd kn en tk a 5 = tk := by simp [stI, wr_s]
theorem stI_n (i : Nat → Nat → Int) {a b : Nat} (kd kn en tk : Int) (h : b ≠ a) : stI i a kd kn en tk b = i b := wr_n _ _ h
theorem stI_w3 (i : Nat → Nat → Int) (a : Nat) (kd kn en tk v : Int) : w1 (stI i a kd kn en tk) a 3 v = stI i a kd v en tk := by
  unfold stI
  rw [w1_wr_s]
  congr 1
  funext j
  by_cases h3 : j = 3
  · subst h3; simp
  · by_cases h2 : j = 2 <;> simp [h2, h3]
theorem stI_w4 (i : Nat → Nat → Int) (a : Nat) (kd kn en tk v : Int) : w1 (stI i a kd kn en tk) a 4 v = stI i a kd kn v tk := by
  unfold stI
  rw [w1_wr_s]
  congr 1
  funext j
  by_cases h4 : j = 4
  · subst h4; simp
  · by_cases h2 : j = 2
    · subst h2; simp
    · by_cases h3 : j = 3 <;> simp [h2, h3, h4]
theorem stI_w5 (i : Nat → Nat → Int) (a : Nat) (kd kn en tk v : Int) : w1 (stI i a kd kn en tk) a 5 v = stI i a kd kn en v := by
  unfold stI
  rw [w1_wr_s]
  congr 1
  funext j
  by_cases h5 : j = 5
  · subst h5; simp
  · by_cases h2 : j = 2
    · subst h2; simp
    · by_cases h3 : j = 3
      · subst h3; simp
      · by_cases h4 : j = 4 <;> simp [h2, h3, h4, h5]
theorem stL_6 (l : Nat → Nat → Int) (a : Nat) (u b n d : Int) : stL l a u b n d a 6 = u := by simp [stL, wr_s]
theorem stL_7 (l : Nat → Nat → Int) (a : Nat) (u b n d : Int) : stL l a u b n d a 7 = b := by simp [stL, wr_s]
theorem stL_8 (l : Nat → Nat → Int) (a : Nat) (u b n d : Int) : stL l a u b n d a 8 = n := by simp [stL, wr_s]
theorem stL_9 (l : Nat → Nat → Int) (a : Nat) (u b n d : Int) : stL l a u b n d a 9 = d := by simp [stL, wr_s]
theorem stL_n (l : Nat → Nat → Int) {a c : Nat} (u b n d : Int) (h : c ≠ a) : stL l a u b n d c = l c := wr_n _ _ h
theorem stL_w6 (l : Nat → Nat → Int) (a : Nat) (u b n d v : Int) : w1 (stL l a u b n d) a 6 v = stL l a v b n d := by
  unfold stL
  rw [w1_wr_s]
  congr 1
  funext j
  by_cases h : j = 6 <;> simp [h]
theorem stL_w7 (l : Nat → Nat → Int) (a : Nat) (u b n d v : Int) : w1 (stL l a u b n d) a 7 v = stL l a u v n d := by
  unfold stL
  rw [w1_wr_s]
  congr 1
  funext j
  by_cases h7 : j = 7
  · subst h7; simp
  · by_cases h6 : j = 6 <;> simp [h6, h7]
theorem stL_w8 (l : Nat → Nat → Int) (a : Nat) (u b n d v : Int) : w1 (stL l a u b n d) a 8 v = stL l a u b v d := by
  unfold stL
  rw [w1_wr_s]
  congr 1
  funext j
  by_cases h8 : j = 8
  · subst h8; simp
  · by_cases h6 : j = 6
    · subst h6; simp
    · by_cases h7 : j = 7 <;> simp [h6, h7, h8]
theorem stL_w9 (l : Nat → Nat → Int) (a : Nat) (u b n d v : Int) : w1 (stL l a u b n d) a 9 v = stL l a u b n v := by
  unfold stL
  rw [w1_wr_s]
  congr 1
  funext j
  by_cases h9 : j = 9
  · subst h9; simp
  · by_cases h6 : j = 6
    · subst h6; simp
    · by_cases h7 : j = 7
      · subst h7; simp
      · by_cases h8 : j = 8 <;> simp [h6, h7, h8, h9]
/-! ===== streams: start, addPart, partAt ===== -/
section ST1
variable {i l : Nat → Nat → Int} {x y : Option Nat}
theorem q_start {a : Nat} (ha : St a) (kd : Int) : fX7_start a (N kd) (hq i l x y) = some ((), hq (stI i a kd 0 0 0) (stL l a 0 0 0 1) x y) := by
  have h7 := ha.1.1
  unfold fX7_start
  simp only [nk, jk]
  rw [pI_q h7, pI_q h7, pZ_q h7 (Or.inl rfl), pI_q h7, pL_q h7, pL_q h7, pL_q h7, pL_q h7, stI_mk, stL_mk]
theorem q_addPart {a : Nat} (ha : St a) {k : Nat} (hk : i a 3 = k) (h60 : k < 60) (p : Int) : fX7_addPart a (J p) (hq i l x y) = some ((), hq (w1 i a 3 ((k + 1 : Nat) : Int)) (w1 l (a + 1) k p) x y) := by
  have h7 := ha.1.1
  unfold fX7_addPart
  rw [gI_q h7, hk]
  simp (disch := omega) only [nk, N_le]
  rw [if_neg (by omega), gR_q h7, ha.r, nn_some, gI_q h7, hk, zL_q ha.1.2 (by omega) (by omega) (by omega), gI_q h7, hk, N_add, pI_q h7]
  simp
theorem q_partAt {a : Nat} (ha : St a) {k : Int} (h1 : -2147483648 ≤ k) (h2 : k ≤ 2147483647) : fX7_partAt a (N k) (hq i l x y) = some (J (if k < 0 ∨ 60 ≤ k then 0 else l (a + 1) k.toNat), hq i l x y) := by
  have h7 := ha.1.1
  unfold fX7_partAt
  simp (disch := omega) only [nk, jk, N_lt, N_le]
  by_cases c1 : k < 0
  · rw [if_pos c1, if_pos (Or.inl c1)]
  · by_cases c2 : 60 ≤ k
    · rw [if_neg c1, if_pos c2, if_pos (Or.inr c2)]
    · rw [if_neg c1, if_neg c2, gR_q h7, ha.r, nn_some, aL_q ha.1.2 (by omega) (by omega) (by omega), if_neg (by omega)]
end ST1
