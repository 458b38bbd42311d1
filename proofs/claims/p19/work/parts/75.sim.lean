/-! ===== running the functions over the state: made by pp.py ===== -/
section QX
variable {ρ : Type} {i l : Nat → Nat → Int} {x y : Option Nat}
theorem gIT : (∀ (k : Nat) (F : Int32 → Fn ρ), gI (hq i l x y) 0 8 k F = F (N (i 0 k))) ∧ (∀ (k : Nat) (F : Int32 → Fn ρ), gI (hq i l x y) 2 7 k F = F (N (i 2 k))) ∧ (∀ (k : Nat) (F : Int32 → Fn ρ), gI (hq i l x y) 7 3 k F = F (N (i 7 k))) ∧ (∀ (k : Nat) (F : Int32 → Fn ρ), gI (hq i l x y) 8 4 k F = F (N (i 8 k))) ∧ (∀ (k : Nat) (F : Int32 → Fn ρ), gI (hq i l x y) 12 1 k F = F (N (i 12 k))) ∧ (∀ (k : Nat) (F : Int32 → Fn ρ), gI (hq i l x y) 13 6 k F = F (N (i 13 k))) ∧ (∀ (k : Nat) (F : Int32 → Fn ρ), gI (hq i l x y) 14 6 k F = F (N (i 14 k))) ∧ (∀ (k : Nat) (F : Int32 → Fn ρ), gI (hq i l x y) 20 2 k F = F (N (i 20 k))) ∧ (∀ (k : Nat) (F : Int32 → Fn ρ), gI (hq i l x y) 23 5 k F = F (N (i 23 k))) ∧ (∀ (k : Nat) (F : Int32 → Fn ρ), gI (hq i l x y) 24 3 k F = F (N (i 24 k))) ∧ (∀ (k : Nat) (F : Int32 → Fn ρ), gI (hq i l x y) 25 7 k F = F (N (i 25 k))) ∧ (∀ (k : Nat) (F : Int32 → Fn ρ), gI (hq i l x y) 27 0 k F = F (N (i 27 k))) ∧ (∀ (k : Nat) (F : Int32 → Fn ρ), gI (hq i l x y) 108 9 k F = F (N (i 108 k))) := by
  have h := shT
  have r := srT x y
  refine ⟨?_, ?_, ?_, ?_, ?_, ?_, ?_, ?_, ?_, ?_, ?_, ?_, ?_⟩ <;> exact fun k F => gI_q (by simp only [h]; done)

theorem gLT : (∀ (k : Nat) (F : Int64 → Fn ρ), gL (hq i l x y) 0 8 k F = F (J (l 0 k))) ∧ (∀ (k : Nat) (F : Int64 → Fn ρ), gL (hq i l x y) 2 7 k F = F (J (l 2 k))) ∧ (∀ (k : Nat) (F : Int64 → Fn ρ), gL (hq i l x y) 7 3 k F = F (J (l 7 k))) ∧ (∀ (k : Nat) (F : Int64 → Fn ρ), gL (hq i l x y) 8 4 k F = F (J (l 8 k))) ∧ (∀ (k : Nat) (F : Int64 → Fn ρ), gL (hq i l x y) 12 1 k F = F (J (l 12 k))) ∧ (∀ (k : Nat) (F : Int64 → Fn ρ), gL (hq i l x y) 13 6 k F = F (J (l 13 k))) ∧ (∀ (k : Nat) (F : Int64 → Fn ρ), gL (hq i l x y) 14 6 k F = F (J (l 14 k))) ∧ (∀ (k : Nat) (F : Int64 → Fn ρ), gL (hq i l x y) 20 2 k F = F (J (l 20 k))) ∧ (∀ (k : Nat) (F : Int64 → Fn ρ), gL (hq i l x y) 23 5 k F = F (J (l 23 k))) ∧ (∀ (k : Nat) (F : Int64 → Fn ρ), gL (hq i l x y) 24 3 k F = F (J (l 24 k))) ∧ (∀ (k : Nat) (F : Int64 → Fn ρ), gL (hq i l x y) 25 7 k F = F (J (l 25 k))) ∧ (∀ (k : Nat) (F : Int64 → Fn ρ), gL (hq i l x y) 27 0 k F = F (J (l 27 k))) ∧ (∀ (k : Nat) (F : Int64 → Fn ρ), gL (hq i l x y) 108 9 k F = F (J (l 108 k))) := by
  have h := shT
  have r := srT x y
  refine ⟨?_, ?_, ?_, ?_, ?_, ?_, ?_, ?_, ?_, ?_, ?_, ?_, ?_⟩ <;> exact fun k F => gL_q (by simp only [h]; done)

theorem cvT : (∀ (F : Fn ρ), cv (hq i l x y) 0 8 F = F) ∧ (∀ (F : Fn ρ), cv (hq i l x y) 2 7 F = F) ∧ (∀ (F : Fn ρ), cv (hq i l x y) 7 3 F = F) ∧ (∀ (F : Fn ρ), cv (hq i l x y) 8 4 F = F) ∧ (∀ (F : Fn ρ), cv (hq i l x y) 12 1 F = F) ∧ (∀ (F : Fn ρ), cv (hq i l x y) 13 6 F = F) ∧ (∀ (F : Fn ρ), cv (hq i l x y) 14 6 F = F) ∧ (∀ (F : Fn ρ), cv (hq i l x y) 20 2 F = F) ∧ (∀ (F : Fn ρ), cv (hq i l x y) 23 5 F = F) ∧ (∀ (F : Fn ρ), cv (hq i l x y) 24 3 F = F) ∧ (∀ (F : Fn ρ), cv (hq i l x y) 25 7 F = F) ∧ (∀ (F : Fn ρ), cv (hq i l x y) 27 0 F = F) ∧ (∀ (F : Fn ρ), cv (hq i l x y) 108 9 F = F) := by
  have h := shT
  have r := srT x y
  refine ⟨?_, ?_, ?_, ?_, ?_, ?_, ?_, ?_, ?_, ?_, ?_, ?_, ?_⟩ <;> exact fun F => cv_q (by simp only [h]; done)

theorem pIT : (∀ (k : Nat) (v : Int) (F : AH → Fn ρ), pI (hq i l x y) 0 8 k (N v) F = F (hq (w1 i 0 k v) l x y)) ∧ (∀ (k : Nat) (v : Int) (F : AH → Fn ρ), pI (hq i l x y) 2 7 k (N v) F = F (hq (w1 i 2 k v) l x y)) ∧ (∀ (k : Nat) (v : Int) (F : AH → Fn ρ), pI (hq i l x y) 7 3 k (N v) F = F (hq (w1 i 7 k v) l x y)) ∧ (∀ (k : Nat) (v : Int) (F : AH → Fn ρ), pI (hq i l x y) 8 4 k (N v) F = F (hq (w1 i 8 k v) l x y)) ∧ (∀ (k : Nat) (v : Int) (F : AH → Fn ρ), pI (hq i l x y) 12 1 k (N v) F = F (hq (w1 i 12 k v) l x y)) ∧ (∀ (k : Nat) (v : Int) (F : AH → Fn ρ), pI (hq i l x y) 13 6 k (N v) F = F (hq (w1 i 13 k v) l x y)) ∧ (∀ (k : Nat) (v : Int) (F : AH → Fn ρ), pI (hq i l x y) 14 6 k (N v) F = F (hq (w1 i 14 k v) l x y)) ∧ (∀ (k : Nat) (v : Int) (F : AH → Fn ρ), pI (hq i l x y) 20 2 k (N v) F = F (hq (w1 i 20 k v) l x y)) ∧ (∀ (k : Nat) (v : Int) (F : AH → Fn ρ), pI (hq i l x y) 23 5 k (N v) F = F (hq (w1 i 23 k v) l x y)) ∧ (∀ (k : Nat) (v : Int) (F : AH → Fn ρ), pI (hq i l x y) 24 3 k (N v) F = F (hq (w1 i 24 k v) l x y)) ∧ (∀ (k : Nat) (v : Int) (F : AH → Fn ρ), pI (hq i l x y) 25 7 k (N v) F = F (hq (w1 i 25 k v) l x y)) ∧ (∀ (k : Nat) (v : Int) (F : AH → Fn ρ), pI (hq i l x y) 27 0 k (N v) F = F (hq (w1 i 27 k v) l x y)) ∧ (∀ (k : Nat) (v : Int) (F : AH → Fn ρ), pI (hq i l x y) 108 9 k (N v) F = F (hq (w1 i 108 k v) l x y)) := by
  have h := shT
  have r := srT x y
  refine ⟨?_, ?_, ?_, ?_, ?_, ?_, ?_, ?_, ?_, ?_, ?_, ?_, ?_⟩ <;> exact fun k v F => pI_q (by simp only [h]; done)

theorem pLT : (∀ (k : Nat) (v : Int) (F : AH → Fn ρ), pL (hq i l x y) 0 8 k (J v) F = F (hq i (w1 l 0 k v) x y)) ∧ (∀ (k : Nat) (v : Int) (F : AH → Fn ρ), pL (hq i l x y) 2 7 k (J v) F = F (hq i (w1 l 2 k v) x y)) ∧ (∀ (k : Nat) (v : Int) (F : AH → Fn ρ), pL (hq i l x y) 7 3 k (J v) F = F (hq i (w1 l 7 k v) x y)) ∧ (∀ (k : Nat) (v : Int) (F : AH → Fn ρ), pL (hq i l x y) 8 4 k (J v) F = F (hq i (w1 l 8 k v) x y)) ∧ (∀ (k : Nat) (v : Int) (F : AH → Fn ρ), pL (hq i l x y) 12 1 k (J v) F = F (hq i (w1 l 12 k v) x y)) ∧ (∀ (k : Nat) (v : Int) (F : AH → Fn ρ), pL (hq i l x y) 13 6 k (J v) F = F (hq i (w1 l 13 k v) x y)) ∧ (∀ (k : Nat) (v : Int) (F : AH → Fn ρ), pL (hq i l x y) 14 6 k (J v) F = F (hq i (w1 l 14 k v) x y)) ∧ (∀ (k : Nat) (v : Int) (F : AH → Fn ρ), pL (hq i l x y) 20 2 k (J v) F = F (hq i (w1 l 20 k v) x y)) ∧ (∀ (k : Nat) (v : Int) (F : AH → Fn ρ), pL (hq i l x y) 23 5 k (J v) F = F (hq i (w1 l 23 k v) x y)) ∧ (∀ (k : Nat) (v : Int) (F : AH → Fn ρ), pL (hq i l x y) 24 3 k (J v) F = F (hq i (w1 l 24 k v) x y)) ∧ (∀ (k : Nat) (v : Int) (F : AH → Fn ρ), pL (hq i l x y) 25 7 k (J v) F = F (hq i (w1 l 25 k v) x y)) ∧ (∀ (k : Nat) (v : Int) (F : AH → Fn ρ), pL (hq i l x y) 27 0 k (J v) F = F (hq i (w1 l 27 k v) x y)) ∧ (∀ (k : Nat) (v : Int) (F : AH → Fn ρ), pL (hq i l x y) 108 9 k (J v) F = F (hq i (w1 l 108 k v) x y)) := by
  have h := shT
  have r := srT x y
  refine ⟨?_, ?_, ?_, ?_, ?_, ?_, ?_, ?_, ?_, ?_, ?_, ?_, ?_⟩ <;> exact fun k v F => pL_q (by simp only [h]; done)

theorem gRT : (∀ (F : Nat → Fn ρ), gR (hq i l x y) 0 8 0 F = F 1) ∧ (∀ (F : Nat → Fn ρ), gR (hq i l x y) 0 8 1 F = F 2) ∧ (∀ (F : Nat → Fn ρ), gR (hq i l x y) 0 8 2 F = F 4) ∧ (∀ (F : Nat → Fn ρ), gR (hq i l x y) 0 8 3 F = F 5) ∧ (∀ (F : Nat → Fn ρ), gR (hq i l x y) 0 8 5 F = F 6) ∧ (∀ (F : Nat → Fn ρ), gR (hq i l x y) 0 8 6 F = F 7) ∧ (∀ (F : Nat → Fn ρ), gR (hq i l x y) 0 8 7 F = F 8) ∧ (∀ (F : Nat → Fn ρ), gR (hq i l x y) 0 8 8 F = F 12) ∧ (∀ (F : Nat → Fn ρ), gR (hq i l x y) 0 8 9 F = F 20) ∧ (∀ (F : Nat → Fn ρ), gR (hq i l x y) 0 8 10 F = F 23) ∧ (∀ (F : Nat → Fn ρ), gR (hq i l x y) 0 8 11 F = F 27) ∧ (∀ (F : Nat → Fn ρ), gR (hq i l x y) 2 7 0 F = F 3) ∧ (∀ (F : Nat → Fn ρ), gR (hq i l x y) 8 4 0 F = F 9) ∧ (∀ (F : Nat → Fn ρ), gR (hq i l x y) 8 4 1 F = F 10) ∧ (∀ (F : Nat → Fn ρ), gR (hq i l x y) 8 4 2 F = F 11) ∧ (∀ (F : Nat → Fn ρ), gR (hq i l x y) 12 1 0 F = F 13) ∧ (∀ (F : Nat → Fn ρ), gR (hq i l x y) 12 1 1 F = F 14) ∧ (∀ (F : Nat → Fn ρ), gR (hq i l x y) 12 1 2 F = F 15) ∧ (∀ (F : Nat → Fn ρ), gR (hq i l x y) 12 1 3 F = F 16) ∧ (∀ (F : Nat → Fn ρ), gR (hq i l x y) 12 1 4 F = F 17) ∧ (∀ (F : Nat → Fn ρ), gR (hq i l x y) 12 1 5 F = F 18) ∧ (∀ (F : Nat → Fn ρ), gR (hq i l x y) 12 1 7 F = F 19) ∧ (∀ (F : Nat → Fn ρ), gR (hq i l x y) 20 2 0 F = F 21) ∧ (∀ (F : Nat → Fn ρ), gR (hq i l x y) 20 2 1 F = F 22) ∧ (∀ (F : Nat → Fn ρ), gR (hq i l x y) 23 5 4 F = F 24) ∧ (∀ (F : Nat → Fn ρ), gR (hq i l x y) 23 5 5 F = F 25) ∧ (∀ (F : Nat → Fn ρ), gR (hq i l x y) 25 7 0 F = F 26) ∧ (∀ (F : Nat → Fn ρ), gR (hq i l x y) 108 9 1 F = F 109) ∧ (∀ (F : Nat → Fn ρ), gR (hq i l x y) 108 9 2 F = F 110) ∧ (∀ (F : Nat → Fn ρ), gR (hq i l x y) 108 9 3 F = F 111) ∧ (∀ (F : Nat → Fn ρ), gR (hq i l x y) 108 9 4 F = F 112) ∧ (∀ (F : Nat → Fn ρ), gR (hq i l x y) 108 9 5 F = F 113) ∧ (∀ (F : Nat → Fn ρ), gR (hq i l x y) 108 9 6 F = F 114) ∧ (∀ (F : Nat → Fn ρ), gR (hq i l x y) 108 9 7 F = F 115) ∧ (∀ (F : Nat → Fn ρ), gR (hq i l x y) 108 9 8 F = F 116) ∧ (∀ (F : Nat → Fn ρ), gR (hq i l x y) 108 9 9 F = F 117) ∧ (∀ (F : Nat → Fn ρ), gR (hq i l x y) 108 9 12 F = F 118) ∧ (∀ (F : Nat → Fn ρ), gR (hq i l x y) 108 9 13 F = F 119) ∧ (∀ (F : Nat → Fn ρ), gR (hq i l x y) 108 9 14 F = F 120) ∧ (∀ (F : Nat → Fn ρ), gR (hq i l x y) 108 9 19 F = F 121) ∧ (∀ (F : Nat → Fn ρ), gR (hq i l x y) 108 9 20 F = F 122) ∧ (∀ (F : Nat → Fn ρ), gR (hq i l x y) 108 9 21 F = F 123) ∧ (∀ (F : Nat → Fn ρ), gR (hq i l x y) 108 9 23 F = F 124) ∧ (∀ (F : Nat → Fn ρ), gR (hq i l x y) 108 9 24 F = F 125) := by
  have h := shT
  have r := srT x y
  refine ⟨?_, ?_, ?_, ?_, ?_, ?_, ?_, ?_, ?_, ?_, ?_, ?_, ?_, ?_, ?_, ?_, ?_, ?_, ?_, ?_, ?_, ?_, ?_, ?_, ?_, ?_, ?_, ?_, ?_, ?_, ?_, ?_, ?_, ?_, ?_, ?_, ?_, ?_, ?_, ?_, ?_, ?_, ?_, ?_⟩ <;> exact fun F => by rw [gR_q (by simp only [h]; done)]; simp only [r, nn_some]; done

theorem pZT : (∀ (F : AH → Fn ρ), pZ (hq i l x y) 13 6 4 (N 0) F = F (hq (w1 i 13 4 0) l x y)) ∧ (∀ (F : AH → Fn ρ), pZ (hq i l x y) 13 6 4 (N 1) F = F (hq (w1 i 13 4 1) l x y)) ∧ (∀ (F : AH → Fn ρ), pZ (hq i l x y) 14 6 4 (N 0) F = F (hq (w1 i 14 4 0) l x y)) ∧ (∀ (F : AH → Fn ρ), pZ (hq i l x y) 14 6 4 (N 1) F = F (hq (w1 i 14 4 1) l x y)) := by
  have h := shT
  have r := srT x y
  refine ⟨?_, ?_, ?_, ?_⟩ <;> exact fun F => pZ_q (by simp only [h]; done) (by decide)

theorem asZ : (∀ (j v : Int) (F : AH → Fn ρ), 0 ≤ j → j < 40 → a01 v → zZ (hq i l x y) 2 109 (N j) (N v) F = F (hq (w1 i 109 j.toNat v) l x y)) ∧ (∀ (j v : Int) (F : AH → Fn ρ), 0 ≤ j → j < 40 → a01 v → zZ (hq i l x y) 2 112 (N j) (N v) F = F (hq (w1 i 112 j.toNat v) l x y)) := by
  have h := shT
  have r := srT x y
  refine ⟨?_, ?_⟩ <;> exact fun j v F h0 h1 hv => zZ_q (by simp only [h]; done) h0 h1 (by decide) hv

theorem aNT : (∀ (F : Int32 → Fn ρ), aN (hq i l x y) 1 6 F = F (N 8)) ∧ (∀ (F : Int32 → Fn ρ), aN (hq i l x y) 1 19 F = F (N 1820)) := by
  have h := shT
  have r := srT x y
  refine ⟨?_, ?_⟩ <;> exact fun F => aN_q (by simp only [h]; done)

end QX
theorem tnT (s : Nat) : ((s : Int)).toNat = s ∧ (60 * (s : Int)).toNat = 60 * s ∧ (4 * (s : Int)).toNat = 4 * s ∧ (4 * (s : Int) + 1).toNat = 4 * s + 1 ∧ (4 * (s : Int) + 2).toNat = 4 * s + 2 ∧ (4 * (s : Int) + 3).toNat = 4 * s + 3 ∧ (61 * (s : Int)).toNat = 61 * s ∧ (10 * (s : Int)).toNat = 10 * s ∧ (10 * (s : Int) + 1).toNat = 10 * s + 1 := by omega
theorem tnU (s k : Nat) : (60 * (s : Int) + (k : Int)).toNat = 60 * s + k ∧ (61 * (s : Int) + (k : Int)).toNat = 61 * s + k ∧ (4 * (s : Int) + (k : Int)).toNat = 4 * s + k := by omega
theorem tnL : (0 : Int).toNat = 0 ∧ (1 : Int).toNat = 1 ∧ (2 : Int).toNat = 2 ∧ (3 : Int).toNat = 3 ∧ (4 : Int).toNat = 4 ∧ (5 : Int).toNat = 5 ∧ (6 : Int).toNat = 6 ∧ (7 : Int).toNat = 7 := by decide

theorem iNlt_t {ρ : Type} {a b : Int} {d : Decidable (N a < N b)} {A B : ρ} (h : a < b) (g : (-2147483648 ≤ a ∧ a ≤ 2147483647) ∧ -2147483648 ≤ b ∧ b ≤ 2147483647) : (if N a < N b then A else B) = A := if_pos ((N_lt g.1.1 g.1.2 g.2.1 g.2.2).mpr h)
theorem iNlt_f {ρ : Type} {a b : Int} {d : Decidable (N a < N b)} {A B : ρ} (h : ¬ a < b) (g : (-2147483648 ≤ a ∧ a ≤ 2147483647) ∧ -2147483648 ≤ b ∧ b ≤ 2147483647) : (if N a < N b then A else B) = B := if_neg (fun z => h ((N_lt g.1.1 g.1.2 g.2.1 g.2.2).mp z))
theorem iNle_t {ρ : Type} {a b : Int} {d : Decidable (N a ≤ N b)} {A B : ρ} (h : a ≤ b) (g : (-2147483648 ≤ a ∧ a ≤ 2147483647) ∧ -2147483648 ≤ b ∧ b ≤ 2147483647) : (if N a ≤ N b then A else B) = A := if_pos ((N_le g.1.1 g.1.2 g.2.1 g.2.2).mpr h)
theorem iNle_f {ρ : Type} {a b : Int} {d : Decidable (N a ≤ N b)} {A B : ρ} (h : ¬ a ≤ b) (g : (-2147483648 ≤ a ∧ a ≤ 2147483647) ∧ -2147483648 ≤ b ∧ b ≤ 2147483647) : (if N a ≤ N b then A else B) = B := if_neg (fun z => h ((N_le g.1.1 g.1.2 g.2.1 g.2.2).mp z))
theorem iNeq_t {ρ : Type} {a b : Int} {d : Decidable (N a = N b)} {A B : ρ} (h : a = b) (g : (-2147483648 ≤ a ∧ a ≤ 2147483647) ∧ -2147483648 ≤ b ∧ b ≤ 2147483647) : (if N a = N b then A else B) = A := if_pos ((N_eq g.1.1 g.1.2 g.2.1 g.2.2).mpr h)
theorem iNeq_f {ρ : Type} {a b : Int} {d : Decidable (N a = N b)} {A B : ρ} (h : ¬ a = b) (g : (-2147483648 ≤ a ∧ a ≤ 2147483647) ∧ -2147483648 ≤ b ∧ b ≤ 2147483647) : (if N a = N b then A else B) = B := if_neg (fun z => h ((N_eq g.1.1 g.1.2 g.2.1 g.2.2).mp z))
theorem iJlt_t {ρ : Type} {a b : Int} {d : Decidable (J a < J b)} {A B : ρ} (h : a < b) (g : (-9223372036854775808 ≤ a ∧ a ≤ 9223372036854775807) ∧ -9223372036854775808 ≤ b ∧ b ≤ 9223372036854775807) : (if J a < J b then A else B) = A := if_pos ((J_lt g.1.1 g.1.2 g.2.1 g.2.2).mpr h)
theorem iJlt_f {ρ : Type} {a b : Int} {d : Decidable (J a < J b)} {A B : ρ} (h : ¬ a < b) (g : (-9223372036854775808 ≤ a ∧ a ≤ 9223372036854775807) ∧ -9223372036854775808 ≤ b ∧ b ≤ 9223372036854775807) : (if J a < J b then A else B) = B := if_neg (fun z => h ((J_lt g.1.1 g.1.2 g.2.1 g.2.2).mp z))
theorem iJle_t {ρ : Type} {a b : Int} {d : Decidable (J a ≤ J b)} {A B : ρ} (h : a ≤ b) (g : (-9223372036854775808 ≤ a ∧ a ≤ 9223372036854775807) ∧ -9223372036854775808 ≤ b ∧ b ≤ 9223372036854775807) : (if J a ≤ J b then A else B) = A := if_pos ((J_le g.1.1 g.1.2 g.2.1 g.2.2).mpr h)
theorem iJle_f {ρ : Type} {a b : Int} {d : Decidable (J a ≤ J b)} {A B : ρ} (h : ¬ a ≤ b) (g : (-9223372036854775808 ≤ a ∧ a ≤ 9223372036854775807) ∧ -9223372036854775808 ≤ b ∧ b ≤ 9223372036854775807) : (if J a ≤ J b then A else B) = B := if_neg (fun z => h ((J_le g.1.1 g.1.2 g.2.1 g.2.2).mp z))
theorem iJeq_t {ρ : Type} {a b : Int} {d : Decidable (J a = J b)} {A B : ρ} (h : a = b) (g : (-9223372036854775808 ≤ a ∧ a ≤ 9223372036854775807) ∧ -9223372036854775808 ≤ b ∧ b ≤ 9223372036854775807) : (if J a = J b then A else B) = A := if_pos ((J_eq g.1.1 g.1.2 g.2.1 g.2.2).mpr h)
theorem iJeq_f {ρ : Type} {a b : Int} {d : Decidable (J a = J b)} {A B : ρ} (h : ¬ a = b) (g : (-9223372036854775808 ≤ a ∧ a ≤ 9223372036854775807) ∧ -9223372036854775808 ≤ b ∧ b ≤ 9223372036854775807) : (if J a = J b then A else B) = B := if_neg (fun z => h ((J_eq g.1.1 g.1.2 g.2.1 g.2.2).mp z))
theorem iZlt_t {ρ : Type} {a b : Int} {d : Decidable (a < b)} {A B : ρ} (h : a < b) : (if a < b then A else B) = A := if_pos h
theorem iZlt_f {ρ : Type} {a b : Int} {d : Decidable (a < b)} {A B : ρ} (h : ¬ a < b) : (if a < b then A else B) = B := if_neg h
theorem iZle_t {ρ : Type} {a b : Int} {d : Decidable (a ≤ b)} {A B : ρ} (h : a ≤ b) : (if a ≤ b then A else B) = A := if_pos h
theorem iZle_f {ρ : Type} {a b : Int} {d : Decidable (a ≤ b)} {A B : ρ} (h : ¬ a ≤ b) : (if a ≤ b then A else B) = B := if_neg h
theorem iZeq_t {ρ : Type} {a b : Int} {d : Decidable (a = b)} {A B : ρ} (h : a = b) : (if a = b then A else B) = A := if_pos h
theorem iZeq_f {ρ : Type} {a b : Int} {d : Decidable (a = b)} {A B : ρ} (h : ¬ a = b) : (if a = b then A else B) = B := if_neg h
theorem iQlt_t {ρ : Type} {a b : Nat} {d : Decidable (a < b)} {A B : ρ} (h : a < b) : (if a < b then A else B) = A := if_pos h
theorem iQlt_f {ρ : Type} {a b : Nat} {d : Decidable (a < b)} {A B : ρ} (h : ¬ a < b) : (if a < b then A else B) = B := if_neg h
theorem iQle_t {ρ : Type} {a b : Nat} {d : Decidable (a ≤ b)} {A B : ρ} (h : a ≤ b) : (if a ≤ b then A else B) = A := if_pos h
theorem iQle_f {ρ : Type} {a b : Nat} {d : Decidable (a ≤ b)} {A B : ρ} (h : ¬ a ≤ b) : (if a ≤ b then A else B) = B := if_neg h
theorem iQeq_t {ρ : Type} {a b : Nat} {d : Decidable (a = b)} {A B : ρ} (h : a = b) : (if a = b then A else B) = A := if_pos h
theorem iQeq_f {ρ : Type} {a b : Nat} {d : Decidable (a = b)} {A B : ρ} (h : ¬ a = b) : (if a = b then A else B) = B := if_neg h
theorem iAnd_t {ρ : Type} {P Q : Prop} {d : Decidable (P ∧ Q)} {A B : ρ} (h : P ∧ Q) : (if P ∧ Q then A else B) = A := if_pos h
theorem iAnd_f {ρ : Type} {P Q : Prop} {d : Decidable (P ∧ Q)} {A B : ρ} (h : ¬ (P ∧ Q)) : (if P ∧ Q then A else B) = B := if_neg h
theorem iOr_t {ρ : Type} {P Q : Prop} {d : Decidable (P ∨ Q)} {A B : ρ} (h : P ∨ Q) : (if P ∨ Q then A else B) = A := if_pos h
theorem iOr_f {ρ : Type} {P Q : Prop} {d : Decidable (P ∨ Q)} {A B : ρ} (h : ¬ (P ∨ Q)) : (if P ∨ Q then A else B) = B := if_neg h
theorem iIff_t {ρ : Type} {P Q : Prop} {d : Decidable (P ↔ Q)} {A B : ρ} (h : P ↔ Q) : (if P ↔ Q then A else B) = A := if_pos h
theorem iIff_f {ρ : Type} {P Q : Prop} {d : Decidable (P ↔ Q)} {A B : ρ} (h : ¬ (P ↔ Q)) : (if P ↔ Q then A else B) = B := if_neg h
theorem iNot_t {ρ : Type} {P : Prop} {d : Decidable (¬ P)} {A B : ρ} (h : ¬ P) : (if ¬ P then A else B) = A := if_pos h
theorem iNot_f {ρ : Type} {P : Prop} {d : Decidable (¬ P)} {A B : ρ} (h : ¬ ¬ P) : (if ¬ P then A else B) = B := if_neg h
theorem iTrue {ρ : Type} {d : Decidable True} {A B : ρ} : (if True then A else B) = A := if_pos trivial
theorem iFalse {ρ : Type} {d : Decidable False} {A B : ρ} : (if False then A else B) = B := if_neg id
theorem bq {α ρ : Type} {r : Fn α} {v : α} {h : AH} (e : r = some (v, h)) (F : α → AH → Fn ρ) : bnd r F = F v h := by rw [e]; rfl
theorem ckN {ρ : Type} {a b : Int} {d : Decidable (¬ N a = N b)} {F : Fn ρ} (h : ((-2147483648 ≤ a ∧ a ≤ 2147483647) ∧ -2147483648 ≤ b ∧ b ≤ 2147483647) ∧ ¬ a = b) : ck (¬ N a = N b) F = F := ck_t (fun z => h.2 ((N_eq h.1.1.1 h.1.1.2 h.1.2.1 h.1.2.2).mp z)) _
theorem ckJ {ρ : Type} {a b : Int} {d : Decidable (¬ J a = J b)} {F : Fn ρ} (h : ((-9223372036854775808 ≤ a ∧ a ≤ 9223372036854775807) ∧ -9223372036854775808 ≤ b ∧ b ≤ 9223372036854775807) ∧ ¬ a = b) : ck (¬ J a = J b) F = F := ck_t (fun z => h.2 ((J_eq h.1.1.1 h.1.1.2 h.1.2.1 h.1.2.2).mp z)) _
