/-! ===== the state behind both constructors ===== -/
def h00x : AH := (fun _ => none, 0, fun _ _ => 0, fun _ _ => 0, fun _ _ => none)
def hC1o : Fn Unit := fX8_init 0 (HpN h00x 8 0)
def hC1 : AH := match hC1o with
  | some q => q.2
  | none => h00x
def hC2o : Fn Unit := fX9_init 108 (HpN hC1 9 0)
def hC : AH := match hC2o with
  | some q => q.2
  | none => h00x
theorem hC1_ok : fX8_init 0 (HpN h00x 8 0) = some ((), hC1) := by
  have h : hC1o.isSome = true := by decide +kernel
  show hC1o = _
  unfold hC1
  cases e : hC1o with
  | none => rw [e] at h; cases h
  | some q => rfl
theorem hC1_n : Hn hC1 = 108 := by decide +kernel
theorem hC2_ok : fX9_init 108 (HpN hC1 9 0) = some ((), hC) := by
  have h : hC2o.isSome = true := by decide +kernel
  show hC2o = _
  unfold hC
  cases e : hC2o with
  | none => rw [e] at h; cases h
  | some q => rfl
theorem hC_n : Hn hC = 126 := by decide +kernel
theorem u2_eta {α : Type} (f : Nat → Nat → α) (a k : Nat) : u2 f a k (f a k) = f := by
  funext b j
  unfold u2
  split
  · rename_i h
    rw [h.1, h.2]
  · rfl
theorem f_shL : ∀ q ∈ [(0, 8, 0), (1, 103, 40), (2, 7, 0), (3, 101, 60), (4, 101, 8), (5, 101, 8), (6, 101, 8), (7, 3, 0), (8, 4, 0), (9, 101, 61), (10, 101, 61), (11, 101, 61), (12, 1, 0), (13, 6, 0), (14, 6, 0), (15, 101, 8), (16, 101, 8), (17, 101, 4), (18, 101, 4), (19, 101, 1820), (20, 2, 0), (21, 101, 60), (22, 101, 60), (23, 5, 0), (24, 3, 0), (25, 7, 0), (26, 101, 60), (27, 0, 0), (108, 9, 0), (109, 102, 40), (110, 100, 40), (111, 100, 40), (112, 102, 40), (113, 101, 2400), (114, 100, 40), (115, 101, 160), (116, 101, 2440), (117, 101, 2440), (118, 100, 8), (119, 100, 8), (120, 101, 8), (121, 101, 8), (122, 101, 8), (123, 101, 2200), (124, 101, 4), (125, 101, 4)], Hs hC q.1 = some q.2 := by decide +kernel
theorem f_srL : ∀ q ∈ [(0, 0, 1), (0, 1, 2), (0, 2, 4), (0, 3, 5), (0, 5, 6), (0, 6, 7), (0, 7, 8), (0, 8, 12), (0, 9, 20), (0, 10, 23), (0, 11, 27), (2, 0, 3), (8, 0, 9), (8, 1, 10), (8, 2, 11), (12, 0, 13), (12, 1, 14), (12, 2, 15), (12, 3, 16), (12, 4, 17), (12, 5, 18), (12, 7, 19), (20, 0, 21), (20, 1, 22), (23, 4, 24), (23, 5, 25), (25, 0, 26), (108, 1, 109), (108, 2, 110), (108, 3, 111), (108, 4, 112), (108, 5, 113), (108, 6, 114), (108, 7, 115), (108, 8, 116), (108, 9, 117), (108, 12, 118), (108, 13, 119), (108, 14, 120), (108, 19, 121), (108, 20, 122), (108, 21, 123), (108, 23, 124), (108, 24, 125)], HR hC q.1 q.2.1 = some q.2.2 := by decide +kernel
theorem f_sh : Hs hC 0 = some (8, 0) ∧ Hs hC 1 = some (103, 40) ∧ Hs hC 2 = some (7, 0) ∧ Hs hC 3 = some (101, 60) ∧ Hs hC 4 = some (101, 8) ∧ Hs hC 5 = some (101, 8) ∧ Hs hC 6 = some (101, 8) ∧ Hs hC 7 = some (3, 0) ∧ Hs hC 8 = some (4, 0) ∧ Hs hC 9 = some (101, 61) ∧ Hs hC 10 = some (101, 61) ∧ Hs hC 11 = some (101, 61) ∧ Hs hC 12 = some (1, 0) ∧ Hs hC 13 = some (6, 0) ∧ Hs hC 14 = some (6, 0) ∧ Hs hC 15 = some (101, 8) ∧ Hs hC 16 = some (101, 8) ∧ Hs hC 17 = some (101, 4) ∧ Hs hC 18 = some (101, 4) ∧ Hs hC 19 = some (101, 1820) ∧ Hs hC 20 = some (2, 0) ∧ Hs hC 21 = some (101, 60) ∧ Hs hC 22 = some (101, 60) ∧ Hs hC 23 = some (5, 0) ∧ Hs hC 24 = some (3, 0) ∧ Hs hC 25 = some (7, 0) ∧ Hs hC 26 = some (101, 60) ∧ Hs hC 27 = some (0, 0) ∧ Hs hC 108 = some (9, 0) ∧ Hs hC 109 = some (102, 40) ∧ Hs hC 110 = some (100, 40) ∧ Hs hC 111 = some (100, 40) ∧ Hs hC 112 = some (102, 40) ∧ Hs hC 113 = some (101, 2400) ∧ Hs hC 114 = some (100, 40) ∧ Hs hC 115 = some (101, 160) ∧ Hs hC 116 = some (101, 2440) ∧ Hs hC 117 = some (101, 2440) ∧ Hs hC 118 = some (100, 8) ∧ Hs hC 119 = some (100, 8) ∧ Hs hC 120 = some (101, 8) ∧ Hs hC 121 = some (101, 8) ∧ Hs hC 122 = some (101, 8) ∧ Hs hC 123 = some (101, 2200) ∧ Hs hC 124 = some (101, 4) ∧ Hs hC 125 = some (101, 4) := ⟨f_shL (0, 8, 0) (by decide), f_shL (1, 103, 40) (by decide), f_shL (2, 7, 0) (by decide), f_shL (3, 101, 60) (by decide), f_shL (4, 101, 8) (by decide), f_shL (5, 101, 8) (by decide), f_shL (6, 101, 8) (by decide), f_shL (7, 3, 0) (by decide), f_shL (8, 4, 0) (by decide), f_shL (9, 101, 61) (by decide), f_shL (10, 101, 61) (by decide), f_shL (11, 101, 61) (by decide), f_shL (12, 1, 0) (by decide), f_shL (13, 6, 0) (by decide), f_shL (14, 6, 0) (by decide), f_shL (15, 101, 8) (by decide), f_shL (16, 101, 8) (by decide), f_shL (17, 101, 4) (by decide), f_shL (18, 101, 4) (by decide), f_shL (19, 101, 1820) (by decide), f_shL (20, 2, 0) (by decide), f_shL (21, 101, 60) (by decide), f_shL (22, 101, 60) (by decide), f_shL (23, 5, 0) (by decide), f_shL (24, 3, 0) (by decide), f_shL (25, 7, 0) (by decide), f_shL (26, 101, 60) (by decide), f_shL (27, 0, 0) (by decide), f_shL (108, 9, 0) (by decide), f_shL (109, 102, 40) (by decide), f_shL (110, 100, 40) (by decide), f_shL (111, 100, 40) (by decide), f_shL (112, 102, 40) (by decide), f_shL (113, 101, 2400) (by decide), f_shL (114, 100, 40) (by decide), f_shL (115, 101, 160) (by decide), f_shL (116, 101, 2440) (by decide), f_shL (117, 101, 2440) (by decide), f_shL (118, 100, 8) (by decide), f_shL (119, 100, 8) (by decide), f_shL (120, 101, 8) (by decide), f_shL (121, 101, 8) (by decide), f_shL (122, 101, 8) (by decide), f_shL (123, 101, 2200) (by decide), f_shL (124, 101, 4) (by decide), f_shL (125, 101, 4) (by decide)⟩
theorem f_sr : HR hC 0 0 = some 1 ∧ HR hC 0 1 = some 2 ∧ HR hC 0 2 = some 4 ∧ HR hC 0 3 = some 5 ∧ HR hC 0 5 = some 6 ∧ HR hC 0 6 = some 7 ∧ HR hC 0 7 = some 8 ∧ HR hC 0 8 = some 12 ∧ HR hC 0 9 = some 20 ∧ HR hC 0 10 = some 23 ∧ HR hC 0 11 = some 27 ∧ HR hC 2 0 = some 3 ∧ HR hC 8 0 = some 9 ∧ HR hC 8 1 = some 10 ∧ HR hC 8 2 = some 11 ∧ HR hC 12 0 = some 13 ∧ HR hC 12 1 = some 14 ∧ HR hC 12 2 = some 15 ∧ HR hC 12 3 = some 16 ∧ HR hC 12 4 = some 17 ∧ HR hC 12 5 = some 18 ∧ HR hC 12 7 = some 19 ∧ HR hC 20 0 = some 21 ∧ HR hC 20 1 = some 22 ∧ HR hC 23 4 = some 24 ∧ HR hC 23 5 = some 25 ∧ HR hC 25 0 = some 26 ∧ HR hC 108 1 = some 109 ∧ HR hC 108 2 = some 110 ∧ HR hC 108 3 = some 111 ∧ HR hC 108 4 = some 112 ∧ HR hC 108 5 = some 113 ∧ HR hC 108 6 = some 114 ∧ HR hC 108 7 = some 115 ∧ HR hC 108 8 = some 116 ∧ HR hC 108 9 = some 117 ∧ HR hC 108 12 = some 118 ∧ HR hC 108 13 = some 119 ∧ HR hC 108 14 = some 120 ∧ HR hC 108 19 = some 121 ∧ HR hC 108 20 = some 122 ∧ HR hC 108 21 = some 123 ∧ HR hC 108 23 = some 124 ∧ HR hC 108 24 = some 125 := ⟨f_srL (0, 0, 1) (by decide), f_srL (0, 1, 2) (by decide), f_srL (0, 2, 4) (by decide), f_srL (0, 3, 5) (by decide), f_srL (0, 5, 6) (by decide), f_srL (0, 6, 7) (by decide), f_srL (0, 7, 8) (by decide), f_srL (0, 8, 12) (by decide), f_srL (0, 9, 20) (by decide), f_srL (0, 10, 23) (by decide), f_srL (0, 11, 27) (by decide), f_srL (2, 0, 3) (by decide), f_srL (8, 0, 9) (by decide), f_srL (8, 1, 10) (by decide), f_srL (8, 2, 11) (by decide), f_srL (12, 0, 13) (by decide), f_srL (12, 1, 14) (by decide), f_srL (12, 2, 15) (by decide), f_srL (12, 3, 16) (by decide), f_srL (12, 4, 17) (by decide), f_srL (12, 5, 18) (by decide), f_srL (12, 7, 19) (by decide), f_srL (20, 0, 21) (by decide), f_srL (20, 1, 22) (by decide), f_srL (23, 4, 24) (by decide), f_srL (23, 5, 25) (by decide), f_srL (25, 0, 26) (by decide), f_srL (108, 1, 109) (by decide), f_srL (108, 2, 110) (by decide), f_srL (108, 3, 111) (by decide), f_srL (108, 4, 112) (by decide), f_srL (108, 5, 113) (by decide), f_srL (108, 6, 114) (by decide), f_srL (108, 7, 115) (by decide), f_srL (108, 8, 116) (by decide), f_srL (108, 9, 117) (by decide), f_srL (108, 12, 118) (by decide), f_srL (108, 13, 119) (by decide), f_srL (108, 14, 120) (by decide), f_srL (108, 19, 121) (by decide), f_srL (108, 20, 122) (by decide), f_srL (108, 21, 123) (by decide), f_srL (108, 23, 124) (by decide), f_srL (108, 24, 125) (by decide)⟩
theorem f_ss : ∀ s, s < 40 → (Hs hC (2 * s + 28) = some (7, 0) ∧ Hs hC (2 * s + 29) = some (101, 60)) ∧ (HR hC 1 s = some (2 * s + 28) ∧ HR hC (2 * s + 28) 0 = some (2 * s + 29)) := by decide +kernel
theorem f_in : (∀ s, s < 40 → (fun a k => (HI hC a k).toInt) (2 * s + 28) 1 = 0 ∧ (fun a k => (HI hC a k).toInt) 109 s = 0) ∧ (∀ j, j < 8 → (fun a k => (HL hC a k).toInt) 6 j = 0 ∧ (fun a k => (HL hC a k).toInt) 120 j = 0) ∧ (fun a k => (HI hC a k).toInt) 108 10 = 0 ∧ (fun a k => (HI hC a k).toInt) 0 4 = 0 ∧ (fun a k => (HI hC a k).toInt) 108 11 = 0 ∧ (fun a k => (HI hC a k).toInt) 12 8 = 0 ∧ (fun a k => (HI hC a k).toInt) 108 22 = 0 ∧ (fun a k => (HI hC a k).toInt) 108 0 = 0 ∧ (fun a k => (HI hC a k).toInt) 2 2 = 0 ∧ (fun a k => (HL hC a k).toInt) 2 6 = 1 ∧ (fun a k => (HL hC a k).toInt) 2 7 = 0 ∧ (fun a k => (HL hC a k).toInt) 2 8 = 0 ∧ (fun a k => (HL hC a k).toInt) 2 9 = 1 ∧ (fun a k => (HI hC a k).toInt) 13 0 = 0 ∧ (fun a k => (HI hC a k).toInt) 13 1 = 2 ∧ (fun a k => (HI hC a k).toInt) 14 0 = 1 ∧ (fun a k => (HI hC a k).toInt) 14 1 = 1 := by decide +kernel
theorem ah_eta (h : AH) : h = (Hs h, Hn h, (fun a k => N ((HI h a k).toInt)), (fun a k => J ((HL h a k).toInt)), HR h) := by
  have e3 : HI h = fun a k => N ((HI h a k).toInt) := by funext a k; exact N_of _
  have e4 : HL h = fun a k => J ((HL h a k).toInt) := by funext a k; exact J_of _
  rw [← e3, ← e4]
  rfl
abbrev SQ : Type := (Nat → Option (Nat × Nat)) × (Nat → Nat → Option Nat) × (Nat → Nat → Int) × (Nat → Nat → Int)
def SQok (q : SQ) : Prop := hC = (q.1, 126, (fun a k => N (q.2.2.1 a k)), (fun a k => J (q.2.2.2 a k)), q.2.1) ∧ (q.1 0 = some (8, 0) ∧ q.1 1 = some (103, 40) ∧ q.1 2 = some (7, 0) ∧ q.1 3 = some (101, 60) ∧ q.1 4 = some (101, 8) ∧ q.1 5 = some (101, 8) ∧ q.1 6 = some (101, 8) ∧ q.1 7 = some (3, 0) ∧ q.1 8 = some (4, 0) ∧ q.1 9 = some (101, 61) ∧ q.1 10 = some (101, 61) ∧ q.1 11 = some (101, 61) ∧ q.1 12 = some (1, 0) ∧ q.1 13 = some (6, 0) ∧ q.1 14 = some (6, 0) ∧ q.1 15 = some (101, 8) ∧ q.1 16 = some (101, 8) ∧ q.1 17 = some (101, 4) ∧ q.1 18 = some (101, 4) ∧ q.1 19 = some (101, 1820) ∧ q.1 20 = some (2, 0) ∧ q.1 21 = some (101, 60) ∧ q.1 22 = some (101, 60) ∧ q.1 23 = some (5, 0) ∧ q.1 24 = some (3, 0) ∧ q.1 25 = some (7, 0) ∧ q.1 26 = some (101, 60) ∧ q.1 27 = some (0, 0) ∧ q.1 108 = some (9, 0) ∧ q.1 109 = some (102, 40) ∧ q.1 110 = some (100, 40) ∧ q.1 111 = some (100, 40) ∧ q.1 112 = some (102, 40) ∧ q.1 113 = some (101, 2400) ∧ q.1 114 = some (100, 40) ∧ q.1 115 = some (101, 160) ∧ q.1 116 = some (101, 2440) ∧ q.1 117 = some (101, 2440) ∧ q.1 118 = some (100, 8) ∧ q.1 119 = some (100, 8) ∧ q.1 120 = some (101, 8) ∧ q.1 121 = some (101, 8) ∧ q.1 122 = some (101, 8) ∧ q.1 123 = some (101, 2200) ∧ q.1 124 = some (101, 4) ∧ q.1 125 = some (101, 4)) ∧ (q.2.1 0 0 = some 1 ∧ q.2.1 0 1 = some 2 ∧ q.2.1 0 2 = some 4 ∧ q.2.1 0 3 = some 5 ∧ q.2.1 0 5 = some 6 ∧ q.2.1 0 6 = some 7 ∧ q.2.1 0 7 = some 8 ∧ q.2.1 0 8 = some 12 ∧ q.2.1 0 9 = some 20 ∧ q.2.1 0 10 = some 23 ∧ q.2.1 0 11 = some 27 ∧ q.2.1 2 0 = some 3 ∧ q.2.1 8 0 = some 9 ∧ q.2.1 8 1 = some 10 ∧ q.2.1 8 2 = some 11 ∧ q.2.1 12 0 = some 13 ∧ q.2.1 12 1 = some 14 ∧ q.2.1 12 2 = some 15 ∧ q.2.1 12 3 = some 16 ∧ q.2.1 12 4 = some 17 ∧ q.2.1 12 5 = some 18 ∧ q.2.1 12 7 = some 19 ∧ q.2.1 20 0 = some 21 ∧ q.2.1 20 1 = some 22 ∧ q.2.1 23 4 = some 24 ∧ q.2.1 23 5 = some 25 ∧ q.2.1 25 0 = some 26 ∧ q.2.1 108 1 = some 109 ∧ q.2.1 108 2 = some 110 ∧ q.2.1 108 3 = some 111 ∧ q.2.1 108 4 = some 112 ∧ q.2.1 108 5 = some 113 ∧ q.2.1 108 6 = some 114 ∧ q.2.1 108 7 = some 115 ∧ q.2.1 108 8 = some 116 ∧ q.2.1 108 9 = some 117 ∧ q.2.1 108 12 = some 118 ∧ q.2.1 108 13 = some 119 ∧ q.2.1 108 14 = some 120 ∧ q.2.1 108 19 = some 121 ∧ q.2.1 108 20 = some 122 ∧ q.2.1 108 21 = some 123 ∧ q.2.1 108 23 = some 124 ∧ q.2.1 108 24 = some 125) ∧ (∀ s, s < 40 → (q.1 (2 * s + 28) = some (7, 0) ∧ q.1 (2 * s + 29) = some (101, 60)) ∧ (q.2.1 1 s = some (2 * s + 28) ∧ q.2.1 (2 * s + 28) 0 = some (2 * s + 29))) ∧ ((∀ s, s < 40 → q.2.2.1 (2 * s + 28) 1 = 0 ∧ q.2.2.1 109 s = 0) ∧ (∀ j, j < 8 → q.2.2.2 6 j = 0 ∧ q.2.2.2 120 j = 0) ∧ q.2.2.1 108 10 = 0 ∧ q.2.2.1 0 4 = 0 ∧ q.2.2.1 108 11 = 0 ∧ q.2.2.1 12 8 = 0 ∧ q.2.2.1 108 22 = 0 ∧ q.2.2.1 108 0 = 0 ∧ q.2.2.1 2 2 = 0 ∧ q.2.2.2 2 6 = 1 ∧ q.2.2.2 2 7 = 0 ∧ q.2.2.2 2 8 = 0 ∧ q.2.2.2 2 9 = 1 ∧ q.2.2.1 13 0 = 0 ∧ q.2.2.1 13 1 = 2 ∧ q.2.2.1 14 0 = 1 ∧ q.2.2.1 14 1 = 1)
theorem SQ_ex : ∃ q : SQ, SQok q := by
  have h1 := f_sh
  have h2 := f_sr
  have h3 := f_ss
  have h4 := f_in
  have h5 := ah_eta hC
  rw [hC_n] at h5
  refine ⟨(Hs hC, HR hC, (fun a k => (HI hC a k).toInt), (fun a k => (HL hC a k).toInt)), ?_⟩
  unfold SQok
  generalize hC = h at h1 h2 h3 h4 h5 ⊢
  exact ⟨h5, h1, h2, h3, h4⟩
noncomputable def SQ0 : SQ := Classical.choose SQ_ex
theorem SQ0_ok : SQok SQ0 := Classical.choose_spec SQ_ex
noncomputable def S0 : Nat → Option (Nat × Nat) := SQ0.1
noncomputable def r0 : Nat → Nat → Option Nat := SQ0.2.1
noncomputable def i0 : Nat → Nat → Int := SQ0.2.2.1
noncomputable def l0 : Nat → Nat → Int := SQ0.2.2.2
theorem shT : S0 0 = some (8, 0) ∧ S0 1 = some (103, 40) ∧ S0 2 = some (7, 0) ∧ S0 3 = some (101, 60) ∧ S0 4 = some (101, 8) ∧ S0 5 = some (101, 8) ∧ S0 6 = some (101, 8) ∧ S0 7 = some (3, 0) ∧ S0 8 = some (4, 0) ∧ S0 9 = some (101, 61) ∧ S0 10 = some (101, 61) ∧ S0 11 = some (101, 61) ∧ S0 12 = some (1, 0) ∧ S0 13 = some (6, 0) ∧ S0 14 = some (6, 0) ∧ S0 15 = some (101, 8) ∧ S0 16 = some (101, 8) ∧ S0 17 = some (101, 4) ∧ S0 18 = some (101, 4) ∧ S0 19 = some (101, 1820) ∧ S0 20 = some (2, 0) ∧ S0 21 = some (101, 60) ∧ S0 22 = some (101, 60) ∧ S0 23 = some (5, 0) ∧ S0 24 = some (3, 0) ∧ S0 25 = some (7, 0) ∧ S0 26 = some (101, 60) ∧ S0 27 = some (0, 0) ∧ S0 108 = some (9, 0) ∧ S0 109 = some (102, 40) ∧ S0 110 = some (100, 40) ∧ S0 111 = some (100, 40) ∧ S0 112 = some (102, 40) ∧ S0 113 = some (101, 2400) ∧ S0 114 = some (100, 40) ∧ S0 115 = some (101, 160) ∧ S0 116 = some (101, 2440) ∧ S0 117 = some (101, 2440) ∧ S0 118 = some (100, 8) ∧ S0 119 = some (100, 8) ∧ S0 120 = some (101, 8) ∧ S0 121 = some (101, 8) ∧ S0 122 = some (101, 8) ∧ S0 123 = some (101, 2200) ∧ S0 124 = some (101, 4) ∧ S0 125 = some (101, 4) := SQ0_ok.2.1
theorem srT0 : r0 0 0 = some 1 ∧ r0 0 1 = some 2 ∧ r0 0 2 = some 4 ∧ r0 0 3 = some 5 ∧ r0 0 5 = some 6 ∧ r0 0 6 = some 7 ∧ r0 0 7 = some 8 ∧ r0 0 8 = some 12 ∧ r0 0 9 = some 20 ∧ r0 0 10 = some 23 ∧ r0 0 11 = some 27 ∧ r0 2 0 = some 3 ∧ r0 8 0 = some 9 ∧ r0 8 1 = some 10 ∧ r0 8 2 = some 11 ∧ r0 12 0 = some 13 ∧ r0 12 1 = some 14 ∧ r0 12 2 = some 15 ∧ r0 12 3 = some 16 ∧ r0 12 4 = some 17 ∧ r0 12 5 = some 18 ∧ r0 12 7 = some 19 ∧ r0 20 0 = some 21 ∧ r0 20 1 = some 22 ∧ r0 23 4 = some 24 ∧ r0 23 5 = some 25 ∧ r0 25 0 = some 26 ∧ r0 108 1 = some 109 ∧ r0 108 2 = some 110 ∧ r0 108 3 = some 111 ∧ r0 108 4 = some 112 ∧ r0 108 5 = some 113 ∧ r0 108 6 = some 114 ∧ r0 108 7 = some 115 ∧ r0 108 8 = some 116 ∧ r0 108 9 = some 117 ∧ r0 108 12 = some 118 ∧ r0 108 13 = some 119 ∧ r0 108 14 = some 120 ∧ r0 108 19 = some 121 ∧ r0 108 20 = some 122 ∧ r0 108 21 = some 123 ∧ r0 108 23 = some 124 ∧ r0 108 24 = some 125 := SQ0_ok.2.2.1
theorem shS : ∀ s, s < 40 → (S0 (2 * s + 28) = some (7, 0) ∧ S0 (2 * s + 29) = some (101, 60)) ∧ (r0 1 s = some (2 * s + 28) ∧ r0 (2 * s + 28) 0 = some (2 * s + 29)) := SQ0_ok.2.2.2.1
theorem inT : (∀ s, s < 40 → i0 (2 * s + 28) 1 = 0 ∧ i0 109 s = 0) ∧ (∀ j, j < 8 → l0 6 j = 0 ∧ l0 120 j = 0) ∧ i0 108 10 = 0 ∧ i0 0 4 = 0 ∧ i0 108 11 = 0 ∧ i0 12 8 = 0 ∧ i0 108 22 = 0 ∧ i0 108 0 = 0 ∧ i0 2 2 = 0 ∧ l0 2 6 = 1 ∧ l0 2 7 = 0 ∧ l0 2 8 = 0 ∧ l0 2 9 = 1 ∧ i0 13 0 = 0 ∧ i0 13 1 = 2 ∧ i0 14 0 = 1 ∧ i0 14 1 = 1 := SQ0_ok.2.2.2.2
noncomputable def rr (x y : Option Nat) : Nat → Nat → Option Nat := u2 (u2 r0 13 2 x) 14 2 y
noncomputable def hq (i l : Nat → Nat → Int) (x y : Option Nat) : AH := (S0, 126, fun a k => N (i a k), fun a k => J (l a k), rr x y)
theorem hC_q : hC = hq i0 l0 (r0 13 2) (r0 14 2) := by
  have e := SQ0_ok.1
  unfold hq rr
  rw [show u2 r0 13 2 (r0 13 2) = r0 from u2_eta _ _ _, show u2 r0 14 2 (r0 14 2) = r0 from u2_eta _ _ _]
  exact e
theorem Hs_q (i l : Nat → Nat → Int) (x y : Option Nat) : Hs (hq i l x y) = S0 := rfl
theorem HI_q (i l : Nat → Nat → Int) (x y : Option Nat) (a k : Nat) : HI (hq i l x y) a k = N (i a k) := rfl
theorem HL_q (i l : Nat → Nat → Int) (x y : Option Nat) (a k : Nat) : HL (hq i l x y) a k = J (l a k) := rfl
theorem HR_q (i l : Nat → Nat → Int) (x y : Option Nat) : HR (hq i l x y) = rr x y := rfl
/-- one number put -/
def w1 (l : Nat → Nat → Int) (a k : Nat) (v : Int) : Nat → Nat → Int := fun b j => if b = a ∧ j = k then v else l b j
theorem HpI_q (i l : Nat → Nat → Int) (x y : Option Nat) (a k : Nat) (v : Int) : HpI (hq i l x y) a k (N v) = hq (w1 i a k v) l x y := by
  unfold HpI hq u2 w1
  congr 3
  funext b j
  split <;> rfl
theorem HpL_q (i l : Nat → Nat → Int) (x y : Option Nat) (a k : Nat) (v : Int) : HpL (hq i l x y) a k (J v) = hq i (w1 l a k v) x y := by
  unfold HpL hq u2 w1
  congr 4
  funext b j
  split <;> rfl
theorem HpR_x (i l : Nat → Nat → Int) (x y v : Option Nat) : HpR (hq i l x y) 13 2 v = hq i l v y := by
  unfold HpR hq rr
  congr 4
  funext b j
  unfold u2
  by_cases h1 : b = 14 ∧ j = 2
  · simp [h1]
  · by_cases h2 : b = 13 ∧ j = 2
    · simp [h2]
    · simp [h1, h2]
theorem HpR_y (i l : Nat → Nat → Int) (x y v : Option Nat) : HpR (hq i l x y) 14 2 v = hq i l x v := by
  unfold HpR hq rr
  congr 4
  funext b j
  unfold u2
  by_cases h1 : b = 14 ∧ j = 2
  · simp [h1]
  · simp [h1]
theorem w1_s (l : Nat → Nat → Int) (a k : Nat) (v : Int) : w1 l a k v a k = v := by simp [w1]
theorem w1_n (l : Nat → Nat → Int) {a k b j : Nat} (v : Int) (h : ¬ (b = a ∧ j = k)) : w1 l a k v b j = l b j := by simp only [w1, if_neg h]
theorem rr_o (x y : Option Nat) {a : Nat} (k : Nat) (h1 : a ≠ 13) (h2 : a ≠ 14) : rr x y a k = r0 a k := by
  unfold rr u2
  rw [if_neg (fun z => h2 z.1), if_neg (fun z => h1 z.1)]
theorem rr_x (x y : Option Nat) : rr x y 13 2 = x := rfl
theorem rr_y (x y : Option Nat) : rr x y 14 2 = y := rfl

theorem srT (x y : Option Nat) : rr x y 0 0 = some 1 ∧ rr x y 0 1 = some 2 ∧ rr x y 0 2 = some 4 ∧ rr x y 0 3 = some 5 ∧ rr x y 0 5 = some 6 ∧ rr x y 0 6 = some 7 ∧ rr x y 0 7 = some 8 ∧ rr x y 0 8 = some 12 ∧ rr x y 0 9 = some 20 ∧ rr x y 0 10 = some 23 ∧ rr x y 0 11 = some 27 ∧ rr x y 2 0 = some 3 ∧ rr x y 8 0 = some 9 ∧ rr x y 8 1 = some 10 ∧ rr x y 8 2 = some 11 ∧ rr x y 12 0 = some 13 ∧ rr x y 12 1 = some 14 ∧ rr x y 12 2 = some 15 ∧ rr x y 12 3 = some 16 ∧ rr x y 12 4 = some 17 ∧ rr x y 12 5 = some 18 ∧ rr x y 12 7 = some 19 ∧ rr x y 20 0 = some 21 ∧ rr x y 20 1 = some 22 ∧ rr x y 23 4 = some 24 ∧ rr x y 23 5 = some 25 ∧ rr x y 25 0 = some 26 ∧ rr x y 108 1 = some 109 ∧ rr x y 108 2 = some 110 ∧ rr x y 108 3 = some 111 ∧ rr x y 108 4 = some 112 ∧ rr x y 108 5 = some 113 ∧ rr x y 108 6 = some 114 ∧ rr x y 108 7 = some 115 ∧ rr x y 108 8 = some 116 ∧ rr x y 108 9 = some 117 ∧ rr x y 108 12 = some 118 ∧ rr x y 108 13 = some 119 ∧ rr x y 108 14 = some 120 ∧ rr x y 108 19 = some 121 ∧ rr x y 108 20 = some 122 ∧ rr x y 108 21 = some 123 ∧ rr x y 108 23 = some 124 ∧ rr x y 108 24 = some 125 := srT0
theorem rr_1 (x y : Option Nat) {s : Nat} (h : s < 40) : rr x y 1 s = some (2 * s + 28) := by
  rw [rr_o _ _ _ (by decide) (by decide)]
  exact (shS s h).2.1
def St (a : Nat) : Prop := (S0 a = some (7, 0) ∧ S0 (a + 1) = some (101, 60)) ∧ r0 a 0 = some (a + 1) ∧ a ≠ 13 ∧ a ≠ 14
theorem St_2 : St 2 := ⟨⟨(by simp only [shT]), (by simp only [shT, Nat.reduceAdd])⟩, (by simp only [srT0, Nat.reduceAdd]), by decide, by decide⟩
theorem St_25 : St 25 := ⟨⟨(by simp only [shT]), (by simp only [shT, Nat.reduceAdd])⟩, (by simp only [srT0, Nat.reduceAdd]), by decide, by decide⟩
theorem St_s {s : Nat} (h : s < 40) : St (2 * s + 28) := ⟨(shS s h).1, (shS s h).2.2, by omega, by omega⟩
theorem St.r {a : Nat} (h : St a) (x y : Option Nat) : rr x y a 0 = some (a + 1) := by rw [rr_o _ _ _ h.2.2.1 h.2.2.2]; exact h.2.1

section QC
variable {ρ : Type} {i l : Nat → Nat → Int} {x y : Option Nat}
theorem gI_q {a c k : Nat} {F : Int32 → Fn ρ} (h : S0 a = some (c, 0)) : gI (hq i l x y) a c k F = F (N (i a k)) := ck_t h _
theorem gL_q {a c k : Nat} {F : Int64 → Fn ρ} (h : S0 a = some (c, 0)) : gL (hq i l x y) a c k F = F (J (l a k)) := ck_t h _
theorem gR_q {a c k : Nat} {F : Nat → Fn ρ} (h : S0 a = some (c, 0)) : gR (hq i l x y) a c k F = nn (rr x y a k) F := ck_t h _
theorem gN_q {a c k : Nat} {F0 : Fn ρ} {F : Nat → Fn ρ} (h : S0 a = some (c, 0)) : gN (hq i l x y) a c k F0 F = on (rr x y a k) F0 F := ck_t h _
theorem cv_q {a c : Nat} {F : Fn ρ} (h : S0 a = some (c, 0)) : cv (hq i l x y) a c F = F := ck_t h _
theorem pI_q {a c k : Nat} {v : Int} {F : AH → Fn ρ} (h : S0 a = some (c, 0)) : pI (hq i l x y) a c k (N v) F = F (hq (w1 i a k v) l x y) := by
  unfold pI
  rw [HpI_q]
  exact ck_t h _
theorem pZ_q {a c k : Nat} {v : Int} {F : AH → Fn ρ} (h : S0 a = some (c, 0)) (hv : v = 0 ∨ v = 1) : pZ (hq i l x y) a c k (N v) F = F (hq (w1 i a k v) l x y) := by
  unfold pZ
  rw [HpI_q]
  exact ck_t ⟨h, by rcases hv with rfl | rfl <;> decide⟩ _
theorem pL_q {a c k : Nat} {v : Int} {F : AH → Fn ρ} (h : S0 a = some (c, 0)) : pL (hq i l x y) a c k (J v) F = F (hq i (w1 l a k v) x y) := by
  unfold pL
  rw [HpL_q]
  exact ck_t h _
theorem pR_x {v : Option Nat} {F : AH → Fn ρ} : pR (hq i l x y) 13 6 2 v F = F (hq i l v y) := by
  unfold pR
  rw [HpR_x]
  exact ck_t (show S0 13 = some (6, 0) by simp only [shT]) _
theorem pR_y {v : Option Nat} {F : AH → Fn ρ} : pR (hq i l x y) 14 6 2 v F = F (hq i l x v) := by
  unfold pR
  rw [HpR_y]
  exact ck_t (show S0 14 = some (6, 0) by simp only [shT]) _
theorem nn_some (b : Nat) (F : Nat → Fn ρ) : nn (some b) F = F b := rfl
theorem on_some (b : Nat) (A : Fn ρ) (F : Nat → Fn ρ) : on (some b) A F = F b := rfl
theorem on_none (A : Fn ρ) (F : Nat → Fn ρ) : on none A F = A := rfl
theorem ar_q {t a n : Nat} {j : Int} {F : Fn ρ} (h : S0 a = some (100 + t, n)) (h0 : 0 ≤ j) (h1 : j < n) (hn : n ≤ 100000) : ar (hq i l x y) t a (N j) F = F := by
  unfold ar
  rw [Hs_q, h]
  refine ck_t ⟨rfl, ?_⟩ _
  rw [N_cl h0 (by omega)]
  rintro (z | z)
  · rw [nk.1, N_lt (by omega) (by omega) (by omega) (by omega)] at z
    omega
  · simp only at z
    omega
theorem aL_q {a n : Nat} {j : Int} {F : Int64 → Fn ρ} (h : S0 a = some (101, n)) (h0 : 0 ≤ j) (h1 : j < n) (hn : n ≤ 100000) : aL (hq i l x y) 1 a (N j) F = F (J (l a j.toNat)) := by
  unfold aL
  rw [ar_q (t := 1) h h0 h1 hn, N_cl h0 (by omega), HL_q]
theorem aI_q {t a n : Nat} {j : Int} {F : Int32 → Fn ρ} (h : S0 a = some (100 + t, n)) (h0 : 0 ≤ j) (h1 : j < n) (hn : n ≤ 100000) : aI (hq i l x y) t a (N j) F = F (N (i a j.toNat)) := by
  unfold aI
  rw [ar_q h h0 h1 hn, N_cl h0 (by omega), HI_q]
theorem zL_q {a n : Nat} {j v : Int} {F : AH → Fn ρ} (h : S0 a = some (101, n)) (h0 : 0 ≤ j) (h1 : j < n) (hn : n ≤ 100000) : zL (hq i l x y) 1 a (N j) (J v) F = F (hq i (w1 l a j.toNat v) x y) := by
  unfold zL
  rw [ar_q (t := 1) h h0 h1 hn, N_cl h0 (by omega), HpL_q]
theorem zI_q {a n : Nat} {j v : Int} {F : AH → Fn ρ} (h : S0 a = some (100, n)) (h0 : 0 ≤ j) (h1 : j < n) (hn : n ≤ 100000) : zI (hq i l x y) 0 a (N j) (N v) F = F (hq (w1 i a j.toNat v) l x y) := by
  unfold zI
  rw [ar_q (t := 0) h h0 h1 hn, N_cl h0 (by omega), HpI_q]
theorem zZ_q {a n : Nat} {j v : Int} {F : AH → Fn ρ} (h : S0 a = some (102, n)) (h0 : 0 ≤ j) (h1 : j < n) (hn : n ≤ 100000) (hv : v = 0 ∨ v = 1) : zZ (hq i l x y) 2 a (N j) (N v) F = F (hq (w1 i a j.toNat v) l x y) := by
  unfold zZ
  rw [ar_q (t := 2) h h0 h1 hn, N_cl h0 (by omega), HpI_q]
  exact ck_t (by rcases hv with rfl | rfl <;> decide) _
theorem aR_1 {s : Int} {F : Nat → Fn ρ} (h0 : 0 ≤ s) (h1 : s < 40) : aR (hq i l x y) 3 1 (N s) F = F (2 * s.toNat + 28) := by
  unfold aR
  rw [ar_q (t := 3) (n := 40) shT.2.1 h0 h1 (by decide), N_cl h0 (by omega), HR_q, rr_1 _ _ (by omega)]
  rfl
theorem aN_q {t a n : Nat} {F : Int32 → Fn ρ} (h : S0 a = some (100 + t, n)) : aN (hq i l x y) t a F = F (N n) := by
  unfold aN
  rw [Hs_q, h, ← nN]
  exact ck_t rfl _

theorem arL : (∀ (j : Int) (F : Int64 → Fn ρ), 0 ≤ j → j < 60 → aL (hq i l x y) 1 3 (N j) F = F (J (l 3 j.toNat))) ∧ (∀ (j : Int) (F : Int64 → Fn ρ), 0 ≤ j → j < 8 → aL (hq i l x y) 1 4 (N j) F = F (J (l 4 j.toNat))) ∧ (∀ (j : Int) (F : Int64 → Fn ρ), 0 ≤ j → j < 8 → aL (hq i l x y) 1 5 (N j) F = F (J (l 5 j.toNat))) ∧ (∀ (j : Int) (F : Int64 → Fn ρ), 0 ≤ j → j < 8 → aL (hq i l x y) 1 6 (N j) F = F (J (l 6 j.toNat))) ∧ (∀ (j : Int) (F : Int64 → Fn ρ), 0 ≤ j → j < 61 → aL (hq i l x y) 1 9 (N j) F = F (J (l 9 j.toNat))) ∧ (∀ (j : Int) (F : Int64 → Fn ρ), 0 ≤ j → j < 61 → aL (hq i l x y) 1 10 (N j) F = F (J (l 10 j.toNat))) ∧ (∀ (j : Int) (F : Int64 → Fn ρ), 0 ≤ j → j < 61 → aL (hq i l x y) 1 11 (N j) F = F (J (l 11 j.toNat))) ∧ (∀ (j : Int) (F : Int64 → Fn ρ), 0 ≤ j → j < 8 → aL (hq i l x y) 1 15 (N j) F = F (J (l 15 j.toNat))) ∧ (∀ (j : Int) (F : Int64 → Fn ρ), 0 ≤ j → j < 8 → aL (hq i l x y) 1 16 (N j) F = F (J (l 16 j.toNat))) ∧ (∀ (j : Int) (F : Int64 → Fn ρ), 0 ≤ j → j < 4 → aL (hq i l x y) 1 17 (N j) F = F (J (l 17 j.toNat))) ∧ (∀ (j : Int) (F : Int64 → Fn ρ), 0 ≤ j → j < 4 → aL (hq i l x y) 1 18 (N j) F = F (J (l 18 j.toNat))) ∧ (∀ (j : Int) (F : Int64 → Fn ρ), 0 ≤ j → j < 1820 → aL (hq i l x y) 1 19 (N j) F = F (J (l 19 j.toNat))) ∧ (∀ (j : Int) (F : Int64 → Fn ρ), 0 ≤ j → j < 60 → aL (hq i l x y) 1 21 (N j) F = F (J (l 21 j.toNat))) ∧ (∀ (j : Int) (F : Int64 → Fn ρ), 0 ≤ j → j < 60 → aL (hq i l x y) 1 22 (N j) F = F (J (l 22 j.toNat))) ∧ (∀ (j : Int) (F : Int64 → Fn ρ), 0 ≤ j → j < 60 → aL (hq i l x y) 1 26 (N j) F = F (J (l 26 j.toNat))) ∧ (∀ (j : Int) (F : Int64 → Fn ρ), 0 ≤ j → j < 2400 → aL (hq i l x y) 1 113 (N j) F = F (J (l 113 j.toNat))) ∧ (∀ (j : Int) (F : Int64 → Fn ρ), 0 ≤ j → j < 160 → aL (hq i l x y) 1 115 (N j) F = F (J (l 115 j.toNat))) ∧ (∀ (j : Int) (F : Int64 → Fn ρ), 0 ≤ j → j < 2440 → aL (hq i l x y) 1 116 (N j) F = F (J (l 116 j.toNat))) ∧ (∀ (j : Int) (F : Int64 → Fn ρ), 0 ≤ j → j < 2440 → aL (hq i l x y) 1 117 (N j) F = F (J (l 117 j.toNat))) ∧ (∀ (j : Int) (F : Int64 → Fn ρ), 0 ≤ j → j < 8 → aL (hq i l x y) 1 120 (N j) F = F (J (l 120 j.toNat))) ∧ (∀ (j : Int) (F : Int64 → Fn ρ), 0 ≤ j → j < 8 → aL (hq i l x y) 1 121 (N j) F = F (J (l 121 j.toNat))) ∧ (∀ (j : Int) (F : Int64 → Fn ρ), 0 ≤ j → j < 8 → aL (hq i l x y) 1 122 (N j) F = F (J (l 122 j.toNat))) ∧ (∀ (j : Int) (F : Int64 → Fn ρ), 0 ≤ j → j < 2200 → aL (hq i l x y) 1 123 (N j) F = F (J (l 123 j.toNat))) ∧ (∀ (j : Int) (F : Int64 → Fn ρ), 0 ≤ j → j < 4 → aL (hq i l x y) 1 124 (N j) F = F (J (l 124 j.toNat))) ∧ (∀ (j : Int) (F : Int64 → Fn ρ), 0 ≤ j → j < 4 → aL (hq i l x y) 1 125 (N j) F = F (J (l 125 j.toNat))) := by
  have h := shT
  refine ⟨?_, ?_, ?_, ?_, ?_, ?_, ?_, ?_, ?_, ?_, ?_, ?_, ?_, ?_, ?_, ?_, ?_, ?_, ?_, ?_, ?_, ?_, ?_, ?_, ?_⟩ <;> exact fun j F h0 h1 => aL_q (by simp only [h]; done) h0 h1 (by decide)
theorem asL : (∀ (j v : Int) (F : AH → Fn ρ), 0 ≤ j → j < 60 → zL (hq i l x y) 1 3 (N j) (J v) F = F (hq i (w1 l 3 j.toNat v) x y)) ∧ (∀ (j v : Int) (F : AH → Fn ρ), 0 ≤ j → j < 8 → zL (hq i l x y) 1 4 (N j) (J v) F = F (hq i (w1 l 4 j.toNat v) x y)) ∧ (∀ (j v : Int) (F : AH → Fn ρ), 0 ≤ j → j < 8 → zL (hq i l x y) 1 5 (N j) (J v) F = F (hq i (w1 l 5 j.toNat v) x y)) ∧ (∀ (j v : Int) (F : AH → Fn ρ), 0 ≤ j → j < 8 → zL (hq i l x y) 1 6 (N j) (J v) F = F (hq i (w1 l 6 j.toNat v) x y)) ∧ (∀ (j v : Int) (F : AH → Fn ρ), 0 ≤ j → j < 61 → zL (hq i l x y) 1 9 (N j) (J v) F = F (hq i (w1 l 9 j.toNat v) x y)) ∧ (∀ (j v : Int) (F : AH → Fn ρ), 0 ≤ j → j < 61 → zL (hq i l x y) 1 10 (N j) (J v) F = F (hq i (w1 l 10 j.toNat v) x y)) ∧ (∀ (j v : Int) (F : AH → Fn ρ), 0 ≤ j → j < 61 → zL (hq i l x y) 1 11 (N j) (J v) F = F (hq i (w1 l 11 j.toNat v) x y)) ∧ (∀ (j v : Int) (F : AH → Fn ρ), 0 ≤ j → j < 8 → zL (hq i l x y) 1 15 (N j) (J v) F = F (hq i (w1 l 15 j.toNat v) x y)) ∧ (∀ (j v : Int) (F : AH → Fn ρ), 0 ≤ j → j < 8 → zL (hq i l x y) 1 16 (N j) (J v) F = F (hq i (w1 l 16 j.toNat v) x y)) ∧ (∀ (j v : Int) (F : AH → Fn ρ), 0 ≤ j → j < 4 → zL (hq i l x y) 1 17 (N j) (J v) F = F (hq i (w1 l 17 j.toNat v) x y)) ∧ (∀ (j v : Int) (F : AH → Fn ρ), 0 ≤ j → j < 4 → zL (hq i l x y) 1 18 (N j) (J v) F = F (hq i (w1 l 18 j.toNat v) x y)) ∧ (∀ (j v : Int) (F : AH → Fn ρ), 0 ≤ j → j < 1820 → zL (hq i l x y) 1 19 (N j) (J v) F = F (hq i (w1 l 19 j.toNat v) x y)) ∧ (∀ (j v : Int) (F : AH → Fn ρ), 0 ≤ j → j < 60 → zL (hq i l x y) 1 21 (N j) (J v) F = F (hq i (w1 l 21 j.toNat v) x y)) ∧ (∀ (j v : Int) (F : AH → Fn ρ), 0 ≤ j → j < 60 → zL (hq i l x y) 1 22 (N j) (J v) F = F (hq i (w1 l 22 j.toNat v) x y)) ∧ (∀ (j v : Int) (F : AH → Fn ρ), 0 ≤ j → j < 60 → zL (hq i l x y) 1 26 (N j) (J v) F = F (hq i (w1 l 26 j.toNat v) x y)) ∧ (∀ (j v : Int) (F : AH → Fn ρ), 0 ≤ j → j < 2400 → zL (hq i l x y) 1 113 (N j) (J v) F = F (hq i (w1 l 113 j.toNat v) x y)) ∧ (∀ (j v : Int) (F : AH → Fn ρ), 0 ≤ j → j < 160 → zL (hq i l x y) 1 115 (N j) (J v) F = F (hq i (w1 l 115 j.toNat v) x y)) ∧ (∀ (j v : Int) (F : AH → Fn ρ), 0 ≤ j → j < 2440 → zL (hq i l x y) 1 116 (N j) (J v) F = F (hq i (w1 l 116 j.toNat v) x y)) ∧ (∀ (j v : Int) (F : AH → Fn ρ), 0 ≤ j → j < 2440 → zL (hq i l x y) 1 117 (N j) (J v) F = F (hq i (w1 l 117 j.toNat v) x y)) ∧ (∀ (j v : Int) (F : AH → Fn ρ), 0 ≤ j → j < 8 → zL (hq i l x y) 1 120 (N j) (J v) F = F (hq i (w1 l 120 j.toNat v) x y)) ∧ (∀ (j v : Int) (F : AH → Fn ρ), 0 ≤ j → j < 8 → zL (hq i l x y) 1 121 (N j) (J v) F = F (hq i (w1 l 121 j.toNat v) x y)) ∧ (∀ (j v : Int) (F : AH → Fn ρ), 0 ≤ j → j < 8 → zL (hq i l x y) 1 122 (N j) (J v) F = F (hq i (w1 l 122 j.toNat v) x y)) ∧ (∀ (j v : Int) (F : AH → Fn ρ), 0 ≤ j → j < 2200 → zL (hq i l x y) 1 123 (N j) (J v) F = F (hq i (w1 l 123 j.toNat v) x y)) ∧ (∀ (j v : Int) (F : AH → Fn ρ), 0 ≤ j → j < 4 → zL (hq i l x y) 1 124 (N j) (J v) F = F (hq i (w1 l 124 j.toNat v) x y)) ∧ (∀ (j v : Int) (F : AH → Fn ρ), 0 ≤ j → j < 4 → zL (hq i l x y) 1 125 (N j) (J v) F = F (hq i (w1 l 125 j.toNat v) x y)) := by
  have h := shT
  refine ⟨?_, ?_, ?_, ?_, ?_, ?_, ?_, ?_, ?_, ?_, ?_, ?_, ?_, ?_, ?_, ?_, ?_, ?_, ?_, ?_, ?_, ?_, ?_, ?_, ?_⟩ <;> exact fun j v F h0 h1 => zL_q (by simp only [h]; done) h0 h1 (by decide)
theorem arI : (∀ (j : Int) (F : Int32 → Fn ρ), 0 ≤ j → j < 40 → aI (hq i l x y) 2 109 (N j) F = F (N (i 109 j.toNat))) ∧ (∀ (j : Int) (F : Int32 → Fn ρ), 0 ≤ j → j < 40 → aI (hq i l x y) 0 110 (N j) F = F (N (i 110 j.toNat))) ∧ (∀ (j : Int) (F : Int32 → Fn ρ), 0 ≤ j → j < 40 → aI (hq i l x y) 0 111 (N j) F = F (N (i 111 j.toNat))) ∧ (∀ (j : Int) (F : Int32 → Fn ρ), 0 ≤ j → j < 40 → aI (hq i l x y) 2 112 (N j) F = F (N (i 112 j.toNat))) ∧ (∀ (j : Int) (F : Int32 → Fn ρ), 0 ≤ j → j < 40 → aI (hq i l x y) 0 114 (N j) F = F (N (i 114 j.toNat))) ∧ (∀ (j : Int) (F : Int32 → Fn ρ), 0 ≤ j → j < 8 → aI (hq i l x y) 0 118 (N j) F = F (N (i 118 j.toNat))) ∧ (∀ (j : Int) (F : Int32 → Fn ρ), 0 ≤ j → j < 8 → aI (hq i l x y) 0 119 (N j) F = F (N (i 119 j.toNat))) := by
  have h := shT
  refine ⟨?_, ?_, ?_, ?_, ?_, ?_, ?_⟩ <;> exact fun j F h0 h1 => aI_q (by simp only [h]; done) h0 h1 (by decide)
theorem asI : (∀ (j v : Int) (F : AH → Fn ρ), 0 ≤ j → j < 40 → zI (hq i l x y) 0 110 (N j) (N v) F = F (hq (w1 i 110 j.toNat v) l x y)) ∧ (∀ (j v : Int) (F : AH → Fn ρ), 0 ≤ j → j < 40 → zI (hq i l x y) 0 111 (N j) (N v) F = F (hq (w1 i 111 j.toNat v) l x y)) ∧ (∀ (j v : Int) (F : AH → Fn ρ), 0 ≤ j → j < 40 → zI (hq i l x y) 0 114 (N j) (N v) F = F (hq (w1 i 114 j.toNat v) l x y)) ∧ (∀ (j v : Int) (F : AH → Fn ρ), 0 ≤ j → j < 8 → zI (hq i l x y) 0 118 (N j) (N v) F = F (hq (w1 i 118 j.toNat v) l x y)) ∧ (∀ (j v : Int) (F : AH → Fn ρ), 0 ≤ j → j < 8 → zI (hq i l x y) 0 119 (N j) (N v) F = F (hq (w1 i 119 j.toNat v) l x y)) := by
  have h := shT
  refine ⟨?_, ?_, ?_, ?_, ?_⟩ <;> exact fun j v F h0 h1 => zI_q (by simp only [h]; done) h0 h1 (by decide)
end QC
