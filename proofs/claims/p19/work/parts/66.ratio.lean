/-! ===== ratio and root ===== -/
theorem Rel.root {i l : Nat → Nat → Int} (h : Rel i l) {s : Nat} (hs : s < 40) (hf : i 109 s = 0) {a b n d : Int} (hr : RootOK a b n d) : Rel (mtI (ctI i s) s) (mtL (mtN (ctL l s a b n d) s a b n d) s (rD b n d) (rR b n d) (rX a b d) (rY b d) 61 60) := by
  obtain ⟨m1, m2, m3, m4, m5, m6⟩ := mtI_at (ctI i s) s
  obtain ⟨n1, n2, n3, n4, n5⟩ := mtN_115 (ctL l s a b n d) s a b n d
  have hW := rWB hr
  have t113 : ∀ j, mtL (mtN (ctL l s a b n d) s a b n d) s (rD b n d) (rR b n d) (rX a b d) (rY b d) 61 60 113 j = sg (wpt (rD b n d) (rR b n d) (rX a b d) (rY b d)) (l 113) (60 * s) 60 j := fun j => by
    unfold mtL
    rw [wr_s, mtN_n _ _ _ _ _ _ (by decide), ctL_n _ _ _ _ _ _ (by omega) (by omega) (by omega) (by omega) (by omega)]
  have t116 : ∀ j, mtL (mtN (ctL l s a b n d) s a b n d) s (rD b n d) (rR b n d) (rX a b d) (rY b d) 61 60 116 j = sg (fun j => (ws (rD b n d) (rR b n d) (rX a b d) (rY b d) j).1) (l 116) (61 * s) 61 j := fun j => by
    unfold mtL
    rw [wr_n _ _ (by decide), wr_n _ _ (by decide), wr_s, mtN_n _ _ _ _ _ _ (by decide), ctL_n _ _ _ _ _ _ (by omega) (by omega) (by omega) (by omega) (by omega)]
  have t117 : ∀ j, mtL (mtN (ctL l s a b n d) s a b n d) s (rD b n d) (rR b n d) (rX a b d) (rY b d) 61 60 117 j = sg (fun j => (ws (rD b n d) (rR b n d) (rX a b d) (rY b d) j).2) (l 117) (61 * s) 61 j := fun j => by
    unfold mtL
    rw [wr_n _ _ (by decide), wr_s, mtN_n _ _ _ _ _ _ (by decide), ctL_n _ _ _ _ _ _ (by omega) (by omega) (by omega) (by omega) (by omega)]
  have t115 : ∀ j, mtL (mtN (ctL l s a b n d) s a b n d) s (rD b n d) (rR b n d) (rX a b d) (rY b d) 61 60 115 j = mtN (ctL l s a b n d) s a b n d 115 j := fun j => by
    rw [mtL_n _ _ _ _ _ _ _ _ (by decide)]
  have tl : ∀ c, c ≠ 113 ∧ c ≠ 116 ∧ c ≠ 117 → c ≠ 115 → c ≠ 2 * s + 28 → c ≠ 2 * s + 29 → c ≠ 9 → c ≠ 10 → c ≠ 11 → mtL (mtN (ctL l s a b n d) s a b n d) s (rD b n d) (rR b n d) (rX a b d) (rY b d) 61 60 c = l c := fun c h1 h2 h3 h4 h5 h6 h7 => by
    rw [mtL_n _ _ _ _ _ _ _ _ h1, mtN_n _ _ _ _ _ _ h2, ctL_n _ _ _ _ _ _ h3 h4 h5 h6 h7]
  generalize hL : mtL (mtN (ctL l s a b n d) s a b n d) s (rD b n d) (rR b n d) (rX a b d) (rY b d) 61 60 = L at *
  have L28 : L (2 * s + 28) = stL l (2 * s + 28) a b n d (2 * s + 28) := by
    rw [← hL, mtL_n _ _ _ _ _ _ _ _ (by omega), mtN_n _ _ _ _ _ _ (by omega)]
    unfold ctL
    rw [wr_n _ _ (by omega), goL_n _ _ _ _ _ (by omega) (by omega) (by omega)]
  have L29 : ∀ k, k < 60 → L (2 * s + 29) k = wpt (rD b n d) (rR b n d) (rX a b d) (rY b d) k := fun k hk => by
    rw [← hL, mtL_n _ _ _ _ _ _ _ _ (by omega), mtN_n _ _ _ _ _ _ (by omega)]
    unfold ctL
    rw [wr_s, fl, if_pos hk]
  refine h.put hs hf (fun t ht hne => ⟨⟨⟨?_, tl _ (by omega) (by omega) (by omega) (by omega) (by omega) (by omega) (by omega), tl _ (by omega) (by omega) (by omega) (by omega) (by omega) (by omega) (by omega)⟩, ⟨?_, ?_, ?_, ?_⟩, fun k hk => ?_, ⟨?_, ?_, ?_, ?_⟩, fun k hk => ⟨?_, ?_⟩⟩, ?_⟩) ⟨m1, ?_⟩ ?_ ?_ ⟨⟨?_, ?_, tl _ (by omega) (by omega) (by omega) (by omega) (by omega) (by omega) (by omega), tl _ (by omega) (by omega) (by omega) (by omega) (by omega) (by omega) (by omega), tl _ (by omega) (by omega) (by omega) (by omega) (by omega) (by omega) (by omega), tl _ (by omega) (by omega) (by omega) (by omega) (by omega) (by omega) (by omega), tl _ (by omega) (by omega) (by omega) (by omega) (by omega) (by omega) (by omega), tl _ (by omega) (by omega) (by omega) (by omega) (by omega) (by omega) (by omega), tl _ (by omega) (by omega) (by omega) (by omega) (by omega) (by omega) (by omega)⟩, ⟨?_, ?_, ?_, ?_, ?_, ?_, ?_, ?_, ?_⟩, ?_⟩
  · funext j
    rw [mtI_n _ _ (by omega), ctI_n _ _ (by omega)]
  · rw [mtI_n _ _ (by omega), ctI_n _ _ (by omega)]
  · rw [mtI_n _ _ (by omega), ctI_n _ _ (by omega)]
  · rw [mtI_n _ _ (by omega), ctI_n _ _ (by omega)]
  · rw [mtI_n _ _ (by omega), ctI_n _ _ (by omega)]
  · rw [t113, sg, if_neg (by omega)]
  · rw [t115, n5 _ (by omega), ctL_n _ _ _ _ _ _ (by omega) (by omega) (by omega) (by omega) (by omega)]
  · rw [t115, n5 _ (by omega), ctL_n _ _ _ _ _ _ (by omega) (by omega) (by omega) (by omega) (by omega)]
  · rw [t115, n5 _ (by omega), ctL_n _ _ _ _ _ _ (by omega) (by omega) (by omega) (by omega) (by omega)]
  · rw [t115, n5 _ (by omega), ctL_n _ _ _ _ _ _ (by omega) (by omega) (by omega) (by omega) (by omega)]
  · rw [t116, sg, if_neg (by omega)]
  · rw [t117, sg, if_neg (by omega)]
  · rw [mtI_n _ _ (by omega), ctI_n _ _ (by omega)]
  · rw [mtI_n _ _ (by omega)]
    unfold ctI
    rw [w1_s]
  · have c2 : ctI i s (2 * s + 28) 2 = 1 := by unfold ctI; rw [w1_n _ _ (by omega), stI_2]
    have c3 : ctI i s (2 * s + 28) 3 = 60 := by unfold ctI; rw [w1_n _ _ (by omega), stI_3]
    have c4 : ctI i s (2 * s + 28) 4 = 0 := by unfold ctI; rw [w1_n _ _ (by omega), stI_4]
    have c5 : ctI i s (2 * s + 28) 5 = 0 := by unfold ctI; rw [w1_n _ _ (by omega), stI_5]
    have dd : ∀ j, mtI (ctI i s) s (2 * s + 28) j = ctI i s (2 * s + 28) j := fun j => mtI_n _ _ (by omega)
    unfold SD
    rw [dd, dd, dd, dd, c2, c3, c4, c5, m2, m3, m4, m5]
    refine ⟨⟨rfl, by omega, by omega⟩, ⟨rfl, by omega, by omega⟩, ⟨rfl, Or.inl rfl⟩, ⟨rfl, by omega, by omega⟩, fun k hk => ?_, ⟨fun z => by omega, fun _ => rfl⟩, fun z => by omega, fun _ => ?_⟩
    · have hk60 : k < 60 := by omega
      rw [t113, sg, if_pos (by omega), show 60 * s + k - 60 * s = k by omega, L29 k hk60]
      obtain ⟨w1', w2', w3', w4'⟩ := ws_rng hW k
      have hp := pq_rng (r := rR b n d) (x := (ws (rD b n d) (rR b n d) (rX a b d) (rY b d) k).1) (y := (ws (rD b n d) (rR b n d) (rX a b d) (rY b d) k).2) hW.1.1 hW.1.2.2.2 w1' w3'
      have hpe : wpt (rD b n d) (rR b n d) (rX a b d) (rY b d) k = pq (rR b n d) (ws (rD b n d) (rR b n d) (rX a b d) (rY b d) k).1 (ws (rD b n d) (rR b n d) (rX a b d) (rY b d) k).2 := rfl
      refine ⟨rfl, ?_, w4'⟩
      rw [hpe]
      omega
    · unfold RtAt
      rw [L28, stL_6, stL_7, stL_8, stL_9, t115, t115, t115, t115, n1, n2, n3, n4]
      refine ⟨⟨rfl, rfl, rfl, rfl⟩, hr, fun k hk => ?_⟩
      rw [t116, t117, sg, sg, if_pos (by omega), if_pos (by omega), show 61 * s + k - 61 * s = k by omega]
      exact ⟨rfl, rfl⟩
  · rw [m6, ctI_n _ _ (by omega)]
  · funext j; rw [mtI_n _ _ (by omega), ctI_n _ _ (by omega)]
  · funext j; rw [mtI_n _ _ (by omega), ctI_n _ _ (by omega)]
  · rw [mtI_n _ _ (by omega), ctI_n _ _ (by omega)]
  · rw [mtI_n _ _ (by omega), ctI_n _ _ (by omega)]
  · rw [mtI_n _ _ (by omega), ctI_n _ _ (by omega)]
  · rw [mtI_n _ _ (by omega), ctI_n _ _ (by omega)]
  · rw [mtI_n _ _ (by omega), ctI_n _ _ (by omega)]
  · rw [mtI_n _ _ (by omega), ctI_n _ _ (by omega)]
  · rw [mtI_n _ _ (by omega), ctI_n _ _ (by omega)]
  · rw [mtI_n _ _ (by omega), ctI_n _ _ (by omega)]
  · rw [mtI_n _ _ (by omega), ctI_n _ _ (by omega)]
  · rw [mtI_n _ _ (by omega), ctI_n _ _ (by omega)]
    exact h.2.2.2.2.2.1
theorem Rel.outc {i l : Nat → Nat → Int} (h : Rel i l) {o : Nat} (ho : o = 7 ∨ o = 24) (a b n d : Int) : Rel i (oc l o a b n d) := by
  have e : ∀ c, c ≠ o → oc l o a b n d c = l c := fun c hc => oc_n _ _ _ _ _ hc
  refine h.keep (fun s hs => ⟨rfl, e _ (by omega), e _ (by omega)⟩) ⟨⟨rfl, rfl, rfl, rfl, rfl, rfl, rfl⟩, ⟨e _ (by omega), e _ (by omega), e _ (by omega), e _ (by omega), e _ (by omega), e _ (by omega)⟩, e _ (by omega), e _ (by omega), e _ (by omega), e _ (by omega), e _ (by omega)⟩ ⟨rfl, rfl, rfl, rfl, rfl, rfl, rfl, rfl, rfl, rfl⟩ h.2.2.2.2.2.1
section PO1
variable {i l : Nat → Nat → Int} {x y : Option Nat}
theorem lsg_ok {a b d : Int} (hd : ¬ far d) (h0 : d ≠ 0) : 1 ≤ d.tdiv (lsg a b d) ∧ d.tdiv (lsg a b d) ≤ 1000000000000000 := by
  have h1 := lg_pos (a := a) (b := b) h0
  have h4 := tdiv_abs_le d (lsg a b d)
  have hdv : lsg a b d ∣ d := by
    unfold lsg
    split
    · exact (lg_dvd a b d).2.2
    · exact Int.neg_dvd.mpr (lg_dvd a b d).2.2
  have e := Int.mul_tdiv_cancel' hdv
  refine ⟨?_, by omega⟩
  rcases Int.lt_or_le 0 (d.tdiv (lsg a b d)) with z | z
  · omega
  · exfalso
    by_cases c : 0 ≤ d
    · have hp : 0 < lsg a b d := by unfold lsg; rw [if_pos c]; omega
      have := Int.mul_nonneg (a := lsg a b d) (b := -(d.tdiv (lsg a b d))) (by omega) (by omega)
      grind
    · have hp : lsg a b d < 0 := by unfold lsg; rw [if_neg c]; omega
      have := Int.mul_nonneg (a := -(lsg a b d)) (b := -(d.tdiv (lsg a b d))) (by omega) (by omega)
      grind
/-- the outcome is placed -/
theorem q_placeOutcome {s : Nat} (hs : s < 40) {a b n d : Int} (ha : l 7 0 = a) (hb : l 7 1 = b) (hn : l 7 2 = n) (hd : l 7 3 = d) (oa : ok64 a) (ob : ok64 b) (od : ok64 d) (fn : 0 ≤ n ∧ n ≤ 100000000000) (hb0 : b ≠ 0 → 2 ≤ n ∧ ∀ m : Int, m * m ≠ n) :
    fX8_placeOutcome 0 (N s) (hq i l x y) =
      if far a ∨ far b ∨ far d ∨ d = 0 then some (-2000000000000000005, hq i l x y)
      else if b.tdiv (lsg a b d) = 0 then some (J s, hq (crI i s (a.tdiv (lsg a b d)) (d.tdiv (lsg a b d))) (crL (oc l 7 (a.tdiv (lsg a b d)) (b.tdiv (lsg a b d)) n (d.tdiv (lsg a b d))) s (a.tdiv (lsg a b d)) (d.tdiv (lsg a b d))) x y)
      else if farRt (a.tdiv (lsg a b d)) (b.tdiv (lsg a b d)) n (d.tdiv (lsg a b d)) then some (-2000000000000000005, hq i (oc l 7 (a.tdiv (lsg a b d)) (b.tdiv (lsg a b d)) n (d.tdiv (lsg a b d))) x y)
      else some (J s, hq (ctI i s) (ctL (oc l 7 (a.tdiv (lsg a b d)) (b.tdiv (lsg a b d)) n (d.tdiv (lsg a b d))) s (a.tdiv (lsg a b d)) (b.tdiv (lsg a b d)) n (d.tdiv (lsg a b d))) x y) := by
  have s7 : S0 7 = some (3, 0) := by simp only [shT]
  have s0 : S0 0 = some (8, 0) := by simp only [shT]
  have g6 : rr x y 0 6 = some 7 := by simp only [srT]
  have g0 : rr x y 0 0 = some 1 := by simp only [srT]
  have g7 : rr x y 0 7 = some 8 := by simp only [srT]
  unfold fX8_placeOutcome
  rw [gR_q s0, g6, nn_some, cv_q s7, q_bring s7 ha hb hn hd oa ob od fn]
  by_cases c1 : far a ∨ far b ∨ far d ∨ d = 0
  · rw [if_pos c1, if_pos c1, bnd_some, if_pos rfl]
  rw [if_neg c1, if_neg c1, bnd_some]
  have hbt : b.tdiv (lsg a b d) ≠ 0 → b ≠ 0 := fun z1 z2 => z1 (by rw [z2, Int.zero_tdiv])
  obtain ⟨d1, d2⟩ := lsg_ok (a := a) (b := b) (d := d) (by omega) (by omega)
  have fa := tdiv_far (a := a) (s := lsg a b d) (by omega)
  have fb := tdiv_abs_le b (lsg a b d)
  generalize a.tdiv (lsg a b d) = a' at *
  generalize b.tdiv (lsg a b d) = b' at *
  generalize d.tdiv (lsg a b d) = d' at *
  have st := St_s hs
  by_cases c2 : b' = 0
  · rw [if_pos (show b' = 0 ∨ ¬ farRt a' b' n d' from Or.inl c2), if_pos c2, if_neg (by decide)]
    rw [gR_q s0, g0, nn_some, aR_1 (by omega) (by omega), show ((s : Int)).toNat = s by omega, gR_q s0, g6, nn_some, gL_q s7, oc_1]
    simp (disch := omega) only [jk, J_eq]
    rw [if_pos c2, gR_q s0, g6, nn_some, gL_q s7, oc_0, gR_q s0, g6, nn_some, gL_q s7, oc_3, cv_q st.1.1, q_becomeRatio st fa (by omega) d2, bnd_some, cv_q s0, q_place hs, bnd_some]
    rfl
  · rw [if_neg c2]
    by_cases c3 : farRt a' b' n d'
    · rw [if_neg (show ¬ (b' = 0 ∨ ¬ farRt a' b' n d') by rintro (z | z) <;> contradiction), if_pos c3, if_pos rfl]
    · have hr : RootOK a' b' n d' := by
        obtain ⟨k1, k2⟩ := hb0 (hbt c2)
        exact ⟨⟨d1, by omega⟩, by omega, ⟨c2, k1⟩, by omega, k2⟩
      rw [if_pos (show b' = 0 ∨ ¬ farRt a' b' n d' from Or.inr c3), if_neg c3, if_neg (by decide)]
      rw [gR_q s0, g0, nn_some, aR_1 (by omega) (by omega), show ((s : Int)).toNat = s by omega, gR_q s0, g6, nn_some, gL_q s7, oc_1]
      simp (disch := omega) only [jk, J_eq]
      rw [if_neg c2, gR_q s0, g6, nn_some, gR_q s0, g7, nn_some, cv_q st.1.1, q_becomeRoot st (oc_0 _ _ _ _ _ _) (oc_1 _ _ _ _ _ _) (oc_2 _ _ _ _ _ _) (oc_3 _ _ _ _ _ _) hr, bnd_some, cv_q s0, q_place hs, bnd_some]
      rfl
end PO1
