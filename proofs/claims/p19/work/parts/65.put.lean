/-! ===== a stream more ===== -/
/-- all that is told of stream t stands as it was -/
def SameAt (i l i' l' : Nat → Nat → Int) (t : Nat) : Prop :=
  (i' (2 * t + 28) = i (2 * t + 28) ∧ l' (2 * t + 28) = l (2 * t + 28) ∧ l' (2 * t + 29) = l (2 * t + 29)) ∧ (i' 110 t = i 110 t ∧ i' 111 t = i 111 t ∧ i' 112 t = i 112 t ∧ i' 114 t = i 114 t) ∧ (∀ k, k < 60 → l' 113 (60 * t + k) = l 113 (60 * t + k)) ∧ (l' 115 (4 * t) = l 115 (4 * t) ∧ l' 115 (4 * t + 1) = l 115 (4 * t + 1) ∧ l' 115 (4 * t + 2) = l 115 (4 * t + 2) ∧ l' 115 (4 * t + 3) = l 115 (4 * t + 3)) ∧ ∀ k, k ≤ 60 → l' 116 (61 * t + k) = l 116 (61 * t + k) ∧ l' 117 (61 * t + k) = l 117 (61 * t + k)
theorem SD.same {i l i' l' : Nat → Nat → Int} {t : Nat} (h : SD i l t) (e : SameAt i l i' l' t) : SD i' l' t := by
  obtain ⟨⟨e1, e2, e3⟩, ⟨e4, e5, e6, e7⟩, e8, ⟨e9, e10, e11, e12⟩, e13⟩ := e
  obtain ⟨h1, h2, h3, h4, h5, h6, h7, h8⟩ := h
  unfold SD
  rw [e1, e3, e4, e5, e6, e7]
  refine ⟨h1, h2, h3, h4, fun k hk => ?_, h6, fun z => ?_, fun z => ?_⟩
  · have hk60 : k < 60 := by omega
    rw [e8 k hk60]
    exact h5 k hk
  · have := h7 z
    unfold RatAt at this ⊢
    rw [e2, e9, e10]
    exact this
  · obtain ⟨r1, r2, r3⟩ := h8 z
    unfold RtAt
    rw [e2, e9, e10, e11, e12]
    refine ⟨r1, r2, fun k hk => ?_⟩
    rw [(e13 k hk).1, (e13 k hk).2]
    exact r3 k hk
/-- the rest of the relation stands as it was -/
def SameRest (i l i' l' : Nat → Nat → Int) : Prop :=
  (i' 118 = i 118 ∧ i' 119 = i 119 ∧ l' 120 = l 120 ∧ l' 123 = l 123 ∧ l' 4 = l 4 ∧ l' 5 = l 5 ∧ l' 6 = l 6 ∧ l' 19 = l 19 ∧ l' 2 = l 2) ∧ (i' 108 11 = i 108 11 ∧ i' 108 22 = i 108 22 ∧ i' 0 4 = i 0 4 ∧ i' 12 8 = i 12 8 ∧ i' 2 2 = i 2 2 ∧ i' 13 0 = i 13 0 ∧ i' 13 1 = i 13 1 ∧ i' 14 0 = i 14 0 ∧ i' 14 1 = i 14 1) ∧ a01 (i' 108 0)
theorem Rel.put {i l i' l' : Nat → Nat → Int} (h : Rel i l) {s : Nat} (hs : s < 40) (hf : i 109 s = 0) (ho : ∀ t, t < 40 → t ≠ s → SameAt i l i' l' t ∧ i' 109 t = i 109 t) (hn : i' 109 s = 1 ∧ i' (2 * s + 28) 1 = 1) (hd : SD i' l' s) (hc : i' 108 10 = i 108 10 + 1) (hr : SameRest i l i' l') : Rel i' l' := by
  obtain ⟨⟨a1, a2, a3, a4, a5, a6, a7, a8, a9⟩, ⟨b1, b2, b3, b4, b5, b6, b7, b8, b9⟩, b10⟩ := hr
  obtain ⟨r1, r2, r3, r4, r5, r6, r7⟩ := h
  refine ⟨fun t ht => ?_, ?_, ?_, ?_, ?_, b10, ?_⟩
  · by_cases e : t = s
    · subst e
      refine ⟨?_, Or.inr hn.1, fun _ => hd⟩
      unfold thr
      rw [hn.1, hn.2]
    · obtain ⟨o1, o2⟩ := ho t ht e
      obtain ⟨q1, q2, q3⟩ := r1 t ht
      refine ⟨?_, by rw [o2]; exact q2, fun z => (q3 (by rw [← o2]; exact z)).same o1⟩
      unfold thr at q1 ⊢
      rw [o1.1.1, o2]
      exact q1
  · rw [hc, r2]
    have key : cnt (i' 109) 40 = cnt (fun t => if t = s then 1 else i 109 t) 40 := cnt_congr 40 (fun j hj => by
      by_cases e : j = s
      · subst e
        simp [hn.1]
      · simp [e, (ho j hj e).2])
    rw [key, cnt_put (f := i 109) (g := fun t => if t = s then 1 else i 109 t) (s := s) hf (by simp) (fun j hj => by simp [hj]) 40, if_pos hs]
  · rw [b3, b1, a5, a6, a1, a2]; exact r3
  · rw [a7, a3]; exact r4
  · rw [b4, b2, a8, a4]; exact r5
  · rw [b5, a9, b6, b7, b8, b9]; exact r7
/-- the class's own ratio and root at place s -/
def crI (i : Nat → Nat → Int) (s : Nat) (u v : Int) : Nat → Nat → Int := w1 (stI i (2 * s + 28) 0 (cK u v 60 0 : Nat) (ib ((cs u v (cK u v 60 0)).2 = 0)) 0) (2 * s + 28) 1 1
def crL (l : Nat → Nat → Int) (s : Nat) (u v : Int) : Nat → Nat → Int := wr (stL l (2 * s + 28) u 0 0 v) (2 * s + 29) (fl (cp u v) (l (2 * s + 29)) (cK u v 60 0))
def ctI (i : Nat → Nat → Int) (s : Nat) : Nat → Nat → Int := w1 (stI i (2 * s + 28) 1 60 0 0) (2 * s + 28) 1 1
def ctL (l : Nat → Nat → Int) (s : Nat) (a b n d : Int) : Nat → Nat → Int := wr (goL (stL l (2 * s + 28) a b n d) (rD b n d) (rR b n d) (rX a b d) (rY b d) 61) (2 * s + 29) (fl (wpt (rD b n d) (rR b n d) (rX a b d) (rY b d)) (l (2 * s + 29)) 60)
theorem crI_n (i : Nat → Nat → Int) (s : Nat) (u v : Int) {b : Nat} (h : b ≠ 2 * s + 28) (j : Nat) : crI i s u v b j = i b j := by
  unfold crI
  rw [w1_na _ _ _ _ h, stI_n _ _ _ _ _ h]
theorem ctI_n (i : Nat → Nat → Int) (s : Nat) {b : Nat} (h : b ≠ 2 * s + 28) (j : Nat) : ctI i s b j = i b j := by
  unfold ctI
  rw [w1_na _ _ _ _ h, stI_n _ _ _ _ _ h]
theorem crL_n (l : Nat → Nat → Int) (s : Nat) (u v : Int) {b : Nat} (h : b ≠ 2 * s + 28) (h2 : b ≠ 2 * s + 29) : crL l s u v b = l b := by
  unfold crL
  rw [wr_n _ _ h2, stL_n _ _ _ _ _ h]
theorem ctL_n (l : Nat → Nat → Int) (s : Nat) (u c n d : Int) {b : Nat} (h : b ≠ 2 * s + 28) (h2 : b ≠ 2 * s + 29) (h3 : b ≠ 9) (h4 : b ≠ 10) (h5 : b ≠ 11) : ctL l s u c n d b = l b := by
  unfold ctL
  rw [wr_n _ _ h2, goL_n _ _ _ _ _ h3 h4 h5, stL_n _ _ _ _ _ h]
theorem nsI_n (i : Nat → Nat → Int) (s : Nat) (k : Int) {b j : Nat} (h : (b ≠ 109 ∧ b ≠ 110 ∧ b ≠ 111 ∧ b ≠ 112 ∧ b ≠ 114 ∧ b ≠ 108) ∨ (b ≠ 108 ∧ j ≠ s) ∨ (b = 108 ∧ j ≠ 10)) : nsI i s k b j = i b j := by
  unfold nsI
  rw [w1_n _ _ (by omega), w1_n _ _ (by omega), w1_n _ _ (by omega), w1_n _ _ (by omega), w1_n _ _ (by omega), w1_n _ _ (by omega)]
theorem nsI_at (i : Nat → Nat → Int) (s : Nat) (k : Int) : nsI i s k 109 s = 1 ∧ nsI i s k 110 s = k ∧ nsI i s k 111 s = 0 ∧ nsI i s k 112 s = 0 ∧ nsI i s k 114 s = 0 ∧ nsI i s k 108 10 = i 108 10 + 1 := by
  unfold nsI
  refine ⟨?_, ?_, ?_, ?_, ?_, ?_⟩ <;> simp (disch := decide) only [w1_na, w1_s]
theorem mrI_n (i : Nat → Nat → Int) (s : Nat) (u v : Int) {b j : Nat} (h : (b ≠ 109 ∧ b ≠ 110 ∧ b ≠ 111 ∧ b ≠ 112 ∧ b ≠ 114 ∧ b ≠ 108) ∨ (b ≠ 108 ∧ j ≠ s) ∨ (b = 108 ∧ j ≠ 10)) : mrI i s u v b j = i b j := by
  unfold mrI
  rw [w1_n _ _ (by omega), w1_n _ _ (by omega), nsI_n _ _ _ h]
theorem mrI_at (i : Nat → Nat → Int) (s : Nat) (u v : Int) : mrI i s u v 109 s = 1 ∧ mrI i s u v 110 s = 0 ∧ mrI i s u v 111 s = (cK u v 60 0 : Nat) ∧ mrI i s u v 112 s = ib ((cs u v (cK u v 60 0)).2 = 0) ∧ mrI i s u v 114 s = 0 ∧ mrI i s u v 108 10 = i 108 10 + 1 := by
  obtain ⟨a, b, c, d, e, f⟩ := nsI_at i s 0
  unfold mrI
  refine ⟨?_, ?_, ?_, ?_, ?_, ?_⟩ <;> simp (disch := decide) only [w1_na, w1_s, a, b, c, d, e, f]
theorem mtI_n (i : Nat → Nat → Int) (s : Nat) {b j : Nat} (h : (b ≠ 109 ∧ b ≠ 110 ∧ b ≠ 111 ∧ b ≠ 112 ∧ b ≠ 114 ∧ b ≠ 108) ∨ (b ≠ 108 ∧ j ≠ s) ∨ (b = 108 ∧ j ≠ 10)) : mtI i s b j = i b j := by
  unfold mtI
  rw [w1_n _ _ (by omega), nsI_n _ _ _ h]
theorem mtI_at (i : Nat → Nat → Int) (s : Nat) : mtI i s 109 s = 1 ∧ mtI i s 110 s = 1 ∧ mtI i s 111 s = 60 ∧ mtI i s 112 s = 0 ∧ mtI i s 114 s = 0 ∧ mtI i s 108 10 = i 108 10 + 1 := by
  obtain ⟨a, b, c, d, e, f⟩ := nsI_at i s 1
  unfold mtI
  refine ⟨?_, ?_, ?_, ?_, ?_, ?_⟩ <;> simp (disch := decide) only [w1_na, w1_s, a, b, c, d, e, f]
theorem mrL_n (l : Nat → Nat → Int) (s : Nat) (u v : Int) {b : Nat} (h : b ≠ 113 ∧ b ≠ 115) : mrL l s u v b = l b := by
  unfold mrL
  rw [wr_n _ _ h.1]
  funext j
  rw [w1_na _ _ _ _ h.2, w1_na _ _ _ _ h.2]
theorem mrL_115 (l : Nat → Nat → Int) (s : Nat) (u v : Int) : mrL l s u v 115 (4 * s) = u ∧ mrL l s u v 115 (4 * s + 1) = v ∧ ∀ j, j ≠ 4 * s → j ≠ 4 * s + 1 → mrL l s u v 115 j = l 115 j := by
  unfold mrL
  rw [wr_n _ _ (by decide)]
  refine ⟨?_, w1_s _ _ _ _, fun j h1 h2 => ?_⟩
  · rw [w1_n _ _ (by omega), w1_s]
  · rw [w1_n _ _ (by omega), w1_n _ _ (by omega)]
theorem mrL_113 (l : Nat → Nat → Int) (s : Nat) (u v : Int) (j : Nat) : mrL l s u v 113 j = sg (cp u v) (l 113) (60 * s) (cK u v 60 0) j := by
  unfold mrL
  rw [wr_s]
theorem mtN_n (l : Nat → Nat → Int) (s : Nat) (a b n d : Int) {c : Nat} (h : c ≠ 115) : mtN l s a b n d c = l c := by
  funext j
  unfold mtN
  rw [w1_na _ _ _ _ h, w1_na _ _ _ _ h, w1_na _ _ _ _ h, w1_na _ _ _ _ h]
theorem mtL_n (l : Nat → Nat → Int) (s : Nat) (D r x0 y0 : Int) (k j : Nat) {c : Nat} (h : c ≠ 113 ∧ c ≠ 116 ∧ c ≠ 117) : mtL l s D r x0 y0 k j c = l c := by
  unfold mtL
  rw [wr_n _ _ h.1, wr_n _ _ h.2.2, wr_n _ _ h.2.1]
theorem mtN_115 (l : Nat → Nat → Int) (s : Nat) (a b n d : Int) : mtN l s a b n d 115 (4 * s) = a ∧ mtN l s a b n d 115 (4 * s + 1) = b ∧ mtN l s a b n d 115 (4 * s + 2) = n ∧ mtN l s a b n d 115 (4 * s + 3) = d ∧ ∀ j, (j < 4 * s ∨ 4 * s + 3 < j) → mtN l s a b n d 115 j = l 115 j := by
  unfold mtN
  refine ⟨?_, ?_, ?_, w1_s _ _ _ _, fun j h => ?_⟩
  · rw [w1_n _ _ (by omega), w1_n _ _ (by omega), w1_n _ _ (by omega), w1_s]
  · rw [w1_n _ _ (by omega), w1_n _ _ (by omega), w1_s]
  · rw [w1_n _ _ (by omega), w1_s]
  · rw [w1_n _ _ (by omega), w1_n _ _ (by omega), w1_n _ _ (by omega), w1_n _ _ (by omega)]
theorem Rel.ratio {i l : Nat → Nat → Int} (h : Rel i l) {s : Nat} (hs : s < 40) (hf : i 109 s = 0) {u v : Int} (hu : ¬ far u) (hv : 0 < v) (hv2 : v ≤ 1000000000000000) : Rel (mrI (crI i s u v) s u v) (mrL (crL l s u v) s u v) := by
  obtain ⟨m1, m2, m3, m4, m5, m6⟩ := mrI_at (crI i s u v) s u v
  have hK := cK_le u v 60 0
  have hKe := cK_end u v 60 0
  refine h.put hs hf (fun t ht hne => ⟨⟨⟨?_, ?_, ?_⟩, ⟨?_, ?_, ?_, ?_⟩, fun k hk => ?_, ⟨?_, ?_, ?_, ?_⟩, fun k hk => ⟨?_, ?_⟩⟩, ?_⟩) ⟨m1, ?_⟩ ?_ ?_ ⟨⟨?_, ?_, ?_, ?_, ?_, ?_, ?_, ?_, ?_⟩, ⟨?_, ?_, ?_, ?_, ?_, ?_, ?_, ?_, ?_⟩, ?_⟩
  · funext j
    rw [mrI_n _ _ _ _ (by omega), crI_n _ _ _ _ (by omega)]
  · rw [mrL_n _ _ _ _ (by omega), crL_n _ _ _ _ (by omega) (by omega)]
  · rw [mrL_n _ _ _ _ (by omega), crL_n _ _ _ _ (by omega) (by omega)]
  · rw [mrI_n _ _ _ _ (by omega), crI_n _ _ _ _ (by omega)]
  · rw [mrI_n _ _ _ _ (by omega), crI_n _ _ _ _ (by omega)]
  · rw [mrI_n _ _ _ _ (by omega), crI_n _ _ _ _ (by omega)]
  · rw [mrI_n _ _ _ _ (by omega), crI_n _ _ _ _ (by omega)]
  · rw [mrL_113, sg, if_neg (by omega), crL_n _ _ _ _ (by omega) (by omega)]
  · rw [(mrL_115 _ _ _ _).2.2 _ (by omega) (by omega), crL_n _ _ _ _ (by omega) (by omega)]
  · rw [(mrL_115 _ _ _ _).2.2 _ (by omega) (by omega), crL_n _ _ _ _ (by omega) (by omega)]
  · rw [(mrL_115 _ _ _ _).2.2 _ (by omega) (by omega), crL_n _ _ _ _ (by omega) (by omega)]
  · rw [(mrL_115 _ _ _ _).2.2 _ (by omega) (by omega), crL_n _ _ _ _ (by omega) (by omega)]
  · rw [mrL_n _ _ _ _ (by omega), crL_n _ _ _ _ (by omega) (by omega)]
  · rw [mrL_n _ _ _ _ (by omega), crL_n _ _ _ _ (by omega) (by omega)]
  · rw [mrI_n _ _ _ _ (by omega), crI_n _ _ _ _ (by omega)]
  · rw [mrI_n _ _ _ _ (by omega)]
    unfold crI
    rw [w1_s]
  · have c2 : crI i s u v (2 * s + 28) 2 = 0 := by unfold crI; rw [w1_n _ _ (by omega), stI_2]
    have c3 : crI i s u v (2 * s + 28) 3 = (cK u v 60 0 : Nat) := by unfold crI; rw [w1_n _ _ (by omega), stI_3]
    have c4 : crI i s u v (2 * s + 28) 4 = ib ((cs u v (cK u v 60 0)).2 = 0) := by unfold crI; rw [w1_n _ _ (by omega), stI_4]
    have c5 : crI i s u v (2 * s + 28) 5 = 0 := by unfold crI; rw [w1_n _ _ (by omega), stI_5]
    unfold SD
    have d : ∀ j, mrI (crI i s u v) s u v (2 * s + 28) j = crI i s u v (2 * s + 28) j := fun j => mrI_n _ _ _ _ (by omega)
    rw [d, d, d, d, c2, c3, c4, c5, m2, m3, m4, m5]
    refine ⟨⟨rfl, by omega, by omega⟩, ⟨rfl, by omega, by omega⟩, ⟨rfl, ib_01 _⟩, ⟨rfl, by omega, by omega⟩, fun k hk => ?_, ⟨fun z => ?_, fun z => absurd rfl z⟩, fun _ => ?_, fun z => by omega⟩
    · have hk : k < cK u v 60 0 := by omega
      rw [mrL_113, sg, if_pos (by omega), show 60 * s + k - 60 * s = k by omega, mrL_n _ _ _ _ (by omega)]
      have hp := cp_rng hu hv hv2 (k := k) (fun j hj => cK_nz u v 60 0 j (by omega) (by omega))
      refine ⟨?_, hp.1, hp.2⟩
      unfold crL
      rw [wr_s, fl, if_pos hk]
    · have : 0 < cK u v 60 0 := by
        rcases Nat.eq_zero_or_pos (cK u v 60 0) with q | q
        · exfalso
          unfold ib at z
          rw [q] at z
          have : (cs u v 0).2 = v := rfl
          rw [this, if_neg (by omega)] at z
          omega
        · exact q
      omega
    · obtain ⟨n1, n2, -⟩ := mrL_115 (crL l s u v) s u v
      unfold RatAt
      rw [n1, n2, mrL_n _ _ _ _ (by omega)]
      have d1 : crL l s u v (2 * s + 28) = stL l (2 * s + 28) u 0 0 v (2 * s + 28) := by unfold crL; rw [wr_n _ _ (by omega)]
      rw [d1, stL_6, stL_7, stL_8, stL_9]
      exact ⟨⟨rfl, rfl⟩, ⟨rfl, rfl⟩, hu, by omega, hv2⟩
  · rw [m6, crI_n _ _ _ _ (by omega)]
  · funext j; rw [mrI_n _ _ _ _ (by omega), crI_n _ _ _ _ (by omega)]
  · funext j; rw [mrI_n _ _ _ _ (by omega), crI_n _ _ _ _ (by omega)]
  · rw [mrL_n _ _ _ _ (by omega), crL_n _ _ _ _ (by omega) (by omega)]
  · rw [mrL_n _ _ _ _ (by omega), crL_n _ _ _ _ (by omega) (by omega)]
  · rw [mrL_n _ _ _ _ (by omega), crL_n _ _ _ _ (by omega) (by omega)]
  · rw [mrL_n _ _ _ _ (by omega), crL_n _ _ _ _ (by omega) (by omega)]
  · rw [mrL_n _ _ _ _ (by omega), crL_n _ _ _ _ (by omega) (by omega)]
  · rw [mrL_n _ _ _ _ (by omega), crL_n _ _ _ _ (by omega) (by omega)]
  · rw [mrL_n _ _ _ _ (by omega), crL_n _ _ _ _ (by omega) (by omega)]
  · rw [mrI_n _ _ _ _ (by omega), crI_n _ _ _ _ (by omega)]
  · rw [mrI_n _ _ _ _ (by omega), crI_n _ _ _ _ (by omega)]
  · rw [mrI_n _ _ _ _ (by omega), crI_n _ _ _ _ (by omega)]
  · rw [mrI_n _ _ _ _ (by omega), crI_n _ _ _ _ (by omega)]
  · rw [mrI_n _ _ _ _ (by omega), crI_n _ _ _ _ (by omega)]
  · rw [mrI_n _ _ _ _ (by omega), crI_n _ _ _ _ (by omega)]
  · rw [mrI_n _ _ _ _ (by omega), crI_n _ _ _ _ (by omega)]
  · rw [mrI_n _ _ _ _ (by omega), crI_n _ _ _ _ (by omega)]
  · rw [mrI_n _ _ _ _ (by omega), crI_n _ _ _ _ (by omega)]
  · rw [mrI_n _ _ _ _ (by omega), crI_n _ _ _ _ (by omega)]
    exact h.2.2.2.2.2.1
