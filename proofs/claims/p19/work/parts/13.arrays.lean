/-! ===== arrays ===== -/
section AWA
variable {E : EE} {own : String} {cc : ByteArray} {pc : Nat} {lo lo' : LO} {st : List Value} {h : AH} {k n : Nat} {ρ : Type} {R : ρ × AH}
theorem a_arr {G : GG} {H : Heap} {t a N : Nat} {ty : FieldType} {s : State} (x : AR G h H) (hU : AU G s) (hs : Hs h a = some (100 + t, N)) (hty : tyL[t]? = some ty) : ∃ cA, G.2.2.2[t]? = some (cA, ty) ∧ H[gB G + a]? = some (arrV cA N (fun j => fv G ty h a j)) ∧ ArrOfT s cA ty ∧ va_RA s cA ty := by
  have hc := x.2.2 a _ hs
  unfold a_cell at hc
  rw [if_neg (show ¬ ((100 + t, N) : Nat × Nat).1 < 100 by show ¬ 100 + t < 100; omega)] at hc
  obtain ⟨q, q1, q2⟩ := hc
  rw [show ((100 + t, N) : Nat × Nat).1 - 100 = t by show 100 + t - 100 = t; omega] at q1
  have e : q.2 = ty := by
    have z := hU.2.2.2.1
    have z2 : (G.2.2.2.map (fun q => q.2))[t]? = some q.2 := by rw [List.getElem?_map, q1]; rfl
    rw [z, hty] at z2
    exact (Option.some.inj z2).symm
  obtain ⟨cA, ty'⟩ := q
  dsimp only at e
  subst e
  have hA := hU.1.2 t _ q1
  exact ⟨cA, q1, q2, hA.1, hA.2⟩
theorem a_arrset {G : GG} {H H' : Heap} {t a N i : Nat} {ty : FieldType} {cA : ClassId} {v : Value} {h' : AH} (x : AR G h H) (hs : Hs h a = some (100 + t, N)) (q1 : G.2.2.2[t]? = some (cA, ty)) (e1 : H'[gB G + a]? = some ((arrV cA N (fun j => fv G ty h a j)).setSlot i v)) (e2 : H'.size = H.size) (e3 : ∀ q : Nat, q ≠ gB G + a → H'[q]? = H[q]?)
    (g1 : Hs h' = Hs h) (g2 : Hn h' = Hn h) (g3 : ∀ ty b j, ¬ (b = a ∧ j = i) → fv G ty h' b j = fv G ty h b j) (g4 : fv G ty h' a i = v) : AR G h' H' := by
  refine x.set g1 g2 e2 e3 (fun b hb ty j => g3 ty b j (fun z => hb z.1)) (fun c hc => ?_)
  cases hs.symm.trans hc
  unfold a_cell
  rw [if_neg (show ¬ ((100 + t, N) : Nat × Nat).1 < 100 by show ¬ 100 + t < 100; omega)]
  refine ⟨(cA, ty), by rw [show ((100 + t, N) : Nat × Nat).1 - 100 = t by show 100 + t - 100 = t; omega]; exact q1, ?_⟩
  rw [e1, arrV_store]
  congr 2
  funext j
  by_cases hj : j = i
  · subst hj
    simp only [updV, if_pos rfl]
    exact g4.symm
  · simp only [updV, if_neg hj]
    exact (g3 _ a j (fun z => hj z.2)).symm
theorem r_aI (pc' t : Nat) {a : Nat} {i : Int32} {F : Int32 → Fn ρ} (hd : decode cc pc = .ok (.iaload, 1)) (hp : pc + 1 = pc') (hty : tyL[t]? = some .int) (X : aI h t a i F = some R) (K : ∀ x, F x = some R → AW E own cc pc' lo (.int x :: st) h k n) : AW E own cc pc lo (.int i :: .ref (gB E.1 + a) :: st) h k n := by
  subst hp
  obtain ⟨N, hs, hin, X⟩ := ar_ok X
  intro p e s m args b me c Y ls H lc I
  obtain ⟨cA, q1, q2, q3, q4⟩ := a_arr I.2.1 Y.2.2.2.2.2.2.2.2 hs hty
  have hlt : i.toNatClampNeg < N := Nat.not_le.mp fun q => hin (Or.inr q)
  exact W.iald (v := .int (HI h a i.toNatClampNeg)) Y.1 Y.2.1 q2 (q3 _ _) (fun z => by cases z) (by show ¬ (i < 0 ∨ (arrV _ _ _).slots.size ≤ _); rw [arrV_size]; exact hin) (by show (arrV _ _ _).slots[_]? = _; rw [arrV_read _ _ hlt]; rfl) rfl rfl hd (K _ X p e s m args b me c Y ls H lc I)
theorem r_aZ (pc' t : Nat) {a : Nat} {i : Int32} {F : Int32 → Fn ρ} (hd : decode cc pc = .ok (.baload, 1)) (hp : pc + 1 = pc') (hty : tyL[t]? = some .boolean) (X : aI h t a i F = some R) (K : ∀ x, F x = some R → AW E own cc pc' lo (.int x :: st) h k n) : AW E own cc pc lo (.int i :: .ref (gB E.1 + a) :: st) h k n := by
  subst hp
  obtain ⟨N, hs, hin, X⟩ := ar_ok X
  intro p e s m args b me c Y ls H lc I
  obtain ⟨cA, q1, q2, q3, q4⟩ := a_arr I.2.1 Y.2.2.2.2.2.2.2.2 hs hty
  have hlt : i.toNatClampNeg < N := Nat.not_le.mp fun q => hin (Or.inr q)
  exact W.zald (v := .int (HI h a i.toNatClampNeg)) Y.1 Y.2.1 q2 (q3 _ _) (fun z => by cases z) (by show ¬ (i < 0 ∨ (arrV _ _ _).slots.size ≤ _); rw [arrV_size]; exact hin) (by show (arrV _ _ _).slots[_]? = _; rw [arrV_read _ _ hlt]; rfl) rfl rfl hd (K _ X p e s m args b me c Y ls H lc I)
theorem r_aL (pc' t : Nat) {a : Nat} {i : Int32} {F : Int64 → Fn ρ} (hd : decode cc pc = .ok (.laload, 1)) (hp : pc + 1 = pc') (hty : tyL[t]? = some .long) (X : aL h t a i F = some R) (K : ∀ x, F x = some R → AW E own cc pc' lo (.long x :: st) h k n) : AW E own cc pc lo (.int i :: .ref (gB E.1 + a) :: st) h k n := by
  subst hp
  obtain ⟨N, hs, hin, X⟩ := ar_ok X
  intro p e s m args b me c Y ls H lc I
  obtain ⟨cA, q1, q2, q3, q4⟩ := a_arr I.2.1 Y.2.2.2.2.2.2.2.2 hs hty
  have hlt : i.toNatClampNeg < N := Nat.not_le.mp fun q => hin (Or.inr q)
  exact W.lald (v := .long (HL h a i.toNatClampNeg)) Y.1 Y.2.1 q2 (q3 _ _) (fun z => by cases z) (by show ¬ (i < 0 ∨ (arrV _ _ _).slots.size ≤ _); rw [arrV_size]; exact hin) (by show (arrV _ _ _).slots[_]? = _; rw [arrV_read _ _ hlt]; rfl) rfl rfl hd (K _ X p e s m args b me c Y ls H lc I)
/-- an element of an array of references, not null -/
theorem r_aR (pc' t : Nat) {C : String} {a : Nat} {i : Int32} {F : Nat → Fn ρ} (hd : decode cc pc = .ok (.aaload, 1)) (hp : pc + 1 = pc') (hty : tyL[t]? = some (.object C)) (X : aR h t a i F = some R) (K : ∀ b, F b = some R → AW E own cc pc' lo (.ref (gB E.1 + b) :: st) h k n) : AW E own cc pc lo (.int i :: .ref (gB E.1 + a) :: st) h k n := by
  subst hp
  obtain ⟨N, hs, hin, X⟩ := ar_ok X
  obtain ⟨b', hb', X⟩ := nn_ok X
  intro p e s m args b me c Y ls H lc I
  obtain ⟨cA, q1, q2, q3, q4⟩ := a_arr I.2.1 Y.2.2.2.2.2.2.2.2 hs hty
  have hlt : i.toNatClampNeg < N := Nat.not_le.mp fun q => hin (Or.inr q)
  exact W.aald (v := .ref (gB E.1 + b')) (ty := .object C) Y.1 Y.2.1 q2 (q3 _ _) rfl (fun z => by cases z) (by show ¬ (i < 0 ∨ (arrV _ _ _).slots.size ≤ _); rw [arrV_size]; exact hin) (by show (arrV _ _ _).slots[_]? = _; rw [arrV_read _ _ hlt]; show some (rf E.1 (HR h a _)) = _; rw [hb']; rfl) rfl rfl hd (K b' X p e s m args b me c Y ls H lc I)
theorem r_zI (pc' t : Nat) {a : Nat} {i x : Int32} {F : AH → Fn ρ} (hd : decode cc pc = .ok (.iastore, 1)) (hp : pc + 1 = pc') (hty : tyL[t]? = some .int) (X : zI h t a i x F = some R) (K : ∀ h', F h' = some R → AW E own cc pc' lo st h' k n) : AW E own cc pc lo (.int x :: .int i :: .ref (gB E.1 + a) :: st) h k n := by
  subst hp
  obtain ⟨N, hs, hin, X⟩ := ar_ok X
  intro p e s m args b me c Y ls H lc I
  obtain ⟨cA, q1, q2, q3, q4⟩ := a_arr I.2.1 Y.2.2.2.2.2.2.2.2 hs hty
  refine W.iast Y.1 Y.2.1 q2 (q3 _ _) (fun z => by cases z) (by show ¬ (i < 0 ∨ (arrV _ _ _).slots.size ≤ _); rw [arrV_size]; exact hin) rfl rfl hd fun H1 e1 e2 e3 => ?_
  exact K _ X p e s m args b me c Y ls H1 _ (I.store (a_arrset I.2.1 hs q1 e1 e2 e3 rfl rfl (fun _ _ _ z => fv_pI z) (fv_sI rfl)))
theorem r_zZ (pc' t : Nat) {a : Nat} {i x : Int32} {F : AH → Fn ρ} (hd : decode cc pc = .ok (.bastore, 1)) (hp : pc + 1 = pc') (hty : tyL[t]? = some .boolean) (X : zZ h t a i x F = some R) (K : ∀ h', F h' = some R → AW E own cc pc' lo st h' k n) : AW E own cc pc lo (.int x :: .int i :: .ref (gB E.1 + a) :: st) h k n := by
  subst hp
  obtain ⟨N, hs, hin, X⟩ := ar_ok X
  obtain ⟨hz, X⟩ := ck_ok X
  intro p e s m args b me c Y ls H lc I
  obtain ⟨cA, q1, q2, q3, q4⟩ := a_arr I.2.1 Y.2.2.2.2.2.2.2.2 hs hty
  refine W.zast Y.1 Y.2.1 q2 (q3 _ _) (fun z => by cases z) (by show ¬ (i < 0 ∨ (arrV _ _ _).slots.size ≤ _); rw [arrV_size]; exact hin) rfl rfl hd fun H1 e1 e2 e3 => ?_
  rw [(nar_Z (ty := .boolean) rfl hz).1] at e1
  exact K _ X p e s m args b me c Y ls H1 _ (I.store (a_arrset I.2.1 hs q1 e1 e2 e3 rfl rfl (fun _ _ _ z => fv_pI z) (fv_sI rfl)))
theorem r_zL (pc' t : Nat) {a : Nat} {i : Int32} {x : Int64} {F : AH → Fn ρ} (hd : decode cc pc = .ok (.lastore, 1)) (hp : pc + 1 = pc') (hty : tyL[t]? = some .long) (X : zL h t a i x F = some R) (K : ∀ h', F h' = some R → AW E own cc pc' lo st h' k n) : AW E own cc pc lo (.long x :: .int i :: .ref (gB E.1 + a) :: st) h k n := by
  subst hp
  obtain ⟨N, hs, hin, X⟩ := ar_ok X
  intro p e s m args b me c Y ls H lc I
  obtain ⟨cA, q1, q2, q3, q4⟩ := a_arr I.2.1 Y.2.2.2.2.2.2.2.2 hs hty
  refine W.last Y.1 Y.2.1 q2 (q3 _ _) (fun z => by cases z) (by show ¬ (i < 0 ∨ (arrV _ _ _).slots.size ≤ _); rw [arrV_size]; exact hin) rfl rfl hd fun H1 e1 e2 e3 => ?_
  exact K _ X p e s m args b me c Y ls H1 _ (I.store (a_arrset I.2.1 hs q1 e1 e2 e3 rfl rfl (fun _ _ _ z => fv_pL z) fv_sL))
/-- a store into an array of references to objects of class ci -/
theorem r_zR (pc' t : Nat) {a x ci : Nat} {i : Int32} {r : vw_C} {F : AH → Fn ρ} (hd : decode cc pc = .ok (.aastore, 1)) (hp : pc + 1 = pc') (hty : tyL[t]? = some (.object r.1)) (hc : vwCl[ci]? = some r) (hci : ci < 100) (X : zR h t a i x ci F = some R) (K : ∀ h', F h' = some R → AW E own cc pc' lo st h' k n) : AW E own cc pc lo (.ref (gB E.1 + x) :: .int i :: .ref (gB E.1 + a) :: st) h k n := by
  subst hp
  obtain ⟨N, hs, hin, X⟩ := ar_ok X
  obtain ⟨hsx, X⟩ := ck_ok X
  intro p e s m args b me c Y ls H lc I
  have hU : AU E.1 s := Y.2.2.2.2.2.2.2.2
  obtain ⟨cA, q1, q2, q3, q4⟩ := a_arr I.2.1 hU hs hty
  have hlt : i.toNatClampNeg < N := Nat.not_le.mp fun q => hin (Or.inr q)
  have h0 : ¬ i < 0 := fun q => hin (Or.inl q)
  have hcx := I.2.1.2.2 x _ hsx
  unfold a_cell at hcx
  rw [if_pos hci] at hcx
  obtain ⟨r', hr', cellV, g1, g2, g3, -⟩ := hcx
  have hcls := (hU.1.1 ci r hc).2
  obtain ⟨kA, comp, k1, k2, k3, -⟩ := q4
  have hcomp : comp = E.1.2.2.1.1 ci := Option.some.inj (k3.symm.trans hcls.1)
  subst hcomp
  obtain ⟨kC, hkC, -⟩ := hcls.2
  refine W.aast Y.1 Y.2.1 q2 (fun q z => by cases z) (fun z => by cases z) k1 k2 rfl hkC ⟨h0, by show _ < (arrV _ _ _).slots.size; rw [arrV_size]; exact hlt⟩ g1 (fun q z => by rw [g3] at z; cases z) (by rw [g2]; exact hkC) (by rw [g2]; exact va_assign hcls) rfl rfl hd fun H1 e1 e2 e3 => ?_
  exact K _ X p e s m args b me c Y ls H1 _ (I.store (a_arrset I.2.1 hs q1 e1 e2 e3 rfl rfl (fun _ _ _ z => fv_pR z) (fv_sR (v := some x) rfl)))
theorem r_aN (pc' t : Nat) {ty : FieldType} {a : Nat} {F : Int32 → Fn ρ} (hd : decode cc pc = .ok (.arraylength, 1)) (hp : pc + 1 = pc') (hty : tyL[t]? = some ty) (X : aN h t a F = some R) (K : ∀ x, F x = some R → AW E own cc pc' lo (.int x :: st) h k n) : AW E own cc pc lo (.ref (gB E.1 + a) :: st) h k n := by
  subst hp
  obtain ⟨N, hs, X⟩ := aN_ok X
  intro p e s m args b me c Y ls H lc I
  obtain ⟨cA, q1, q2, q3, q4⟩ := a_arr I.2.1 Y.2.2.2.2.2.2.2.2 hs hty
  exact W.alen (n := Int32.ofNat N) Y.1 Y.2.1 q2 (q3 _ _) (by rw [arrV_size] <;> rfl) rfl rfl hd (K _ X p e s m args b me c Y ls H lc I)
/-! ===== what is made ===== -/
theorem AR.new {G : GG} {H H' : Heap} {c N : Nat} (x : AR G h H) (z1 : H'.size = gB G + Hn h + 1) (o1 : ∀ q : Nat, q < gB G + Hn h → H'[q]? = H[q]?) (hc : a_cell G (HpN h c N) (Hn h) (c, N) H') : AR G (HpN h c N) H' := by
  obtain ⟨x1, x3, x4⟩ := x
  refine ⟨z1, fun q hq => by rw [o1 q (by omega)]; exact x3 q hq, fun a c' ha => ?_⟩
  have ha' : (if a = Hn h then some (c, N) else Hs h a) = some c' := ha
  by_cases e : a = Hn h
  · rw [if_pos e] at ha'
    cases ha'
    subst e
    exact hc
  · rw [if_neg e] at ha'
    have y2 := x4 a c' ha'
    have hlt : gB G + a < gB G + Hn h := by
      have : gB G + a < H.size := by
        unfold a_cell at y2
        split at y2
        · obtain ⟨r, -, cell, q1, -⟩ := y2
          exact (Array.getElem?_eq_some_iff.mp q1).1
        · obtain ⟨q, -, q1⟩ := y2
          exact (Array.getElem?_eq_some_iff.mp q1).1
      omega
    exact y2.cong (fun ty j => fv_pN e) (o1 _ hlt)
def LkN (own : String) (idx ci N : Nat) : Prop := ∃ r, CK ci r ∧ r.2.2 = N ∧ Cond.classLink own idx r.1 ∈ lwG ∧ Cond.instantiable r.1 N ∈ lwG ∧ Cond.initialized r.1 ∈ lwG ∧ ∀ j, j < N → isI (fty ci j) = true ∨ isR (fty ci j) = true ∨ fty ci j = .long
theorem fv_new {G : GG} {ty : FieldType} {c N j : Nat} (hty : isI ty = true ∨ isR ty = true ∨ ty = .long) : fv G ty (HpN h c N) (Hn h) j = defaultValue ty := by
  have e1 : HI (HpN h c N) (Hn h) j = 0 := congrFun (va_up_self _ _ _) j
  have e2 : HL (HpN h c N) (Hn h) j = 0 := congrFun (va_up_self _ _ _) j
  have e3 : HR (HpN h c N) (Hn h) j = none := congrFun (va_up_self _ _ _) j
  rcases hty with z | z | z
  · rw [fv_I _ _ _ _ _ z, e1]
    cases ty <;> first | rfl | cases z
  · rw [fv_R _ _ _ _ _ z, e3]
    cases ty <;> first | rfl | cases z
  · subst z
    show Value.long (HL (HpN h c N) (Hn h) j) = _
    rw [e2]
    rfl
def nw {ρ : Type} (h : AH) (c N : Nat) (F : Nat → AH → Fn ρ) : Fn ρ := F (Hn h) (HpN h c N)
theorem a_new (pc' : Nat) {ci idx N : Nat} (hd : decode cc pc = .ok (.new idx, 3)) (hp : pc + 3 = pc') (lf : LkN own idx ci N) (hc : k + 1 ≤ E.2.2.2.2.1.cells) (hsl : n + N ≤ E.2.2.2.2.1.slots) (K : AW E own cc pc' lo (.ref (gB E.1 + Hn h) :: st) (HpN h ci 0) (k + 1) (n + N)) : AW E own cc pc lo st h k n := by
  subst hp
  intro p e s m args b me c Y ls H lc I
  obtain ⟨r, ⟨c1, c2, c3, c4, c5, c6⟩, hN, w1, w2, w3, hty⟩ := lf
  subst hN
  have K := K p e s m args b me c Y
  obtain ⟨hx, hb, hml, hr, hlk, hin, hown, hts, hU⟩ := Y
  have hKn := hU.1.1 ci _ c1
  have hsz : H.size = gB E.1 + Hn h := I.2.1.1
  refine W.newcK hx hb hown (hts _ w1) (hts _ w2) (hts _ w3) rfl hd hc hsl hKn.2.1 hsz fun H1 kC hkC e1 z1 o1 => ?_
  refine K ls H1 lc ⟨I.1, I.2.1.new z1 (fun q hq => o1 q hq) ?_, I.2.2⟩
  unfold a_cell
  rw [if_pos c2]
  exact ⟨r, c1, (u_born (fty ci) hts c3 hKn hkC e1 c4).to fun j hj => (fv_new (hty j hj)).symm⟩
theorem r_new (pc' : Nat) {ci idx N : Nat} {F : Nat → AH → Fn ρ} (hd : decode cc pc = .ok (.new idx, 3)) (hp : pc + 3 = pc') (lf : LkN own idx ci N) (X : nw h ci 0 F = some R) (hc : k + 1 ≤ E.2.2.2.2.1.cells) (hsl : n + N ≤ E.2.2.2.2.1.slots) (K : ∀ b h', F b h' = some R → AW E own cc pc' lo (.ref (gB E.1 + b) :: st) h' (k + 1) (n + N)) : AW E own cc pc lo st h k n := a_new pc' hd hp lf hc hsl (K _ _ X)
theorem a_newA (pc' t : Nat) {i : Int32} {at0 : ArrayType} {ty : FieldType} (N : Nat) (hat : newarray.typeOf at0 = ty) (hnm : ∀ (s : State) (cA : ClassId), va_RA s cA ty → s.vm.findClass ("[" ++ ty.toString) = some cA) (hdef : isI ty = true ∨ isR ty = true ∨ ty = .long) (hd : decode cc pc = .ok (.newarray at0, 2)) (hp : pc + 2 = pc') (hty : tyL[t]? = some ty) (hw : Cond.arrayClass ty ∈ lwG) (h0 : ¬ i < 0) (hN : i.toNatClampNeg = N) (hby : N * componentBytes ty ≤ 536870912) (hc : k + 1 ≤ E.2.2.2.2.1.cells) (hsl : n + N ≤ E.2.2.2.2.1.slots) (K : AW E own cc pc' lo (.ref (gB E.1 + Hn h) :: st) (HpN h (100 + t) N) (k + 1) (n + N)) : AW E own cc pc lo (.int i :: st) h k n := by
  subst hp
  subst hat
  intro p e s m args b me c Y ls H lc I
  have K := K p e s m args b me c Y
  obtain ⟨hx, hb, hml, hr, hlk, hin, hown, hts, hU⟩ := Y
  have hsz : H.size = gB E.1 + Hn h := I.2.1.1
  refine va_newaK hx hb (hts _ hw) rfl hd rfl h0 hN hby hc hsl hsz fun H1 cA e1 z1 o1 hAr hNm => ?_
  refine K ls H1 lc ⟨I.1, I.2.1.new z1 (fun q hq => o1 q hq) ?_, I.2.2⟩
  unfold a_cell
  rw [if_neg (show ¬ ((100 + t, N) : Nat × Nat).1 < 100 by show ¬ 100 + t < 100; omega)]
  have hT := hU.2.2.2.1
  have : ∃ q : ClassId × FieldType, E.1.2.2.2[t]? = some q ∧ q.2 = newarray.typeOf at0 := by
    rw [← hT, List.getElem?_map] at hty
    cases hq : E.1.2.2.2[t]? with
    | none => rw [hq] at hty; cases hty
    | some q => rw [hq] at hty; exact ⟨q, rfl, Option.some.inj hty⟩
  obtain ⟨⟨cB, ty'⟩, q1, q2⟩ := this
  dsimp only at q2
  subst q2
  have hB2 : s.vm.findClass ("[" ++ (newarray.typeOf at0).toString) = some cB := hnm s cB (hU.1.2 t _ q1).2
  have : cB = cA := Option.some.inj (hB2.symm.trans hNm)
  subst this
  refine ⟨(cB, newarray.typeOf at0), by rw [show ((100 + t, N) : Nat × Nat).1 - 100 = t by show 100 + t - 100 = t; omega]; exact q1, ?_⟩
  rw [e1]
  congr 2
  funext j
  exact (fv_new hdef).symm
theorem r_newL (pc' : Nat) {i : Int32} {F : Nat → AH → Fn ρ} (N : Nat) (hd : decode cc pc = .ok (.newarray .long, 2)) (hp : pc + 2 = pc') (hw : Cond.arrayClass .long ∈ lwG) (X : nw h 101 N F = some R) (h0 : ¬ i < 0) (hN : i.toNatClampNeg = N) (hby : N * 8 ≤ 536870912) (hc : k + 1 ≤ E.2.2.2.2.1.cells) (hsl : n + N ≤ E.2.2.2.2.1.slots) (K : ∀ b h', F b h' = some R → AW E own cc pc' lo (.ref (gB E.1 + b) :: st) h' (k + 1) (n + N)) : AW E own cc pc lo (.int i :: st) h k n :=
  a_newA pc' 1 (ty := .long) N rfl (fun _ _ z => z) (Or.inr (Or.inr rfl)) hd hp rfl hw h0 hN hby hc hsl (K _ _ X)
theorem r_newI (pc' : Nat) {i : Int32} {F : Nat → AH → Fn ρ} (N : Nat) (hd : decode cc pc = .ok (.newarray .int, 2)) (hp : pc + 2 = pc') (hw : Cond.arrayClass .int ∈ lwG) (X : nw h 100 N F = some R) (h0 : ¬ i < 0) (hN : i.toNatClampNeg = N) (hby : N * 4 ≤ 536870912) (hc : k + 1 ≤ E.2.2.2.2.1.cells) (hsl : n + N ≤ E.2.2.2.2.1.slots) (K : ∀ b h', F b h' = some R → AW E own cc pc' lo (.ref (gB E.1 + b) :: st) h' (k + 1) (n + N)) : AW E own cc pc lo (.int i :: st) h k n :=
  a_newA pc' 0 (ty := .int) N rfl (fun _ _ z => z) (Or.inl rfl) hd hp rfl hw h0 hN hby hc hsl (K _ _ X)
theorem r_newZ (pc' : Nat) {i : Int32} {F : Nat → AH → Fn ρ} (N : Nat) (hd : decode cc pc = .ok (.newarray .boolean, 2)) (hp : pc + 2 = pc') (hw : Cond.arrayClass .boolean ∈ lwG) (X : nw h 102 N F = some R) (h0 : ¬ i < 0) (hN : i.toNatClampNeg = N) (hby : N * 1 ≤ 536870912) (hc : k + 1 ≤ E.2.2.2.2.1.cells) (hsl : n + N ≤ E.2.2.2.2.1.slots) (K : ∀ b h', F b h' = some R → AW E own cc pc' lo (.ref (gB E.1 + b) :: st) h' (k + 1) (n + N)) : AW E own cc pc lo (.int i :: st) h k n :=
  a_newA pc' 2 (ty := .boolean) N rfl (fun _ _ z => va_nm_boolean z) (Or.inl rfl) hd hp rfl hw h0 hN hby hc hsl (K _ _ X)
theorem a_newR (pc' t : Nat) {i : Int32} {idx : Nat} (C : String) (N : Nat) (hd : decode cc pc = .ok (.anewarray idx, 3)) (hp : pc + 3 = pc') (hty : tyL[t]? = some (.object C)) (hw : Cond.classLink own idx C ∈ lwG) (hw2 : C = RX7) (h0 : ¬ i < 0) (hN : i.toNatClampNeg = N) (hby : N * 4 ≤ 536870912) (hc : k + 1 ≤ E.2.2.2.2.1.cells) (hsl : n + N ≤ E.2.2.2.2.1.slots) (K : AW E own cc pc' lo (.ref (gB E.1 + Hn h) :: st) (HpN h (100 + t) N) (k + 1) (n + N)) : AW E own cc pc lo (.int i :: st) h k n := by
  subst hp
  subst hN
  intro p e s m args b me c Y ls H lc I
  have K := K p e s m args b me c Y
  obtain ⟨hx, hb, hml, hr, hlk, hin, hown, hts, hU⟩ := Y
  have hsz : H.size = gB E.1 + Hn h := I.2.1.1
  refine W.anew hx hb hown (hts _ hw) (va_AO.use (by rw [hw2]; exact hU.2.2.2.2)) rfl hd rfl h0 hby hc hsl fun cA kA comp f1 f2 f3 f4 => ?_
  rw [hsz]
  generalize hH1 : H.push ({ cls := cA, slots := Array.replicate i.toNatClampNeg .null, vm := .none } : Cell) = H1
  have z1 : H1.size = gB E.1 + Hn h + 1 := by rw [← hH1, Array.size_push, hsz]
  have e1 : H1[gB E.1 + Hn h]? = some (arrV cA i.toNatClampNeg (fun _ => .null)) := by rw [← hH1, ← hsz, Array.getElem?_push_size, ← arrV_new]
  have o1 : ∀ q : Nat, q < gB E.1 + Hn h → H1[q]? = H[q]? := fun q hq => by rw [← hH1, Array.getElem?_push, if_neg (by omega)]
  refine K ls H1 lc ⟨I.1, I.2.1.new z1 o1 ?_, I.2.2⟩
  unfold a_cell
  rw [if_neg (show ¬ ((100 + t, i.toNatClampNeg) : Nat × Nat).1 < 100 by show ¬ 100 + t < 100; omega)]
  have hT := hU.2.2.2.1
  have : ∃ q : ClassId × FieldType, E.1.2.2.2[t]? = some q ∧ q.2 = .object C := by
    rw [← hT, List.getElem?_map] at hty
    cases hq : E.1.2.2.2[t]? with
    | none => rw [hq] at hty; cases hty
    | some q => rw [hq] at hty; exact ⟨q, rfl, Option.some.inj hty⟩
  obtain ⟨⟨cB, ty'⟩, q1, q2⟩ := this
  dsimp only at q2
  subst q2
  obtain ⟨kA2, comp2, m1, m2, m3, m4⟩ := (hU.1.2 t _ q1).2
  have : cB = cA := Option.some.inj (m4.symm.trans f1)
  subst this
  refine ⟨(cB, .object C), by rw [show ((100 + t, i.toNatClampNeg) : Nat × Nat).1 - 100 = t by show 100 + t - 100 = t; omega]; exact q1, ?_⟩
  rw [e1]
  congr 2
  funext j
  exact (fv_new (ty := .object C) (Or.inr (Or.inl rfl))).symm
theorem r_newR (pc' : Nat) {i : Int32} {idx : Nat} {F : Nat → AH → Fn ρ} (C : String) (N : Nat) (hd : decode cc pc = .ok (.anewarray idx, 3)) (hp : pc + 3 = pc') (hty : tyL[3]? = some (.object C)) (hw : Cond.classLink own idx C ∈ lwG) (hw2 : C = RX7) (X : nw h 103 N F = some R) (h0 : ¬ i < 0) (hN : i.toNatClampNeg = N) (hby : N * 4 ≤ 536870912) (hc : k + 1 ≤ E.2.2.2.2.1.cells) (hsl : n + N ≤ E.2.2.2.2.1.slots) (K : ∀ b h', F b h' = some R → AW E own cc pc' lo (.ref (gB E.1 + b) :: st) h' (k + 1) (n + N)) : AW E own cc pc lo (.int i :: st) h k n := a_newR pc' 3 C N hd hp hty hw hw2 h0 hN hby hc hsl (K _ _ X)
theorem r_objInit (pc' : Nat) {idx a : Nat} (hd : decode cc pc = .ok (.invokespecial idx, 3)) (hp : pc + 3 = pc') (hw : Cond.methodLink own idx Lib.objectInit ∈ lwG) (hw2 : Cond.instanceMethod Lib.objectInit ∈ lwG) (hw3 : Cond.code Lib.objectInit ⟨#[0xb1]⟩ 1 none ∈ lwG) (hf : 1 ≤ E.2.2.2.2.1.frames) (hlo : (st.map fun v => v.category).sum + 12 ≤ E.2.2.2.2.1.locals) (K : AW E own cc pc' lo st h k n) : AW E own cc pc lo (.ref a :: st) h k n := by
  subst hp
  intro p e s m args b me c Y ls H lc I
  exact W.objInit Y.1 Y.2.1 Y.2.2.2.2.2.2.1 (Y.2.2.2.2.2.2.2.1 _ hw) (Y.2.2.2.2.2.2.2.1 _ hw2) (Y.2.2.2.2.2.2.2.1 _ hw3) rfl (I.1.1.1.trans Y.2.2.1.symm) rfl hd hf (by show 2 * 0 + _ + 12 ≤ _; omega) (K p e s m args b me c Y ls H lc I)
end AWA
