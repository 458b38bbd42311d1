/-! ===== fields ===== -/
def CK (ci : Nat) (r : vw_C) : Prop := vwCl[ci]? = some r ∧ ci < 100 ∧ (∀ w ∈ u_ws r.1 r.2.1 r.2.2, w ∈ lwG) ∧ (∀ k, k < r.2.2 → parseFieldDescriptor (r.2.1 k).2.2.1 = some (fty ci k)) ∧ (∀ a, a < r.2.2 → ∀ b, b < r.2.2 → a ≠ b → (r.2.1 a).2.1 ≠ (r.2.1 b).2.1) ∧ ∀ k, k < r.2.2 → (r.2.1 k).1 = r.1
/-- the field k of class ci, by the number idx in the pool of own -/
def LkF (own : String) (idx ci k : Nat) : Prop := ∃ r, CK ci r ∧ k < r.2.2 ∧ (Cond.fieldLink own idx r.1 (r.2.1 k).2.1 (r.2.1 k).2.2.1 ∈ lwG ∨ ∃ host, Cond.fieldLinkNest own idx r.1 (r.2.1 k).2.1 (r.2.1 k).2.2.1 host ∈ nwL)
def LkP (own : String) (idx ci k : Nat) : Prop := ∃ r, CK ci r ∧ k < r.2.2 ∧ (r.2.1 k).2.2.2 = false ∧ (Cond.fieldLink own idx r.1 (r.2.1 k).2.1 (r.2.1 k).2.2.1 ∈ lwG ∨ ∃ host, Cond.fieldLinkNest own idx r.1 (r.2.1 k).2.1 (r.2.1 k).2.2.1 host ∈ nwL)
def LkQ (own : String) (idx ci k : Nat) : Prop := ∃ r, CK ci r ∧ k < r.2.2 ∧ (r.2.1 k).2.2.2 = true ∧ r.1 = own ∧ Cond.fieldLink own idx r.1 (r.2.1 k).2.1 (r.2.1 k).2.2.1 ∈ lwG
section AWH
variable {E : EE} {own : String} {cc : ByteArray} {pc : Nat} {lo lo' : LO} {st : List Value} {h : AH} {k n : Nat} {ρ : Type} {R : ρ × AH}
theorem a_get {ci kf idx a : Nat} (v : Value) (hd : decode cc pc = .ok (.getfield idx, 3)) (lf : LkF own idx ci kf) (hs : Hs h a = some (ci, 0)) (hv : fv E.1 (fty ci kf) h a kf = v) (K : AW E own cc (pc + 3) lo (v :: st) h k n) : AW E own cc pc lo (.ref (gB E.1 + a) :: st) h k n := by
  intro p e s m args b me c Y ls H lc I
  obtain ⟨r, ⟨c1, c2, c3, c4, c5, c6⟩, hk, hw⟩ := lf
  have K := K p e s m args b me c Y ls H lc I
  obtain ⟨hx, hb, hml, hr, hlk, hin, hown, hts, hU⟩ := Y
  have hcell := I.2.1.2.2 a _ hs
  unfold a_cell at hcell
  rw [if_pos c2] at hcell
  obtain ⟨r', d1, cell, q1, q2, q3, q4⟩ := hcell
  cases c1.symm.trans d1
  obtain ⟨hS, hfc, kC, hkC, hkind⟩ := hU.1.1 ci _ c1
  obtain ⟨cf, kf', fi, f, hi, hsl⟩ := hS kf hk
  have hst := (u_facts hfc hkC (u_lays hts c3 hk) hi).1
  have hne : cell.vm ≠ .unknown := by rw [q3]; exact fun z => by cases z
  have hsv : cell.slots[f.slot]? = some v := by rw [hsl, q4 kf hk]; exact congrArg some hv
  rw [c6 kf hk] at hi
  rcases hw with hw | ⟨host, hw⟩
  · exact W.getf hx hb hown (hts _ hw) hi hst q1 hne hsv rfl rfl hd K
  · exact va_Wgetf hx hb hown (va_Nw.use rfl (hU.2.1 _ hw)) hi hst q1 hne hsv rfl rfl hd K
theorem a_set {G : GG} {ci kf a : Nat} {v : Value} {h h' : AH} {H H' : Heap} {r : vw_C} {cell : Cell} (c1 : vwCl[ci]? = some r) (c2 : ci < 100) (x : AR G h H) (hs : Hs h a = some (ci, 0)) (hk : kf < r.2.2) (q2 : cell.cls = G.2.2.1.1 ci) (q3 : cell.vm = .none) (q4 : ∀ j, j < r.2.2 → cell.slots[G.2.2.1.2 ci j]? = some (fv G (fty ci j) h a j))
    (hap : ∀ x y, x < r.2.2 → y < r.2.2 → x ≠ y → G.2.2.1.2 ci x ≠ G.2.2.1.2 ci y) (e1 : H'[gB G + a]? = some (cell.setSlot (G.2.2.1.2 ci kf) v)) (e2 : H'.size = H.size) (e3 : ∀ q : Nat, q ≠ gB G + a → H'[q]? = H[q]?)
    (g1 : Hs h' = Hs h) (g2 : Hn h' = Hn h) (g3 : ∀ ty b j, ¬ (b = a ∧ j = kf) → fv G ty h' b j = fv G ty h b j) (g4 : fv G (fty ci kf) h' a kf = v) : AR G h' H' := by
  refine x.set g1 g2 e2 e3 (fun b hb ty j => g3 ty b j (fun z => hb z.1)) (fun c hc => ?_)
  cases hs.symm.trans hc
  unfold a_cell
  rw [if_pos c2]
  refine ⟨r, c1, t_OB.to (V := updV (fun j => fv G (fty ci j) h a j) kf v) ⟨_, e1, q2, q3, t_set q4 hap hk v⟩ (fun j hj => ?_)⟩
  by_cases hjk : j = kf
  · subst hjk
    simp only [updV, if_pos rfl]
    exact g4.symm
  · simp only [updV, if_neg hjk]
    exact (g3 _ a j (fun z => hjk z.2)).symm
theorem CI.store {ls : Array Slot} {H H' : Heap} {locs : List Loc} {h' : AH} {a i : Nat} (I : CI E lo h ls H locs) (x : AR E.1 h' H') : CI E lo h' ls H' (locs ++ [⟨gB E.1 + a, i⟩]) := by
  refine ⟨I.1, x, fun q hq => ?_⟩
  rcases List.mem_append.mp hq with z | z
  · exact I.2.2 q z
  · rw [List.mem_singleton.mp z]
    exact Nat.le_add_right _ _
theorem a_put {ci kf idx a : Nat} (v : Value) (h' : AH) (hd : decode cc pc = .ok (.putfield idx, 3)) (lf : LkP own idx ci kf) (hs : Hs h a = some (ci, 0)) (hn : narrow (fty ci kf) v = v) (hf : fits (fty ci kf) v = true)
    (g1 : Hs h' = Hs h) (g2 : Hn h' = Hn h) (g3 : ∀ ty b j, ¬ (b = a ∧ j = kf) → fv E.1 ty h' b j = fv E.1 ty h b j) (g4 : fv E.1 (fty ci kf) h' a kf = v) (K : AW E own cc (pc + 3) lo st h' k n) : AW E own cc pc lo (v :: .ref (gB E.1 + a) :: st) h k n := by
  intro p e s m args b me c Y ls H lc I
  obtain ⟨r, ⟨c1, c2, c3, c4, c5, c6⟩, hk, hfin, hw⟩ := lf
  have K := K p e s m args b me c Y
  obtain ⟨hx, hb, hml, hr, hlk, hin, hown, hts, hU⟩ := Y
  have hcell := I.2.1.2.2 a _ hs
  unfold a_cell at hcell
  rw [if_pos c2] at hcell
  obtain ⟨r', d1, cell, q1, q2, q3, q4⟩ := hcell
  cases c1.symm.trans d1
  have hap := va_apart (own := own) hts c3 (fty ci) c4 c5 hU.1 c1
  obtain ⟨hS, hfc, kC, hkC, hkind⟩ := hU.1.1 ci _ c1
  obtain ⟨cf, kf', fi, f, hi, hsl⟩ := hS kf hk
  have hlay := hts _ (c3 _ (u_in_lay hk))
  unfold u_lay at hlay
  rw [if_neg (by rw [hfin]; decide)] at hlay
  have hst := (u_facts hfc hkC (u_lays hts c3 hk) hi).1
  have h6 := u_store hfc hkC hkind hlay hi (c4 kf hk) hn hf
  rw [← q2] at h6
  have hlt : f.slot < cell.slots.size := by rw [hsl]; exact k2_hasslot (q4 kf hk)
  rw [c6 kf hk] at hi
  have fin : ∀ H' : Heap, H'[gB E.1 + a]? = some (cell.setSlot f.slot v) → H'.size = H.size → (∀ q, q ≠ gB E.1 + a → H'[q]? = H[q]?) → W p E.1.1 e E.2.2.2.2.1 s m args b me c H' (lc ++ [⟨gB E.1 + a, f.slot⟩]) k n (E.2.2.2.2.2 b args s) (F0 m (pc + 3) ls st) := by
    intro H' e1 e2 e3
    refine K ls H' _ (I.store ?_)
    rw [hsl] at e1
    exact a_set c1 c2 I.2.1 hs hk q2 q3 q4 hap e1 e2 e3 g1 g2 g3 g4
  rcases hw with hw | ⟨host, hw⟩
  · exact W.putK hx hb (f := f) ⟨hown, hts _ hw, ⟨_, _, _, hi⟩, hst⟩ h6 q1 q3 hlt rfl rfl hd fin
  · exact va_WputK hx hb (f := f) hown (va_Nw.use rfl (hU.2.1 _ hw)) hi hst h6 q1 q3 hlt rfl rfl hd fin
theorem a_putF {ci kf idx a : Nat} (v : Value) (h' : AH) (hd : decode cc pc = .ok (.putfield idx, 3)) (lf : LkQ own idx ci kf) (hini : E.2.2.2.1 = true) (hs : Hs h a = some (ci, 0)) (hn : narrow (fty ci kf) v = v) (hf : fits (fty ci kf) v = true)
    (g1 : Hs h' = Hs h) (g2 : Hn h' = Hn h) (g3 : ∀ ty b j, ¬ (b = a ∧ j = kf) → fv E.1 ty h' b j = fv E.1 ty h b j) (g4 : fv E.1 (fty ci kf) h' a kf = v) (K : AW E own cc (pc + 3) lo st h' k n) : AW E own cc pc lo (v :: .ref (gB E.1 + a) :: st) h k n := by
  intro p e s m args b me c Y ls H lc I
  obtain ⟨r, ⟨c1, c2, c3, c4, c5, c6⟩, hk, hfin, hro, hw⟩ := lf
  have K := K p e s m args b me c Y
  obtain ⟨hx, hb, hml, hr, hlk, hin, hown, hts, hU⟩ := Y
  have hcell := I.2.1.2.2 a _ hs
  unfold a_cell at hcell
  rw [if_pos c2] at hcell
  obtain ⟨r', d1, cell, q1, q2, q3, q4⟩ := hcell
  cases c1.symm.trans d1
  have hap := va_apart (own := own) hts c3 (fty ci) c4 c5 hU.1 c1
  obtain ⟨hS, hfc, kC, hkC, hkind⟩ := hU.1.1 ci _ c1
  obtain ⟨cf, kf', fi, f, hi, hsl⟩ := hS kf hk
  have hlay := hts _ (c3 _ (u_in_lay hk))
  unfold u_lay at hlay
  rw [if_pos hfin] at hlay
  have hst := (u_facts hfc hkC (u_lays hts c3 hk) hi).1
  have hcf : m.cls = cf := by
    obtain ⟨_, _, c', _, _, _, -, -, hf', -, -, -, hown2, -⟩ := Cond.laysFinal_spec hlay
    have e1 : c' = cf := by have := hi.symm.trans hf'; simp at this; exact this.1.symm
    rw [c6 kf hk, hro] at hown2
    rw [← e1]; exact Option.some.inj (hown.symm.trans hown2)
  have h6 := u_fits hfc hkC hkind (Or.inr hlay) hi (c4 kf hk) hn hf
  rw [← q2] at h6
  have hlt : f.slot < cell.slots.size := by rw [hsl]; exact k2_hasslot (q4 kf hk)
  rw [c6 kf hk] at hi
  refine W.putFinK hx hb hown (hts _ hw) hi hst hcf (hin hini) h6 q1 q3 hlt rfl rfl hd fun H' e1 e2 e3 => ?_
  refine K ls H' _ (I.store ?_)
  rw [hsl] at e1
  exact a_set c1 c2 I.2.1 hs hk q2 q3 q4 hap e1 e2 e3 g1 g2 g3 g4
theorem nar_I {ty : FieldType} (hi : ty = .int) (x : Int32) : narrow ty (.int x) = .int x ∧ fits ty (.int x) = true := by subst hi; exact ⟨rfl, rfl⟩
theorem nar_Z {ty : FieldType} (hi : ty = .boolean) {x : Int32} (hx : x = 0 ∨ x = 1) : narrow ty (.int x) = .int x ∧ fits ty (.int x) = true := by
  subst hi
  rcases hx with rfl | rfl <;> exact ⟨by decide, by decide⟩
theorem nar_L {ty : FieldType} (hi : ty = .long) (x : Int64) : narrow ty (.long x) = .long x ∧ fits ty (.long x) = true := by subst hi; exact ⟨rfl, rfl⟩
theorem nar_R {G : GG} {ty : FieldType} (hi : isR ty = true) (r : Option Nat) : narrow ty (rf G r) = rf G r ∧ fits ty (rf G r) = true := by
  cases ty <;> first | (cases hi; done) | (cases r <;> exact ⟨rfl, rfl⟩)
theorem r_gI (pc' : Nat) {ci kf idx a : Nat} {F : Int32 → Fn ρ} (hd : decode cc pc = .ok (.getfield idx, 3)) (hp : pc + 3 = pc') (lf : LkF own idx ci kf) (hty : isI (fty ci kf) = true) (X : gI h a ci kf F = some R) (K : ∀ x, F x = some R → AW E own cc pc' lo (.int x :: st) h k n) : AW E own cc pc lo (.ref (gB E.1 + a) :: st) h k n := by
  subst hp
  obtain ⟨hs, X⟩ := ck_ok X
  exact a_get _ hd lf hs (fv_I _ _ _ _ _ hty) (K _ X)
theorem r_gL (pc' : Nat) {ci kf idx a : Nat} {F : Int64 → Fn ρ} (hd : decode cc pc = .ok (.getfield idx, 3)) (hp : pc + 3 = pc') (lf : LkF own idx ci kf) (hty : fty ci kf = .long) (X : gL h a ci kf F = some R) (K : ∀ x, F x = some R → AW E own cc pc' lo (.long x :: st) h k n) : AW E own cc pc lo (.ref (gB E.1 + a) :: st) h k n := by
  subst hp
  obtain ⟨hs, X⟩ := ck_ok X
  exact a_get _ hd lf hs (by rw [hty]; rfl) (K _ X)
/-- a reference that isn't null -/
theorem r_gR (pc' : Nat) {ci kf idx a : Nat} {F : Nat → Fn ρ} (hd : decode cc pc = .ok (.getfield idx, 3)) (hp : pc + 3 = pc') (lf : LkF own idx ci kf) (hty : isR (fty ci kf) = true) (X : gR h a ci kf F = some R) (K : ∀ b, F b = some R → AW E own cc pc' lo (.ref (gB E.1 + b) :: st) h k n) : AW E own cc pc lo (.ref (gB E.1 + a) :: st) h k n := by
  subst hp
  obtain ⟨hs, X⟩ := ck_ok X
  obtain ⟨b, hb, X⟩ := nn_ok X
  exact a_get _ hd lf hs (by rw [fv_R _ _ _ _ _ hty, hb]; rfl) (K b X)
/-- a reference that may be null -/
theorem r_gN (pc' : Nat) {ci kf idx a : Nat} {F0 : Fn ρ} {F : Nat → Fn ρ} (hd : decode cc pc = .ok (.getfield idx, 3)) (hp : pc + 3 = pc') (lf : LkF own idx ci kf) (hty : isR (fty ci kf) = true) (X : gN h a ci kf F0 F = some R) (K0 : F0 = some R → AW E own cc pc' lo (.null :: st) h k n) (K : ∀ b, F b = some R → AW E own cc pc' lo (.ref (gB E.1 + b) :: st) h k n) : AW E own cc pc lo (.ref (gB E.1 + a) :: st) h k n := by
  subst hp
  obtain ⟨hs, X⟩ := ck_ok X
  cases hb : HR h a kf with
  | none =>
    rw [hb] at X
    exact a_get _ hd lf hs (by rw [fv_R _ _ _ _ _ hty, hb]; rfl) (K0 X)
  | some b =>
    rw [hb] at X
    exact a_get _ hd lf hs (by rw [fv_R _ _ _ _ _ hty, hb]; rfl) (K b X)
theorem r_pI (pc' : Nat) {ci kf idx a : Nat} {x : Int32} {F : AH → Fn ρ} (hd : decode cc pc = .ok (.putfield idx, 3)) (hp : pc + 3 = pc') (lf : LkP own idx ci kf) (hty : fty ci kf = .int) (X : pI h a ci kf x F = some R) (K : ∀ h', F h' = some R → AW E own cc pc' lo st h' k n) : AW E own cc pc lo (.int x :: .ref (gB E.1 + a) :: st) h k n := by
  subst hp
  obtain ⟨hs, X⟩ := ck_ok X
  exact a_put _ (HpI h a kf x) hd lf hs (nar_I hty x).1 (nar_I hty x).2 rfl rfl (fun _ _ _ z => fv_pI z) (fv_sI (by rw [hty]; rfl)) (K _ X)
theorem r_pZ (pc' : Nat) {ci kf idx a : Nat} {x : Int32} {F : AH → Fn ρ} (hd : decode cc pc = .ok (.putfield idx, 3)) (hp : pc + 3 = pc') (lf : LkP own idx ci kf) (hty : fty ci kf = .boolean) (X : pZ h a ci kf x F = some R) (K : ∀ h', F h' = some R → AW E own cc pc' lo st h' k n) : AW E own cc pc lo (.int x :: .ref (gB E.1 + a) :: st) h k n := by
  subst hp
  obtain ⟨⟨hs, hz⟩, X⟩ := ck_ok X
  exact a_put _ (HpI h a kf x) hd lf hs (nar_Z hty hz).1 (nar_Z hty hz).2 rfl rfl (fun _ _ _ z => fv_pI z) (fv_sI (by rw [hty]; rfl)) (K _ X)
theorem r_pL (pc' : Nat) {ci kf idx a : Nat} {x : Int64} {F : AH → Fn ρ} (hd : decode cc pc = .ok (.putfield idx, 3)) (hp : pc + 3 = pc') (lf : LkP own idx ci kf) (hty : fty ci kf = .long) (X : pL h a ci kf x F = some R) (K : ∀ h', F h' = some R → AW E own cc pc' lo st h' k n) : AW E own cc pc lo (.long x :: .ref (gB E.1 + a) :: st) h k n := by
  subst hp
  obtain ⟨hs, X⟩ := ck_ok X
  exact a_put _ (HpL h a kf x) hd lf hs (nar_L hty x).1 (nar_L hty x).2 rfl rfl (fun _ _ _ z => fv_pL z) (by rw [hty]; exact fv_sL) (K _ X)
theorem r_pR (pc' : Nat) {ci kf idx a : Nat} {x : Nat} {F : AH → Fn ρ} (hd : decode cc pc = .ok (.putfield idx, 3)) (hp : pc + 3 = pc') (lf : LkP own idx ci kf) (hty : isR (fty ci kf) = true) (X : pR h a ci kf (some x) F = some R) (K : ∀ h', F h' = some R → AW E own cc pc' lo st h' k n) : AW E own cc pc lo (.ref (gB E.1 + x) :: .ref (gB E.1 + a) :: st) h k n := by
  subst hp
  obtain ⟨hs, X⟩ := ck_ok X
  exact a_put _ (HpR h a kf (some x)) hd lf hs (nar_R (G := E.1) hty (some x)).1 (nar_R (G := E.1) hty (some x)).2 rfl rfl (fun _ _ _ z => fv_pR z) (fv_sR (v := some x) hty) (K _ X)
theorem r_pN (pc' : Nat) {ci kf idx a : Nat} {F : AH → Fn ρ} (hd : decode cc pc = .ok (.putfield idx, 3)) (hp : pc + 3 = pc') (lf : LkP own idx ci kf) (hty : isR (fty ci kf) = true) (X : pR h a ci kf none F = some R) (K : ∀ h', F h' = some R → AW E own cc pc' lo st h' k n) : AW E own cc pc lo (.null :: .ref (gB E.1 + a) :: st) h k n := by
  subst hp
  obtain ⟨hs, X⟩ := ck_ok X
  exact a_put _ (HpR h a kf none) hd lf hs (nar_R (G := E.1) hty none).1 (nar_R (G := E.1) hty none).2 rfl rfl (fun _ _ _ z => fv_pR z) (fv_sR (v := none) hty) (K _ X)
theorem r_fI (pc' : Nat) {ci kf idx a : Nat} {x : Int32} {F : AH → Fn ρ} (hd : decode cc pc = .ok (.putfield idx, 3)) (hp : pc + 3 = pc') (lf : LkQ own idx ci kf) (hini : E.2.2.2.1 = true) (hty : fty ci kf = .int) (X : pI h a ci kf x F = some R) (K : ∀ h', F h' = some R → AW E own cc pc' lo st h' k n) : AW E own cc pc lo (.int x :: .ref (gB E.1 + a) :: st) h k n := by
  subst hp
  obtain ⟨hs, X⟩ := ck_ok X
  exact a_putF _ (HpI h a kf x) hd lf hini hs (nar_I hty x).1 (nar_I hty x).2 rfl rfl (fun _ _ _ z => fv_pI z) (fv_sI (by rw [hty]; rfl)) (K _ X)
theorem r_fR (pc' : Nat) {ci kf idx a : Nat} {x : Nat} {F : AH → Fn ρ} (hd : decode cc pc = .ok (.putfield idx, 3)) (hp : pc + 3 = pc') (lf : LkQ own idx ci kf) (hini : E.2.2.2.1 = true) (hty : isR (fty ci kf) = true) (X : pR h a ci kf (some x) F = some R) (K : ∀ h', F h' = some R → AW E own cc pc' lo st h' k n) : AW E own cc pc lo (.ref (gB E.1 + x) :: .ref (gB E.1 + a) :: st) h k n := by
  subst hp
  obtain ⟨hs, X⟩ := ck_ok X
  exact a_putF _ (HpR h a kf (some x)) hd lf hini hs (nar_R (G := E.1) hty (some x)).1 (nar_R (G := E.1) hty (some x)).2 rfl rfl (fun _ _ _ z => fv_pR z) (fv_sR (v := some x) hty) (K _ X)
end AWH
