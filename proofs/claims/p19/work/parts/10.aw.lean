/-! ===== the picture of a heap: shapes, and three total tables of what stands in fields and elements; addresses count from the heap's size at the law's entry ===== -/
abbrev AH : Type := (Nat → Option (Nat × Nat)) × Nat × (Nat → Nat → Int32) × (Nat → Nat → Int64) × (Nat → Nat → Option Nat)
def Hs (h : AH) : Nat → Option (Nat × Nat) := h.1
def Hn (h : AH) : Nat := h.2.1
def HI (h : AH) : Nat → Nat → Int32 := h.2.2.1
def HL (h : AH) : Nat → Nat → Int64 := h.2.2.2.1
def HR (h : AH) : Nat → Nat → Option Nat := h.2.2.2.2
def u2 {α : Type} (f : Nat → Nat → α) (a k : Nat) (v : α) : Nat → Nat → α := fun x j => if x = a ∧ j = k then v else f x j
def HpI (h : AH) (a k : Nat) (v : Int32) : AH := (h.1, h.2.1, u2 h.2.2.1 a k v, h.2.2.2.1, h.2.2.2.2)
def HpL (h : AH) (a k : Nat) (v : Int64) : AH := (h.1, h.2.1, h.2.2.1, u2 h.2.2.2.1 a k v, h.2.2.2.2)
def HpR (h : AH) (a k : Nat) (v : Option Nat) : AH := (h.1, h.2.1, h.2.2.1, h.2.2.2.1, u2 h.2.2.2.2 a k v)
def HpN (h : AH) (c n : Nat) : AH := (va_up h.1 h.2.1 (some (c, n)), h.2.1 + 1, va_up h.2.2.1 h.2.1 (fun _ => 0), va_up h.2.2.2.1 h.2.1 (fun _ => 0), va_up h.2.2.2.2 h.2.1 (fun _ => none))
/-- what the launch fixes: the launch, the state at the law's entry, numbers of classes and slots, classes of arrays -/
abbrev GG : Type := Launch × State × va_G × List (ClassId × FieldType)
def gB (G : GG) : Nat := G.2.1.heap.size
def rf (G : GG) (r : Option Nat) : Value := match r with
  | some a => .ref (gB G + a)
  | none => .null
def fv (G : GG) (ty : FieldType) (h : AH) (a k : Nat) : Value := match ty with
  | .long => .long (HL h a k)
  | .object _ => rf G (HR h a k)
  | .array _ => rf G (HR h a k)
  | _ => .int (HI h a k)
def isI (ty : FieldType) : Bool := match ty with
  | .int => true
  | .boolean => true
  | _ => false
def isR (ty : FieldType) : Bool := match ty with
  | .object _ => true
  | .array _ => true
  | _ => false
theorem u2_self {α : Type} (f : Nat → Nat → α) (a k : Nat) (v : α) : u2 f a k v a k = v := by simp [u2]
theorem u2_ne {α : Type} (f : Nat → Nat → α) {a k b j : Nat} (v : α) (h : ¬ (b = a ∧ j = k)) : u2 f a k v b j = f b j := by simp only [u2, if_neg h]
theorem fv_I (G : GG) (ty : FieldType) (h : AH) (a k : Nat) (hi : isI ty = true) : fv G ty h a k = .int (HI h a k) := by cases ty <;> first | rfl | cases hi
theorem fv_R (G : GG) (ty : FieldType) (h : AH) (a k : Nat) (hi : isR ty = true) : fv G ty h a k = rf G (HR h a k) := by cases ty <;> first | rfl | cases hi
theorem fv_cong {G : GG} {ty : FieldType} {h h' : AH} {a k : Nat} (h1 : HI h' a k = HI h a k) (h2 : HL h' a k = HL h a k) (h3 : HR h' a k = HR h a k) : fv G ty h' a k = fv G ty h a k := by cases ty <;> simp only [fv, h1, h2, h3]
theorem fv_pI {G : GG} {ty : FieldType} {h : AH} {a k b j : Nat} {v : Int32} (hne : ¬ (b = a ∧ j = k)) : fv G ty (HpI h a k v) b j = fv G ty h b j := fv_cong (u2_ne _ _ hne) rfl rfl
theorem fv_pL {G : GG} {ty : FieldType} {h : AH} {a k b j : Nat} {v : Int64} (hne : ¬ (b = a ∧ j = k)) : fv G ty (HpL h a k v) b j = fv G ty h b j := fv_cong rfl (u2_ne _ _ hne) rfl
theorem fv_pR {G : GG} {ty : FieldType} {h : AH} {a k b j : Nat} {v : Option Nat} (hne : ¬ (b = a ∧ j = k)) : fv G ty (HpR h a k v) b j = fv G ty h b j := fv_cong rfl rfl (u2_ne _ _ hne)
theorem fv_sI {G : GG} {ty : FieldType} {h : AH} {a k : Nat} {v : Int32} (hi : isI ty = true) : fv G ty (HpI h a k v) a k = .int v := by rw [fv_I _ _ _ _ _ hi]; exact congrArg Value.int (u2_self _ _ _ _)
theorem fv_sL {G : GG} {h : AH} {a k : Nat} {v : Int64} : fv G .long (HpL h a k v) a k = .long v := congrArg Value.long (u2_self _ _ _ _)
theorem fv_sR {G : GG} {ty : FieldType} {h : AH} {a k : Nat} {v : Option Nat} (hi : isR ty = true) : fv G ty (HpR h a k v) a k = rf G v := by rw [fv_R _ _ _ _ _ hi]; exact congrArg (rf G) (u2_self _ _ _ _)
theorem fv_pN {G : GG} {ty : FieldType} {h : AH} {c n b j : Nat} (hne : b ≠ Hn h) : fv G ty (HpN h c n) b j = fv G ty h b j := fv_cong (congrFun (va_up_ne _ _ hne) j) (congrFun (va_up_ne _ _ hne) j) (congrFun (va_up_ne _ _ hne) j)
def a_cell (G : GG) (h : AH) (a : Nat) (c : Nat × Nat) (H : Heap) : Prop :=
  if c.1 < 100 then ∃ r : vw_C, vwCl[c.1]? = some r ∧ t_OB (gB G + a) (G.2.2.1.1 c.1) r.2.2 (G.2.2.1.2 c.1) H (fun k => fv G (fty c.1 k) h a k)
  else ∃ q : ClassId × FieldType, G.2.2.2[c.1 - 100]? = some q ∧ H[gB G + a]? = some (arrV q.1 c.2 (fun j => fv G q.2 h a j))
def AR (G : GG) (h : AH) (H : Heap) : Prop := H.size = gB G + Hn h ∧ (∀ q : Nat, q < gB G → H[q]? = G.2.1.heap[q]?) ∧ ∀ (a : Nat) (c : Nat × Nat), Hs h a = some c → a_cell G h a c H
theorem a_cell.cong {G : GG} {h h' : AH} {a : Nat} {c : Nat × Nat} {H H' : Heap} (x : a_cell G h a c H) (hv : ∀ ty j, fv G ty h' a j = fv G ty h a j) (hq : H'[gB G + a]? = H[gB G + a]?) : a_cell G h' a c H' := by
  unfold a_cell at x ⊢
  split at x
  · rename_i hc
    rw [if_pos hc]
    obtain ⟨r, h1, h2⟩ := x
    exact ⟨r, h1, (h2.kept hq).to fun k _ => (hv _ _).symm⟩
  · rename_i hc
    rw [if_neg hc]
    obtain ⟨q, h1, h2⟩ := x
    refine ⟨q, h1, ?_⟩
    rw [hq, h2]
    congr 2
    funext j
    exact (hv _ _).symm
theorem AR.set {G : GG} {h h' : AH} {H H' : Heap} {a : Nat} (x : AR G h H) (hs : Hs h' = Hs h) (hn : Hn h' = Hn h) (hz : H'.size = H.size) (oq : ∀ q : Nat, q ≠ gB G + a → H'[q]? = H[q]?) (ho : ∀ b, b ≠ a → ∀ ty j, fv G ty h' b j = fv G ty h b j) (hc : ∀ c, Hs h a = some c → a_cell G h' a c H') : AR G h' H' := by
  obtain ⟨x1, x3, x4⟩ := x
  refine ⟨by rw [hz, hn]; exact x1, fun q hq => by rw [oq q (by omega)]; exact x3 q hq, fun b c hb => ?_⟩
  rw [hs] at hb
  by_cases hba : b = a
  · subst hba
    exact hc c hb
  · exact (x4 b c hb).cong (ho b hba) (oq _ (by omega))
/-- the words that a call hands on -/
def good (w : Cond) : Bool := (w.onTables && w.keeps) || (match w with
  | .arrayClass _ => true
  | _ => false)
def lwG : List Cond := lw_tbl.filter good
theorem good_spec {w : Cond} (h : good w = true) : (w.onTables && w.keeps) = true ∨ ∃ ty, w = .arrayClass ty := by
  unfold good at h
  rcases (Bool.or_eq_true _ _).mp h with z | z
  · exact Or.inl z
  · right
    cases w <;> first | exact ⟨_, rfl⟩ | (cases z; done)
def isNw (w : Cond) : Bool := match w with
  | .fieldLinkNest _ _ _ _ _ _ => true
  | .methodLinkNest _ _ _ _ => true
  | _ => false
def nwL : List Cond := tables_1.filter isNw
theorem nwL_ok : ∀ w ∈ nwL, (∃ a i b n d g, w = .fieldLinkNest a i b n d g) ∨ ∃ a i x g, w = .methodLinkNest a i x g := by
  intro w hw
  have h := (List.mem_filter.mp hw).2
  cases w <;> first | exact Or.inl ⟨_, _, _, _, _, _, rfl⟩ | exact Or.inr ⟨_, _, _, _, rfl⟩ | (cases h; done)
def AU (G : GG) (U : State) : Prop := va_K G.2.2.1 vwCl G.2.2.2 U ∧ (∀ w ∈ nwL, va_Nw w U) ∧ G.2.1.vm.Alike U.vm ∧ G.2.2.2.map (fun q => q.2) = tyL ∧ va_AO RX7 U
theorem AU.warm {G : GG} {s U : State} (h : AU G s) (hW : s.WarmedH U.vm) : AU G U := by
  obtain ⟨h1, h2, h3, h4, h5⟩ := h
  refine ⟨va_K.moved hW.alike h1, fun w hw => ?_, h3.trans hW.alike, h4, va_AO.moved hW.alike h5⟩
  rcases nwL_ok w hw with ⟨a, i, b, n, d, g, rfl⟩ | ⟨a, i, x, g, rfl⟩
  · exact va_Nw.warmF hW (h2 _ hw)
  · exact va_Nw.warmM hW (h2 _ hw)
theorem AU.same {G : GG} {s U : State} (h : AU G s) (hW : s.vm = U.vm) : AU G U := by
  obtain ⟨h1, h2, h3, h4, h5⟩ := h
  have hal : s.vm.Alike U.vm := by rw [hW]; exact Vm.Alike.refl _
  refine ⟨va_K.moved hal h1, fun w hw => ?_, h3.trans hal, h4, va_AO.moved hal h5⟩
  rcases nwL_ok w hw with ⟨a, i, b, n, d, g, rfl⟩ | ⟨a, i, x, g, rfl⟩
  · exact va_Nw.same rfl hW (h2 _ hw)
  · exact va_Nw.same rfl hW (h2 _ hw)
/-- locals by their places -/
abbrev LO : Type := List (Option Value)
def asc : Nat → LO → List (Nat × Value)
  | _, [] => []
  | i, none :: l => asc (i + 1) l
  | i, some v :: l => (i, v) :: asc (i + 1) l
theorem asc_mem {l : LO} : ∀ {j : Nat} {i : Nat} {v : Value}, (i, v) ∈ asc j l ↔ ∃ d, i = j + d ∧ l[d]? = some (some v) := by
  induction l with
  | nil => intro j i v; simp [asc]
  | cons o l ih =>
    intro j i v
    cases o with
    | none =>
      rw [asc, ih]
      constructor
      · rintro ⟨d, rfl, hd⟩
        exact ⟨d + 1, by omega, by simpa using hd⟩
      · rintro ⟨d, rfl, hd⟩
        cases d with
        | zero => simp at hd
        | succ d => exact ⟨d, by omega, by simpa using hd⟩
    | some w =>
      rw [asc, List.mem_cons, ih]
      constructor
      · rintro (h | ⟨d, rfl, hd⟩)
        · cases h
          exact ⟨0, rfl, rfl⟩
        · exact ⟨d + 1, by omega, by simpa using hd⟩
      · rintro ⟨d, rfl, hd⟩
        cases d with
        | zero =>
          left
          simp at hd
          rw [hd]
          rfl
        | succ d => exact Or.inr ⟨d, by omega, by simpa using hd⟩
theorem lv_has.less {ls : Array Slot} {nL : Nat} {l l' : List (Nat × Value)} (h : lv_has ls nL l) (hl : ∀ q ∈ l', q ∈ l) : lv_has ls nL l' := ⟨h.1, h.2.1, fun q hq => h.2.2 q (hl q hq)⟩
/-- storing a value of one word at place i: what may stay -/
theorem asc_put1 {l l' : LO} {i : Nat} {v : Value} (h : ∀ (d : Nat) (w : Value), l'[d]? = some (some w) → (d = i ∧ w = v) ∨ (d ≠ i ∧ l[d]? = some (some w) ∧ (d + 1 = i → w.category ≠ 2))) :
    ∀ q ∈ asc 0 l', q ∈ (i, v) :: (asc 0 l).filter (fun q => !(q.1 == i) && !(q.1 + 1 == i && q.2.category == 2)) := by
  rintro ⟨j, w⟩ hq
  obtain ⟨d, hd, hw⟩ := asc_mem.mp hq
  have hd : j = d := by omega
  subst hd
  rcases h j w hw with ⟨rfl, rfl⟩ | ⟨h1, h2, h3⟩
  · exact List.mem_cons_self
  · refine List.mem_cons_of_mem _ (List.mem_filter.mpr ⟨asc_mem.mpr ⟨j, by omega, h2⟩, ?_⟩)
    by_cases e : j + 1 = i
    · simp [h1, e, h3 e]
    · simp [h1, e]
theorem asc_put2 {l l' : LO} {i : Nat} {v : Value} (h : ∀ (d : Nat) (w : Value), l'[d]? = some (some w) → (d = i ∧ w = v) ∨ (d ≠ i ∧ d ≠ i + 1 ∧ l[d]? = some (some w) ∧ (d + 1 = i → w.category ≠ 2))) :
    ∀ q ∈ asc 0 l', q ∈ (i, v) :: (asc 0 l).filter (fun q => !(q.1 == i) && (!(q.1 == i + 1) && !(q.1 + 1 == i && q.2.category == 2))) := by
  rintro ⟨j, w⟩ hq
  obtain ⟨d, hd, hw⟩ := asc_mem.mp hq
  have hd : j = d := by omega
  subst hd
  rcases h j w hw with ⟨rfl, rfl⟩ | ⟨h1, h4, h2, h3⟩
  · exact List.mem_cons_self
  · refine List.mem_cons_of_mem _ (List.mem_filter.mpr ⟨asc_mem.mpr ⟨j, by omega, h2⟩, ?_⟩)
    by_cases e : j + 1 = i
    · simp [h1, h4, e, h3 e]
    · simp [h1, h4, e]
/-- what stands in front of a stored place: not the first word of a long -/
def n2 (o : Option Value) : Bool := match o with
  | some v => !(v.category == 2)
  | none => true
/-- the list with place i put -/
def lset : LO → Nat → Option Value → LO
  | [], _, _ => []
  | _ :: l, 0, o => o :: l
  | a :: l, i + 1, o => a :: lset l i o
theorem lset_at {l : LO} : ∀ {i d : Nat} {o : Option Value}, (lset l i o)[d]? = if d = i ∧ d < l.length then some o else l[d]? := by
  induction l with
  | nil => intro i d o; simp [lset]
  | cons a l ih =>
    intro i d o
    cases i with
    | zero => cases d with
      | zero => simp [lset]
      | succ d => simp [lset]
    | succ i => cases d with
      | zero => simp [lset]
      | succ d =>
        simp only [lset, List.getElem?_cons_succ, ih, List.length_cons, Nat.add_lt_add_iff_right, Nat.add_right_cancel_iff]
theorem lset_len {l : LO} : ∀ {i : Nat} {o : Option Value}, (lset l i o).length = l.length := by
  induction l with
  | nil => intro i o; rfl
  | cons a l ih =>
    intro i o
    cases i with
    | zero => rfl
    | succ i => simp [lset, ih]
/-- a method's frame: what the launch fixes, its locals' number, its answer's type, whether it is a constructor, its room, what its end must be -/
abbrev EE : Type := GG × Nat × Option FieldType × Bool × Room × (List Frame → Array Value → State → State → Prop)
def CX (E : EE) (own : String) (cc : ByteArray) (p : Program) (s : State) (m : MethodId) (args : Array Value) (meth : Method) (c : Code) : Prop :=
  p.tables.exec = Jvm.exec ∧ c.code = cc ∧ c.maxLocals = E.2.1 ∧ meth.sig.returnType = E.2.2.1 ∧ meth.locks = false ∧ (E.2.2.2.1 = true → meth.name = "<init>") ∧ s.vm.findClass own = some m.cls ∧ (∀ w ∈ lwG, w.before args s = true) ∧ AU E.1 s
def CI (E : EE) (lo : LO) (h : AH) (ls : Array Slot) (H : Heap) (locs : List Loc) : Prop := (lv_has ls E.2.1 (asc 0 lo) ∧ lo.length ≤ E.2.1) ∧ AR E.1 h H ∧ ∀ q ∈ locs, gB E.1 ≤ q.base
def AW (E : EE) (own : String) (cc : ByteArray) (pc : Nat) (lo : LO) (st : List Value) (h : AH) (k n : Nat) : Prop :=
  ∀ (p : Program) (e : Env) (s : State) (m : MethodId) (args : Array Value) (below : List Frame) (meth : Method) (c : Code), CX E own cc p s m args meth c → ∀ (ls : Array Slot) (H : Heap) (locs : List Loc), CI E lo h ls H locs →
    W p E.1.1 e E.2.2.2.2.1 s m args below meth c H locs k n (E.2.2.2.2.2 below args s) (F0 m pc ls st)
/-! ===== what a method does, as a partial function ===== -/
abbrev Fn (ρ : Type) : Type := Option (ρ × AH)
def ck {ρ : Type} (p : Prop) [Decidable p] (F : Fn ρ) : Fn ρ := if p then F else none
def wh {α β : Type} (e : α) (F : α → β) : β := F e
def gI {ρ : Type} (h : AH) (a c k : Nat) (F : Int32 → Fn ρ) : Fn ρ := ck (Hs h a = some (c, 0)) (F (HI h a k))
def gL {ρ : Type} (h : AH) (a c k : Nat) (F : Int64 → Fn ρ) : Fn ρ := ck (Hs h a = some (c, 0)) (F (HL h a k))
def nn {ρ : Type} (r : Option Nat) (F : Nat → Fn ρ) : Fn ρ := match r with
  | some b => F b
  | none => none
def on {ρ : Type} (r : Option Nat) (F : Fn ρ) (K : Nat → Fn ρ) : Fn ρ := match r with
  | some b => K b
  | none => F
def gR {ρ : Type} (h : AH) (a c k : Nat) (F : Nat → Fn ρ) : Fn ρ := ck (Hs h a = some (c, 0)) (nn (HR h a k) F)
def gN {ρ : Type} (h : AH) (a c k : Nat) (F0 : Fn ρ) (F : Nat → Fn ρ) : Fn ρ := ck (Hs h a = some (c, 0)) (on (HR h a k) F0 F)
def pI {ρ : Type} (h : AH) (a c k : Nat) (x : Int32) (F : AH → Fn ρ) : Fn ρ := ck (Hs h a = some (c, 0)) (F (HpI h a k x))
def pZ {ρ : Type} (h : AH) (a c k : Nat) (x : Int32) (F : AH → Fn ρ) : Fn ρ := ck (Hs h a = some (c, 0) ∧ (x = 0 ∨ x = 1)) (F (HpI h a k x))
def pL {ρ : Type} (h : AH) (a c k : Nat) (x : Int64) (F : AH → Fn ρ) : Fn ρ := ck (Hs h a = some (c, 0)) (F (HpL h a k x))
def pR {ρ : Type} (h : AH) (a c k : Nat) (x : Option Nat) (F : AH → Fn ρ) : Fn ρ := ck (Hs h a = some (c, 0)) (F (HpR h a k x))
def cv {ρ : Type} (h : AH) (a c : Nat) (F : Fn ρ) : Fn ρ := ck (Hs h a = some (c, 0)) F
def ar {ρ : Type} (h : AH) (t a : Nat) (i : Int32) (F : Fn ρ) : Fn ρ := match Hs h a with
  | some c => ck (c.1 = 100 + t ∧ ¬ (i < 0 ∨ c.2 ≤ i.toNatClampNeg)) F
  | none => none
def aI {ρ : Type} (h : AH) (t a : Nat) (i : Int32) (F : Int32 → Fn ρ) : Fn ρ := ar h t a i (F (HI h a i.toNatClampNeg))
def aL {ρ : Type} (h : AH) (t a : Nat) (i : Int32) (F : Int64 → Fn ρ) : Fn ρ := ar h t a i (F (HL h a i.toNatClampNeg))
def aR {ρ : Type} (h : AH) (t a : Nat) (i : Int32) (F : Nat → Fn ρ) : Fn ρ := ar h t a i (nn (HR h a i.toNatClampNeg) F)
def zI {ρ : Type} (h : AH) (t a : Nat) (i x : Int32) (F : AH → Fn ρ) : Fn ρ := ar h t a i (F (HpI h a i.toNatClampNeg x))
def zZ {ρ : Type} (h : AH) (t a : Nat) (i x : Int32) (F : AH → Fn ρ) : Fn ρ := ar h t a i (ck (x = 0 ∨ x = 1) (F (HpI h a i.toNatClampNeg x)))
def zL {ρ : Type} (h : AH) (t a : Nat) (i : Int32) (x : Int64) (F : AH → Fn ρ) : Fn ρ := ar h t a i (F (HpL h a i.toNatClampNeg x))
def zR {ρ : Type} (h : AH) (t a : Nat) (i : Int32) (x : Nat) (c : Nat) (F : AH → Fn ρ) : Fn ρ := ar h t a i (ck (Hs h x = some (c, 0)) (F (HpR h a i.toNatClampNeg (some x))))
def aN {ρ : Type} (h : AH) (t a : Nat) (F : Int32 → Fn ρ) : Fn ρ := match Hs h a with
  | some c => ck (c.1 = 100 + t) (F (Int32.ofNat c.2))
  | none => none
/-- the script, and constant tables -/
def xI {ρ : Type} (L : Nat) (xs : Nat → Int32) (i : Int32) (F : Int32 → Fn ρ) : Fn ρ := ck (¬ (i < 0 ∨ L ≤ i.toNatClampNeg)) (F (xs i.toNatClampNeg))
def bnd {α ρ : Type} (r : Fn α) (F : α → AH → Fn ρ) : Fn ρ := match r with
  | some q => F q.1 q.2
  | none => none
section FNS
variable {ρ α : Type} {R : ρ × AH}
theorem ck_ok {p : Prop} [Decidable p] {F : Fn ρ} (h : ck p F = some R) : p ∧ F = some R := by
  unfold ck at h
  split at h
  · exact ⟨by assumption, h⟩
  · cases h
theorem wh_ok {e : α} {F : α → Fn ρ} (h : wh e F = some R) : F e = some R := h
theorem nn_ok {r : Option Nat} {F : Nat → Fn ρ} (h : nn r F = some R) : ∃ b, r = some b ∧ F b = some R := by
  cases r with
  | none => cases h
  | some b => exact ⟨b, rfl, h⟩
theorem ar_ok {h : AH} {t a : Nat} {i : Int32} {F : Fn ρ} (x : ar h t a i F = some R) : ∃ n, Hs h a = some (100 + t, n) ∧ ¬ (i < 0 ∨ n ≤ i.toNatClampNeg) ∧ F = some R := by
  unfold ar at x
  split at x
  · rename_i c hc
    obtain ⟨⟨h1, h2⟩, x2⟩ := ck_ok x
    obtain ⟨c1, c2⟩ := c
    dsimp only at h1 h2
    subst h1
    exact ⟨c2, hc, h2, x2⟩
  · cases x
theorem aN_ok {h : AH} {t a : Nat} {F : Int32 → Fn ρ} (x : aN h t a F = some R) : ∃ n, Hs h a = some (100 + t, n) ∧ F (Int32.ofNat n) = some R := by
  unfold aN at x
  split at x
  · rename_i c hc
    obtain ⟨h1, x2⟩ := ck_ok x
    obtain ⟨c1, c2⟩ := c
    dsimp only at h1
    subst h1
    exact ⟨c2, hc, x2⟩
  · cases x
theorem bnd_ok {r : Fn α} {F : α → AH → Fn ρ} (x : bnd r F = some R) : ∃ v h, r = some (v, h) ∧ F v h = some R := by
  unfold bnd at x
  split at x
  · rename_i q
    exact ⟨q.1, q.2, rfl, x⟩
  · cases x
theorem if_ok_t {c : Prop} [Decidable c] {A B : Fn ρ} (X : (if c then A else B) = some R) (hc : c) : A = some R := by rwa [if_pos hc] at X
theorem if_ok_f {c : Prop} [Decidable c] {A B : Fn ρ} (X : (if c then A else B) = some R) (hc : ¬ c) : B = some R := by rwa [if_neg hc] at X
end FNS
