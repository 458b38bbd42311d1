/-! ===== contracts: from the picture h with the arguments av the method answers v and leaves the picture h' ===== -/
def aP (G : GG) (av : List Value) (h : AH) : Array Value → State → Prop := fun a U => a = av.toArray ∧ AU G U ∧ AR G h U.heap
def aQ (G : GG) (v : Option Value) (h' : AH) : Array Value → State → Outcome → State → Prop := fun _ _ o t => o = .returned v ∧ AR G h' t.heap
def aF (G : GG) : Addr → Prop := fun q => gB G ≤ q
def rmm (fr lc mc ms : Nat) : Room := { frames := fr, cells := mc, slots := ms, locals := lc }
def AMet (G : GG) (y : MethodName) (cc : ByteArray) (nL : Nat) (ret : Option FieldType) (fr lc mc ms : Nat) (av : List Value) (h : AH) (v : Option Value) (h' : AH) : Prop := Met G.1 y (Cond.code y cc nL ret :: lwG) (rmm fr lc mc ms) (aP G av h) (aQ G v h') mc ms (aF G)
abbrev eM (G : GG) (nL : Nat) (ret : Option FieldType) (ini : Bool) (fr lc mc ms : Nat) (v : Option Value) (h' : AH) : EE := (G, nL, ret, ini, rmm fr lc mc ms, fun below args s => MQ below (aQ G v h') args s mc ms (aF G))
def RtOk (ret : Option FieldType) (v : Option Value) : Prop := match v with
  | none => ret = none
  | some (.int x) => ret = some .int ∨ (ret = some .boolean ∧ (x = 0 ∨ x = 1))
  | some (.long _) => ret = some .long
  | some (.ref _) => ∃ C, ret = some (.object C)
  | some .null => ∃ C, ret = some (.object C)
  | _ => False
def RI (cc : ByteArray) (pc : Nat) (v : Option Value) : Prop := match v with
  | none => decode cc pc = .ok (.return_, 1)
  | some (.int _) => decode cc pc = .ok (.ireturn, 1)
  | some (.long _) => decode cc pc = .ok (.lreturn, 1)
  | some (.ref _) => decode cc pc = .ok (.areturn, 1)
  | some .null => decode cc pc = .ok (.areturn, 1)
  | _ => False
theorem w_ret {own : String} {cc : ByteArray} {pc : Nat} {lo : LO} {G : GG} {nL : Nat} {ret : Option FieldType} {ini : Bool} {fr lc mc ms k n : Nat} {v : Option Value} {h : AH} (hk : k ≤ mc) (hn : n ≤ ms) (hri : RI cc pc v) (hrt : RtOk ret v) : AW (eM G nL ret ini fr lc mc ms v h) own cc pc lo v.toList h k n := by
  intro p e s m args b me c Y ls H lc I
  refine W.widen hk hn ?_
  have hr : me.sig.returnType = ret := Y.2.2.2.1
  have hlk : me.locks = false := Y.2.2.2.2.1
  have hq : ∀ t : State, t.heap = H → s.WarmedH t.vm → aQ G v h args s (.returned v) t := fun t ht _ => ⟨rfl, by rw [ht]; exact I.2.1⟩
  have hf : ∀ q ∈ lc, aF G q.base := I.2.2
  have hrt : RtOk ret v := hrt
  cases v with
  | none => exact W.vret Y.1 Y.2.1 (hr.trans hrt) hq hf hri
  | some w =>
    cases w with
    | int x =>
      rcases hrt with z | ⟨z, z2⟩
      · exact W.iret Y.1 Y.2.1 (hr.trans z) hq hf hri
      · exact W.zret Y.1 Y.2.1 (hr.trans z) (nar_Z rfl z2).1 hq hf hri
    | long x => exact W.lret Y.1 Y.2.1 (hr.trans hrt) hq hf hri
    | ref x =>
      obtain ⟨C, z⟩ := hrt
      exact W.aret Y.1 Y.2.1 (hr.trans z) (Or.inl ⟨C, rfl⟩) (Or.inr ⟨x, rfl⟩) hq hf hri
    | null =>
      obtain ⟨C, z⟩ := hrt
      exact W.aret Y.1 Y.2.1 (hr.trans z) (Or.inl ⟨C, rfl⟩) (Or.inl rfl) hq hf hri
    | _ => exact hrt.elim
section RET
variable {own : String} {cc : ByteArray} {pc : Nat} {lo : LO} {G : GG} {nL : Nat} {ini : Bool} {fr lc mc ms k n : Nat} {h : AH}
theorem r_retV {R : Unit × AH} (hd : decode cc pc = .ok (.return_, 1)) (hk : k ≤ mc) (hn : n ≤ ms) (X : (some ((), h) : Fn Unit) = some R) : AW (eM G nL none ini fr lc mc ms none R.2) own cc pc lo [] h k n := by
  cases X
  exact w_ret (v := none) hk hn hd rfl
theorem r_retL {R : Int64 × AH} {x : Int64} (hd : decode cc pc = .ok (.lreturn, 1)) (hk : k ≤ mc) (hn : n ≤ ms) (X : (some (x, h) : Fn Int64) = some R) : AW (eM G nL (some .long) ini fr lc mc ms (some (.long R.1)) R.2) own cc pc lo [.long x] h k n := by
  cases X
  exact w_ret (v := some (.long x)) hk hn hd rfl
theorem r_retI {R : Int32 × AH} {x : Int32} (hd : decode cc pc = .ok (.ireturn, 1)) (hk : k ≤ mc) (hn : n ≤ ms) (X : (some (x, h) : Fn Int32) = some R) : AW (eM G nL (some .int) ini fr lc mc ms (some (.int R.1)) R.2) own cc pc lo [.int x] h k n := by
  cases X
  exact w_ret (v := some (.int x)) hk hn hd (Or.inl rfl)
theorem r_retZ {R : Int32 × AH} {x : Int32} (hd : decode cc pc = .ok (.ireturn, 1)) (hk : k ≤ mc) (hn : n ≤ ms) (X : ck (x = 0 ∨ x = 1) (some (x, h) : Fn Int32) = some R) : AW (eM G nL (some .boolean) ini fr lc mc ms (some (.int R.1)) R.2) own cc pc lo [.int x] h k n := by
  obtain ⟨hz, X⟩ := ck_ok X
  cases X
  exact w_ret (v := some (.int x)) hk hn hd (Or.inr ⟨rfl, hz⟩)
theorem r_ret0 {R : Int32 × AH} (hd : decode cc pc = .ok (.ireturn, 1)) (hk : k ≤ mc) (hn : n ≤ ms) (X : (some (0, h) : Fn Int32) = some R) : AW (eM G nL (some .boolean) ini fr lc mc ms (some (.int R.1)) R.2) own cc pc lo [.int 0] h k n := by
  cases X
  exact w_ret (v := some (.int 0)) hk hn hd (Or.inr ⟨rfl, Or.inl rfl⟩)
theorem r_ret1 {R : Int32 × AH} (hd : decode cc pc = .ok (.ireturn, 1)) (hk : k ≤ mc) (hn : n ≤ ms) (X : (some (1, h) : Fn Int32) = some R) : AW (eM G nL (some .boolean) ini fr lc mc ms (some (.int R.1)) R.2) own cc pc lo [.int 1] h k n := by
  cases X
  exact w_ret (v := some (.int 1)) hk hn hd (Or.inr ⟨rfl, Or.inr rfl⟩)
theorem r_retR {R : Option Nat × AH} {x : Nat} {C : String} (hd : decode cc pc = .ok (.areturn, 1)) (hk : k ≤ mc) (hn : n ≤ ms) (X : (some (some x, h) : Fn (Option Nat)) = some R) : AW (eM G nL (some (.object C)) ini fr lc mc ms (some (rf G R.1)) R.2) own cc pc lo [.ref (gB G + x)] h k n := by
  cases X
  exact w_ret (v := some (.ref (gB G + x))) hk hn hd ⟨C, rfl⟩
theorem r_retN {R : Option Nat × AH} {C : String} (hd : decode cc pc = .ok (.areturn, 1)) (hk : k ≤ mc) (hn : n ≤ ms) (X : (some (none, h) : Fn (Option Nat)) = some R) : AW (eM G nL (some (.object C)) ini fr lc mc ms (some (rf G R.1)) R.2) own cc pc lo [.null] h k n := by
  cases X
  exact w_ret (v := some .null) hk hn hd ⟨C, rfl⟩
end RET
theorem met_ofWF {l : Launch} {y : MethodName} {ws ws' : List Cond} {rm : Room} {Pc : Array Value → State → Prop} {Qc : Array Value → State → Outcome → State → Prop} {mc ms : Nat} {free : Addr → Prop} {cc : ByteArray} {maxL : Nat} {ret : Option FieldType}
    (hy : plainFor y = true) (hw : ws = Cond.code y cc maxL ret :: ws')
    (body : ∀ p e s m args below meth c s₁, BodyLoose p l y (headSpec ws rm) cc maxL ret e s m args below meth c s₁ → c.maxLocals = maxL → Pc args s →
      W p l e (headSpec ws rm).room s m args below meth c s.heap [] 0 0 (MQ below Qc args s mc ms free) (entryFrame m args maxL)) : Met l y ws rm Pc Qc mc ms free := by
  refine MetFree.of_bodySF (code := cc) (maxLocals := maxL) (ret := ret) hy ?_ ?_
  · intro args s m h hn
    obtain ⟨meth, c, h1, h2, h3, h4, h5, h6, -, -⟩ := Cond.code_spec hn (atoms_spec (ws := ws) h _ (by rw [hw]; exact List.mem_cons_self))
    exact ⟨meth, c, h1, h2, h3, h4, h5, h6⟩
  · intro p e s m args below meth c s₁ B hml hP _
    have hh0 : s₁.heap = s.heap := by rw [B.state]; rfl
    obtain ⟨t, a1, o, b1, b2, b3⟩ := body p e s m args below meth c s₁ B hml hP s₁ hh0 (Stand.of_body B)
    exact ⟨t, o, a1, b1, b2, ⟨b3.1, b3.2⟩⟩
theorem amet_of {G : GG} {y : MethodName} {cc : ByteArray} {nL : Nat} {ret : Option FieldType} (ini : Bool) {fr lc mc ms : Nat} {av : List Value} {h : AH} {v : Option Value} {h' : AH} (lo : LO) (hy : plainFor y = true) (hni : ini = true → y.name = "<init>") (hlen : (lg_sl av).length ≤ nL) (hlo : asc 0 lo = lv_args 0 av) (hll : lo.length ≤ nL)
    (K : AW (eM G nL ret ini fr lc mc ms v h') y.cls cc 0 lo [] h 0 0) : AMet G y cc nL ret fr lc mc ms av h v h' := by
  refine met_ofWF (cc := cc) (maxL := nL) (ret := ret) hy rfl ?_
  intro p e s m args below meth c s₁ B hml hv
  obtain ⟨rfl, hU, hR⟩ := hv
  have hts := atoms_spec (ws := Cond.code y cc nL ret :: lwG) B.pre
  have hl := lv_entry av (n := nL) hlen
  rw [lg_entry_eq]
  refine K p e s m _ below meth c ⟨B.exec, B.bytes, hml, B.returns, B.notSynchronized, fun z => ?_, findClass_of_methodNamed B.named, fun w hw => hts w (List.mem_cons_of_mem _ hw), hU⟩ _ s.heap [] ⟨⟨by rw [hlo]; exact hl, hll⟩, hR, fun _ z => by cases z⟩
  rw [(name_of_methodNamed B.named B.method).1]
  exact hni z
theorem gd_in {y : MethodName} {bytes : ByteArray} {maxL : Nat} {ret : Option FieldType} (hc : Cond.code y bytes maxL ret ∈ lwG) : GoodIn lwG (Cond.code y bytes maxL ret :: lwG) := by
  have key : ∀ w ∈ lwG, w ∈ lwG ∧ ((w.onTables && w.keeps) = true ∨ ∃ ty, w = .arrayClass ty) := fun w hw => ⟨hw, good_spec (List.mem_filter.mp hw).2⟩
  intro w hw
  rcases List.mem_cons.mp hw with rfl | hw
  · exact key _ hc
  · exact key _ hw
theorem aP_blind (G : GG) (av : List Value) (h : AH) : FrameBlind (aP G av h) := fun a U g mk q => ⟨q.1, q.2.1.same rfl, q.2.2⟩
def LkM (own : String) (idx : Nat) (y : MethodName) (bytes : ByteArray) (maxL : Nat) (ret : Option FieldType) (np : Nat) : Prop :=
  (Cond.methodLink own idx y ∈ lwG ∨ ∃ host, Cond.methodLinkNest own idx y host ∈ nwL) ∧ Cond.initialized y.cls ∈ lwG ∧ Cond.code y bytes maxL ret ∈ lwG ∧ (y.cls ≠ "java/lang/invoke/MethodHandle" ∧ y.cls ≠ "java/lang/invoke/VarHandle" ∧ (parseMethodDescriptor y.desc).map (fun d => d.parameters.length) = some np)
section AWC
variable {E : EE} {own : String} {cc : ByteArray} {pc : Nat} {lo lo' : LO} {st : List Value} {h h' : AH} {k n : Nat} {ρ : Type} {R : ρ × AH} {y : MethodName} {bytes : ByteArray} {maxL np idx fr lc mc ms : Nat} {ret : Option FieldType} {v : Option Value}
theorem a_run {p : Program} {e : Env} {s : State} {m : MethodId} {args : Array Value} {b : List Frame} {me : Method} {c : Code} {ls : Array Slot} {H : Heap} {lcs : List Loc} {st0 : List Value} {a : Array Value}
    (Y : CX E own cc p s m args me c) (I : CI E lo h ls H lcs) (run : va_Run p E.1.1 e E.2.2.2.2.1 s m args b me c H lcs k n mc ms (F0 m pc ls st0) st (aQ E.1 v h' a) (aF E.1))
    (K : AW E own cc (pc + 3) lo (v.toList ++ st) h' (k + mc) (n + ms)) : W p E.1.1 e E.2.2.2.2.1 s m args b me c H lcs k n (E.2.2.2.2.2 b args s) (F0 m pc ls st0) := by
  intro T hT X
  obtain ⟨v', st₀, t, T', L, h0, X', hL, e1, e2, ⟨hv, hAR⟩, go⟩ := run T hT X
  cases hv
  obtain ⟨t2, a1, b1⟩ := K p e s m args b me c Y ls T'.heap (lcs ++ L) ⟨I.1, by rw [e1]; exact hAR, fun q hq => by
    rcases List.mem_append.mp hq with z | z
    · exact I.2.2 q z
    · exact hL q z⟩ T' rfl X'
  exact ⟨t2, go t2 a1, b1⟩
theorem r_callS (pc' : Nat) (av : List Value) (hd : decode cc pc = .ok (.invokestatic idx, 3)) (hp : pc + 3 = pc') (lk : LkM own idx y bytes maxL ret np ∧ Cond.static y ∈ lwG) (hM : AMet E.1 y bytes maxL ret fr lc mc ms av h v h') {st0 : List Value} (hs0 : av.reverse ++ st = st0) (hn : av.length = np) (hR : fr + 1 ≤ E.2.2.2.2.1.frames ∧ 8 + (maxL + 11) + lc ≤ E.2.2.2.2.1.locals) (hro : (st.map fun v => v.category).sum ≤ 8) (hf : k + mc ≤ E.2.2.2.2.1.cells ∧ n + ms ≤ E.2.2.2.2.1.slots)
    (K : AW E own cc pc' lo (v.toList ++ st) h' (k + mc) (n + ms)) : AW E own cc pc lo st0 h k n := by
  subst hp
  subst hs0
  intro p e s m args b me c Y ls H lc I
  obtain ⟨⟨l1, l2, l3, l4⟩, hst⟩ := lk
  have hts := Y.2.2.2.2.2.2.2.1
  have hU : AU E.1 s := Y.2.2.2.2.2.2.2.2
  have hpre : PreS s H (aP E.1 av h) av := ⟨aP_blind _ _ _, fun U hUh hW => ⟨rfl, hU.warm hW, by rw [hUh]; exact I.2.1⟩⟩
  have S : CallFix p m c cc E.2.1 s args lwG own := ⟨Y.1, Y.2.1, Y.2.2.1, Y.2.2.2.2.2.2.1, hts⟩
  rcases l1 with l1 | ⟨host, l1⟩
  · exact a_run Y I (va_runS S hM ⟨callB_of np hts (gd_in l3) rfl rfl rfl (hts _ l2) (hts _ l1) l4 hR, hts _ hst⟩ hpre rfl hn I.1.1.1 rfl (lv_room hro) hd hf) K
  · exact a_run Y I (va_runSN S hM ⟨va_cnB np hts (gd_in l3) rfl rfl rfl (hU.2.1 _ l1) (hts _ l2) l4 hR, hts _ hst, trivial⟩ hpre rfl hn I.1.1.1 rfl (lv_room hro) hd hf) K
theorem a_recv {G : GG} {s : State} {H : Heap} {b ci : Nat} {r : vw_C} (x : AR G h H) (hU : AU G s) (hs : Hs h b = some (ci, 0)) (hc : vwCl[ci]? = some r) (hci : ci < 100) : ∃ cellB : Cell, H[gB G + b]? = some cellB ∧ cellB.vm.isStatics = false ∧ s.vm.findClass r.1 = some cellB.cls := by
  have hcx := x.2.2 b _ hs
  unfold a_cell at hcx
  rw [if_pos hci] at hcx
  obtain ⟨r', hr', cell, g1, g2, g3, -⟩ := hcx
  exact ⟨cell, g1, by rw [g3]; rfl, by rw [g2]; exact (hU.1.1 ci r hc).2.1⟩
theorem r_callV (pc' : Nat) (av : List Value) {b0 ci : Nat} {r : vw_C} (hd : decode cc pc = .ok (.invokevirtual idx, 3)) (hp : pc + 3 = pc') (lk : LkM own idx y bytes maxL ret np ∧ (Cond.instanceMethod y ∈ lwG ∧ Cond.selects r.1 y y ∈ lwG) ∧ vwCl[ci]? = some r ∧ ci < 100) (hs : Hs h b0 = some (ci, 0)) (hM : AMet E.1 y bytes maxL ret fr lc mc ms (.ref (gB E.1 + b0) :: av) h v h') {st0 : List Value} (hs0 : av.reverse ++ .ref (gB E.1 + b0) :: st = st0) (hn : av.length = np) (hR : fr + 1 ≤ E.2.2.2.2.1.frames ∧ 8 + (maxL + 11) + lc ≤ E.2.2.2.2.1.locals) (hro : (st.map fun v => v.category).sum ≤ 8) (hf : k + mc ≤ E.2.2.2.2.1.cells ∧ n + ms ≤ E.2.2.2.2.1.slots)
    (K : AW E own cc pc' lo (v.toList ++ st) h' (k + mc) (n + ms)) : AW E own cc pc lo st0 h k n := by
  subst hp
  subst hs0
  intro p e s m args b me c Y ls H lc I
  obtain ⟨⟨l1, l2, l3, l4⟩, hi, hc⟩ := lk
  have hts := Y.2.2.2.2.2.2.2.1
  have hU : AU E.1 s := Y.2.2.2.2.2.2.2.2
  have hpre : PreV s H r.1 (gB E.1 + b0) (aP E.1 (.ref (gB E.1 + b0) :: av) h) av := ⟨aP_blind _ _ _, a_recv I.2.1 hU hs hc.1 hc.2, fun U hUh hW => ⟨rfl, hU.warm hW, by rw [hUh]; exact I.2.1⟩⟩
  have S : CallFix p m c cc E.2.1 s args lwG own := ⟨Y.1, Y.2.1, Y.2.2.1, Y.2.2.2.2.2.2.1, hts⟩
  rcases l1 with l1 | ⟨host, l1⟩
  · exact a_run Y I (va_runV S hM ⟨callB_of np hts (gd_in l3) rfl rfl rfl (hts _ l2) (hts _ l1) l4 hR, hts _ hi.1, hts _ hi.2⟩ hpre rfl hn I.1.1.1 rfl (lv_room hro) hd hf) K
  · exact a_run Y I (va_runVN S hM ⟨va_cnB np hts (gd_in l3) rfl rfl rfl (hU.2.1 _ l1) (hts _ l2) l4 hR, hts _ hi.1, hts _ hi.2⟩ hpre rfl hn I.1.1.1 rfl (lv_room hro) hd hf) K
theorem r_callI (pc' : Nat) (av : List Value) {b0 : Nat} (hd : decode cc pc = .ok (.invokespecial idx, 3)) (hp : pc + 3 = pc') (lk : LkM own idx y bytes maxL none np ∧ y.name = "<init>" ∧ Cond.instanceMethod y ∈ lwG) (hM : AMet E.1 y bytes maxL none fr lc mc ms (.ref (gB E.1 + b0) :: av) h v h') {st0 : List Value} (hs0 : av.reverse ++ .ref (gB E.1 + b0) :: st = st0) (hn : av.length = np) (hR : fr + 1 ≤ E.2.2.2.2.1.frames ∧ 8 + (maxL + 11) + lc ≤ E.2.2.2.2.1.locals) (hro : (st.map fun v => v.category).sum ≤ 8) (hf : k + mc ≤ E.2.2.2.2.1.cells ∧ n + ms ≤ E.2.2.2.2.1.slots)
    (K : AW E own cc pc' lo (v.toList ++ st) h' (k + mc) (n + ms)) : AW E own cc pc lo st0 h k n := by
  subst hp
  subst hs0
  intro p e s m args b me c Y ls H lc I
  obtain ⟨⟨l1, l2, l3, l4⟩, hi⟩ := lk
  have hts := Y.2.2.2.2.2.2.2.1
  have hU : AU E.1 s := Y.2.2.2.2.2.2.2.2
  have hpre : PreS s H (aP E.1 (.ref (gB E.1 + b0) :: av) h) (.ref (gB E.1 + b0) :: av) := ⟨aP_blind _ _ _, fun U hUh hW => ⟨rfl, hU.warm hW, by rw [hUh]; exact I.2.1⟩⟩
  have S : CallFix p m c cc E.2.1 s args lwG own := ⟨Y.1, Y.2.1, Y.2.2.1, Y.2.2.2.2.2.2.1, hts⟩
  rcases l1 with l1 | ⟨host, l1⟩
  · exact a_run Y I (va_runI S hM ⟨callB_of np hts (gd_in l3) rfl rfl rfl (hts _ l2) (hts _ l1) l4 hR, hi.1, hts _ hi.2⟩ hpre rfl hn I.1.1.1 rfl (lv_room hro) hd hf) K
  · exact a_run Y I (va_runIN S hM ⟨va_cnB np hts (gd_in l3) rfl rfl rfl (hU.2.1 _ l1) (hts _ l2) l4 hR, hi.1, hts _ hi.2⟩ hpre rfl hn I.1.1.1 rfl (lv_room hro) hd hf) K
/-- the script -/
theorem r_xI (pc' : Nat) {b0 L : Nat} {xs : Nat → Int32} {i : Int32} {F : Int32 → Fn ρ} (hd : decode cc pc = .ok (.iaload, 1)) (hp : pc + 1 = pc') (hX : va_X b0 L xs E.1.2.1 E.1.2.1.heap) (X : xI L xs i F = some R) (K : ∀ x, F x = some R → AW E own cc pc' lo (.int x :: st) h k n) : AW E own cc pc lo (.int i :: .ref b0 :: st) h k n := by
  subst hp
  obtain ⟨hin, X⟩ := ck_ok X
  intro p e s m args b me c Y ls H lc I
  obtain ⟨scr, h1, h2, h3, h4, h5⟩ := hX
  have hU : AU E.1 s := Y.2.2.2.2.2.2.2.2
  have hlt : i.toNatClampNeg < L := Nat.not_le.mp fun q => hin (Or.inr q)
  have hbl : b0 < gB E.1 := (Array.getElem?_eq_some_iff.mp h1).1
  exact W.iald (v := .int (xs i.toNatClampNeg)) Y.1 Y.2.1 (by rw [I.2.1.2.1 b0 hbl]; exact h1) (State.isArrayOf_alike hU.2.2.1 h2) h3 (by rw [h4]; exact hin) (h5 _ hlt) rfl rfl hd (K _ X p e s m args b me c Y ls H lc I)
theorem r_xN (pc' : Nat) {b0 L : Nat} {xs : Nat → Int32} (hd : decode cc pc = .ok (.arraylength, 1)) (hp : pc + 1 = pc') (hX : va_X b0 L xs E.1.2.1 E.1.2.1.heap) (K : AW E own cc pc' lo (.int (Int32.ofNat L) :: st) h k n) : AW E own cc pc lo (.ref b0 :: st) h k n := by
  subst hp
  intro p e s m args b me c Y ls H lc I
  obtain ⟨scr, h1, h2, h3, h4, h5⟩ := hX
  have hU : AU E.1 s := Y.2.2.2.2.2.2.2.2
  have hbl : b0 < gB E.1 := (Array.getElem?_eq_some_iff.mp h1).1
  exact W.alen (n := Int32.ofNat L) Y.1 Y.2.1 (by rw [I.2.1.2.1 b0 hbl]; exact h1) (State.isArrayOf_alike hU.2.2.1 h2) (by rw [h4] <;> rfl) rfl rfl hd (K p e s m args b me c Y ls H lc I)
/-- a constant table that a static field holds -/
theorem r_gets (pc' : Nat) {C nm ds : String} {t : Nat} (hd : decode cc pc = .ok (.getstatic idx, 3)) (hp : pc + 3 = pc') (hZ : va_Z C nm ds (.ref t) (aF E.1) E.1.2.1 E.1.2.1.heap) (hw : Cond.fieldLink own idx C nm ds ∈ lwG ∨ ∃ host, Cond.fieldLinkNest own idx C nm ds host ∈ nwL) (K : AW E own cc pc' lo (.ref t :: st) h k n) : AW E own cc pc lo st h k n := by
  subst hp
  intro p e s m args b me c Y ls H lc I
  have hts := Y.2.2.2.2.2.2.2.1
  have hU : AU E.1 s := Y.2.2.2.2.2.2.2.2
  obtain ⟨cf, kf, fi, f, a, cell, h1, h2, h3, h4, h5, h6, h7, h8⟩ := hZ.moved hU.2.2.1
  have hal : a < gB E.1 := (Array.getElem?_eq_some_iff.mp h5).1
  have h5' : H[a]? = some cell := by rw [I.2.1.2.1 a hal]; exact h5
  have K := K p e s m args b me c Y ls H lc I
  rcases hw with hw | ⟨host, hw⟩
  · exact W.gets Y.1 Y.2.1 Y.2.2.2.2.2.2.1 (hts _ hw) h1 h2 h3 h4 h5' (fun z => by rw [z] at h6; cases h6) h7 rfl hd K
  · exact va_WgetsN Y.1 Y.2.1 Y.2.2.2.2.2.2.1 (va_Nw.use rfl (hU.2.1 _ hw)) h1 h2 h3 h4 h5' (fun z => by rw [z] at h6; cases h6) h7 rfl hd K
theorem r_tI (pc' : Nat) {t N : Nat} {f : Nat → Int32} {i : Int32} {F : Int32 → Fn ρ} (hd : decode cc pc = .ok (.iaload, 1)) (hp : pc + 1 = pc') (hT : va_T .int t N (fun j => .int (f j)) (aF E.1) E.1.2.1 E.1.2.1.heap) (X : xI N f i F = some R) (K : ∀ x, F x = some R → AW E own cc pc' lo (.int x :: st) h k n) : AW E own cc pc lo (.int i :: .ref t :: st) h k n := by
  subst hp
  obtain ⟨hin, X⟩ := ck_ok X
  intro p e s m args b me c Y ls H lc I
  have hU : AU E.1 s := Y.2.2.2.2.2.2.2.2
  obtain ⟨cell, h1, h2, h3, h4, h5, h6, h7⟩ := hT
  have hlt : i.toNatClampNeg < N := Nat.not_le.mp fun q => hin (Or.inr q)
  have hbl : t < gB E.1 := (Array.getElem?_eq_some_iff.mp h1).1
  exact W.iald (v := .int (f i.toNatClampNeg)) Y.1 Y.2.1 (by rw [I.2.1.2.1 t hbl]; exact h1) (State.isArrayOf_alike hU.2.2.1 h2) h3 (by intro q; rcases q with q | q; exact hin (Or.inl q); omega) (h6 _ hlt) rfl rfl hd (K _ X p e s m args b me c Y ls H lc I)
theorem r_tN (pc' : Nat) {t N : Nat} {f : Nat → Int32} (hd : decode cc pc = .ok (.arraylength, 1)) (hp : pc + 1 = pc') (hT : va_T .int t N (fun j => .int (f j)) (aF E.1) E.1.2.1 E.1.2.1.heap) (K : AW E own cc pc' lo (.int (Int32.ofNat N) :: st) h k n) : AW E own cc pc lo (.ref t :: st) h k n := by
  subst hp
  intro p e s m args b me c Y ls H lc I
  have hU : AU E.1 s := Y.2.2.2.2.2.2.2.2
  obtain ⟨cell, h1, h2, h3, h4, h5, h6, h7⟩ := hT
  have hbl : t < gB E.1 := (Array.getElem?_eq_some_iff.mp h1).1
  exact W.alen (n := Int32.ofNat N) Y.1 Y.2.1 (by rw [I.2.1.2.1 t hbl]; exact h1) (State.isArrayOf_alike hU.2.2.1 h2) h5 rfl rfl hd (K p e s m args b me c Y ls H lc I)
end AWC
