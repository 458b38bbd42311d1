/-! THE CLAIM OUT OF ONE WALK OF THE LAW'S BODY. Your part is whole_start (and what it stands on); all else here is the same for every law, but numbers. -/
def R_law : String := "RatioStreamsLaw"
def lw_P (b : Addr) (xs : List Int32) (args : Array Value) (s : State) : Prop := args = #[.ref b] ∧ s.IntsAt b xs ∧ xs.length ≤ 5 ∧ (Jvm.Cond.and given_1 narrow_1).before args s = true
def lw_Q (_ : Array Value) (s : State) (o : Outcome) (t : State) : Prop := o = .returned (some (.int 1)) ∧ Framed s o t [] 600000 7302250
def lw_Z (below : List Frame) (a : Array Value) (s : State) : State → Prop := fun t => ∃ o, t.status = .running ∧ Ended t below o ∧ lw_Q a s o t
/-- the law's own end, with 1 on the stack, nothing written that was there before, its room as the claim has it -/
theorem lw_ret {p : Program} {l : Launch} {e : Env} {s : State} {m : MethodId} {below : List Frame} {meth : Method} {c : Code} {b : Nat} (hx : p.tables.exec = Jvm.exec) (hb : c.code = code) (hr : meth.sig.returnType = ret) (hlocks : meth.locks = false) {pc : Nat} {H : Heap} {ls : Array Slot} (hdg : decode code pc = .ok (.ireturn, 1)) : W p l e room_1 s m #[Value.ref b] below meth c H [] 600000 7302250 (lw_Z below #[Value.ref b] s) (F0 m pc ls [.int 1]) := by
  intro T hT X
  obtain ⟨fs, hret, hrun, hended, hW, hframe⟩ := X.leave (v := some (.int 1)) (hlocks := hlocks) (fun h => by rw [hr] at h; cases h)
  have hmeth' : T.vm.method? m = some meth := X.method'
  refine ⟨T.setFrames fs, ?_, .returned (some (.int 1)), hrun, hended, rfl, ⟨_, rfl⟩, hW, hframe⟩
  jvm_step X.here [X.here.top, hx, hb, hdg, hmeth', hr, ret, narrow_b1]
  (try refine ⟨rfl, ?_⟩); (try refine ⟨rfl, ?_⟩)
  first | (intro acts; rw [hret _ acts rfl rfl rfl]) | rw [hret _ _ rfl rfl rfl]
  exact Steps.refl _
/-- what holds at the law's entry: the machine, the code, the tables' words (any of lw_tbl by 'hts w (by decide +kernel)'), the script of L ints xs at the cell b, what the Statement gives of the start (any of its parts by flat_of_before) -/
def lw_At (p : Program) (s : State) (m : MethodId) (meth : Method) (c : Code) (b L : Nat) (xs : Nat → Int32) : Prop :=
  p.tables.exec = Jvm.exec ∧ c.code = code ∧ meth.sig.returnType = ret ∧ c.maxLocals = 4 ∧ s.vm.findClass R_law = some m.cls ∧ (∀ w ∈ lw_tbl, w.before #[Value.ref b] s = true) ∧ va_X b L xs s s.heap ∧ b < s.heap.size ∧ meth.locks = false ∧ (Jvm.Cond.and given_1 narrow_1).before #[Value.ref b] s = true
theorem lw_retA {p : Program} {l : Launch} {e : Env} {s : State} {m : MethodId} {below : List Frame} {meth : Method} {c : Code} {args : Array Value} (hx : p.tables.exec = Jvm.exec) (hb : c.code = code) (hr : meth.sig.returnType = ret) (hlocks : meth.locks = false) {pc : Nat} {H : Heap} {ls : Array Slot} (hdg : decode code pc = .ok (.ireturn, 1)) : W p l e room_1 s m args below meth c H [] 600000 7302250 (lw_Z below args s) (F0 m pc ls [.int 1]) := by
  intro T hT X
  obtain ⟨fs, hret, hrun, hended, hW, hframe⟩ := X.leave (v := some (.int 1)) (hlocks := hlocks) (fun h => by rw [hr] at h; cases h)
  have hmeth' : T.vm.method? m = some meth := X.method'
  refine ⟨T.setFrames fs, ?_, .returned (some (.int 1)), hrun, hended, rfl, ⟨_, rfl⟩, hW, hframe⟩
  jvm_step X.here [X.here.top, hx, hb, hdg, hmeth', hr, ret, narrow_b1]
  (try refine ⟨rfl, ?_⟩); (try refine ⟨rfl, ?_⟩)
  first | (intro acts; rw [hret _ acts rfl rfl rfl]) | rw [hret _ _ rfl rfl rfl]
  exact Steps.refl _
abbrev eL (G : GG) : EE := (G, 4, some .boolean, false, room_1, fun below args s t => s = G.2.1 → lw_Z below args s t)
theorem r_retLaw {pc : Nat} {lo : LO} {G : GG} {k n : Nat} {h : AH} {R : Int32 × AH} {x : Int32} (hd : decode cL_law pc = .ok (.ireturn, 1)) (hk : k ≤ 600000) (hn : n ≤ 7302250) (hR1 : R.1 = 1) (X : (some (x, h) : Fn Int32) = some R) : AW (eL G) RL cL_law pc lo [.int x] h k n := by
  cases X
  obtain rfl : x = 1 := hR1
  intro p e s m args b me c Y ls H lc I
  by_cases hs : s = G.2.1
  · have K : W p G.1 e room_1 s m args b me c H lc k n (lw_Z b args s) (F0 m pc ls [.int 1]) := by
      refine W.widen hk hn (va_forget (fun q hq => ?_) (lw_retA Y.1 Y.2.1 Y.2.2.2.1 Y.2.2.2.2.1 hd))
      rw [hs]
      exact I.2.2 q hq
    intro T hT X
    obtain ⟨t, a1, b1⟩ := K T hT X
    exact ⟨t, a1, fun _ => b1⟩
  · intro T hT X
    exact ⟨_, Steps.refl _, fun z => absurd z hs⟩
theorem dL_law_0 : decode cL_law 0 = .ok (.new 7, 3) := by decide +kernel
theorem dL_law_3 : decode cL_law 3 = .ok (.dup, 1) := by decide +kernel
theorem dL_law_4 : decode cL_law 4 = .ok (.invokespecial 9, 3) := by decide +kernel
theorem dL_law_7 : decode cL_law 7 = .ok (.astore_n 1, 1) := by decide +kernel
theorem dL_law_8 : decode cL_law 8 = .ok (.new 10, 3) := by decide +kernel
theorem dL_law_11 : decode cL_law 11 = .ok (.dup, 1) := by decide +kernel
theorem dL_law_12 : decode cL_law 12 = .ok (.invokespecial 12, 3) := by decide +kernel
theorem dL_law_15 : decode cL_law 15 = .ok (.astore_n 2, 1) := by decide +kernel
theorem dL_law_16 : decode cL_law 16 = .ok (.iconst 0, 1) := by decide +kernel
theorem dL_law_17 : decode cL_law 17 = .ok (.istore_n 3, 1) := by decide +kernel
theorem dL_law_18 : decode cL_law 18 = .ok (.iload_n 3, 1) := by decide +kernel
theorem dL_law_19 : decode cL_law 19 = .ok (.aload_n 0, 1) := by decide +kernel
theorem dL_law_20 : decode cL_law 20 = .ok (.arraylength, 1) := by decide +kernel
theorem dL_law_21 : decode cL_law 21 = .ok (.iconst 5, 1) := by decide +kernel
theorem dL_law_22 : decode cL_law 22 = .ok (.isub, 1) := by decide +kernel
theorem dL_law_23 : decode cL_law 23 = .ok (.if_icmp .gt 871, 3) := by decide +kernel
theorem dL_law_26 : decode cL_law 26 = .ok (.aload_n 0, 1) := by decide +kernel
theorem dL_law_27 : decode cL_law 27 = .ok (.iload_n 3, 1) := by decide +kernel
theorem dL_law_28 : decode cL_law 28 = .ok (.iaload, 1) := by decide +kernel
theorem dL_law_29 : decode cL_law 29 = .ok (.bipush 31, 2) := by decide +kernel
theorem dL_law_31 : decode cL_law 31 = .ok (.iand, 1) := by decide +kernel
theorem dL_law_32 : decode cL_law 32 = .ok (.tableswitch 856 0 19 #[96, 190, 244, 278, 302, 346, 370, 404, 438, 462, 496, 530, 564, 598, 622, 656, 700, 754, 798, 832], 96) := by decide +kernel
theorem dL_law_128 : decode cL_law 128 = .ok (.aload_n 1, 1) := by decide +kernel
theorem dL_law_129 : decode cL_law 129 = .ok (.aload_n 0, 1) := by decide +kernel
theorem dL_law_130 : decode cL_law 130 = .ok (.iload_n 3, 1) := by decide +kernel
theorem dL_law_131 : decode cL_law 131 = .ok (.iconst 1, 1) := by decide +kernel
theorem dL_law_132 : decode cL_law 132 = .ok (.iadd, 1) := by decide +kernel
theorem dL_law_133 : decode cL_law 133 = .ok (.iaload, 1) := by decide +kernel
theorem dL_law_134 : decode cL_law 134 = .ok (.i2l, 1) := by decide +kernel
theorem dL_law_135 : decode cL_law 135 = .ok (.bipush 32, 2) := by decide +kernel
theorem dL_law_137 : decode cL_law 137 = .ok (.lshl, 1) := by decide +kernel
theorem dL_law_138 : decode cL_law 138 = .ok (.aload_n 0, 1) := by decide +kernel
theorem dL_law_139 : decode cL_law 139 = .ok (.iload_n 3, 1) := by decide +kernel
theorem dL_law_140 : decode cL_law 140 = .ok (.iconst 2, 1) := by decide +kernel
theorem dL_law_141 : decode cL_law 141 = .ok (.iadd, 1) := by decide +kernel
theorem dL_law_142 : decode cL_law 142 = .ok (.iaload, 1) := by decide +kernel
theorem dL_law_143 : decode cL_law 143 = .ok (.i2l, 1) := by decide +kernel
theorem dL_law_144 : decode cL_law 144 = .ok (.ldc2_w 13, 3) := by decide +kernel
theorem dL_law_147 : decode cL_law 147 = .ok (.land, 1) := by decide +kernel
theorem dL_law_148 : decode cL_law 148 = .ok (.lor, 1) := by decide +kernel
theorem dL_law_149 : decode cL_law 149 = .ok (.aload_n 0, 1) := by decide +kernel
theorem dL_law_150 : decode cL_law 150 = .ok (.iload_n 3, 1) := by decide +kernel
theorem dL_law_151 : decode cL_law 151 = .ok (.iconst 3, 1) := by decide +kernel
theorem dL_law_152 : decode cL_law 152 = .ok (.iadd, 1) := by decide +kernel
theorem dL_law_153 : decode cL_law 153 = .ok (.iaload, 1) := by decide +kernel
theorem dL_law_154 : decode cL_law 154 = .ok (.i2l, 1) := by decide +kernel
theorem dL_law_155 : decode cL_law 155 = .ok (.bipush 32, 2) := by decide +kernel
theorem dL_law_157 : decode cL_law 157 = .ok (.lshl, 1) := by decide +kernel
theorem dL_law_158 : decode cL_law 158 = .ok (.aload_n 0, 1) := by decide +kernel
theorem dL_law_159 : decode cL_law 159 = .ok (.iload_n 3, 1) := by decide +kernel
theorem dL_law_160 : decode cL_law 160 = .ok (.iconst 4, 1) := by decide +kernel
theorem dL_law_161 : decode cL_law 161 = .ok (.iadd, 1) := by decide +kernel
theorem dL_law_162 : decode cL_law 162 = .ok (.iaload, 1) := by decide +kernel
theorem dL_law_163 : decode cL_law 163 = .ok (.i2l, 1) := by decide +kernel
theorem dL_law_164 : decode cL_law 164 = .ok (.ldc2_w 13, 3) := by decide +kernel
theorem dL_law_167 : decode cL_law 167 = .ok (.land, 1) := by decide +kernel
theorem dL_law_168 : decode cL_law 168 = .ok (.lor, 1) := by decide +kernel
theorem dL_law_169 : decode cL_law 169 = .ok (.invokevirtual 15, 3) := by decide +kernel
theorem dL_law_172 : decode cL_law 172 = .ok (.aload_n 2, 1) := by decide +kernel
theorem dL_law_173 : decode cL_law 173 = .ok (.aload_n 0, 1) := by decide +kernel
theorem dL_law_174 : decode cL_law 174 = .ok (.iload_n 3, 1) := by decide +kernel
theorem dL_law_175 : decode cL_law 175 = .ok (.iconst 1, 1) := by decide +kernel
theorem dL_law_176 : decode cL_law 176 = .ok (.iadd, 1) := by decide +kernel
theorem dL_law_177 : decode cL_law 177 = .ok (.iaload, 1) := by decide +kernel
theorem dL_law_178 : decode cL_law 178 = .ok (.i2l, 1) := by decide +kernel
theorem dL_law_179 : decode cL_law 179 = .ok (.bipush 32, 2) := by decide +kernel
theorem dL_law_181 : decode cL_law 181 = .ok (.lshl, 1) := by decide +kernel
theorem dL_law_182 : decode cL_law 182 = .ok (.aload_n 0, 1) := by decide +kernel
theorem dL_law_183 : decode cL_law 183 = .ok (.iload_n 3, 1) := by decide +kernel
theorem dL_law_184 : decode cL_law 184 = .ok (.iconst 2, 1) := by decide +kernel
theorem dL_law_185 : decode cL_law 185 = .ok (.iadd, 1) := by decide +kernel
theorem dL_law_186 : decode cL_law 186 = .ok (.iaload, 1) := by decide +kernel
theorem dL_law_187 : decode cL_law 187 = .ok (.i2l, 1) := by decide +kernel
theorem dL_law_188 : decode cL_law 188 = .ok (.ldc2_w 13, 3) := by decide +kernel
theorem dL_law_191 : decode cL_law 191 = .ok (.land, 1) := by decide +kernel
theorem dL_law_192 : decode cL_law 192 = .ok (.lor, 1) := by decide +kernel
theorem dL_law_193 : decode cL_law 193 = .ok (.aload_n 0, 1) := by decide +kernel
theorem dL_law_194 : decode cL_law 194 = .ok (.iload_n 3, 1) := by decide +kernel
theorem dL_law_195 : decode cL_law 195 = .ok (.iconst 3, 1) := by decide +kernel
theorem dL_law_196 : decode cL_law 196 = .ok (.iadd, 1) := by decide +kernel
theorem dL_law_197 : decode cL_law 197 = .ok (.iaload, 1) := by decide +kernel
theorem dL_law_198 : decode cL_law 198 = .ok (.i2l, 1) := by decide +kernel
theorem dL_law_199 : decode cL_law 199 = .ok (.bipush 32, 2) := by decide +kernel
theorem dL_law_201 : decode cL_law 201 = .ok (.lshl, 1) := by decide +kernel
theorem dL_law_202 : decode cL_law 202 = .ok (.aload_n 0, 1) := by decide +kernel
theorem dL_law_203 : decode cL_law 203 = .ok (.iload_n 3, 1) := by decide +kernel
theorem dL_law_204 : decode cL_law 204 = .ok (.iconst 4, 1) := by decide +kernel
theorem dL_law_205 : decode cL_law 205 = .ok (.iadd, 1) := by decide +kernel
theorem dL_law_206 : decode cL_law 206 = .ok (.iaload, 1) := by decide +kernel
theorem dL_law_207 : decode cL_law 207 = .ok (.i2l, 1) := by decide +kernel
theorem dL_law_208 : decode cL_law 208 = .ok (.ldc2_w 13, 3) := by decide +kernel
theorem dL_law_211 : decode cL_law 211 = .ok (.land, 1) := by decide +kernel
theorem dL_law_212 : decode cL_law 212 = .ok (.lor, 1) := by decide +kernel
theorem dL_law_213 : decode cL_law 213 = .ok (.invokevirtual 19, 3) := by decide +kernel
theorem dL_law_216 : decode cL_law 216 = .ok (.lcmp, 1) := by decide +kernel
theorem dL_law_217 : decode cL_law 217 = .ok (.ifCond .eq 671, 3) := by decide +kernel
theorem dL_law_220 : decode cL_law 220 = .ok (.iconst 0, 1) := by decide +kernel
theorem dL_law_221 : decode cL_law 221 = .ok (.ireturn, 1) := by decide +kernel
theorem dL_law_222 : decode cL_law 222 = .ok (.aload_n 1, 1) := by decide +kernel
theorem dL_law_223 : decode cL_law 223 = .ok (.aload_n 0, 1) := by decide +kernel
theorem dL_law_224 : decode cL_law 224 = .ok (.iload_n 3, 1) := by decide +kernel
theorem dL_law_225 : decode cL_law 225 = .ok (.iconst 1, 1) := by decide +kernel
theorem dL_law_226 : decode cL_law 226 = .ok (.iadd, 1) := by decide +kernel
theorem dL_law_227 : decode cL_law 227 = .ok (.iaload, 1) := by decide +kernel
theorem dL_law_228 : decode cL_law 228 = .ok (.aload_n 0, 1) := by decide +kernel
theorem dL_law_229 : decode cL_law 229 = .ok (.iload_n 3, 1) := by decide +kernel
theorem dL_law_230 : decode cL_law 230 = .ok (.iconst 2, 1) := by decide +kernel
theorem dL_law_231 : decode cL_law 231 = .ok (.iadd, 1) := by decide +kernel
theorem dL_law_232 : decode cL_law 232 = .ok (.iaload, 1) := by decide +kernel
theorem dL_law_233 : decode cL_law 233 = .ok (.aload_n 0, 1) := by decide +kernel
theorem dL_law_234 : decode cL_law 234 = .ok (.iload_n 3, 1) := by decide +kernel
theorem dL_law_235 : decode cL_law 235 = .ok (.iconst 3, 1) := by decide +kernel
theorem dL_law_236 : decode cL_law 236 = .ok (.iadd, 1) := by decide +kernel
theorem dL_law_237 : decode cL_law 237 = .ok (.iaload, 1) := by decide +kernel
theorem dL_law_238 : decode cL_law 238 = .ok (.aload_n 0, 1) := by decide +kernel
theorem dL_law_239 : decode cL_law 239 = .ok (.iload_n 3, 1) := by decide +kernel
theorem dL_law_240 : decode cL_law 240 = .ok (.iconst 4, 1) := by decide +kernel
theorem dL_law_241 : decode cL_law 241 = .ok (.iadd, 1) := by decide +kernel
theorem dL_law_242 : decode cL_law 242 = .ok (.iaload, 1) := by decide +kernel
theorem dL_law_243 : decode cL_law 243 = .ok (.invokevirtual 20, 3) := by decide +kernel
theorem dL_law_246 : decode cL_law 246 = .ok (.aload_n 2, 1) := by decide +kernel
theorem dL_law_247 : decode cL_law 247 = .ok (.aload_n 0, 1) := by decide +kernel
theorem dL_law_248 : decode cL_law 248 = .ok (.iload_n 3, 1) := by decide +kernel
theorem dL_law_249 : decode cL_law 249 = .ok (.iconst 1, 1) := by decide +kernel
theorem dL_law_250 : decode cL_law 250 = .ok (.iadd, 1) := by decide +kernel
theorem dL_law_251 : decode cL_law 251 = .ok (.iaload, 1) := by decide +kernel
theorem dL_law_252 : decode cL_law 252 = .ok (.aload_n 0, 1) := by decide +kernel
theorem dL_law_253 : decode cL_law 253 = .ok (.iload_n 3, 1) := by decide +kernel
theorem dL_law_254 : decode cL_law 254 = .ok (.iconst 2, 1) := by decide +kernel
theorem dL_law_255 : decode cL_law 255 = .ok (.iadd, 1) := by decide +kernel
theorem dL_law_256 : decode cL_law 256 = .ok (.iaload, 1) := by decide +kernel
theorem dL_law_257 : decode cL_law 257 = .ok (.aload_n 0, 1) := by decide +kernel
theorem dL_law_258 : decode cL_law 258 = .ok (.iload_n 3, 1) := by decide +kernel
theorem dL_law_259 : decode cL_law 259 = .ok (.iconst 3, 1) := by decide +kernel
theorem dL_law_260 : decode cL_law 260 = .ok (.iadd, 1) := by decide +kernel
theorem dL_law_261 : decode cL_law 261 = .ok (.iaload, 1) := by decide +kernel
theorem dL_law_262 : decode cL_law 262 = .ok (.aload_n 0, 1) := by decide +kernel
theorem dL_law_263 : decode cL_law 263 = .ok (.iload_n 3, 1) := by decide +kernel
theorem dL_law_264 : decode cL_law 264 = .ok (.iconst 4, 1) := by decide +kernel
theorem dL_law_265 : decode cL_law 265 = .ok (.iadd, 1) := by decide +kernel
theorem dL_law_266 : decode cL_law 266 = .ok (.iaload, 1) := by decide +kernel
theorem dL_law_267 : decode cL_law 267 = .ok (.invokevirtual 24, 3) := by decide +kernel
theorem dL_law_270 : decode cL_law 270 = .ok (.lcmp, 1) := by decide +kernel
theorem dL_law_271 : decode cL_law 271 = .ok (.ifCond .eq 617, 3) := by decide +kernel
theorem dL_law_274 : decode cL_law 274 = .ok (.iconst 0, 1) := by decide +kernel
theorem dL_law_275 : decode cL_law 275 = .ok (.ireturn, 1) := by decide +kernel
theorem dL_law_276 : decode cL_law 276 = .ok (.aload_n 1, 1) := by decide +kernel
theorem dL_law_277 : decode cL_law 277 = .ok (.aload_n 0, 1) := by decide +kernel
theorem dL_law_278 : decode cL_law 278 = .ok (.iload_n 3, 1) := by decide +kernel
theorem dL_law_279 : decode cL_law 279 = .ok (.iconst 1, 1) := by decide +kernel
theorem dL_law_280 : decode cL_law 280 = .ok (.iadd, 1) := by decide +kernel
theorem dL_law_281 : decode cL_law 281 = .ok (.iaload, 1) := by decide +kernel
theorem dL_law_282 : decode cL_law 282 = .ok (.aload_n 0, 1) := by decide +kernel
theorem dL_law_283 : decode cL_law 283 = .ok (.iload_n 3, 1) := by decide +kernel
theorem dL_law_284 : decode cL_law 284 = .ok (.iconst 2, 1) := by decide +kernel
theorem dL_law_285 : decode cL_law 285 = .ok (.iadd, 1) := by decide +kernel
theorem dL_law_286 : decode cL_law 286 = .ok (.iaload, 1) := by decide +kernel
theorem dL_law_287 : decode cL_law 287 = .ok (.invokevirtual 25, 3) := by decide +kernel
theorem dL_law_290 : decode cL_law 290 = .ok (.aload_n 2, 1) := by decide +kernel
theorem dL_law_291 : decode cL_law 291 = .ok (.aload_n 0, 1) := by decide +kernel
theorem dL_law_292 : decode cL_law 292 = .ok (.iload_n 3, 1) := by decide +kernel
theorem dL_law_293 : decode cL_law 293 = .ok (.iconst 1, 1) := by decide +kernel
theorem dL_law_294 : decode cL_law 294 = .ok (.iadd, 1) := by decide +kernel
theorem dL_law_295 : decode cL_law 295 = .ok (.iaload, 1) := by decide +kernel
theorem dL_law_296 : decode cL_law 296 = .ok (.aload_n 0, 1) := by decide +kernel
theorem dL_law_297 : decode cL_law 297 = .ok (.iload_n 3, 1) := by decide +kernel
theorem dL_law_298 : decode cL_law 298 = .ok (.iconst 2, 1) := by decide +kernel
theorem dL_law_299 : decode cL_law 299 = .ok (.iadd, 1) := by decide +kernel
theorem dL_law_300 : decode cL_law 300 = .ok (.iaload, 1) := by decide +kernel
theorem dL_law_301 : decode cL_law 301 = .ok (.invokevirtual 29, 3) := by decide +kernel
theorem dL_law_304 : decode cL_law 304 = .ok (.lcmp, 1) := by decide +kernel
theorem dL_law_305 : decode cL_law 305 = .ok (.ifCond .eq 583, 3) := by decide +kernel
theorem dL_law_308 : decode cL_law 308 = .ok (.iconst 0, 1) := by decide +kernel
theorem dL_law_309 : decode cL_law 309 = .ok (.ireturn, 1) := by decide +kernel
theorem dL_law_310 : decode cL_law 310 = .ok (.aload_n 1, 1) := by decide +kernel
theorem dL_law_311 : decode cL_law 311 = .ok (.aload_n 0, 1) := by decide +kernel
theorem dL_law_312 : decode cL_law 312 = .ok (.iload_n 3, 1) := by decide +kernel
theorem dL_law_313 : decode cL_law 313 = .ok (.iconst 1, 1) := by decide +kernel
theorem dL_law_314 : decode cL_law 314 = .ok (.iadd, 1) := by decide +kernel
theorem dL_law_315 : decode cL_law 315 = .ok (.iaload, 1) := by decide +kernel
theorem dL_law_316 : decode cL_law 316 = .ok (.invokevirtual 30, 3) := by decide +kernel
theorem dL_law_319 : decode cL_law 319 = .ok (.aload_n 2, 1) := by decide +kernel
theorem dL_law_320 : decode cL_law 320 = .ok (.aload_n 0, 1) := by decide +kernel
theorem dL_law_321 : decode cL_law 321 = .ok (.iload_n 3, 1) := by decide +kernel
theorem dL_law_322 : decode cL_law 322 = .ok (.iconst 1, 1) := by decide +kernel
theorem dL_law_323 : decode cL_law 323 = .ok (.iadd, 1) := by decide +kernel
theorem dL_law_324 : decode cL_law 324 = .ok (.iaload, 1) := by decide +kernel
theorem dL_law_325 : decode cL_law 325 = .ok (.invokevirtual 34, 3) := by decide +kernel
theorem dL_law_328 : decode cL_law 328 = .ok (.lcmp, 1) := by decide +kernel
theorem dL_law_329 : decode cL_law 329 = .ok (.ifCond .eq 559, 3) := by decide +kernel
theorem dL_law_332 : decode cL_law 332 = .ok (.iconst 0, 1) := by decide +kernel
theorem dL_law_333 : decode cL_law 333 = .ok (.ireturn, 1) := by decide +kernel
theorem dL_law_334 : decode cL_law 334 = .ok (.aload_n 1, 1) := by decide +kernel
theorem dL_law_335 : decode cL_law 335 = .ok (.aload_n 0, 1) := by decide +kernel
theorem dL_law_336 : decode cL_law 336 = .ok (.iload_n 3, 1) := by decide +kernel
theorem dL_law_337 : decode cL_law 337 = .ok (.iconst 1, 1) := by decide +kernel
theorem dL_law_338 : decode cL_law 338 = .ok (.iadd, 1) := by decide +kernel
theorem dL_law_339 : decode cL_law 339 = .ok (.iaload, 1) := by decide +kernel
theorem dL_law_340 : decode cL_law 340 = .ok (.aload_n 0, 1) := by decide +kernel
theorem dL_law_341 : decode cL_law 341 = .ok (.iload_n 3, 1) := by decide +kernel
theorem dL_law_342 : decode cL_law 342 = .ok (.iconst 2, 1) := by decide +kernel
theorem dL_law_343 : decode cL_law 343 = .ok (.iadd, 1) := by decide +kernel
theorem dL_law_344 : decode cL_law 344 = .ok (.iaload, 1) := by decide +kernel
theorem dL_law_345 : decode cL_law 345 = .ok (.aload_n 0, 1) := by decide +kernel
theorem dL_law_346 : decode cL_law 346 = .ok (.iload_n 3, 1) := by decide +kernel
theorem dL_law_347 : decode cL_law 347 = .ok (.iconst 3, 1) := by decide +kernel
theorem dL_law_348 : decode cL_law 348 = .ok (.iadd, 1) := by decide +kernel
theorem dL_law_349 : decode cL_law 349 = .ok (.iaload, 1) := by decide +kernel
theorem dL_law_350 : decode cL_law 350 = .ok (.invokevirtual 35, 3) := by decide +kernel
theorem dL_law_353 : decode cL_law 353 = .ok (.aload_n 2, 1) := by decide +kernel
theorem dL_law_354 : decode cL_law 354 = .ok (.aload_n 0, 1) := by decide +kernel
theorem dL_law_355 : decode cL_law 355 = .ok (.iload_n 3, 1) := by decide +kernel
theorem dL_law_356 : decode cL_law 356 = .ok (.iconst 1, 1) := by decide +kernel
theorem dL_law_357 : decode cL_law 357 = .ok (.iadd, 1) := by decide +kernel
theorem dL_law_358 : decode cL_law 358 = .ok (.iaload, 1) := by decide +kernel
theorem dL_law_359 : decode cL_law 359 = .ok (.aload_n 0, 1) := by decide +kernel
theorem dL_law_360 : decode cL_law 360 = .ok (.iload_n 3, 1) := by decide +kernel
theorem dL_law_361 : decode cL_law 361 = .ok (.iconst 2, 1) := by decide +kernel
theorem dL_law_362 : decode cL_law 362 = .ok (.iadd, 1) := by decide +kernel
theorem dL_law_363 : decode cL_law 363 = .ok (.iaload, 1) := by decide +kernel
theorem dL_law_364 : decode cL_law 364 = .ok (.aload_n 0, 1) := by decide +kernel
theorem dL_law_365 : decode cL_law 365 = .ok (.iload_n 3, 1) := by decide +kernel
theorem dL_law_366 : decode cL_law 366 = .ok (.iconst 3, 1) := by decide +kernel
theorem dL_law_367 : decode cL_law 367 = .ok (.iadd, 1) := by decide +kernel
theorem dL_law_368 : decode cL_law 368 = .ok (.iaload, 1) := by decide +kernel
theorem dL_law_369 : decode cL_law 369 = .ok (.invokevirtual 39, 3) := by decide +kernel
theorem dL_law_372 : decode cL_law 372 = .ok (.lcmp, 1) := by decide +kernel
theorem dL_law_373 : decode cL_law 373 = .ok (.ifCond .eq 515, 3) := by decide +kernel
theorem dL_law_376 : decode cL_law 376 = .ok (.iconst 0, 1) := by decide +kernel
theorem dL_law_377 : decode cL_law 377 = .ok (.ireturn, 1) := by decide +kernel
theorem dL_law_378 : decode cL_law 378 = .ok (.aload_n 1, 1) := by decide +kernel
theorem dL_law_379 : decode cL_law 379 = .ok (.aload_n 0, 1) := by decide +kernel
theorem dL_law_380 : decode cL_law 380 = .ok (.iload_n 3, 1) := by decide +kernel
theorem dL_law_381 : decode cL_law 381 = .ok (.iconst 1, 1) := by decide +kernel
theorem dL_law_382 : decode cL_law 382 = .ok (.iadd, 1) := by decide +kernel
theorem dL_law_383 : decode cL_law 383 = .ok (.iaload, 1) := by decide +kernel
theorem dL_law_384 : decode cL_law 384 = .ok (.invokevirtual 40, 3) := by decide +kernel
theorem dL_law_387 : decode cL_law 387 = .ok (.aload_n 2, 1) := by decide +kernel
theorem dL_law_388 : decode cL_law 388 = .ok (.aload_n 0, 1) := by decide +kernel
theorem dL_law_389 : decode cL_law 389 = .ok (.iload_n 3, 1) := by decide +kernel
theorem dL_law_390 : decode cL_law 390 = .ok (.iconst 1, 1) := by decide +kernel
theorem dL_law_391 : decode cL_law 391 = .ok (.iadd, 1) := by decide +kernel
theorem dL_law_392 : decode cL_law 392 = .ok (.iaload, 1) := by decide +kernel
theorem dL_law_393 : decode cL_law 393 = .ok (.invokevirtual 43, 3) := by decide +kernel
theorem dL_law_396 : decode cL_law 396 = .ok (.lcmp, 1) := by decide +kernel
theorem dL_law_397 : decode cL_law 397 = .ok (.ifCond .eq 491, 3) := by decide +kernel
theorem dL_law_400 : decode cL_law 400 = .ok (.iconst 0, 1) := by decide +kernel
theorem dL_law_401 : decode cL_law 401 = .ok (.ireturn, 1) := by decide +kernel
theorem dL_law_402 : decode cL_law 402 = .ok (.aload_n 1, 1) := by decide +kernel
theorem dL_law_403 : decode cL_law 403 = .ok (.aload_n 0, 1) := by decide +kernel
theorem dL_law_404 : decode cL_law 404 = .ok (.iload_n 3, 1) := by decide +kernel
theorem dL_law_405 : decode cL_law 405 = .ok (.iconst 1, 1) := by decide +kernel
theorem dL_law_406 : decode cL_law 406 = .ok (.iadd, 1) := by decide +kernel
theorem dL_law_407 : decode cL_law 407 = .ok (.iaload, 1) := by decide +kernel
theorem dL_law_408 : decode cL_law 408 = .ok (.aload_n 0, 1) := by decide +kernel
theorem dL_law_409 : decode cL_law 409 = .ok (.iload_n 3, 1) := by decide +kernel
theorem dL_law_410 : decode cL_law 410 = .ok (.iconst 2, 1) := by decide +kernel
theorem dL_law_411 : decode cL_law 411 = .ok (.iadd, 1) := by decide +kernel
theorem dL_law_412 : decode cL_law 412 = .ok (.iaload, 1) := by decide +kernel
theorem dL_law_413 : decode cL_law 413 = .ok (.invokevirtual 44, 3) := by decide +kernel
theorem dL_law_416 : decode cL_law 416 = .ok (.aload_n 2, 1) := by decide +kernel
theorem dL_law_417 : decode cL_law 417 = .ok (.aload_n 0, 1) := by decide +kernel
theorem dL_law_418 : decode cL_law 418 = .ok (.iload_n 3, 1) := by decide +kernel
theorem dL_law_419 : decode cL_law 419 = .ok (.iconst 1, 1) := by decide +kernel
theorem dL_law_420 : decode cL_law 420 = .ok (.iadd, 1) := by decide +kernel
theorem dL_law_421 : decode cL_law 421 = .ok (.iaload, 1) := by decide +kernel
theorem dL_law_422 : decode cL_law 422 = .ok (.aload_n 0, 1) := by decide +kernel
theorem dL_law_423 : decode cL_law 423 = .ok (.iload_n 3, 1) := by decide +kernel
theorem dL_law_424 : decode cL_law 424 = .ok (.iconst 2, 1) := by decide +kernel
theorem dL_law_425 : decode cL_law 425 = .ok (.iadd, 1) := by decide +kernel
theorem dL_law_426 : decode cL_law 426 = .ok (.iaload, 1) := by decide +kernel
theorem dL_law_427 : decode cL_law 427 = .ok (.invokevirtual 47, 3) := by decide +kernel
theorem dL_law_430 : decode cL_law 430 = .ok (.lcmp, 1) := by decide +kernel
theorem dL_law_431 : decode cL_law 431 = .ok (.ifCond .eq 457, 3) := by decide +kernel
theorem dL_law_434 : decode cL_law 434 = .ok (.iconst 0, 1) := by decide +kernel
theorem dL_law_435 : decode cL_law 435 = .ok (.ireturn, 1) := by decide +kernel
theorem dL_law_436 : decode cL_law 436 = .ok (.aload_n 1, 1) := by decide +kernel
theorem dL_law_437 : decode cL_law 437 = .ok (.aload_n 0, 1) := by decide +kernel
theorem dL_law_438 : decode cL_law 438 = .ok (.iload_n 3, 1) := by decide +kernel
theorem dL_law_439 : decode cL_law 439 = .ok (.iconst 1, 1) := by decide +kernel
theorem dL_law_440 : decode cL_law 440 = .ok (.iadd, 1) := by decide +kernel
theorem dL_law_441 : decode cL_law 441 = .ok (.iaload, 1) := by decide +kernel
theorem dL_law_442 : decode cL_law 442 = .ok (.aload_n 0, 1) := by decide +kernel
theorem dL_law_443 : decode cL_law 443 = .ok (.iload_n 3, 1) := by decide +kernel
theorem dL_law_444 : decode cL_law 444 = .ok (.iconst 2, 1) := by decide +kernel
theorem dL_law_445 : decode cL_law 445 = .ok (.iadd, 1) := by decide +kernel
theorem dL_law_446 : decode cL_law 446 = .ok (.iaload, 1) := by decide +kernel
theorem dL_law_447 : decode cL_law 447 = .ok (.invokevirtual 48, 3) := by decide +kernel
theorem dL_law_450 : decode cL_law 450 = .ok (.aload_n 2, 1) := by decide +kernel
theorem dL_law_451 : decode cL_law 451 = .ok (.aload_n 0, 1) := by decide +kernel
theorem dL_law_452 : decode cL_law 452 = .ok (.iload_n 3, 1) := by decide +kernel
theorem dL_law_453 : decode cL_law 453 = .ok (.iconst 1, 1) := by decide +kernel
theorem dL_law_454 : decode cL_law 454 = .ok (.iadd, 1) := by decide +kernel
theorem dL_law_455 : decode cL_law 455 = .ok (.iaload, 1) := by decide +kernel
theorem dL_law_456 : decode cL_law 456 = .ok (.aload_n 0, 1) := by decide +kernel
theorem dL_law_457 : decode cL_law 457 = .ok (.iload_n 3, 1) := by decide +kernel
theorem dL_law_458 : decode cL_law 458 = .ok (.iconst 2, 1) := by decide +kernel
theorem dL_law_459 : decode cL_law 459 = .ok (.iadd, 1) := by decide +kernel
theorem dL_law_460 : decode cL_law 460 = .ok (.iaload, 1) := by decide +kernel
theorem dL_law_461 : decode cL_law 461 = .ok (.invokevirtual 51, 3) := by decide +kernel
theorem dL_law_464 : decode cL_law 464 = .ok (.lcmp, 1) := by decide +kernel
theorem dL_law_465 : decode cL_law 465 = .ok (.ifCond .eq 423, 3) := by decide +kernel
theorem dL_law_468 : decode cL_law 468 = .ok (.iconst 0, 1) := by decide +kernel
theorem dL_law_469 : decode cL_law 469 = .ok (.ireturn, 1) := by decide +kernel
theorem dL_law_470 : decode cL_law 470 = .ok (.aload_n 1, 1) := by decide +kernel
theorem dL_law_471 : decode cL_law 471 = .ok (.aload_n 0, 1) := by decide +kernel
theorem dL_law_472 : decode cL_law 472 = .ok (.iload_n 3, 1) := by decide +kernel
theorem dL_law_473 : decode cL_law 473 = .ok (.iconst 1, 1) := by decide +kernel
theorem dL_law_474 : decode cL_law 474 = .ok (.iadd, 1) := by decide +kernel
theorem dL_law_475 : decode cL_law 475 = .ok (.iaload, 1) := by decide +kernel
theorem dL_law_476 : decode cL_law 476 = .ok (.invokevirtual 52, 3) := by decide +kernel
theorem dL_law_479 : decode cL_law 479 = .ok (.aload_n 2, 1) := by decide +kernel
theorem dL_law_480 : decode cL_law 480 = .ok (.aload_n 0, 1) := by decide +kernel
theorem dL_law_481 : decode cL_law 481 = .ok (.iload_n 3, 1) := by decide +kernel
theorem dL_law_482 : decode cL_law 482 = .ok (.iconst 1, 1) := by decide +kernel
theorem dL_law_483 : decode cL_law 483 = .ok (.iadd, 1) := by decide +kernel
theorem dL_law_484 : decode cL_law 484 = .ok (.iaload, 1) := by decide +kernel
theorem dL_law_485 : decode cL_law 485 = .ok (.invokevirtual 55, 3) := by decide +kernel
theorem dL_law_488 : decode cL_law 488 = .ok (.lcmp, 1) := by decide +kernel
theorem dL_law_489 : decode cL_law 489 = .ok (.ifCond .eq 399, 3) := by decide +kernel
theorem dL_law_492 : decode cL_law 492 = .ok (.iconst 0, 1) := by decide +kernel
theorem dL_law_493 : decode cL_law 493 = .ok (.ireturn, 1) := by decide +kernel
theorem dL_law_494 : decode cL_law 494 = .ok (.aload_n 1, 1) := by decide +kernel
theorem dL_law_495 : decode cL_law 495 = .ok (.aload_n 0, 1) := by decide +kernel
theorem dL_law_496 : decode cL_law 496 = .ok (.iload_n 3, 1) := by decide +kernel
theorem dL_law_497 : decode cL_law 497 = .ok (.iconst 1, 1) := by decide +kernel
theorem dL_law_498 : decode cL_law 498 = .ok (.iadd, 1) := by decide +kernel
theorem dL_law_499 : decode cL_law 499 = .ok (.iaload, 1) := by decide +kernel
theorem dL_law_500 : decode cL_law 500 = .ok (.aload_n 0, 1) := by decide +kernel
theorem dL_law_501 : decode cL_law 501 = .ok (.iload_n 3, 1) := by decide +kernel
theorem dL_law_502 : decode cL_law 502 = .ok (.iconst 2, 1) := by decide +kernel
theorem dL_law_503 : decode cL_law 503 = .ok (.iadd, 1) := by decide +kernel
theorem dL_law_504 : decode cL_law 504 = .ok (.iaload, 1) := by decide +kernel
theorem dL_law_505 : decode cL_law 505 = .ok (.invokevirtual 56, 3) := by decide +kernel
theorem dL_law_508 : decode cL_law 508 = .ok (.aload_n 2, 1) := by decide +kernel
theorem dL_law_509 : decode cL_law 509 = .ok (.aload_n 0, 1) := by decide +kernel
theorem dL_law_510 : decode cL_law 510 = .ok (.iload_n 3, 1) := by decide +kernel
theorem dL_law_511 : decode cL_law 511 = .ok (.iconst 1, 1) := by decide +kernel
theorem dL_law_512 : decode cL_law 512 = .ok (.iadd, 1) := by decide +kernel
theorem dL_law_513 : decode cL_law 513 = .ok (.iaload, 1) := by decide +kernel
theorem dL_law_514 : decode cL_law 514 = .ok (.aload_n 0, 1) := by decide +kernel
theorem dL_law_515 : decode cL_law 515 = .ok (.iload_n 3, 1) := by decide +kernel
theorem dL_law_516 : decode cL_law 516 = .ok (.iconst 2, 1) := by decide +kernel
theorem dL_law_517 : decode cL_law 517 = .ok (.iadd, 1) := by decide +kernel
theorem dL_law_518 : decode cL_law 518 = .ok (.iaload, 1) := by decide +kernel
theorem dL_law_519 : decode cL_law 519 = .ok (.invokevirtual 59, 3) := by decide +kernel
theorem dL_law_522 : decode cL_law 522 = .ok (.lcmp, 1) := by decide +kernel
theorem dL_law_523 : decode cL_law 523 = .ok (.ifCond .eq 365, 3) := by decide +kernel
theorem dL_law_526 : decode cL_law 526 = .ok (.iconst 0, 1) := by decide +kernel
theorem dL_law_527 : decode cL_law 527 = .ok (.ireturn, 1) := by decide +kernel
theorem dL_law_528 : decode cL_law 528 = .ok (.aload_n 1, 1) := by decide +kernel
theorem dL_law_529 : decode cL_law 529 = .ok (.aload_n 0, 1) := by decide +kernel
theorem dL_law_530 : decode cL_law 530 = .ok (.iload_n 3, 1) := by decide +kernel
theorem dL_law_531 : decode cL_law 531 = .ok (.iconst 1, 1) := by decide +kernel
theorem dL_law_532 : decode cL_law 532 = .ok (.iadd, 1) := by decide +kernel
theorem dL_law_533 : decode cL_law 533 = .ok (.iaload, 1) := by decide +kernel
theorem dL_law_534 : decode cL_law 534 = .ok (.aload_n 0, 1) := by decide +kernel
theorem dL_law_535 : decode cL_law 535 = .ok (.iload_n 3, 1) := by decide +kernel
theorem dL_law_536 : decode cL_law 536 = .ok (.iconst 2, 1) := by decide +kernel
theorem dL_law_537 : decode cL_law 537 = .ok (.iadd, 1) := by decide +kernel
theorem dL_law_538 : decode cL_law 538 = .ok (.iaload, 1) := by decide +kernel
theorem dL_law_539 : decode cL_law 539 = .ok (.invokevirtual 60, 3) := by decide +kernel
theorem dL_law_542 : decode cL_law 542 = .ok (.aload_n 2, 1) := by decide +kernel
theorem dL_law_543 : decode cL_law 543 = .ok (.aload_n 0, 1) := by decide +kernel
theorem dL_law_544 : decode cL_law 544 = .ok (.iload_n 3, 1) := by decide +kernel
theorem dL_law_545 : decode cL_law 545 = .ok (.iconst 1, 1) := by decide +kernel
theorem dL_law_546 : decode cL_law 546 = .ok (.iadd, 1) := by decide +kernel
theorem dL_law_547 : decode cL_law 547 = .ok (.iaload, 1) := by decide +kernel
theorem dL_law_548 : decode cL_law 548 = .ok (.aload_n 0, 1) := by decide +kernel
theorem dL_law_549 : decode cL_law 549 = .ok (.iload_n 3, 1) := by decide +kernel
theorem dL_law_550 : decode cL_law 550 = .ok (.iconst 2, 1) := by decide +kernel
theorem dL_law_551 : decode cL_law 551 = .ok (.iadd, 1) := by decide +kernel
theorem dL_law_552 : decode cL_law 552 = .ok (.iaload, 1) := by decide +kernel
theorem dL_law_553 : decode cL_law 553 = .ok (.invokevirtual 63, 3) := by decide +kernel
theorem dL_law_556 : decode cL_law 556 = .ok (.lcmp, 1) := by decide +kernel
theorem dL_law_557 : decode cL_law 557 = .ok (.ifCond .eq 331, 3) := by decide +kernel
theorem dL_law_560 : decode cL_law 560 = .ok (.iconst 0, 1) := by decide +kernel
theorem dL_law_561 : decode cL_law 561 = .ok (.ireturn, 1) := by decide +kernel
theorem dL_law_562 : decode cL_law 562 = .ok (.aload_n 1, 1) := by decide +kernel
theorem dL_law_563 : decode cL_law 563 = .ok (.aload_n 0, 1) := by decide +kernel
theorem dL_law_564 : decode cL_law 564 = .ok (.iload_n 3, 1) := by decide +kernel
theorem dL_law_565 : decode cL_law 565 = .ok (.iconst 1, 1) := by decide +kernel
theorem dL_law_566 : decode cL_law 566 = .ok (.iadd, 1) := by decide +kernel
theorem dL_law_567 : decode cL_law 567 = .ok (.iaload, 1) := by decide +kernel
theorem dL_law_568 : decode cL_law 568 = .ok (.aload_n 0, 1) := by decide +kernel
theorem dL_law_569 : decode cL_law 569 = .ok (.iload_n 3, 1) := by decide +kernel
theorem dL_law_570 : decode cL_law 570 = .ok (.iconst 2, 1) := by decide +kernel
theorem dL_law_571 : decode cL_law 571 = .ok (.iadd, 1) := by decide +kernel
theorem dL_law_572 : decode cL_law 572 = .ok (.iaload, 1) := by decide +kernel
theorem dL_law_573 : decode cL_law 573 = .ok (.invokevirtual 64, 3) := by decide +kernel
theorem dL_law_576 : decode cL_law 576 = .ok (.aload_n 2, 1) := by decide +kernel
theorem dL_law_577 : decode cL_law 577 = .ok (.aload_n 0, 1) := by decide +kernel
theorem dL_law_578 : decode cL_law 578 = .ok (.iload_n 3, 1) := by decide +kernel
theorem dL_law_579 : decode cL_law 579 = .ok (.iconst 1, 1) := by decide +kernel
theorem dL_law_580 : decode cL_law 580 = .ok (.iadd, 1) := by decide +kernel
theorem dL_law_581 : decode cL_law 581 = .ok (.iaload, 1) := by decide +kernel
theorem dL_law_582 : decode cL_law 582 = .ok (.aload_n 0, 1) := by decide +kernel
theorem dL_law_583 : decode cL_law 583 = .ok (.iload_n 3, 1) := by decide +kernel
theorem dL_law_584 : decode cL_law 584 = .ok (.iconst 2, 1) := by decide +kernel
theorem dL_law_585 : decode cL_law 585 = .ok (.iadd, 1) := by decide +kernel
theorem dL_law_586 : decode cL_law 586 = .ok (.iaload, 1) := by decide +kernel
theorem dL_law_587 : decode cL_law 587 = .ok (.invokevirtual 67, 3) := by decide +kernel
theorem dL_law_590 : decode cL_law 590 = .ok (.lcmp, 1) := by decide +kernel
theorem dL_law_591 : decode cL_law 591 = .ok (.ifCond .eq 297, 3) := by decide +kernel
theorem dL_law_594 : decode cL_law 594 = .ok (.iconst 0, 1) := by decide +kernel
theorem dL_law_595 : decode cL_law 595 = .ok (.ireturn, 1) := by decide +kernel
theorem dL_law_596 : decode cL_law 596 = .ok (.aload_n 1, 1) := by decide +kernel
theorem dL_law_597 : decode cL_law 597 = .ok (.aload_n 0, 1) := by decide +kernel
theorem dL_law_598 : decode cL_law 598 = .ok (.iload_n 3, 1) := by decide +kernel
theorem dL_law_599 : decode cL_law 599 = .ok (.iconst 1, 1) := by decide +kernel
theorem dL_law_600 : decode cL_law 600 = .ok (.iadd, 1) := by decide +kernel
theorem dL_law_601 : decode cL_law 601 = .ok (.iaload, 1) := by decide +kernel
theorem dL_law_602 : decode cL_law 602 = .ok (.aload_n 0, 1) := by decide +kernel
theorem dL_law_603 : decode cL_law 603 = .ok (.iload_n 3, 1) := by decide +kernel
theorem dL_law_604 : decode cL_law 604 = .ok (.iconst 2, 1) := by decide +kernel
theorem dL_law_605 : decode cL_law 605 = .ok (.iadd, 1) := by decide +kernel
theorem dL_law_606 : decode cL_law 606 = .ok (.iaload, 1) := by decide +kernel
theorem dL_law_607 : decode cL_law 607 = .ok (.invokevirtual 68, 3) := by decide +kernel
theorem dL_law_610 : decode cL_law 610 = .ok (.aload_n 2, 1) := by decide +kernel
theorem dL_law_611 : decode cL_law 611 = .ok (.aload_n 0, 1) := by decide +kernel
theorem dL_law_612 : decode cL_law 612 = .ok (.iload_n 3, 1) := by decide +kernel
theorem dL_law_613 : decode cL_law 613 = .ok (.iconst 1, 1) := by decide +kernel
theorem dL_law_614 : decode cL_law 614 = .ok (.iadd, 1) := by decide +kernel
theorem dL_law_615 : decode cL_law 615 = .ok (.iaload, 1) := by decide +kernel
theorem dL_law_616 : decode cL_law 616 = .ok (.aload_n 0, 1) := by decide +kernel
theorem dL_law_617 : decode cL_law 617 = .ok (.iload_n 3, 1) := by decide +kernel
theorem dL_law_618 : decode cL_law 618 = .ok (.iconst 2, 1) := by decide +kernel
theorem dL_law_619 : decode cL_law 619 = .ok (.iadd, 1) := by decide +kernel
theorem dL_law_620 : decode cL_law 620 = .ok (.iaload, 1) := by decide +kernel
theorem dL_law_621 : decode cL_law 621 = .ok (.invokevirtual 71, 3) := by decide +kernel
theorem dL_law_624 : decode cL_law 624 = .ok (.lcmp, 1) := by decide +kernel
theorem dL_law_625 : decode cL_law 625 = .ok (.ifCond .eq 263, 3) := by decide +kernel
theorem dL_law_628 : decode cL_law 628 = .ok (.iconst 0, 1) := by decide +kernel
theorem dL_law_629 : decode cL_law 629 = .ok (.ireturn, 1) := by decide +kernel
theorem dL_law_630 : decode cL_law 630 = .ok (.aload_n 1, 1) := by decide +kernel
theorem dL_law_631 : decode cL_law 631 = .ok (.aload_n 0, 1) := by decide +kernel
theorem dL_law_632 : decode cL_law 632 = .ok (.iload_n 3, 1) := by decide +kernel
theorem dL_law_633 : decode cL_law 633 = .ok (.iconst 1, 1) := by decide +kernel
theorem dL_law_634 : decode cL_law 634 = .ok (.iadd, 1) := by decide +kernel
theorem dL_law_635 : decode cL_law 635 = .ok (.iaload, 1) := by decide +kernel
theorem dL_law_636 : decode cL_law 636 = .ok (.invokevirtual 72, 3) := by decide +kernel
theorem dL_law_639 : decode cL_law 639 = .ok (.aload_n 2, 1) := by decide +kernel
theorem dL_law_640 : decode cL_law 640 = .ok (.aload_n 0, 1) := by decide +kernel
theorem dL_law_641 : decode cL_law 641 = .ok (.iload_n 3, 1) := by decide +kernel
theorem dL_law_642 : decode cL_law 642 = .ok (.iconst 1, 1) := by decide +kernel
theorem dL_law_643 : decode cL_law 643 = .ok (.iadd, 1) := by decide +kernel
theorem dL_law_644 : decode cL_law 644 = .ok (.iaload, 1) := by decide +kernel
theorem dL_law_645 : decode cL_law 645 = .ok (.invokevirtual 75, 3) := by decide +kernel
theorem dL_law_648 : decode cL_law 648 = .ok (.lcmp, 1) := by decide +kernel
theorem dL_law_649 : decode cL_law 649 = .ok (.ifCond .eq 239, 3) := by decide +kernel
theorem dL_law_652 : decode cL_law 652 = .ok (.iconst 0, 1) := by decide +kernel
theorem dL_law_653 : decode cL_law 653 = .ok (.ireturn, 1) := by decide +kernel
theorem dL_law_654 : decode cL_law 654 = .ok (.aload_n 1, 1) := by decide +kernel
theorem dL_law_655 : decode cL_law 655 = .ok (.aload_n 0, 1) := by decide +kernel
theorem dL_law_656 : decode cL_law 656 = .ok (.iload_n 3, 1) := by decide +kernel
theorem dL_law_657 : decode cL_law 657 = .ok (.iconst 1, 1) := by decide +kernel
theorem dL_law_658 : decode cL_law 658 = .ok (.iadd, 1) := by decide +kernel
theorem dL_law_659 : decode cL_law 659 = .ok (.iaload, 1) := by decide +kernel
theorem dL_law_660 : decode cL_law 660 = .ok (.aload_n 0, 1) := by decide +kernel
theorem dL_law_661 : decode cL_law 661 = .ok (.iload_n 3, 1) := by decide +kernel
theorem dL_law_662 : decode cL_law 662 = .ok (.iconst 2, 1) := by decide +kernel
theorem dL_law_663 : decode cL_law 663 = .ok (.iadd, 1) := by decide +kernel
theorem dL_law_664 : decode cL_law 664 = .ok (.iaload, 1) := by decide +kernel
theorem dL_law_665 : decode cL_law 665 = .ok (.invokevirtual 76, 3) := by decide +kernel
theorem dL_law_668 : decode cL_law 668 = .ok (.aload_n 2, 1) := by decide +kernel
theorem dL_law_669 : decode cL_law 669 = .ok (.aload_n 0, 1) := by decide +kernel
theorem dL_law_670 : decode cL_law 670 = .ok (.iload_n 3, 1) := by decide +kernel
theorem dL_law_671 : decode cL_law 671 = .ok (.iconst 1, 1) := by decide +kernel
theorem dL_law_672 : decode cL_law 672 = .ok (.iadd, 1) := by decide +kernel
theorem dL_law_673 : decode cL_law 673 = .ok (.iaload, 1) := by decide +kernel
theorem dL_law_674 : decode cL_law 674 = .ok (.aload_n 0, 1) := by decide +kernel
theorem dL_law_675 : decode cL_law 675 = .ok (.iload_n 3, 1) := by decide +kernel
theorem dL_law_676 : decode cL_law 676 = .ok (.iconst 2, 1) := by decide +kernel
theorem dL_law_677 : decode cL_law 677 = .ok (.iadd, 1) := by decide +kernel
theorem dL_law_678 : decode cL_law 678 = .ok (.iaload, 1) := by decide +kernel
theorem dL_law_679 : decode cL_law 679 = .ok (.invokevirtual 79, 3) := by decide +kernel
theorem dL_law_682 : decode cL_law 682 = .ok (.lcmp, 1) := by decide +kernel
theorem dL_law_683 : decode cL_law 683 = .ok (.ifCond .eq 205, 3) := by decide +kernel
theorem dL_law_686 : decode cL_law 686 = .ok (.iconst 0, 1) := by decide +kernel
theorem dL_law_687 : decode cL_law 687 = .ok (.ireturn, 1) := by decide +kernel
theorem dL_law_688 : decode cL_law 688 = .ok (.aload_n 1, 1) := by decide +kernel
theorem dL_law_689 : decode cL_law 689 = .ok (.aload_n 0, 1) := by decide +kernel
theorem dL_law_690 : decode cL_law 690 = .ok (.iload_n 3, 1) := by decide +kernel
theorem dL_law_691 : decode cL_law 691 = .ok (.iconst 1, 1) := by decide +kernel
theorem dL_law_692 : decode cL_law 692 = .ok (.iadd, 1) := by decide +kernel
theorem dL_law_693 : decode cL_law 693 = .ok (.iaload, 1) := by decide +kernel
theorem dL_law_694 : decode cL_law 694 = .ok (.aload_n 0, 1) := by decide +kernel
theorem dL_law_695 : decode cL_law 695 = .ok (.iload_n 3, 1) := by decide +kernel
theorem dL_law_696 : decode cL_law 696 = .ok (.iconst 2, 1) := by decide +kernel
theorem dL_law_697 : decode cL_law 697 = .ok (.iadd, 1) := by decide +kernel
theorem dL_law_698 : decode cL_law 698 = .ok (.iaload, 1) := by decide +kernel
theorem dL_law_699 : decode cL_law 699 = .ok (.aload_n 0, 1) := by decide +kernel
theorem dL_law_700 : decode cL_law 700 = .ok (.iload_n 3, 1) := by decide +kernel
theorem dL_law_701 : decode cL_law 701 = .ok (.iconst 3, 1) := by decide +kernel
theorem dL_law_702 : decode cL_law 702 = .ok (.iadd, 1) := by decide +kernel
theorem dL_law_703 : decode cL_law 703 = .ok (.iaload, 1) := by decide +kernel
theorem dL_law_704 : decode cL_law 704 = .ok (.invokevirtual 80, 3) := by decide +kernel
theorem dL_law_707 : decode cL_law 707 = .ok (.aload_n 2, 1) := by decide +kernel
theorem dL_law_708 : decode cL_law 708 = .ok (.aload_n 0, 1) := by decide +kernel
theorem dL_law_709 : decode cL_law 709 = .ok (.iload_n 3, 1) := by decide +kernel
theorem dL_law_710 : decode cL_law 710 = .ok (.iconst 1, 1) := by decide +kernel
theorem dL_law_711 : decode cL_law 711 = .ok (.iadd, 1) := by decide +kernel
theorem dL_law_712 : decode cL_law 712 = .ok (.iaload, 1) := by decide +kernel
theorem dL_law_713 : decode cL_law 713 = .ok (.aload_n 0, 1) := by decide +kernel
theorem dL_law_714 : decode cL_law 714 = .ok (.iload_n 3, 1) := by decide +kernel
theorem dL_law_715 : decode cL_law 715 = .ok (.iconst 2, 1) := by decide +kernel
theorem dL_law_716 : decode cL_law 716 = .ok (.iadd, 1) := by decide +kernel
theorem dL_law_717 : decode cL_law 717 = .ok (.iaload, 1) := by decide +kernel
theorem dL_law_718 : decode cL_law 718 = .ok (.aload_n 0, 1) := by decide +kernel
theorem dL_law_719 : decode cL_law 719 = .ok (.iload_n 3, 1) := by decide +kernel
theorem dL_law_720 : decode cL_law 720 = .ok (.iconst 3, 1) := by decide +kernel
theorem dL_law_721 : decode cL_law 721 = .ok (.iadd, 1) := by decide +kernel
theorem dL_law_722 : decode cL_law 722 = .ok (.iaload, 1) := by decide +kernel
theorem dL_law_723 : decode cL_law 723 = .ok (.invokevirtual 83, 3) := by decide +kernel
theorem dL_law_726 : decode cL_law 726 = .ok (.lcmp, 1) := by decide +kernel
theorem dL_law_727 : decode cL_law 727 = .ok (.ifCond .eq 161, 3) := by decide +kernel
theorem dL_law_730 : decode cL_law 730 = .ok (.iconst 0, 1) := by decide +kernel
theorem dL_law_731 : decode cL_law 731 = .ok (.ireturn, 1) := by decide +kernel
theorem dL_law_732 : decode cL_law 732 = .ok (.aload_n 1, 1) := by decide +kernel
theorem dL_law_733 : decode cL_law 733 = .ok (.aload_n 0, 1) := by decide +kernel
theorem dL_law_734 : decode cL_law 734 = .ok (.iload_n 3, 1) := by decide +kernel
theorem dL_law_735 : decode cL_law 735 = .ok (.iconst 1, 1) := by decide +kernel
theorem dL_law_736 : decode cL_law 736 = .ok (.iadd, 1) := by decide +kernel
theorem dL_law_737 : decode cL_law 737 = .ok (.iaload, 1) := by decide +kernel
theorem dL_law_738 : decode cL_law 738 = .ok (.aload_n 0, 1) := by decide +kernel
theorem dL_law_739 : decode cL_law 739 = .ok (.iload_n 3, 1) := by decide +kernel
theorem dL_law_740 : decode cL_law 740 = .ok (.iconst 2, 1) := by decide +kernel
theorem dL_law_741 : decode cL_law 741 = .ok (.iadd, 1) := by decide +kernel
theorem dL_law_742 : decode cL_law 742 = .ok (.iaload, 1) := by decide +kernel
theorem dL_law_743 : decode cL_law 743 = .ok (.aload_n 0, 1) := by decide +kernel
theorem dL_law_744 : decode cL_law 744 = .ok (.iload_n 3, 1) := by decide +kernel
theorem dL_law_745 : decode cL_law 745 = .ok (.iconst 3, 1) := by decide +kernel
theorem dL_law_746 : decode cL_law 746 = .ok (.iadd, 1) := by decide +kernel
theorem dL_law_747 : decode cL_law 747 = .ok (.iaload, 1) := by decide +kernel
theorem dL_law_748 : decode cL_law 748 = .ok (.aload_n 0, 1) := by decide +kernel
theorem dL_law_749 : decode cL_law 749 = .ok (.iload_n 3, 1) := by decide +kernel
theorem dL_law_750 : decode cL_law 750 = .ok (.iconst 4, 1) := by decide +kernel
theorem dL_law_751 : decode cL_law 751 = .ok (.iadd, 1) := by decide +kernel
theorem dL_law_752 : decode cL_law 752 = .ok (.iaload, 1) := by decide +kernel
theorem dL_law_753 : decode cL_law 753 = .ok (.invokevirtual 84, 3) := by decide +kernel
theorem dL_law_756 : decode cL_law 756 = .ok (.aload_n 2, 1) := by decide +kernel
theorem dL_law_757 : decode cL_law 757 = .ok (.aload_n 0, 1) := by decide +kernel
theorem dL_law_758 : decode cL_law 758 = .ok (.iload_n 3, 1) := by decide +kernel
theorem dL_law_759 : decode cL_law 759 = .ok (.iconst 1, 1) := by decide +kernel
theorem dL_law_760 : decode cL_law 760 = .ok (.iadd, 1) := by decide +kernel
theorem dL_law_761 : decode cL_law 761 = .ok (.iaload, 1) := by decide +kernel
theorem dL_law_762 : decode cL_law 762 = .ok (.aload_n 0, 1) := by decide +kernel
theorem dL_law_763 : decode cL_law 763 = .ok (.iload_n 3, 1) := by decide +kernel
theorem dL_law_764 : decode cL_law 764 = .ok (.iconst 2, 1) := by decide +kernel
theorem dL_law_765 : decode cL_law 765 = .ok (.iadd, 1) := by decide +kernel
theorem dL_law_766 : decode cL_law 766 = .ok (.iaload, 1) := by decide +kernel
theorem dL_law_767 : decode cL_law 767 = .ok (.aload_n 0, 1) := by decide +kernel
theorem dL_law_768 : decode cL_law 768 = .ok (.iload_n 3, 1) := by decide +kernel
theorem dL_law_769 : decode cL_law 769 = .ok (.iconst 3, 1) := by decide +kernel
theorem dL_law_770 : decode cL_law 770 = .ok (.iadd, 1) := by decide +kernel
theorem dL_law_771 : decode cL_law 771 = .ok (.iaload, 1) := by decide +kernel
theorem dL_law_772 : decode cL_law 772 = .ok (.aload_n 0, 1) := by decide +kernel
theorem dL_law_773 : decode cL_law 773 = .ok (.iload_n 3, 1) := by decide +kernel
theorem dL_law_774 : decode cL_law 774 = .ok (.iconst 4, 1) := by decide +kernel
theorem dL_law_775 : decode cL_law 775 = .ok (.iadd, 1) := by decide +kernel
theorem dL_law_776 : decode cL_law 776 = .ok (.iaload, 1) := by decide +kernel
theorem dL_law_777 : decode cL_law 777 = .ok (.invokevirtual 87, 3) := by decide +kernel
theorem dL_law_780 : decode cL_law 780 = .ok (.lcmp, 1) := by decide +kernel
theorem dL_law_781 : decode cL_law 781 = .ok (.ifCond .eq 107, 3) := by decide +kernel
theorem dL_law_784 : decode cL_law 784 = .ok (.iconst 0, 1) := by decide +kernel
theorem dL_law_785 : decode cL_law 785 = .ok (.ireturn, 1) := by decide +kernel
theorem dL_law_786 : decode cL_law 786 = .ok (.aload_n 1, 1) := by decide +kernel
theorem dL_law_787 : decode cL_law 787 = .ok (.aload_n 0, 1) := by decide +kernel
theorem dL_law_788 : decode cL_law 788 = .ok (.iload_n 3, 1) := by decide +kernel
theorem dL_law_789 : decode cL_law 789 = .ok (.iconst 1, 1) := by decide +kernel
theorem dL_law_790 : decode cL_law 790 = .ok (.iadd, 1) := by decide +kernel
theorem dL_law_791 : decode cL_law 791 = .ok (.iaload, 1) := by decide +kernel
theorem dL_law_792 : decode cL_law 792 = .ok (.aload_n 0, 1) := by decide +kernel
theorem dL_law_793 : decode cL_law 793 = .ok (.iload_n 3, 1) := by decide +kernel
theorem dL_law_794 : decode cL_law 794 = .ok (.iconst 2, 1) := by decide +kernel
theorem dL_law_795 : decode cL_law 795 = .ok (.iadd, 1) := by decide +kernel
theorem dL_law_796 : decode cL_law 796 = .ok (.iaload, 1) := by decide +kernel
theorem dL_law_797 : decode cL_law 797 = .ok (.aload_n 0, 1) := by decide +kernel
theorem dL_law_798 : decode cL_law 798 = .ok (.iload_n 3, 1) := by decide +kernel
theorem dL_law_799 : decode cL_law 799 = .ok (.iconst 3, 1) := by decide +kernel
theorem dL_law_800 : decode cL_law 800 = .ok (.iadd, 1) := by decide +kernel
theorem dL_law_801 : decode cL_law 801 = .ok (.iaload, 1) := by decide +kernel
theorem dL_law_802 : decode cL_law 802 = .ok (.invokevirtual 88, 3) := by decide +kernel
theorem dL_law_805 : decode cL_law 805 = .ok (.aload_n 2, 1) := by decide +kernel
theorem dL_law_806 : decode cL_law 806 = .ok (.aload_n 0, 1) := by decide +kernel
theorem dL_law_807 : decode cL_law 807 = .ok (.iload_n 3, 1) := by decide +kernel
theorem dL_law_808 : decode cL_law 808 = .ok (.iconst 1, 1) := by decide +kernel
theorem dL_law_809 : decode cL_law 809 = .ok (.iadd, 1) := by decide +kernel
theorem dL_law_810 : decode cL_law 810 = .ok (.iaload, 1) := by decide +kernel
theorem dL_law_811 : decode cL_law 811 = .ok (.aload_n 0, 1) := by decide +kernel
theorem dL_law_812 : decode cL_law 812 = .ok (.iload_n 3, 1) := by decide +kernel
theorem dL_law_813 : decode cL_law 813 = .ok (.iconst 2, 1) := by decide +kernel
theorem dL_law_814 : decode cL_law 814 = .ok (.iadd, 1) := by decide +kernel
theorem dL_law_815 : decode cL_law 815 = .ok (.iaload, 1) := by decide +kernel
theorem dL_law_816 : decode cL_law 816 = .ok (.aload_n 0, 1) := by decide +kernel
theorem dL_law_817 : decode cL_law 817 = .ok (.iload_n 3, 1) := by decide +kernel
theorem dL_law_818 : decode cL_law 818 = .ok (.iconst 3, 1) := by decide +kernel
theorem dL_law_819 : decode cL_law 819 = .ok (.iadd, 1) := by decide +kernel
theorem dL_law_820 : decode cL_law 820 = .ok (.iaload, 1) := by decide +kernel
theorem dL_law_821 : decode cL_law 821 = .ok (.invokevirtual 91, 3) := by decide +kernel
theorem dL_law_824 : decode cL_law 824 = .ok (.lcmp, 1) := by decide +kernel
theorem dL_law_825 : decode cL_law 825 = .ok (.ifCond .eq 63, 3) := by decide +kernel
theorem dL_law_828 : decode cL_law 828 = .ok (.iconst 0, 1) := by decide +kernel
theorem dL_law_829 : decode cL_law 829 = .ok (.ireturn, 1) := by decide +kernel
theorem dL_law_830 : decode cL_law 830 = .ok (.aload_n 1, 1) := by decide +kernel
theorem dL_law_831 : decode cL_law 831 = .ok (.aload_n 0, 1) := by decide +kernel
theorem dL_law_832 : decode cL_law 832 = .ok (.iload_n 3, 1) := by decide +kernel
theorem dL_law_833 : decode cL_law 833 = .ok (.iconst 1, 1) := by decide +kernel
theorem dL_law_834 : decode cL_law 834 = .ok (.iadd, 1) := by decide +kernel
theorem dL_law_835 : decode cL_law 835 = .ok (.iaload, 1) := by decide +kernel
theorem dL_law_836 : decode cL_law 836 = .ok (.aload_n 0, 1) := by decide +kernel
theorem dL_law_837 : decode cL_law 837 = .ok (.iload_n 3, 1) := by decide +kernel
theorem dL_law_838 : decode cL_law 838 = .ok (.iconst 2, 1) := by decide +kernel
theorem dL_law_839 : decode cL_law 839 = .ok (.iadd, 1) := by decide +kernel
theorem dL_law_840 : decode cL_law 840 = .ok (.iaload, 1) := by decide +kernel
theorem dL_law_841 : decode cL_law 841 = .ok (.invokevirtual 92, 3) := by decide +kernel
theorem dL_law_844 : decode cL_law 844 = .ok (.aload_n 2, 1) := by decide +kernel
theorem dL_law_845 : decode cL_law 845 = .ok (.aload_n 0, 1) := by decide +kernel
theorem dL_law_846 : decode cL_law 846 = .ok (.iload_n 3, 1) := by decide +kernel
theorem dL_law_847 : decode cL_law 847 = .ok (.iconst 1, 1) := by decide +kernel
theorem dL_law_848 : decode cL_law 848 = .ok (.iadd, 1) := by decide +kernel
theorem dL_law_849 : decode cL_law 849 = .ok (.iaload, 1) := by decide +kernel
theorem dL_law_850 : decode cL_law 850 = .ok (.aload_n 0, 1) := by decide +kernel
theorem dL_law_851 : decode cL_law 851 = .ok (.iload_n 3, 1) := by decide +kernel
theorem dL_law_852 : decode cL_law 852 = .ok (.iconst 2, 1) := by decide +kernel
theorem dL_law_853 : decode cL_law 853 = .ok (.iadd, 1) := by decide +kernel
theorem dL_law_854 : decode cL_law 854 = .ok (.iaload, 1) := by decide +kernel
theorem dL_law_855 : decode cL_law 855 = .ok (.invokevirtual 95, 3) := by decide +kernel
theorem dL_law_858 : decode cL_law 858 = .ok (.lcmp, 1) := by decide +kernel
theorem dL_law_859 : decode cL_law 859 = .ok (.ifCond .eq 29, 3) := by decide +kernel
theorem dL_law_862 : decode cL_law 862 = .ok (.iconst 0, 1) := by decide +kernel
theorem dL_law_863 : decode cL_law 863 = .ok (.ireturn, 1) := by decide +kernel
theorem dL_law_864 : decode cL_law 864 = .ok (.aload_n 1, 1) := by decide +kernel
theorem dL_law_865 : decode cL_law 865 = .ok (.aload_n 0, 1) := by decide +kernel
theorem dL_law_866 : decode cL_law 866 = .ok (.iload_n 3, 1) := by decide +kernel
theorem dL_law_867 : decode cL_law 867 = .ok (.iconst 1, 1) := by decide +kernel
theorem dL_law_868 : decode cL_law 868 = .ok (.iadd, 1) := by decide +kernel
theorem dL_law_869 : decode cL_law 869 = .ok (.iaload, 1) := by decide +kernel
theorem dL_law_870 : decode cL_law 870 = .ok (.invokevirtual 96, 3) := by decide +kernel
theorem dL_law_873 : decode cL_law 873 = .ok (.aload_n 2, 1) := by decide +kernel
theorem dL_law_874 : decode cL_law 874 = .ok (.aload_n 0, 1) := by decide +kernel
theorem dL_law_875 : decode cL_law 875 = .ok (.iload_n 3, 1) := by decide +kernel
theorem dL_law_876 : decode cL_law 876 = .ok (.iconst 1, 1) := by decide +kernel
theorem dL_law_877 : decode cL_law 877 = .ok (.iadd, 1) := by decide +kernel
theorem dL_law_878 : decode cL_law 878 = .ok (.iaload, 1) := by decide +kernel
theorem dL_law_879 : decode cL_law 879 = .ok (.invokevirtual 99, 3) := by decide +kernel
theorem dL_law_882 : decode cL_law 882 = .ok (.lcmp, 1) := by decide +kernel
theorem dL_law_883 : decode cL_law 883 = .ok (.ifCond .eq 5, 3) := by decide +kernel
theorem dL_law_886 : decode cL_law 886 = .ok (.iconst 0, 1) := by decide +kernel
theorem dL_law_887 : decode cL_law 887 = .ok (.ireturn, 1) := by decide +kernel
theorem dL_law_888 : decode cL_law 888 = .ok (.iinc 3 5, 3) := by decide +kernel
theorem dL_law_891 : decode cL_law 891 = .ok (.goto (-873), 3) := by decide +kernel
theorem dL_law_894 : decode cL_law 894 = .ok (.iconst 1, 1) := by decide +kernel
theorem dL_law_895 : decode cL_law 895 = .ok (.ireturn, 1) := by decide +kernel
theorem wL_law_18 {b L : Nat} {xs : Nat → Int32} (G : GG) (hG : GT G) (R : Int32 × AH) (hR1 : R.1 = 1) (hX : va_X b L xs G.2.1 G.2.1.heap) {k n : Nat} (hkA : k ≤ 10000) (hnA : n ≤ 200000) {K18 : Nat → Nat → Int32 → AH → Fn Int32} (hK18 : ∀ (l1 : Nat) (l2 : Nat) (l3 : Int32) (h : AH), K18 l1 l2 l3 h = some R → AW (eL G) RL cL_law 18 [some (.ref b), some (.ref (gB G + l1)), some (.ref (gB G + l2)), some (.int l3)] [] h k n) (l1 : Nat) (l2 : Nat) (l3 : Int32) (h : AH) (X : fL_law_18 L xs K18 l1 l2 l3 h = some R) : AW (eL G) RL cL_law 18 [some (.ref b), some (.ref (gB G + l1)), some (.ref (gB G + l2)), some (.int l3)] [] h k n := by
  unfold fL_law_18 at X
  refine r_ild3 19 dL_law_18 rfl ?_
  refine r_ald0 20 dL_law_19 rfl ?_
  refine r_xN 21 dL_law_20 rfl hX ?_
  refine r_iconst 22 _ dL_law_21 rfl ki_5 ?_
  refine r_isub 23 dL_law_22 rfl ?_
  refine r_icmp_gt 894 26 dL_law_23 (by decide) rfl X (fun _ X => ?_) (fun _ X => ?_)
  · refine r_iconst 895 _ dL_law_894 rfl ki_1 ?_
    exact r_retLaw dL_law_895 (by show _ ≤ 600000; omega) (by show _ ≤ 7302250; omega) hR1 X
  · refine r_ald0 27 dL_law_26 rfl ?_
    refine r_ild3 28 dL_law_27 rfl ?_
    refine r_xI 29 dL_law_28 rfl hX X (fun x101 X => ?_)
    refine r_bipush 31 _ dL_law_29 rfl kb_31 ?_
    refine r_iand 32 dL_law_31 rfl ?_
    refine r_case 128 0 0 96 dL_law_32 (by decide) (by decide) (by decide) (by decide) X (fun _ X => ?_) (fun n0 X => ?_)
    · refine r_ald1 129 dL_law_128 rfl ?_
      refine r_ald0 130 dL_law_129 rfl ?_
      refine r_ild3 131 dL_law_130 rfl ?_
      refine r_iconst 132 _ dL_law_131 rfl ki_1 ?_
      refine r_iadd 133 dL_law_132 rfl ?_
      refine r_xI 134 dL_law_133 rfl hX X (fun x278 X => ?_)
      refine r_i2l 135 dL_law_134 rfl ?_
      refine r_bipush 137 _ dL_law_135 rfl kb_32 ?_
      refine r_lshl 138 dL_law_137 rfl ?_
      refine r_ald0 139 dL_law_138 rfl ?_
      refine r_ild3 140 dL_law_139 rfl ?_
      refine r_iconst 141 _ dL_law_140 rfl ki_2 ?_
      refine r_iadd 142 dL_law_141 rfl ?_
      refine r_xI 143 dL_law_142 rfl hX X (fun x279 X => ?_)
      refine r_i2l 144 dL_law_143 rfl ?_
      refine r_ldc2 147 dL_law_144 rfl lkL_13 ?_
      refine r_land 148 dL_law_147 rfl ?_
      refine r_lor 149 dL_law_148 rfl ?_
      refine r_ald0 150 dL_law_149 rfl ?_
      refine r_ild3 151 dL_law_150 rfl ?_
      refine r_iconst 152 _ dL_law_151 rfl ki_3 ?_
      refine r_iadd 153 dL_law_152 rfl ?_
      refine r_xI 154 dL_law_153 rfl hX X (fun x280 X => ?_)
      refine r_i2l 155 dL_law_154 rfl ?_
      refine r_bipush 157 _ dL_law_155 rfl kb_32 ?_
      refine r_lshl 158 dL_law_157 rfl ?_
      refine r_ald0 159 dL_law_158 rfl ?_
      refine r_ild3 160 dL_law_159 rfl ?_
      refine r_iconst 161 _ dL_law_160 rfl ki_4 ?_
      refine r_iadd 162 dL_law_161 rfl ?_
      refine r_xI 163 dL_law_162 rfl hX X (fun x281 X => ?_)
      refine r_i2l 164 dL_law_163 rfl ?_
      refine r_ldc2 167 dL_law_164 rfl lkL_13 ?_
      refine r_land 168 dL_law_167 rfl ?_
      refine r_lor 169 dL_law_168 rfl ?_
      obtain ⟨hs, X⟩ := r_cv X
      obtain ⟨x283, h282, hc, X⟩ := bnd_ok X
      refine r_callV2 172 dL_law_169 rfl lmL_15 hs (mtX8_ratio G hG hc) rfl ⟨(by show _ ≤ 600000; omega), (by show _ ≤ 7302250; omega)⟩ ?_
      refine r_ald2 173 dL_law_172 rfl ?_
      refine r_ald0 174 dL_law_173 rfl ?_
      refine r_ild3 175 dL_law_174 rfl ?_
      refine r_iconst 176 _ dL_law_175 rfl ki_1 ?_
      refine r_iadd 177 dL_law_176 rfl ?_
      refine r_xI 178 dL_law_177 rfl hX X (fun x284 X => ?_)
      refine r_i2l 179 dL_law_178 rfl ?_
      refine r_bipush 181 _ dL_law_179 rfl kb_32 ?_
      refine r_lshl 182 dL_law_181 rfl ?_
      refine r_ald0 183 dL_law_182 rfl ?_
      refine r_ild3 184 dL_law_183 rfl ?_
      refine r_iconst 185 _ dL_law_184 rfl ki_2 ?_
      refine r_iadd 186 dL_law_185 rfl ?_
      refine r_xI 187 dL_law_186 rfl hX X (fun x285 X => ?_)
      refine r_i2l 188 dL_law_187 rfl ?_
      refine r_ldc2 191 dL_law_188 rfl lkL_13 ?_
      refine r_land 192 dL_law_191 rfl ?_
      refine r_lor 193 dL_law_192 rfl ?_
      refine r_ald0 194 dL_law_193 rfl ?_
      refine r_ild3 195 dL_law_194 rfl ?_
      refine r_iconst 196 _ dL_law_195 rfl ki_3 ?_
      refine r_iadd 197 dL_law_196 rfl ?_
      refine r_xI 198 dL_law_197 rfl hX X (fun x286 X => ?_)
      refine r_i2l 199 dL_law_198 rfl ?_
      refine r_bipush 201 _ dL_law_199 rfl kb_32 ?_
      refine r_lshl 202 dL_law_201 rfl ?_
      refine r_ald0 203 dL_law_202 rfl ?_
      refine r_ild3 204 dL_law_203 rfl ?_
      refine r_iconst 205 _ dL_law_204 rfl ki_4 ?_
      refine r_iadd 206 dL_law_205 rfl ?_
      refine r_xI 207 dL_law_206 rfl hX X (fun x287 X => ?_)
      refine r_i2l 208 dL_law_207 rfl ?_
      refine r_ldc2 211 dL_law_208 rfl lkL_13 ?_
      refine r_land 212 dL_law_211 rfl ?_
      refine r_lor 213 dL_law_212 rfl ?_
      obtain ⟨hs, X⟩ := r_cv X
      obtain ⟨x289, h288, hc, X⟩ := bnd_ok X
      refine r_callV2 216 dL_law_213 rfl lmL_19 hs (mtX9_ratio G hG hc) rfl ⟨(by show _ ≤ 600000; omega), (by show _ ≤ 7302250; omega)⟩ ?_
      refine r_lif_eq 888 220 dL_law_216 dL_law_217 (by decide) rfl X (fun _ X => ?_) (fun _ X => ?_)
      · refine r_iinc3w 891 dL_law_888 rfl rfl ki_5 X (fun x290 X => ?_)
        refine r_goto 18 dL_law_891 (by decide) ?_
        exact r_cut (hK18 _ _ _ _ X) ⟨rfl, ⟨rfl, ⟨rfl, ⟨rfl, trivial⟩⟩⟩⟩
      · refine r_iconst 221 _ dL_law_220 rfl ki_0 ?_
        exact r_retLaw dL_law_221 (by show _ ≤ 600000; omega) (by show _ ≤ 7302250; omega) hR1 X
    · refine r_case 222 1 1 190 dL_law_32 (by decide) (by decide) (by decide) (by decide) X (fun _ X => ?_) (fun n1 X => ?_)
      · refine r_ald1 223 dL_law_222 rfl ?_
        refine r_ald0 224 dL_law_223 rfl ?_
        refine r_ild3 225 dL_law_224 rfl ?_
        refine r_iconst 226 _ dL_law_225 rfl ki_1 ?_
        refine r_iadd 227 dL_law_226 rfl ?_
        refine r_xI 228 dL_law_227 rfl hX X (fun x265 X => ?_)
        refine r_ald0 229 dL_law_228 rfl ?_
        refine r_ild3 230 dL_law_229 rfl ?_
        refine r_iconst 231 _ dL_law_230 rfl ki_2 ?_
        refine r_iadd 232 dL_law_231 rfl ?_
        refine r_xI 233 dL_law_232 rfl hX X (fun x266 X => ?_)
        refine r_ald0 234 dL_law_233 rfl ?_
        refine r_ild3 235 dL_law_234 rfl ?_
        refine r_iconst 236 _ dL_law_235 rfl ki_3 ?_
        refine r_iadd 237 dL_law_236 rfl ?_
        refine r_xI 238 dL_law_237 rfl hX X (fun x267 X => ?_)
        refine r_ald0 239 dL_law_238 rfl ?_
        refine r_ild3 240 dL_law_239 rfl ?_
        refine r_iconst 241 _ dL_law_240 rfl ki_4 ?_
        refine r_iadd 242 dL_law_241 rfl ?_
        refine r_xI 243 dL_law_242 rfl hX X (fun x268 X => ?_)
        obtain ⟨hs, X⟩ := r_cv X
        obtain ⟨x270, h269, hc, X⟩ := bnd_ok X
        refine r_callV4 246 dL_law_243 rfl lmL_20 hs (mtX8_root G hG hc) rfl ⟨(by show _ ≤ 600000; omega), (by show _ ≤ 7302250; omega)⟩ ?_
        refine r_ald2 247 dL_law_246 rfl ?_
        refine r_ald0 248 dL_law_247 rfl ?_
        refine r_ild3 249 dL_law_248 rfl ?_
        refine r_iconst 250 _ dL_law_249 rfl ki_1 ?_
        refine r_iadd 251 dL_law_250 rfl ?_
        refine r_xI 252 dL_law_251 rfl hX X (fun x271 X => ?_)
        refine r_ald0 253 dL_law_252 rfl ?_
        refine r_ild3 254 dL_law_253 rfl ?_
        refine r_iconst 255 _ dL_law_254 rfl ki_2 ?_
        refine r_iadd 256 dL_law_255 rfl ?_
        refine r_xI 257 dL_law_256 rfl hX X (fun x272 X => ?_)
        refine r_ald0 258 dL_law_257 rfl ?_
        refine r_ild3 259 dL_law_258 rfl ?_
        refine r_iconst 260 _ dL_law_259 rfl ki_3 ?_
        refine r_iadd 261 dL_law_260 rfl ?_
        refine r_xI 262 dL_law_261 rfl hX X (fun x273 X => ?_)
        refine r_ald0 263 dL_law_262 rfl ?_
        refine r_ild3 264 dL_law_263 rfl ?_
        refine r_iconst 265 _ dL_law_264 rfl ki_4 ?_
        refine r_iadd 266 dL_law_265 rfl ?_
        refine r_xI 267 dL_law_266 rfl hX X (fun x274 X => ?_)
        obtain ⟨hs, X⟩ := r_cv X
        obtain ⟨x276, h275, hc, X⟩ := bnd_ok X
        refine r_callV4 270 dL_law_267 rfl lmL_24 hs (mtX9_root G hG hc) rfl ⟨(by show _ ≤ 600000; omega), (by show _ ≤ 7302250; omega)⟩ ?_
        refine r_lif_eq 888 274 dL_law_270 dL_law_271 (by decide) rfl X (fun _ X => ?_) (fun _ X => ?_)
        · refine r_iinc3w 891 dL_law_888 rfl rfl ki_5 X (fun x277 X => ?_)
          refine r_goto 18 dL_law_891 (by decide) ?_
          exact r_cut (hK18 _ _ _ _ X) ⟨rfl, ⟨rfl, ⟨rfl, ⟨rfl, trivial⟩⟩⟩⟩
        · refine r_iconst 275 _ dL_law_274 rfl ki_0 ?_
          exact r_retLaw dL_law_275 (by show _ ≤ 600000; omega) (by show _ ≤ 7302250; omega) hR1 X
      · refine r_case 276 2 2 244 dL_law_32 (by decide) (by decide) (by decide) (by decide) X (fun _ X => ?_) (fun n2 X => ?_)
        · refine r_ald1 277 dL_law_276 rfl ?_
          refine r_ald0 278 dL_law_277 rfl ?_
          refine r_ild3 279 dL_law_278 rfl ?_
          refine r_iconst 280 _ dL_law_279 rfl ki_1 ?_
          refine r_iadd 281 dL_law_280 rfl ?_
          refine r_xI 282 dL_law_281 rfl hX X (fun x256 X => ?_)
          refine r_ald0 283 dL_law_282 rfl ?_
          refine r_ild3 284 dL_law_283 rfl ?_
          refine r_iconst 285 _ dL_law_284 rfl ki_2 ?_
          refine r_iadd 286 dL_law_285 rfl ?_
          refine r_xI 287 dL_law_286 rfl hX X (fun x257 X => ?_)
          obtain ⟨hs, X⟩ := r_cv X
          obtain ⟨x259, h258, hc, X⟩ := bnd_ok X
          refine r_callV2 290 dL_law_287 rfl lmL_25 hs (mtX8_row G hG hc) rfl ⟨(by show _ ≤ 600000; omega), (by show _ ≤ 7302250; omega)⟩ ?_
          refine r_ald2 291 dL_law_290 rfl ?_
          refine r_ald0 292 dL_law_291 rfl ?_
          refine r_ild3 293 dL_law_292 rfl ?_
          refine r_iconst 294 _ dL_law_293 rfl ki_1 ?_
          refine r_iadd 295 dL_law_294 rfl ?_
          refine r_xI 296 dL_law_295 rfl hX X (fun x260 X => ?_)
          refine r_ald0 297 dL_law_296 rfl ?_
          refine r_ild3 298 dL_law_297 rfl ?_
          refine r_iconst 299 _ dL_law_298 rfl ki_2 ?_
          refine r_iadd 300 dL_law_299 rfl ?_
          refine r_xI 301 dL_law_300 rfl hX X (fun x261 X => ?_)
          obtain ⟨hs, X⟩ := r_cv X
          obtain ⟨x263, h262, hc, X⟩ := bnd_ok X
          refine r_callV2 304 dL_law_301 rfl lmL_29 hs (mtX9_row G hG hc) rfl ⟨(by show _ ≤ 600000; omega), (by show _ ≤ 7302250; omega)⟩ ?_
          refine r_lif_eq 888 308 dL_law_304 dL_law_305 (by decide) rfl X (fun _ X => ?_) (fun _ X => ?_)
          · refine r_iinc3w 891 dL_law_888 rfl rfl ki_5 X (fun x264 X => ?_)
            refine r_goto 18 dL_law_891 (by decide) ?_
            exact r_cut (hK18 _ _ _ _ X) ⟨rfl, ⟨rfl, ⟨rfl, ⟨rfl, trivial⟩⟩⟩⟩
          · refine r_iconst 309 _ dL_law_308 rfl ki_0 ?_
            exact r_retLaw dL_law_309 (by show _ ≤ 600000; omega) (by show _ ≤ 7302250; omega) hR1 X
        · refine r_case 310 3 3 278 dL_law_32 (by decide) (by decide) (by decide) (by decide) X (fun _ X => ?_) (fun n3 X => ?_)
          · refine r_ald1 311 dL_law_310 rfl ?_
            refine r_ald0 312 dL_law_311 rfl ?_
            refine r_ild3 313 dL_law_312 rfl ?_
            refine r_iconst 314 _ dL_law_313 rfl ki_1 ?_
            refine r_iadd 315 dL_law_314 rfl ?_
            refine r_xI 316 dL_law_315 rfl hX X (fun x249 X => ?_)
            obtain ⟨hs, X⟩ := r_cv X
            obtain ⟨x251, h250, hc, X⟩ := bnd_ok X
            refine r_callV1 319 dL_law_316 rfl lmL_30 hs (mtX8_rule G hG hc) rfl ⟨(by show _ ≤ 600000; omega), (by show _ ≤ 7302250; omega)⟩ ?_
            refine r_ald2 320 dL_law_319 rfl ?_
            refine r_ald0 321 dL_law_320 rfl ?_
            refine r_ild3 322 dL_law_321 rfl ?_
            refine r_iconst 323 _ dL_law_322 rfl ki_1 ?_
            refine r_iadd 324 dL_law_323 rfl ?_
            refine r_xI 325 dL_law_324 rfl hX X (fun x252 X => ?_)
            obtain ⟨hs, X⟩ := r_cv X
            obtain ⟨x254, h253, hc, X⟩ := bnd_ok X
            refine r_callV1 328 dL_law_325 rfl lmL_34 hs (mtX9_rule G hG hc) rfl ⟨(by show _ ≤ 600000; omega), (by show _ ≤ 7302250; omega)⟩ ?_
            refine r_lif_eq 888 332 dL_law_328 dL_law_329 (by decide) rfl X (fun _ X => ?_) (fun _ X => ?_)
            · refine r_iinc3w 891 dL_law_888 rfl rfl ki_5 X (fun x255 X => ?_)
              refine r_goto 18 dL_law_891 (by decide) ?_
              exact r_cut (hK18 _ _ _ _ X) ⟨rfl, ⟨rfl, ⟨rfl, ⟨rfl, trivial⟩⟩⟩⟩
            · refine r_iconst 333 _ dL_law_332 rfl ki_0 ?_
              exact r_retLaw dL_law_333 (by show _ ≤ 600000; omega) (by show _ ≤ 7302250; omega) hR1 X
          · refine r_case 334 4 4 302 dL_law_32 (by decide) (by decide) (by decide) (by decide) X (fun _ X => ?_) (fun n4 X => ?_)
            · refine r_ald1 335 dL_law_334 rfl ?_
              refine r_ald0 336 dL_law_335 rfl ?_
              refine r_ild3 337 dL_law_336 rfl ?_
              refine r_iconst 338 _ dL_law_337 rfl ki_1 ?_
              refine r_iadd 339 dL_law_338 rfl ?_
              refine r_xI 340 dL_law_339 rfl hX X (fun x238 X => ?_)
              refine r_ald0 341 dL_law_340 rfl ?_
              refine r_ild3 342 dL_law_341 rfl ?_
              refine r_iconst 343 _ dL_law_342 rfl ki_2 ?_
              refine r_iadd 344 dL_law_343 rfl ?_
              refine r_xI 345 dL_law_344 rfl hX X (fun x239 X => ?_)
              refine r_ald0 346 dL_law_345 rfl ?_
              refine r_ild3 347 dL_law_346 rfl ?_
              refine r_iconst 348 _ dL_law_347 rfl ki_3 ?_
              refine r_iadd 349 dL_law_348 rfl ?_
              refine r_xI 350 dL_law_349 rfl hX X (fun x240 X => ?_)
              obtain ⟨hs, X⟩ := r_cv X
              obtain ⟨x242, h241, hc, X⟩ := bnd_ok X
              refine r_callV3 353 dL_law_350 rfl lmL_35 hs (mtX8_act G hG hc) rfl ⟨(by show _ ≤ 600000; omega), (by show _ ≤ 7302250; omega)⟩ ?_
              refine r_ald2 354 dL_law_353 rfl ?_
              refine r_ald0 355 dL_law_354 rfl ?_
              refine r_ild3 356 dL_law_355 rfl ?_
              refine r_iconst 357 _ dL_law_356 rfl ki_1 ?_
              refine r_iadd 358 dL_law_357 rfl ?_
              refine r_xI 359 dL_law_358 rfl hX X (fun x243 X => ?_)
              refine r_ald0 360 dL_law_359 rfl ?_
              refine r_ild3 361 dL_law_360 rfl ?_
              refine r_iconst 362 _ dL_law_361 rfl ki_2 ?_
              refine r_iadd 363 dL_law_362 rfl ?_
              refine r_xI 364 dL_law_363 rfl hX X (fun x244 X => ?_)
              refine r_ald0 365 dL_law_364 rfl ?_
              refine r_ild3 366 dL_law_365 rfl ?_
              refine r_iconst 367 _ dL_law_366 rfl ki_3 ?_
              refine r_iadd 368 dL_law_367 rfl ?_
              refine r_xI 369 dL_law_368 rfl hX X (fun x245 X => ?_)
              obtain ⟨hs, X⟩ := r_cv X
              obtain ⟨x247, h246, hc, X⟩ := bnd_ok X
              refine r_callV3 372 dL_law_369 rfl lmL_39 hs (mtX9_act G hG hc) rfl ⟨(by show _ ≤ 600000; omega), (by show _ ≤ 7302250; omega)⟩ ?_
              refine r_lif_eq 888 376 dL_law_372 dL_law_373 (by decide) rfl X (fun _ X => ?_) (fun _ X => ?_)
              · refine r_iinc3w 891 dL_law_888 rfl rfl ki_5 X (fun x248 X => ?_)
                refine r_goto 18 dL_law_891 (by decide) ?_
                exact r_cut (hK18 _ _ _ _ X) ⟨rfl, ⟨rfl, ⟨rfl, ⟨rfl, trivial⟩⟩⟩⟩
              · refine r_iconst 377 _ dL_law_376 rfl ki_0 ?_
                exact r_retLaw dL_law_377 (by show _ ≤ 600000; omega) (by show _ ≤ 7302250; omega) hR1 X
            · refine r_case 378 5 5 346 dL_law_32 (by decide) (by decide) (by decide) (by decide) X (fun _ X => ?_) (fun n5 X => ?_)
              · refine r_ald1 379 dL_law_378 rfl ?_
                refine r_ald0 380 dL_law_379 rfl ?_
                refine r_ild3 381 dL_law_380 rfl ?_
                refine r_iconst 382 _ dL_law_381 rfl ki_1 ?_
                refine r_iadd 383 dL_law_382 rfl ?_
                refine r_xI 384 dL_law_383 rfl hX X (fun x231 X => ?_)
                obtain ⟨hs, X⟩ := r_cv X
                obtain ⟨x233, h232, hc, X⟩ := bnd_ok X
                refine r_callV1 387 dL_law_384 rfl lmL_40 hs (mtX8_turn G hG hc) rfl ⟨(by show _ ≤ 600000; omega), (by show _ ≤ 7302250; omega)⟩ ?_
                refine r_ald2 388 dL_law_387 rfl ?_
                refine r_ald0 389 dL_law_388 rfl ?_
                refine r_ild3 390 dL_law_389 rfl ?_
                refine r_iconst 391 _ dL_law_390 rfl ki_1 ?_
                refine r_iadd 392 dL_law_391 rfl ?_
                refine r_xI 393 dL_law_392 rfl hX X (fun x234 X => ?_)
                obtain ⟨hs, X⟩ := r_cv X
                obtain ⟨x236, h235, hc, X⟩ := bnd_ok X
                refine r_callV1 396 dL_law_393 rfl lmL_43 hs (mtX9_turn G hG hc) rfl ⟨(by show _ ≤ 600000; omega), (by show _ ≤ 7302250; omega)⟩ ?_
                refine r_lif_eq 888 400 dL_law_396 dL_law_397 (by decide) rfl X (fun _ X => ?_) (fun _ X => ?_)
                · refine r_iinc3w 891 dL_law_888 rfl rfl ki_5 X (fun x237 X => ?_)
                  refine r_goto 18 dL_law_891 (by decide) ?_
                  exact r_cut (hK18 _ _ _ _ X) ⟨rfl, ⟨rfl, ⟨rfl, ⟨rfl, trivial⟩⟩⟩⟩
                · refine r_iconst 401 _ dL_law_400 rfl ki_0 ?_
                  exact r_retLaw dL_law_401 (by show _ ≤ 600000; omega) (by show _ ≤ 7302250; omega) hR1 X
              · refine r_case 402 6 6 370 dL_law_32 (by decide) (by decide) (by decide) (by decide) X (fun _ X => ?_) (fun n6 X => ?_)
                · refine r_ald1 403 dL_law_402 rfl ?_
                  refine r_ald0 404 dL_law_403 rfl ?_
                  refine r_ild3 405 dL_law_404 rfl ?_
                  refine r_iconst 406 _ dL_law_405 rfl ki_1 ?_
                  refine r_iadd 407 dL_law_406 rfl ?_
                  refine r_xI 408 dL_law_407 rfl hX X (fun x222 X => ?_)
                  refine r_ald0 409 dL_law_408 rfl ?_
                  refine r_ild3 410 dL_law_409 rfl ?_
                  refine r_iconst 411 _ dL_law_410 rfl ki_2 ?_
                  refine r_iadd 412 dL_law_411 rfl ?_
                  refine r_xI 413 dL_law_412 rfl hX X (fun x223 X => ?_)
                  obtain ⟨hs, X⟩ := r_cv X
                  obtain ⟨x225, h224, hc, X⟩ := bnd_ok X
                  refine r_callV2 416 dL_law_413 rfl lmL_44 hs (mtX8_factor G hG hc) rfl ⟨(by show _ ≤ 600000; omega), (by show _ ≤ 7302250; omega)⟩ ?_
                  refine r_ald2 417 dL_law_416 rfl ?_
                  refine r_ald0 418 dL_law_417 rfl ?_
                  refine r_ild3 419 dL_law_418 rfl ?_
                  refine r_iconst 420 _ dL_law_419 rfl ki_1 ?_
                  refine r_iadd 421 dL_law_420 rfl ?_
                  refine r_xI 422 dL_law_421 rfl hX X (fun x226 X => ?_)
                  refine r_ald0 423 dL_law_422 rfl ?_
                  refine r_ild3 424 dL_law_423 rfl ?_
                  refine r_iconst 425 _ dL_law_424 rfl ki_2 ?_
                  refine r_iadd 426 dL_law_425 rfl ?_
                  refine r_xI 427 dL_law_426 rfl hX X (fun x227 X => ?_)
                  obtain ⟨hs, X⟩ := r_cv X
                  obtain ⟨x229, h228, hc, X⟩ := bnd_ok X
                  refine r_callV2 430 dL_law_427 rfl lmL_47 hs (mtX9_factor G hG hc) rfl ⟨(by show _ ≤ 600000; omega), (by show _ ≤ 7302250; omega)⟩ ?_
                  refine r_lif_eq 888 434 dL_law_430 dL_law_431 (by decide) rfl X (fun _ X => ?_) (fun _ X => ?_)
                  · refine r_iinc3w 891 dL_law_888 rfl rfl ki_5 X (fun x230 X => ?_)
                    refine r_goto 18 dL_law_891 (by decide) ?_
                    exact r_cut (hK18 _ _ _ _ X) ⟨rfl, ⟨rfl, ⟨rfl, ⟨rfl, trivial⟩⟩⟩⟩
                  · refine r_iconst 435 _ dL_law_434 rfl ki_0 ?_
                    exact r_retLaw dL_law_435 (by show _ ≤ 600000; omega) (by show _ ≤ 7302250; omega) hR1 X
                · refine r_case 436 7 7 404 dL_law_32 (by decide) (by decide) (by decide) (by decide) X (fun _ X => ?_) (fun n7 X => ?_)
                  · refine r_ald1 437 dL_law_436 rfl ?_
                    refine r_ald0 438 dL_law_437 rfl ?_
                    refine r_ild3 439 dL_law_438 rfl ?_
                    refine r_iconst 440 _ dL_law_439 rfl ki_1 ?_
                    refine r_iadd 441 dL_law_440 rfl ?_
                    refine r_xI 442 dL_law_441 rfl hX X (fun x213 X => ?_)
                    refine r_ald0 443 dL_law_442 rfl ?_
                    refine r_ild3 444 dL_law_443 rfl ?_
                    refine r_iconst 445 _ dL_law_444 rfl ki_2 ?_
                    refine r_iadd 446 dL_law_445 rfl ?_
                    refine r_xI 447 dL_law_446 rfl hX X (fun x214 X => ?_)
                    obtain ⟨hs, X⟩ := r_cv X
                    obtain ⟨x216, h215, hc, X⟩ := bnd_ok X
                    refine r_callV2 450 dL_law_447 rfl lmL_48 hs (mtX8_mix G hG hc) rfl ⟨(by show _ ≤ 600000; omega), (by show _ ≤ 7302250; omega)⟩ ?_
                    refine r_ald2 451 dL_law_450 rfl ?_
                    refine r_ald0 452 dL_law_451 rfl ?_
                    refine r_ild3 453 dL_law_452 rfl ?_
                    refine r_iconst 454 _ dL_law_453 rfl ki_1 ?_
                    refine r_iadd 455 dL_law_454 rfl ?_
                    refine r_xI 456 dL_law_455 rfl hX X (fun x217 X => ?_)
                    refine r_ald0 457 dL_law_456 rfl ?_
                    refine r_ild3 458 dL_law_457 rfl ?_
                    refine r_iconst 459 _ dL_law_458 rfl ki_2 ?_
                    refine r_iadd 460 dL_law_459 rfl ?_
                    refine r_xI 461 dL_law_460 rfl hX X (fun x218 X => ?_)
                    obtain ⟨hs, X⟩ := r_cv X
                    obtain ⟨x220, h219, hc, X⟩ := bnd_ok X
                    refine r_callV2 464 dL_law_461 rfl lmL_51 hs (mtX9_mix G hG hc) rfl ⟨(by show _ ≤ 600000; omega), (by show _ ≤ 7302250; omega)⟩ ?_
                    refine r_lif_eq 888 468 dL_law_464 dL_law_465 (by decide) rfl X (fun _ X => ?_) (fun _ X => ?_)
                    · refine r_iinc3w 891 dL_law_888 rfl rfl ki_5 X (fun x221 X => ?_)
                      refine r_goto 18 dL_law_891 (by decide) ?_
                      exact r_cut (hK18 _ _ _ _ X) ⟨rfl, ⟨rfl, ⟨rfl, ⟨rfl, trivial⟩⟩⟩⟩
                    · refine r_iconst 469 _ dL_law_468 rfl ki_0 ?_
                      exact r_retLaw dL_law_469 (by show _ ≤ 600000; omega) (by show _ ≤ 7302250; omega) hR1 X
                  · refine r_case 470 8 8 438 dL_law_32 (by decide) (by decide) (by decide) (by decide) X (fun _ X => ?_) (fun n8 X => ?_)
                    · refine r_ald1 471 dL_law_470 rfl ?_
                      refine r_ald0 472 dL_law_471 rfl ?_
                      refine r_ild3 473 dL_law_472 rfl ?_
                      refine r_iconst 474 _ dL_law_473 rfl ki_1 ?_
                      refine r_iadd 475 dL_law_474 rfl ?_
                      refine r_xI 476 dL_law_475 rfl hX X (fun x206 X => ?_)
                      obtain ⟨hs, X⟩ := r_cv X
                      obtain ⟨x208, h207, hc, X⟩ := bnd_ok X
                      refine r_callV1 479 dL_law_476 rfl lmL_52 hs (mtX8_drop G hG hc) rfl ⟨(by show _ ≤ 600000; omega), (by show _ ≤ 7302250; omega)⟩ ?_
                      refine r_ald2 480 dL_law_479 rfl ?_
                      refine r_ald0 481 dL_law_480 rfl ?_
                      refine r_ild3 482 dL_law_481 rfl ?_
                      refine r_iconst 483 _ dL_law_482 rfl ki_1 ?_
                      refine r_iadd 484 dL_law_483 rfl ?_
                      refine r_xI 485 dL_law_484 rfl hX X (fun x209 X => ?_)
                      obtain ⟨hs, X⟩ := r_cv X
                      obtain ⟨x211, h210, hc, X⟩ := bnd_ok X
                      refine r_callV1 488 dL_law_485 rfl lmL_55 hs (mtX9_drop G hG hc) rfl ⟨(by show _ ≤ 600000; omega), (by show _ ≤ 7302250; omega)⟩ ?_
                      refine r_lif_eq 888 492 dL_law_488 dL_law_489 (by decide) rfl X (fun _ X => ?_) (fun _ X => ?_)
                      · refine r_iinc3w 891 dL_law_888 rfl rfl ki_5 X (fun x212 X => ?_)
                        refine r_goto 18 dL_law_891 (by decide) ?_
                        exact r_cut (hK18 _ _ _ _ X) ⟨rfl, ⟨rfl, ⟨rfl, ⟨rfl, trivial⟩⟩⟩⟩
                      · refine r_iconst 493 _ dL_law_492 rfl ki_0 ?_
                        exact r_retLaw dL_law_493 (by show _ ≤ 600000; omega) (by show _ ≤ 7302250; omega) hR1 X
                    · refine r_case 494 9 9 462 dL_law_32 (by decide) (by decide) (by decide) (by decide) X (fun _ X => ?_) (fun n9 X => ?_)
                      · refine r_ald1 495 dL_law_494 rfl ?_
                        refine r_ald0 496 dL_law_495 rfl ?_
                        refine r_ild3 497 dL_law_496 rfl ?_
                        refine r_iconst 498 _ dL_law_497 rfl ki_1 ?_
                        refine r_iadd 499 dL_law_498 rfl ?_
                        refine r_xI 500 dL_law_499 rfl hX X (fun x197 X => ?_)
                        refine r_ald0 501 dL_law_500 rfl ?_
                        refine r_ild3 502 dL_law_501 rfl ?_
                        refine r_iconst 503 _ dL_law_502 rfl ki_2 ?_
                        refine r_iadd 504 dL_law_503 rfl ?_
                        refine r_xI 505 dL_law_504 rfl hX X (fun x198 X => ?_)
                        obtain ⟨hs, X⟩ := r_cv X
                        obtain ⟨x200, h199, hc, X⟩ := bnd_ok X
                        refine r_callV2 508 dL_law_505 rfl lmL_56 hs (mtX8_told G hG hc) rfl ⟨(by show _ ≤ 600000; omega), (by show _ ≤ 7302250; omega)⟩ ?_
                        refine r_ald2 509 dL_law_508 rfl ?_
                        refine r_ald0 510 dL_law_509 rfl ?_
                        refine r_ild3 511 dL_law_510 rfl ?_
                        refine r_iconst 512 _ dL_law_511 rfl ki_1 ?_
                        refine r_iadd 513 dL_law_512 rfl ?_
                        refine r_xI 514 dL_law_513 rfl hX X (fun x201 X => ?_)
                        refine r_ald0 515 dL_law_514 rfl ?_
                        refine r_ild3 516 dL_law_515 rfl ?_
                        refine r_iconst 517 _ dL_law_516 rfl ki_2 ?_
                        refine r_iadd 518 dL_law_517 rfl ?_
                        refine r_xI 519 dL_law_518 rfl hX X (fun x202 X => ?_)
                        obtain ⟨hs, X⟩ := r_cv X
                        obtain ⟨x204, h203, hc, X⟩ := bnd_ok X
                        refine r_callV2 522 dL_law_519 rfl lmL_59 hs (mtX9_told G hG hc) rfl ⟨(by show _ ≤ 600000; omega), (by show _ ≤ 7302250; omega)⟩ ?_
                        refine r_lif_eq 888 526 dL_law_522 dL_law_523 (by decide) rfl X (fun _ X => ?_) (fun _ X => ?_)
                        · refine r_iinc3w 891 dL_law_888 rfl rfl ki_5 X (fun x205 X => ?_)
                          refine r_goto 18 dL_law_891 (by decide) ?_
                          exact r_cut (hK18 _ _ _ _ X) ⟨rfl, ⟨rfl, ⟨rfl, ⟨rfl, trivial⟩⟩⟩⟩
                        · refine r_iconst 527 _ dL_law_526 rfl ki_0 ?_
                          exact r_retLaw dL_law_527 (by show _ ≤ 600000; omega) (by show _ ≤ 7302250; omega) hR1 X
                      · refine r_case 528 10 10 496 dL_law_32 (by decide) (by decide) (by decide) (by decide) X (fun _ X => ?_) (fun n10 X => ?_)
                        · refine r_ald1 529 dL_law_528 rfl ?_
                          refine r_ald0 530 dL_law_529 rfl ?_
                          refine r_ild3 531 dL_law_530 rfl ?_
                          refine r_iconst 532 _ dL_law_531 rfl ki_1 ?_
                          refine r_iadd 533 dL_law_532 rfl ?_
                          refine r_xI 534 dL_law_533 rfl hX X (fun x188 X => ?_)
                          refine r_ald0 535 dL_law_534 rfl ?_
                          refine r_ild3 536 dL_law_535 rfl ?_
                          refine r_iconst 537 _ dL_law_536 rfl ki_2 ?_
                          refine r_iadd 538 dL_law_537 rfl ?_
                          refine r_xI 539 dL_law_538 rfl hX X (fun x189 X => ?_)
                          obtain ⟨hs, X⟩ := r_cv X
                          obtain ⟨x191, h190, hc, X⟩ := bnd_ok X
                          refine r_callV2 542 dL_law_539 rfl lmL_60 hs (mtX8_part G hG hc) rfl ⟨(by show _ ≤ 600000; omega), (by show _ ≤ 7302250; omega)⟩ ?_
                          refine r_ald2 543 dL_law_542 rfl ?_
                          refine r_ald0 544 dL_law_543 rfl ?_
                          refine r_ild3 545 dL_law_544 rfl ?_
                          refine r_iconst 546 _ dL_law_545 rfl ki_1 ?_
                          refine r_iadd 547 dL_law_546 rfl ?_
                          refine r_xI 548 dL_law_547 rfl hX X (fun x192 X => ?_)
                          refine r_ald0 549 dL_law_548 rfl ?_
                          refine r_ild3 550 dL_law_549 rfl ?_
                          refine r_iconst 551 _ dL_law_550 rfl ki_2 ?_
                          refine r_iadd 552 dL_law_551 rfl ?_
                          refine r_xI 553 dL_law_552 rfl hX X (fun x193 X => ?_)
                          obtain ⟨hs, X⟩ := r_cv X
                          obtain ⟨x195, h194, hc, X⟩ := bnd_ok X
                          refine r_callV2 556 dL_law_553 rfl lmL_63 hs (mtX9_part G hG hc) rfl ⟨(by show _ ≤ 600000; omega), (by show _ ≤ 7302250; omega)⟩ ?_
                          refine r_lif_eq 888 560 dL_law_556 dL_law_557 (by decide) rfl X (fun _ X => ?_) (fun _ X => ?_)
                          · refine r_iinc3w 891 dL_law_888 rfl rfl ki_5 X (fun x196 X => ?_)
                            refine r_goto 18 dL_law_891 (by decide) ?_
                            exact r_cut (hK18 _ _ _ _ X) ⟨rfl, ⟨rfl, ⟨rfl, ⟨rfl, trivial⟩⟩⟩⟩
                          · refine r_iconst 561 _ dL_law_560 rfl ki_0 ?_
                            exact r_retLaw dL_law_561 (by show _ ≤ 600000; omega) (by show _ ≤ 7302250; omega) hR1 X
                        · refine r_case 562 11 11 530 dL_law_32 (by decide) (by decide) (by decide) (by decide) X (fun _ X => ?_) (fun n11 X => ?_)
                          · refine r_ald1 563 dL_law_562 rfl ?_
                            refine r_ald0 564 dL_law_563 rfl ?_
                            refine r_ild3 565 dL_law_564 rfl ?_
                            refine r_iconst 566 _ dL_law_565 rfl ki_1 ?_
                            refine r_iadd 567 dL_law_566 rfl ?_
                            refine r_xI 568 dL_law_567 rfl hX X (fun x179 X => ?_)
                            refine r_ald0 569 dL_law_568 rfl ?_
                            refine r_ild3 570 dL_law_569 rfl ?_
                            refine r_iconst 571 _ dL_law_570 rfl ki_2 ?_
                            refine r_iadd 572 dL_law_571 rfl ?_
                            refine r_xI 573 dL_law_572 rfl hX X (fun x180 X => ?_)
                            obtain ⟨hs, X⟩ := r_cv X
                            obtain ⟨x182, h181, hc, X⟩ := bnd_ok X
                            refine r_callV2 576 dL_law_573 rfl lmL_64 hs (mtX8_exact G hG hc) rfl ⟨(by show _ ≤ 600000; omega), (by show _ ≤ 7302250; omega)⟩ ?_
                            refine r_ald2 577 dL_law_576 rfl ?_
                            refine r_ald0 578 dL_law_577 rfl ?_
                            refine r_ild3 579 dL_law_578 rfl ?_
                            refine r_iconst 580 _ dL_law_579 rfl ki_1 ?_
                            refine r_iadd 581 dL_law_580 rfl ?_
                            refine r_xI 582 dL_law_581 rfl hX X (fun x183 X => ?_)
                            refine r_ald0 583 dL_law_582 rfl ?_
                            refine r_ild3 584 dL_law_583 rfl ?_
                            refine r_iconst 585 _ dL_law_584 rfl ki_2 ?_
                            refine r_iadd 586 dL_law_585 rfl ?_
                            refine r_xI 587 dL_law_586 rfl hX X (fun x184 X => ?_)
                            obtain ⟨hs, X⟩ := r_cv X
                            obtain ⟨x186, h185, hc, X⟩ := bnd_ok X
                            refine r_callV2 590 dL_law_587 rfl lmL_67 hs (mtX9_exact G hG hc) rfl ⟨(by show _ ≤ 600000; omega), (by show _ ≤ 7302250; omega)⟩ ?_
                            refine r_lif_eq 888 594 dL_law_590 dL_law_591 (by decide) rfl X (fun _ X => ?_) (fun _ X => ?_)
                            · refine r_iinc3w 891 dL_law_888 rfl rfl ki_5 X (fun x187 X => ?_)
                              refine r_goto 18 dL_law_891 (by decide) ?_
                              exact r_cut (hK18 _ _ _ _ X) ⟨rfl, ⟨rfl, ⟨rfl, ⟨rfl, trivial⟩⟩⟩⟩
                            · refine r_iconst 595 _ dL_law_594 rfl ki_0 ?_
                              exact r_retLaw dL_law_595 (by show _ ≤ 600000; omega) (by show _ ≤ 7302250; omega) hR1 X
                          · refine r_case 596 12 12 564 dL_law_32 (by decide) (by decide) (by decide) (by decide) X (fun _ X => ?_) (fun n12 X => ?_)
                            · refine r_ald1 597 dL_law_596 rfl ?_
                              refine r_ald0 598 dL_law_597 rfl ?_
                              refine r_ild3 599 dL_law_598 rfl ?_
                              refine r_iconst 600 _ dL_law_599 rfl ki_1 ?_
                              refine r_iadd 601 dL_law_600 rfl ?_
                              refine r_xI 602 dL_law_601 rfl hX X (fun x170 X => ?_)
                              refine r_ald0 603 dL_law_602 rfl ?_
                              refine r_ild3 604 dL_law_603 rfl ?_
                              refine r_iconst 605 _ dL_law_604 rfl ki_2 ?_
                              refine r_iadd 606 dL_law_605 rfl ?_
                              refine r_xI 607 dL_law_606 rfl hX X (fun x171 X => ?_)
                              obtain ⟨hs, X⟩ := r_cv X
                              obtain ⟨x173, h172, hc, X⟩ := bnd_ok X
                              refine r_callV2 610 dL_law_607 rfl lmL_68 hs (mtX8_round G hG hc) rfl ⟨(by show _ ≤ 600000; omega), (by show _ ≤ 7302250; omega)⟩ ?_
                              refine r_ald2 611 dL_law_610 rfl ?_
                              refine r_ald0 612 dL_law_611 rfl ?_
                              refine r_ild3 613 dL_law_612 rfl ?_
                              refine r_iconst 614 _ dL_law_613 rfl ki_1 ?_
                              refine r_iadd 615 dL_law_614 rfl ?_
                              refine r_xI 616 dL_law_615 rfl hX X (fun x174 X => ?_)
                              refine r_ald0 617 dL_law_616 rfl ?_
                              refine r_ild3 618 dL_law_617 rfl ?_
                              refine r_iconst 619 _ dL_law_618 rfl ki_2 ?_
                              refine r_iadd 620 dL_law_619 rfl ?_
                              refine r_xI 621 dL_law_620 rfl hX X (fun x175 X => ?_)
                              obtain ⟨hs, X⟩ := r_cv X
                              obtain ⟨x177, h176, hc, X⟩ := bnd_ok X
                              refine r_callV2 624 dL_law_621 rfl lmL_71 hs (mtX9_round G hG hc) rfl ⟨(by show _ ≤ 600000; omega), (by show _ ≤ 7302250; omega)⟩ ?_
                              refine r_lif_eq 888 628 dL_law_624 dL_law_625 (by decide) rfl X (fun _ X => ?_) (fun _ X => ?_)
                              · refine r_iinc3w 891 dL_law_888 rfl rfl ki_5 X (fun x178 X => ?_)
                                refine r_goto 18 dL_law_891 (by decide) ?_
                                exact r_cut (hK18 _ _ _ _ X) ⟨rfl, ⟨rfl, ⟨rfl, ⟨rfl, trivial⟩⟩⟩⟩
                              · refine r_iconst 629 _ dL_law_628 rfl ki_0 ?_
                                exact r_retLaw dL_law_629 (by show _ ≤ 600000; omega) (by show _ ≤ 7302250; omega) hR1 X
                            · refine r_case 630 13 13 598 dL_law_32 (by decide) (by decide) (by decide) (by decide) X (fun _ X => ?_) (fun n13 X => ?_)
                              · refine r_ald1 631 dL_law_630 rfl ?_
                                refine r_ald0 632 dL_law_631 rfl ?_
                                refine r_ild3 633 dL_law_632 rfl ?_
                                refine r_iconst 634 _ dL_law_633 rfl ki_1 ?_
                                refine r_iadd 635 dL_law_634 rfl ?_
                                refine r_xI 636 dL_law_635 rfl hX X (fun x163 X => ?_)
                                obtain ⟨hs, X⟩ := r_cv X
                                obtain ⟨x165, h164, hc, X⟩ := bnd_ok X
                                refine r_callV1 639 dL_law_636 rfl lmL_72 hs (mtX8_sign G hG hc) rfl ⟨(by show _ ≤ 600000; omega), (by show _ ≤ 7302250; omega)⟩ ?_
                                refine r_ald2 640 dL_law_639 rfl ?_
                                refine r_ald0 641 dL_law_640 rfl ?_
                                refine r_ild3 642 dL_law_641 rfl ?_
                                refine r_iconst 643 _ dL_law_642 rfl ki_1 ?_
                                refine r_iadd 644 dL_law_643 rfl ?_
                                refine r_xI 645 dL_law_644 rfl hX X (fun x166 X => ?_)
                                obtain ⟨hs, X⟩ := r_cv X
                                obtain ⟨x168, h167, hc, X⟩ := bnd_ok X
                                refine r_callV1 648 dL_law_645 rfl lmL_75 hs (mtX9_sign G hG hc) rfl ⟨(by show _ ≤ 600000; omega), (by show _ ≤ 7302250; omega)⟩ ?_
                                refine r_lif_eq 888 652 dL_law_648 dL_law_649 (by decide) rfl X (fun _ X => ?_) (fun _ X => ?_)
                                · refine r_iinc3w 891 dL_law_888 rfl rfl ki_5 X (fun x169 X => ?_)
                                  refine r_goto 18 dL_law_891 (by decide) ?_
                                  exact r_cut (hK18 _ _ _ _ X) ⟨rfl, ⟨rfl, ⟨rfl, ⟨rfl, trivial⟩⟩⟩⟩
                                · refine r_iconst 653 _ dL_law_652 rfl ki_0 ?_
                                  exact r_retLaw dL_law_653 (by show _ ≤ 600000; omega) (by show _ ≤ 7302250; omega) hR1 X
                              · refine r_case 654 14 14 622 dL_law_32 (by decide) (by decide) (by decide) (by decide) X (fun _ X => ?_) (fun n14 X => ?_)
                                · refine r_ald1 655 dL_law_654 rfl ?_
                                  refine r_ald0 656 dL_law_655 rfl ?_
                                  refine r_ild3 657 dL_law_656 rfl ?_
                                  refine r_iconst 658 _ dL_law_657 rfl ki_1 ?_
                                  refine r_iadd 659 dL_law_658 rfl ?_
                                  refine r_xI 660 dL_law_659 rfl hX X (fun x154 X => ?_)
                                  refine r_ald0 661 dL_law_660 rfl ?_
                                  refine r_ild3 662 dL_law_661 rfl ?_
                                  refine r_iconst 663 _ dL_law_662 rfl ki_2 ?_
                                  refine r_iadd 664 dL_law_663 rfl ?_
                                  refine r_xI 665 dL_law_664 rfl hX X (fun x155 X => ?_)
                                  obtain ⟨hs, X⟩ := r_cv X
                                  obtain ⟨x157, h156, hc, X⟩ := bnd_ok X
                                  refine r_callV2 668 dL_law_665 rfl lmL_76 hs (mtX8_compare G hG hc) rfl ⟨(by show _ ≤ 600000; omega), (by show _ ≤ 7302250; omega)⟩ ?_
                                  refine r_ald2 669 dL_law_668 rfl ?_
                                  refine r_ald0 670 dL_law_669 rfl ?_
                                  refine r_ild3 671 dL_law_670 rfl ?_
                                  refine r_iconst 672 _ dL_law_671 rfl ki_1 ?_
                                  refine r_iadd 673 dL_law_672 rfl ?_
                                  refine r_xI 674 dL_law_673 rfl hX X (fun x158 X => ?_)
                                  refine r_ald0 675 dL_law_674 rfl ?_
                                  refine r_ild3 676 dL_law_675 rfl ?_
                                  refine r_iconst 677 _ dL_law_676 rfl ki_2 ?_
                                  refine r_iadd 678 dL_law_677 rfl ?_
                                  refine r_xI 679 dL_law_678 rfl hX X (fun x159 X => ?_)
                                  obtain ⟨hs, X⟩ := r_cv X
                                  obtain ⟨x161, h160, hc, X⟩ := bnd_ok X
                                  refine r_callV2 682 dL_law_679 rfl lmL_79 hs (mtX9_compare G hG hc) rfl ⟨(by show _ ≤ 600000; omega), (by show _ ≤ 7302250; omega)⟩ ?_
                                  refine r_lif_eq 888 686 dL_law_682 dL_law_683 (by decide) rfl X (fun _ X => ?_) (fun _ X => ?_)
                                  · refine r_iinc3w 891 dL_law_888 rfl rfl ki_5 X (fun x162 X => ?_)
                                    refine r_goto 18 dL_law_891 (by decide) ?_
                                    exact r_cut (hK18 _ _ _ _ X) ⟨rfl, ⟨rfl, ⟨rfl, ⟨rfl, trivial⟩⟩⟩⟩
                                  · refine r_iconst 687 _ dL_law_686 rfl ki_0 ?_
                                    exact r_retLaw dL_law_687 (by show _ ≤ 600000; omega) (by show _ ≤ 7302250; omega) hR1 X
                                · refine r_case 688 15 15 656 dL_law_32 (by decide) (by decide) (by decide) (by decide) X (fun _ X => ?_) (fun n15 X => ?_)
                                  · refine r_ald1 689 dL_law_688 rfl ?_
                                    refine r_ald0 690 dL_law_689 rfl ?_
                                    refine r_ild3 691 dL_law_690 rfl ?_
                                    refine r_iconst 692 _ dL_law_691 rfl ki_1 ?_
                                    refine r_iadd 693 dL_law_692 rfl ?_
                                    refine r_xI 694 dL_law_693 rfl hX X (fun x143 X => ?_)
                                    refine r_ald0 695 dL_law_694 rfl ?_
                                    refine r_ild3 696 dL_law_695 rfl ?_
                                    refine r_iconst 697 _ dL_law_696 rfl ki_2 ?_
                                    refine r_iadd 698 dL_law_697 rfl ?_
                                    refine r_xI 699 dL_law_698 rfl hX X (fun x144 X => ?_)
                                    refine r_ald0 700 dL_law_699 rfl ?_
                                    refine r_ild3 701 dL_law_700 rfl ?_
                                    refine r_iconst 702 _ dL_law_701 rfl ki_3 ?_
                                    refine r_iadd 703 dL_law_702 rfl ?_
                                    refine r_xI 704 dL_law_703 rfl hX X (fun x145 X => ?_)
                                    obtain ⟨hs, X⟩ := r_cv X
                                    obtain ⟨x147, h146, hc, X⟩ := bnd_ok X
                                    refine r_callV3 707 dL_law_704 rfl lmL_80 hs (mtX8_near G hG hc) rfl ⟨(by show _ ≤ 600000; omega), (by show _ ≤ 7302250; omega)⟩ ?_
                                    refine r_ald2 708 dL_law_707 rfl ?_
                                    refine r_ald0 709 dL_law_708 rfl ?_
                                    refine r_ild3 710 dL_law_709 rfl ?_
                                    refine r_iconst 711 _ dL_law_710 rfl ki_1 ?_
                                    refine r_iadd 712 dL_law_711 rfl ?_
                                    refine r_xI 713 dL_law_712 rfl hX X (fun x148 X => ?_)
                                    refine r_ald0 714 dL_law_713 rfl ?_
                                    refine r_ild3 715 dL_law_714 rfl ?_
                                    refine r_iconst 716 _ dL_law_715 rfl ki_2 ?_
                                    refine r_iadd 717 dL_law_716 rfl ?_
                                    refine r_xI 718 dL_law_717 rfl hX X (fun x149 X => ?_)
                                    refine r_ald0 719 dL_law_718 rfl ?_
                                    refine r_ild3 720 dL_law_719 rfl ?_
                                    refine r_iconst 721 _ dL_law_720 rfl ki_3 ?_
                                    refine r_iadd 722 dL_law_721 rfl ?_
                                    refine r_xI 723 dL_law_722 rfl hX X (fun x150 X => ?_)
                                    obtain ⟨hs, X⟩ := r_cv X
                                    obtain ⟨x152, h151, hc, X⟩ := bnd_ok X
                                    refine r_callV3 726 dL_law_723 rfl lmL_83 hs (mtX9_near G hG hc) rfl ⟨(by show _ ≤ 600000; omega), (by show _ ≤ 7302250; omega)⟩ ?_
                                    refine r_lif_eq 888 730 dL_law_726 dL_law_727 (by decide) rfl X (fun _ X => ?_) (fun _ X => ?_)
                                    · refine r_iinc3w 891 dL_law_888 rfl rfl ki_5 X (fun x153 X => ?_)
                                      refine r_goto 18 dL_law_891 (by decide) ?_
                                      exact r_cut (hK18 _ _ _ _ X) ⟨rfl, ⟨rfl, ⟨rfl, ⟨rfl, trivial⟩⟩⟩⟩
                                    · refine r_iconst 731 _ dL_law_730 rfl ki_0 ?_
                                      exact r_retLaw dL_law_731 (by show _ ≤ 600000; omega) (by show _ ≤ 7302250; omega) hR1 X
                                  · refine r_case 732 16 16 700 dL_law_32 (by decide) (by decide) (by decide) (by decide) X (fun _ X => ?_) (fun n16 X => ?_)
                                    · refine r_ald1 733 dL_law_732 rfl ?_
                                      refine r_ald0 734 dL_law_733 rfl ?_
                                      refine r_ild3 735 dL_law_734 rfl ?_
                                      refine r_iconst 736 _ dL_law_735 rfl ki_1 ?_
                                      refine r_iadd 737 dL_law_736 rfl ?_
                                      refine r_xI 738 dL_law_737 rfl hX X (fun x130 X => ?_)
                                      refine r_ald0 739 dL_law_738 rfl ?_
                                      refine r_ild3 740 dL_law_739 rfl ?_
                                      refine r_iconst 741 _ dL_law_740 rfl ki_2 ?_
                                      refine r_iadd 742 dL_law_741 rfl ?_
                                      refine r_xI 743 dL_law_742 rfl hX X (fun x131 X => ?_)
                                      refine r_ald0 744 dL_law_743 rfl ?_
                                      refine r_ild3 745 dL_law_744 rfl ?_
                                      refine r_iconst 746 _ dL_law_745 rfl ki_3 ?_
                                      refine r_iadd 747 dL_law_746 rfl ?_
                                      refine r_xI 748 dL_law_747 rfl hX X (fun x132 X => ?_)
                                      refine r_ald0 749 dL_law_748 rfl ?_
                                      refine r_ild3 750 dL_law_749 rfl ?_
                                      refine r_iconst 751 _ dL_law_750 rfl ki_4 ?_
                                      refine r_iadd 752 dL_law_751 rfl ?_
                                      refine r_xI 753 dL_law_752 rfl hX X (fun x133 X => ?_)
                                      obtain ⟨hs, X⟩ := r_cv X
                                      obtain ⟨x135, h134, hc, X⟩ := bnd_ok X
                                      refine r_callV4 756 dL_law_753 rfl lmL_84 hs (mtX8_best G hG hc) rfl ⟨(by show _ ≤ 600000; omega), (by show _ ≤ 7302250; omega)⟩ ?_
                                      refine r_ald2 757 dL_law_756 rfl ?_
                                      refine r_ald0 758 dL_law_757 rfl ?_
                                      refine r_ild3 759 dL_law_758 rfl ?_
                                      refine r_iconst 760 _ dL_law_759 rfl ki_1 ?_
                                      refine r_iadd 761 dL_law_760 rfl ?_
                                      refine r_xI 762 dL_law_761 rfl hX X (fun x136 X => ?_)
                                      refine r_ald0 763 dL_law_762 rfl ?_
                                      refine r_ild3 764 dL_law_763 rfl ?_
                                      refine r_iconst 765 _ dL_law_764 rfl ki_2 ?_
                                      refine r_iadd 766 dL_law_765 rfl ?_
                                      refine r_xI 767 dL_law_766 rfl hX X (fun x137 X => ?_)
                                      refine r_ald0 768 dL_law_767 rfl ?_
                                      refine r_ild3 769 dL_law_768 rfl ?_
                                      refine r_iconst 770 _ dL_law_769 rfl ki_3 ?_
                                      refine r_iadd 771 dL_law_770 rfl ?_
                                      refine r_xI 772 dL_law_771 rfl hX X (fun x138 X => ?_)
                                      refine r_ald0 773 dL_law_772 rfl ?_
                                      refine r_ild3 774 dL_law_773 rfl ?_
                                      refine r_iconst 775 _ dL_law_774 rfl ki_4 ?_
                                      refine r_iadd 776 dL_law_775 rfl ?_
                                      refine r_xI 777 dL_law_776 rfl hX X (fun x139 X => ?_)
                                      obtain ⟨hs, X⟩ := r_cv X
                                      obtain ⟨x141, h140, hc, X⟩ := bnd_ok X
                                      refine r_callV4 780 dL_law_777 rfl lmL_87 hs (mtX9_best G hG hc) rfl ⟨(by show _ ≤ 600000; omega), (by show _ ≤ 7302250; omega)⟩ ?_
                                      refine r_lif_eq 888 784 dL_law_780 dL_law_781 (by decide) rfl X (fun _ X => ?_) (fun _ X => ?_)
                                      · refine r_iinc3w 891 dL_law_888 rfl rfl ki_5 X (fun x142 X => ?_)
                                        refine r_goto 18 dL_law_891 (by decide) ?_
                                        exact r_cut (hK18 _ _ _ _ X) ⟨rfl, ⟨rfl, ⟨rfl, ⟨rfl, trivial⟩⟩⟩⟩
                                      · refine r_iconst 785 _ dL_law_784 rfl ki_0 ?_
                                        exact r_retLaw dL_law_785 (by show _ ≤ 600000; omega) (by show _ ≤ 7302250; omega) hR1 X
                                    · refine r_case 786 17 17 754 dL_law_32 (by decide) (by decide) (by decide) (by decide) X (fun _ X => ?_) (fun n17 X => ?_)
                                      · refine r_ald1 787 dL_law_786 rfl ?_
                                        refine r_ald0 788 dL_law_787 rfl ?_
                                        refine r_ild3 789 dL_law_788 rfl ?_
                                        refine r_iconst 790 _ dL_law_789 rfl ki_1 ?_
                                        refine r_iadd 791 dL_law_790 rfl ?_
                                        refine r_xI 792 dL_law_791 rfl hX X (fun x119 X => ?_)
                                        refine r_ald0 793 dL_law_792 rfl ?_
                                        refine r_ild3 794 dL_law_793 rfl ?_
                                        refine r_iconst 795 _ dL_law_794 rfl ki_2 ?_
                                        refine r_iadd 796 dL_law_795 rfl ?_
                                        refine r_xI 797 dL_law_796 rfl hX X (fun x120 X => ?_)
                                        refine r_ald0 798 dL_law_797 rfl ?_
                                        refine r_ild3 799 dL_law_798 rfl ?_
                                        refine r_iconst 800 _ dL_law_799 rfl ki_3 ?_
                                        refine r_iadd 801 dL_law_800 rfl ?_
                                        refine r_xI 802 dL_law_801 rfl hX X (fun x121 X => ?_)
                                        obtain ⟨hs, X⟩ := r_cv X
                                        obtain ⟨x123, h122, hc, X⟩ := bnd_ok X
                                        refine r_callV3 805 dL_law_802 rfl lmL_88 hs (mtX8_figure G hG hc) rfl ⟨(by show _ ≤ 600000; omega), (by show _ ≤ 7302250; omega)⟩ ?_
                                        refine r_ald2 806 dL_law_805 rfl ?_
                                        refine r_ald0 807 dL_law_806 rfl ?_
                                        refine r_ild3 808 dL_law_807 rfl ?_
                                        refine r_iconst 809 _ dL_law_808 rfl ki_1 ?_
                                        refine r_iadd 810 dL_law_809 rfl ?_
                                        refine r_xI 811 dL_law_810 rfl hX X (fun x124 X => ?_)
                                        refine r_ald0 812 dL_law_811 rfl ?_
                                        refine r_ild3 813 dL_law_812 rfl ?_
                                        refine r_iconst 814 _ dL_law_813 rfl ki_2 ?_
                                        refine r_iadd 815 dL_law_814 rfl ?_
                                        refine r_xI 816 dL_law_815 rfl hX X (fun x125 X => ?_)
                                        refine r_ald0 817 dL_law_816 rfl ?_
                                        refine r_ild3 818 dL_law_817 rfl ?_
                                        refine r_iconst 819 _ dL_law_818 rfl ki_3 ?_
                                        refine r_iadd 820 dL_law_819 rfl ?_
                                        refine r_xI 821 dL_law_820 rfl hX X (fun x126 X => ?_)
                                        obtain ⟨hs, X⟩ := r_cv X
                                        obtain ⟨x128, h127, hc, X⟩ := bnd_ok X
                                        refine r_callV3 824 dL_law_821 rfl lmL_91 hs (mtX9_figure G hG hc) rfl ⟨(by show _ ≤ 600000; omega), (by show _ ≤ 7302250; omega)⟩ ?_
                                        refine r_lif_eq 888 828 dL_law_824 dL_law_825 (by decide) rfl X (fun _ X => ?_) (fun _ X => ?_)
                                        · refine r_iinc3w 891 dL_law_888 rfl rfl ki_5 X (fun x129 X => ?_)
                                          refine r_goto 18 dL_law_891 (by decide) ?_
                                          exact r_cut (hK18 _ _ _ _ X) ⟨rfl, ⟨rfl, ⟨rfl, ⟨rfl, trivial⟩⟩⟩⟩
                                        · refine r_iconst 829 _ dL_law_828 rfl ki_0 ?_
                                          exact r_retLaw dL_law_829 (by show _ ≤ 600000; omega) (by show _ ≤ 7302250; omega) hR1 X
                                      · refine r_case 830 18 18 798 dL_law_32 (by decide) (by decide) (by decide) (by decide) X (fun _ X => ?_) (fun n18 X => ?_)
                                        · refine r_ald1 831 dL_law_830 rfl ?_
                                          refine r_ald0 832 dL_law_831 rfl ?_
                                          refine r_ild3 833 dL_law_832 rfl ?_
                                          refine r_iconst 834 _ dL_law_833 rfl ki_1 ?_
                                          refine r_iadd 835 dL_law_834 rfl ?_
                                          refine r_xI 836 dL_law_835 rfl hX X (fun x110 X => ?_)
                                          refine r_ald0 837 dL_law_836 rfl ?_
                                          refine r_ild3 838 dL_law_837 rfl ?_
                                          refine r_iconst 839 _ dL_law_838 rfl ki_2 ?_
                                          refine r_iadd 840 dL_law_839 rfl ?_
                                          refine r_xI 841 dL_law_840 rfl hX X (fun x111 X => ?_)
                                          obtain ⟨hs, X⟩ := r_cv X
                                          obtain ⟨x113, h112, hc, X⟩ := bnd_ok X
                                          refine r_callV2 844 dL_law_841 rfl lmL_92 hs (mtX8_roll G hG hc) rfl ⟨(by show _ ≤ 600000; omega), (by show _ ≤ 7302250; omega)⟩ ?_
                                          refine r_ald2 845 dL_law_844 rfl ?_
                                          refine r_ald0 846 dL_law_845 rfl ?_
                                          refine r_ild3 847 dL_law_846 rfl ?_
                                          refine r_iconst 848 _ dL_law_847 rfl ki_1 ?_
                                          refine r_iadd 849 dL_law_848 rfl ?_
                                          refine r_xI 850 dL_law_849 rfl hX X (fun x114 X => ?_)
                                          refine r_ald0 851 dL_law_850 rfl ?_
                                          refine r_ild3 852 dL_law_851 rfl ?_
                                          refine r_iconst 853 _ dL_law_852 rfl ki_2 ?_
                                          refine r_iadd 854 dL_law_853 rfl ?_
                                          refine r_xI 855 dL_law_854 rfl hX X (fun x115 X => ?_)
                                          obtain ⟨hs, X⟩ := r_cv X
                                          obtain ⟨x117, h116, hc, X⟩ := bnd_ok X
                                          refine r_callV2 858 dL_law_855 rfl lmL_95 hs (mtX9_roll_ G hG hc) rfl ⟨(by show _ ≤ 600000; omega), (by show _ ≤ 7302250; omega)⟩ ?_
                                          refine r_lif_eq 888 862 dL_law_858 dL_law_859 (by decide) rfl X (fun _ X => ?_) (fun _ X => ?_)
                                          · refine r_iinc3w 891 dL_law_888 rfl rfl ki_5 X (fun x118 X => ?_)
                                            refine r_goto 18 dL_law_891 (by decide) ?_
                                            exact r_cut (hK18 _ _ _ _ X) ⟨rfl, ⟨rfl, ⟨rfl, ⟨rfl, trivial⟩⟩⟩⟩
                                          · refine r_iconst 863 _ dL_law_862 rfl ki_0 ?_
                                            exact r_retLaw dL_law_863 (by show _ ≤ 600000; omega) (by show _ ≤ 7302250; omega) hR1 X
                                        · refine r_case 864 19 19 832 dL_law_32 (by decide) (by decide) (by decide) (by decide) X (fun _ X => ?_) (fun n19 X => ?_)
                                          · refine r_ald1 865 dL_law_864 rfl ?_
                                            refine r_ald0 866 dL_law_865 rfl ?_
                                            refine r_ild3 867 dL_law_866 rfl ?_
                                            refine r_iconst 868 _ dL_law_867 rfl ki_1 ?_
                                            refine r_iadd 869 dL_law_868 rfl ?_
                                            refine r_xI 870 dL_law_869 rfl hX X (fun x103 X => ?_)
                                            obtain ⟨hs, X⟩ := r_cv X
                                            obtain ⟨x105, h104, hc, X⟩ := bnd_ok X
                                            refine r_callV1 873 dL_law_870 rfl lmL_96 hs (mtX8_count G hG hc) rfl ⟨(by show _ ≤ 600000; omega), (by show _ ≤ 7302250; omega)⟩ ?_
                                            refine r_ald2 874 dL_law_873 rfl ?_
                                            refine r_ald0 875 dL_law_874 rfl ?_
                                            refine r_ild3 876 dL_law_875 rfl ?_
                                            refine r_iconst 877 _ dL_law_876 rfl ki_1 ?_
                                            refine r_iadd 878 dL_law_877 rfl ?_
                                            refine r_xI 879 dL_law_878 rfl hX X (fun x106 X => ?_)
                                            obtain ⟨hs, X⟩ := r_cv X
                                            obtain ⟨x108, h107, hc, X⟩ := bnd_ok X
                                            refine r_callV1 882 dL_law_879 rfl lmL_99 hs (mtX9_count G hG hc) rfl ⟨(by show _ ≤ 600000; omega), (by show _ ≤ 7302250; omega)⟩ ?_
                                            refine r_lif_eq 888 886 dL_law_882 dL_law_883 (by decide) rfl X (fun _ X => ?_) (fun _ X => ?_)
                                            · refine r_iinc3w 891 dL_law_888 rfl rfl ki_5 X (fun x109 X => ?_)
                                              refine r_goto 18 dL_law_891 (by decide) ?_
                                              exact r_cut (hK18 _ _ _ _ X) ⟨rfl, ⟨rfl, ⟨rfl, ⟨rfl, trivial⟩⟩⟩⟩
                                            · refine r_iconst 887 _ dL_law_886 rfl ki_0 ?_
                                              exact r_retLaw dL_law_887 (by show _ ≤ 600000; omega) (by show _ ≤ 7302250; omega) hR1 X
                                          · refine r_default 888 dL_law_32 (by omega) (by decide) ?_
                                            refine r_iinc3w 891 dL_law_888 rfl rfl ki_5 X (fun x102 X => ?_)
                                            refine r_goto 18 dL_law_891 (by decide) ?_
                                            exact r_cut (hK18 _ _ _ _ X) ⟨rfl, ⟨rfl, ⟨rfl, ⟨rfl, trivial⟩⟩⟩⟩
theorem wL_law_18L {b L : Nat} {xs : Nat → Int32} (G : GG) (hG : GT G) (R : Int32 × AH) (hR1 : R.1 = 1) (hX : va_X b L xs G.2.1 G.2.1.heap) {k n : Nat} (hkA : k ≤ 10000) (hnA : n ≤ 200000) : ∀ (m : Nat) (l1 : Nat) (l2 : Nat) (l3 : Int32) (h : AH), fL_law_18L L xs m l1 l2 l3 h = some R → AW (eL G) RL cL_law 18 [some (.ref b), some (.ref (gB G + l1)), some (.ref (gB G + l2)), some (.int l3)] [] h k n := by
  intro m
  induction m with
  | zero => intro l1 l2 l3 h X; exact nomatch (show (none : Fn Int32) = some R from X)
  | succ m ih => intro l1 l2 l3 h X; exact wL_law_18 G hG R hR1 hX hkA hnA ih l1 l2 l3 h X
theorem wL_law {b L : Nat} {xs : Nat → Int32} (G : GG) (hG : GT G) (R : Int32 × AH) (hR1 : R.1 = 1) (hX : va_X b L xs G.2.1 G.2.1.heap) (h : AH) (X : fL_law L xs h = some R) : AW (eL G) RL cL_law 0 [some (.ref b), none, none, none] [] h 0 0 := by
  unfold fL_law at X
  refine r_new 3 dL_law_0 rfl lnL_7 X (by show _ ≤ 600000; omega) (by show _ ≤ 7302250; omega) (fun b101 h102 X => ?_)
  refine r_dup 4 dL_law_3 rfl rfl ?_
  obtain ⟨_, h103, hc, X⟩ := bnd_ok X
  refine r_callI0 7 dL_law_4 rfl lmL_9 (mtX8_init G hG hc) rfl (by show _ ≤ 600000; omega) (by show _ ≤ 7302250; omega) ?_
  refine r_ast1 8 dL_law_7 rfl rfl ?_
  refine r_new 11 dL_law_8 rfl lnL_10 X (by show _ ≤ 600000; omega) (by show _ ≤ 7302250; omega) (fun b104 h105 X => ?_)
  refine r_dup 12 dL_law_11 rfl rfl ?_
  obtain ⟨_, h106, hc, X⟩ := bnd_ok X
  refine r_callI0 15 dL_law_12 rfl lmL_12 (mtX9_init G hG hc) rfl (by show _ ≤ 600000; omega) (by show _ ≤ 7302250; omega) ?_
  refine r_ast2 16 dL_law_15 rfl rfl ?_
  refine r_iconst 17 _ dL_law_16 rfl ki_0 ?_
  refine r_ist3 18 dL_law_17 rfl rfl ?_
  exact r_cut (wL_law_18L G hG R hR1 hX (by omega) (by omega) 1000 _ _ _ _ X) ⟨rfl, ⟨rfl, ⟨rfl, ⟨rfl, trivial⟩⟩⟩⟩
theorem gt_of {s : State} {args : Array Value} (hts : ∀ w ∈ lwG, w.before args s = true) (hgv : (Jvm.Cond.and given_1 narrow_1).before args s = true) (G : GG) (hG : G.2.1 = s) (hl : (Cond.laysStatic "RatioStreams" "ACT_FACTORS" "[I").before args s = true) : GT G := by
  have hs := flat_of_before _ hgv
  have harr : (Cond.arrayOf (.static "RatioStreams" "ACT_FACTORS" "[I") .int).before args s = true := hs _ (by decide +kernel)
  have hlen : (Term.length (.static "RatioStreams" "ACT_FACTORS" "[I")).eval args s none [] s = some (.int (Int32.ofNat 40)) := va_eqt (hs (Cond.eq (.length (.static "RatioStreams" "ACT_FACTORS" "[I")) (.int 40)) (by decide +kernel))
  have hA : ∀ a : Nat, a < s.heap.size → ¬ aF G a := fun a h z => by unfold aF gB at z; rw [hG] at z; omega
  have hel : ∀ j : Nat, j < 40 → (Term.elem (.static "RatioStreams" "ACT_FACTORS" "[I") (.int (Int32.ofNat j))).eval args s none [] s = some (.int (actF j)) := by
    intro j hj
    match j, hj with
    | 0, _ => exact va_eqt (hs (Cond.eq (.elem (.static "RatioStreams" "ACT_FACTORS" "[I") (.int 0)) (.int (actF 0))) (by decide +kernel))
    | 1, _ => exact va_eqt (hs (Cond.eq (.elem (.static "RatioStreams" "ACT_FACTORS" "[I") (.int 1)) (.int (actF 1))) (by decide +kernel))
    | 2, _ => exact va_eqt (hs (Cond.eq (.elem (.static "RatioStreams" "ACT_FACTORS" "[I") (.int 2)) (.int (actF 2))) (by decide +kernel))
    | 3, _ => exact va_eqt (hs (Cond.eq (.elem (.static "RatioStreams" "ACT_FACTORS" "[I") (.int 3)) (.int (actF 3))) (by decide +kernel))
    | 4, _ => exact va_eqt (hs (Cond.eq (.elem (.static "RatioStreams" "ACT_FACTORS" "[I") (.int 4)) (.int (actF 4))) (by decide +kernel))
    | 5, _ => exact va_eqt (hs (Cond.eq (.elem (.static "RatioStreams" "ACT_FACTORS" "[I") (.int 5)) (.int (actF 5))) (by decide +kernel))
    | 6, _ => exact va_eqt (hs (Cond.eq (.elem (.static "RatioStreams" "ACT_FACTORS" "[I") (.int 6)) (.int (actF 6))) (by decide +kernel))
    | 7, _ => exact va_eqt (hs (Cond.eq (.elem (.static "RatioStreams" "ACT_FACTORS" "[I") (.int 7)) (.int (actF 7))) (by decide +kernel))
    | 8, _ => exact va_eqt (hs (Cond.eq (.elem (.static "RatioStreams" "ACT_FACTORS" "[I") (.int 8)) (.int (actF 8))) (by decide +kernel))
    | 9, _ => exact va_eqt (hs (Cond.eq (.elem (.static "RatioStreams" "ACT_FACTORS" "[I") (.int 9)) (.int (actF 9))) (by decide +kernel))
    | 10, _ => exact va_eqt (hs (Cond.eq (.elem (.static "RatioStreams" "ACT_FACTORS" "[I") (.int 10)) (.int (actF 10))) (by decide +kernel))
    | 11, _ => exact va_eqt (hs (Cond.eq (.elem (.static "RatioStreams" "ACT_FACTORS" "[I") (.int 11)) (.int (actF 11))) (by decide +kernel))
    | 12, _ => exact va_eqt (hs (Cond.eq (.elem (.static "RatioStreams" "ACT_FACTORS" "[I") (.int 12)) (.int (actF 12))) (by decide +kernel))
    | 13, _ => exact va_eqt (hs (Cond.eq (.elem (.static "RatioStreams" "ACT_FACTORS" "[I") (.int 13)) (.int (actF 13))) (by decide +kernel))
    | 14, _ => exact va_eqt (hs (Cond.eq (.elem (.static "RatioStreams" "ACT_FACTORS" "[I") (.int 14)) (.int (actF 14))) (by decide +kernel))
    | 15, _ => exact va_eqt (hs (Cond.eq (.elem (.static "RatioStreams" "ACT_FACTORS" "[I") (.int 15)) (.int (actF 15))) (by decide +kernel))
    | 16, _ => exact va_eqt (hs (Cond.eq (.elem (.static "RatioStreams" "ACT_FACTORS" "[I") (.int 16)) (.int (actF 16))) (by decide +kernel))
    | 17, _ => exact va_eqt (hs (Cond.eq (.elem (.static "RatioStreams" "ACT_FACTORS" "[I") (.int 17)) (.int (actF 17))) (by decide +kernel))
    | 18, _ => exact va_eqt (hs (Cond.eq (.elem (.static "RatioStreams" "ACT_FACTORS" "[I") (.int 18)) (.int (actF 18))) (by decide +kernel))
    | 19, _ => exact va_eqt (hs (Cond.eq (.elem (.static "RatioStreams" "ACT_FACTORS" "[I") (.int 19)) (.int (actF 19))) (by decide +kernel))
    | 20, _ => exact va_eqt (hs (Cond.eq (.elem (.static "RatioStreams" "ACT_FACTORS" "[I") (.int 20)) (.int (actF 20))) (by decide +kernel))
    | 21, _ => exact va_eqt (hs (Cond.eq (.elem (.static "RatioStreams" "ACT_FACTORS" "[I") (.int 21)) (.int (actF 21))) (by decide +kernel))
    | 22, _ => exact va_eqt (hs (Cond.eq (.elem (.static "RatioStreams" "ACT_FACTORS" "[I") (.int 22)) (.int (actF 22))) (by decide +kernel))
    | 23, _ => exact va_eqt (hs (Cond.eq (.elem (.static "RatioStreams" "ACT_FACTORS" "[I") (.int 23)) (.int (actF 23))) (by decide +kernel))
    | 24, _ => exact va_eqt (hs (Cond.eq (.elem (.static "RatioStreams" "ACT_FACTORS" "[I") (.int 24)) (.int (actF 24))) (by decide +kernel))
    | 25, _ => exact va_eqt (hs (Cond.eq (.elem (.static "RatioStreams" "ACT_FACTORS" "[I") (.int 25)) (.int (actF 25))) (by decide +kernel))
    | 26, _ => exact va_eqt (hs (Cond.eq (.elem (.static "RatioStreams" "ACT_FACTORS" "[I") (.int 26)) (.int (actF 26))) (by decide +kernel))
    | 27, _ => exact va_eqt (hs (Cond.eq (.elem (.static "RatioStreams" "ACT_FACTORS" "[I") (.int 27)) (.int (actF 27))) (by decide +kernel))
    | 28, _ => exact va_eqt (hs (Cond.eq (.elem (.static "RatioStreams" "ACT_FACTORS" "[I") (.int 28)) (.int (actF 28))) (by decide +kernel))
    | 29, _ => exact va_eqt (hs (Cond.eq (.elem (.static "RatioStreams" "ACT_FACTORS" "[I") (.int 29)) (.int (actF 29))) (by decide +kernel))
    | 30, _ => exact va_eqt (hs (Cond.eq (.elem (.static "RatioStreams" "ACT_FACTORS" "[I") (.int 30)) (.int (actF 30))) (by decide +kernel))
    | 31, _ => exact va_eqt (hs (Cond.eq (.elem (.static "RatioStreams" "ACT_FACTORS" "[I") (.int 31)) (.int (actF 31))) (by decide +kernel))
    | 32, _ => exact va_eqt (hs (Cond.eq (.elem (.static "RatioStreams" "ACT_FACTORS" "[I") (.int 32)) (.int (actF 32))) (by decide +kernel))
    | 33, _ => exact va_eqt (hs (Cond.eq (.elem (.static "RatioStreams" "ACT_FACTORS" "[I") (.int 33)) (.int (actF 33))) (by decide +kernel))
    | 34, _ => exact va_eqt (hs (Cond.eq (.elem (.static "RatioStreams" "ACT_FACTORS" "[I") (.int 34)) (.int (actF 34))) (by decide +kernel))
    | 35, _ => exact va_eqt (hs (Cond.eq (.elem (.static "RatioStreams" "ACT_FACTORS" "[I") (.int 35)) (.int (actF 35))) (by decide +kernel))
    | 36, _ => exact va_eqt (hs (Cond.eq (.elem (.static "RatioStreams" "ACT_FACTORS" "[I") (.int 36)) (.int (actF 36))) (by decide +kernel))
    | 37, _ => exact va_eqt (hs (Cond.eq (.elem (.static "RatioStreams" "ACT_FACTORS" "[I") (.int 37)) (.int (actF 37))) (by decide +kernel))
    | 38, _ => exact va_eqt (hs (Cond.eq (.elem (.static "RatioStreams" "ACT_FACTORS" "[I") (.int 38)) (.int (actF 38))) (by decide +kernel))
    | 39, _ => exact va_eqt (hs (Cond.eq (.elem (.static "RatioStreams" "ACT_FACTORS" "[I") (.int 39)) (.int (actF 39))) (by decide +kernel))
    | j + 40, hj => exact absurd hj (by omega)
  obtain ⟨t, ht, hT⟩ := va_Tof (A := aF G) (by decide) harr hlen hel hA
  refine ⟨t, ?_, ?_⟩
  · rw [hG]; exact va_Zref hl (hts _ (mT1 1 rfl rfl)) ht hA
  · rw [hG]; exact hT
def h00 : AH := (fun _ => none, 0, fun _ _ => 0, fun _ _ => 0, fun _ _ => none)
theorem au_of {s : State} {args : Array Value} (l : Launch) (hts : ∀ w ∈ lwG, w.before args s = true) (hnw : ∀ w ∈ nwL, w.before args s = true) (hao : (Cond.arrayOver (.object RX7)).before args s = true) : ∃ (D : va_G) (tys : List (ClassId × FieldType)), AU (l, s, D, tys) s := by
  obtain ⟨c0, i0, K0⟩ := u_known (C := RX0) (T := TX0) (N := 4) (n := 4) hts ckX0.2.2.1 (hts (.instantiable RX0 4) (mT2 10 rfl rfl))
  obtain ⟨c1, i1, K1⟩ := u_known (C := RX1) (T := TX1) (N := 9) (n := 9) hts ckX1.2.2.1 (hts (.instantiable RX1 9) (mT1 140 rfl rfl))
  obtain ⟨c2, i2, K2⟩ := u_known (C := RX2) (T := TX2) (N := 3) (n := 3) hts ckX2.2.2.1 (hts (.instantiable RX2 3) (mT1 202 rfl rfl))
  obtain ⟨c3, i3, K3⟩ := u_known (C := RX3) (T := TX3) (N := 4) (n := 4) hts ckX3.2.2.1 (hts (.instantiable RX3 4) (mT1 87 rfl rfl))
  obtain ⟨c4, i4, K4⟩ := u_known (C := RX4) (T := TX4) (N := 5) (n := 5) hts ckX4.2.2.1 (hts (.instantiable RX4 5) (mT1 115 rfl rfl))
  obtain ⟨c5, i5, K5⟩ := u_known (C := RX5) (T := TX5) (N := 6) (n := 6) hts ckX5.2.2.1 (hts (.instantiable RX5 6) (mT1 221 rfl rfl))
  obtain ⟨c6, i6, K6⟩ := u_known (C := RX6) (T := TX6) (N := 5) (n := 5) hts ckX6.2.2.1 (hts (.instantiable RX6 5) (mT1 146 rfl rfl))
  obtain ⟨c7, i7, K7⟩ := u_known (C := RX7) (T := TX7) (N := 10) (n := 10) hts ckX7.2.2.1 (hts (.instantiable RX7 10) (mT1 22 rfl rfl))
  obtain ⟨c8, i8, K8⟩ := u_known (C := RX8) (T := TX8) (N := 12) (n := 12) hts ckX8.2.2.1 (hts (.instantiable RX8 12) (mT1 13 rfl rfl))
  obtain ⟨c9, i9, K9⟩ := u_known (C := RX9) (T := TX9) (N := 36) (n := 36) hts ckX9.2.2.1 (hts (.instantiable RX9 36) (mT4 2 rfl rfl))
  obtain ⟨aI, kI, mI, fI1, fI2, fI3⟩ := Cond.arrayClass_spec (hts _ la_int)
  obtain ⟨aJ, kJ, mJ, fJ1, fJ2, fJ3⟩ := Cond.arrayClass_spec (hts _ la_long)
  obtain ⟨aZ, kZ, mZ, fZ1, fZ2, fZ3⟩ := Cond.arrayClass_spec (hts _ la_boolean)
  obtain ⟨mO, aO, kO, fO1, fO2, fO3, fO4, fO5⟩ := Cond.arrayOver_spec hao
  refine ⟨(fun k => match k with | 0 => c0 | 1 => c1 | 2 => c2 | 3 => c3 | 4 => c4 | 5 => c5 | 6 => c6 | 7 => c7 | 8 => c8 | _ => c9, fun k => match k with | 0 => i0 | 1 => i1 | 2 => i2 | 3 => i3 | 4 => i4 | 5 => i5 | 6 => i6 | 7 => i7 | 8 => i8 | _ => i9), [(aI, .int), (aJ, .long), (aZ, .boolean), (aO, .object RX7)], ⟨?_, ?_⟩, ?_, Vm.Alike.refl _, rfl, va_AO.of hao⟩
  · intro k q hq
    match k, hq with
    | 0, hq => cases hq; exact K0
    | 1, hq => cases hq; exact K1
    | 2, hq => cases hq; exact K2
    | 3, hq => cases hq; exact K3
    | 4, hq => cases hq; exact K4
    | 5, hq => cases hq; exact K5
    | 6, hq => cases hq; exact K6
    | 7, hq => cases hq; exact K7
    | 8, hq => cases hq; exact K8
    | 9, hq => cases hq; exact K9
    | k + 10, hq => simp [vwCl] at hq
  · intro k q hq
    match k, hq with
    | 0, hq => cases hq; exact ⟨fun n z => ⟨fun k h => (by cases h), kI, fI2, mI, fI3⟩, fI1⟩
    | 1, hq => cases hq; exact ⟨fun n z => ⟨fun k h => (by cases h), kJ, fJ2, mJ, fJ3⟩, fJ1⟩
    | 2, hq => cases hq; exact ⟨fun n z => ⟨fun k h => (by cases h), kZ, fZ2, mZ, fZ3⟩, fZ1⟩
    | 3, hq => cases hq; exact ⟨fun n z => ⟨fun k h => (by cases h), kO, fO3, mO, fO4⟩, kO, mO, fO3, fO4, fO1, fO5⟩
    | k + 4, hq => simp at hq
  · intro w hw
    rcases nwL_ok w hw with ⟨a, i, b, n, d, g, rfl⟩ | ⟨a, i, x, g, rfl⟩
    · exact hnw _ hw
    · exact hnw _ hw
def LawPure : Prop := ∀ (L : Nat) (xs : Nat → Int32), L ≤ 5 → ∃ h1, fL_law L xs h00 = some (1, h1)
theorem whole_start_of {p : Program} {e : Env} {s : State} {m : MethodId} {below : List Frame} {meth : Method} {c : Code} (hLP : LawPure) (l : Launch) {b L : Nat} {xs : Nat → Int32} (hL : L ≤ 5) (C0 : lw_At p s m meth c b L xs) : W p l e room_1 s m #[Value.ref b] below meth c s.heap [] 0 0 (lw_Z below #[Value.ref b] s) (entryFrame m ([Value.ref b] : List Value).toArray 4) := by
  obtain ⟨hx, hb, hr, hml, hown, hts, hX, hbl, hlocks, hgv⟩ := id C0
  have htG : ∀ w ∈ lwG, w.before #[Value.ref b] s = true := fun w hw => hts w (List.mem_filter.mp hw).1
  have htN : ∀ w ∈ nwL, w.before #[Value.ref b] s = true := fun w hw => hts w (List.mem_append_right _ (List.mem_filter.mp hw).1)
  have hao : (Cond.arrayOver (.object RX7)).before #[Value.ref b] s = true := hts _ (List.mem_append_right _ (by decide +kernel))
  have hls : (Cond.laysStatic "RatioStreams" "ACT_FACTORS" "[I").before #[Value.ref b] s = true := hts _ (List.mem_append_right _ (by decide +kernel))
  obtain ⟨D, tys, hU⟩ := au_of l htG htN hao
  have hGT : GT (l, s, D, tys) := gt_of htG hgv _ rfl hls
  obtain ⟨h1, hpure⟩ := hLP L xs hL
  have K := wL_law (l, s, D, tys) hGT (1, h1) rfl hX h00 hpure
  have hl := lv_entry ([.ref b]) (n := 4) (Nat.le_of_ble_eq_true rfl)
  rw [lg_entry_eq]
  have K2 := K p e s m #[Value.ref b] below meth c ⟨hx, hb, hml, hr, hlocks, (fun z => by cases z), hown, htG, hU⟩ _ s.heap [] ⟨⟨hl, Nat.le_of_ble_eq_true rfl⟩, ⟨rfl, fun q _ => rfl, fun a c z => by cases z⟩, fun q z => by cases z⟩
  intro T hT X
  obtain ⟨t, a1, b1⟩ := K2 T hT X
  exact ⟨t, a1, b1 rfl⟩
