/-! THE CLAIM OUT OF ONE WALK OF THE LAW'S BODY. Your part is whole_start (and what it stands on); all else here is the same for every law, but numbers. -/
def R_law : String := "RatioStreamsLaw"
def lw_P (b : Addr) (xs : List Int32) (args : Array Value) (s : State) : Prop := args = #[.ref b] ∧ s.IntsAt b xs ∧ xs.length ≤ 2560 ∧ (Jvm.Cond.and given_1 narrow_1).before args s = true
def lw_Q (_ : Array Value) (s : State) (o : Outcome) (t : State) : Prop := o = .returned (some (.int 1)) ∧ Framed s o t [] 600000 7302250
def lw_Z (below : List Frame) (a : Array Value) (s : State) : State → Prop := fun t => ∃ o, t.status = .running ∧ Ended t below o ∧ lw_Q a s o t
/-- the law's own end, with 1 on the stack, nothing written that was there before, its room as the claim has it -/
theorem lw_ret {p : Program} {l : Launch} {e : Env} {s : State} {m : MethodId} {below : List Frame} {meth : Method} {c : Code} {b : Nat} (hx : p.tables.exec = Jvm.exec) (hb : c.code = code) (hr : meth.sig.returnType = ret) (hlocks : meth.locks = false) {pc : Nat} {H : Heap} {ls : Array Slot} (hdg : decode code pc = .ok (.ireturn, 1)) : W p l e room_1 s m #[Value.ref b] below meth c H [] 600000 7302250 (lw_Z below #[Value.ref b] s) (F0 m pc ls [.int 1]) := by
  intro T hT X
  obtain ⟨fs, hret, hrun, hended, hW, hframe⟩ := X.leave (v := some (.int 1)) (hlocks := hlocks) (fun h => by rw [hr] at h; cases h)
  have hmeth' : T.vm.method? m = some meth := X.method'
  refine ⟨T.setFrames fs, ?_, .returned (some (.int 1)), hrun, hended, rfl, ⟨_, rfl⟩, hW, hframe⟩
  jvm_step X.here [X.here.top, hx, hb, hdg, hmeth', hr, ret, narrow_b1]
  (try refine ⟨rfl, ?_⟩); (try refine ⟨rfl, ?_⟩)
  first | (intro acts; rw [hret _ acts rfl rfl rfl]) | rw [hret _ _ rfl rfl rfl]
  exact Steps.refl _
/-- what holds at the law's entry: the machine, the code, the tables' words (any of lw_tbl by 'hts w (by decide +kernel)'), the script of L ints xs at the cell b, what the Statement gives of the start (any of its parts by flat_of_before) -/
def lw_At (p : Program) (s : State) (m : MethodId) (meth : Method) (c : Code) (b L : Nat) (xs : Nat → Int32) : Prop :=
  p.tables.exec = Jvm.exec ∧ c.code = code ∧ meth.sig.returnType = ret ∧ c.maxLocals = 4 ∧ s.vm.findClass R_law = some m.cls ∧ (∀ w ∈ lw_tbl, w.before #[Value.ref b] s = true) ∧ va_X b L xs s s.heap ∧ b < s.heap.size ∧ meth.locks = false ∧ (Jvm.Cond.and given_1 narrow_1).before #[Value.ref b] s = true
theorem lw_retA {p : Program} {l : Launch} {e : Env} {s : State} {m : MethodId} {below : List Frame} {meth : Method} {c : Code} {args : Array Value} (hx : p.tables.exec = Jvm.exec) (hb : c.code = code) (hr : meth.sig.returnType = ret) (hlocks : meth.locks = false) {pc : Nat} {H : Heap} {ls : Array Slot} (hdg : decode code pc = .ok (.ireturn, 1)) : W p l e room_1 s m args below meth c H [] 600000 7302250 (lw_Z below args s) (F0 m pc ls [.int 1]) := by
  intro T hT X
  obtain ⟨fs, hret, hrun, hended, hW, hframe⟩ := X.leave (v := some (.int 1)) (hlocks := hlocks) (fun h => by rw [hr] at h; cases h)
  have hmeth' : T.vm.method? m = some meth := X.method'
  refine ⟨T.setFrames fs, ?_, .returned (some (.int 1)), hrun, hended, rfl, ⟨_, rfl⟩, hW, hframe⟩
  jvm_step X.here [X.here.top, hx, hb, hdg, hmeth', hr, ret, narrow_b1]
  (try refine ⟨rfl, ?_⟩); (try refine ⟨rfl, ?_⟩)
  first | (intro acts; rw [hret _ acts rfl rfl rfl]) | rw [hret _ _ rfl rfl rfl]
  exact Steps.refl _
abbrev eL (G : GG) : EE := (G, 4, some .boolean, false, room_1, fun below args s t => s = G.2.1 → lw_Z below args s t)
theorem r_retLaw {pc : Nat} {lo : LO} {G : GG} {k n : Nat} {h : AH} {R : Int32 × AH} {x : Int32} (hd : decode cL_law pc = .ok (.ireturn, 1)) (hk : k ≤ 600000) (hn : n ≤ 7302250) (hR1 : R.1 = 1) (X : (some (x, h) : Fn Int32) = some R) : AW (eL G) RL cL_law pc lo [.int x] h k n := by
  cases X
  obtain rfl : x = 1 := hR1
  intro p e s m args b me c Y ls H lc I
  by_cases hs : s = G.2.1
  · have K : W p G.1 e room_1 s m args b me c H lc k n (lw_Z b args s) (F0 m pc ls [.int 1]) := by
      refine W.widen hk hn (va_forget (fun q hq => ?_) (lw_retA Y.1 Y.2.1 Y.2.2.2.1 Y.2.2.2.2.1 hd))
      rw [hs]
      exact I.2.2 q hq
    intro T hT X
    obtain ⟨t, a1, b1⟩ := K T hT X
    exact ⟨t, a1, fun _ => b1⟩
  · intro T hT X
    exact ⟨_, Steps.refl _, fun z => absurd z hs⟩
theorem dL_law_0 : decode cL_law 0 = .ok (.new 7, 3) := by decide +kernel
theorem dL_law_3 : decode cL_law 3 = .ok (.dup, 1) := by decide +kernel
theorem dL_law_4 : decode cL_law 4 = .ok (.invokespecial 9, 3) := by decide +kernel
theorem dL_law_7 : decode cL_law 7 = .ok (.astore_n 1, 1) := by decide +kernel
theorem dL_law_8 : decode cL_law 8 = .ok (.new 10, 3) := by decide +kernel
theorem dL_law_11 : decode cL_law 11 = .ok (.dup, 1) := by decide +kernel
theorem dL_law_12 : decode cL_law 12 = .ok (.invokespecial 12, 3) := by decide +kernel
theorem dL_law_15 : decode cL_law 15 = .ok (.astore_n 2, 1) := by decide +kernel
theorem dL_law_16 : decode cL_law 16 = .ok (.iconst 0, 1) := by decide +kernel
theorem dL_law_17 : decode cL_law 17 = .ok (.istore_n 3, 1) := by decide +kernel
theorem dL_law_18 : decode cL_law 18 = .ok (.iload_n 3, 1) := by decide +kernel
theorem dL_law_19 : decode cL_law 19 = .ok (.aload_n 0, 1) := by decide +kernel
theorem dL_law_20 : decode cL_law 20 = .ok (.arraylength, 1) := by decide +kernel
theorem dL_law_21 : decode cL_law 21 = .ok (.iconst 5, 1) := by decide +kernel
theorem dL_law_22 : decode cL_law 22 = .ok (.isub, 1) := by decide +kernel
theorem dL_law_23 : decode cL_law 23 = .ok (.if_icmp .gt 852, 3) := by decide +kernel
theorem dL_law_26 : decode cL_law 26 = .ok (.aload_n 0, 1) := by decide +kernel
theorem dL_law_27 : decode cL_law 27 = .ok (.iload_n 3, 1) := by decide +kernel
theorem dL_law_28 : decode cL_law 28 = .ok (.iaload, 1) := by decide +kernel
theorem dL_law_29 : decode cL_law 29 = .ok (.bipush 31, 2) := by decide +kernel
theorem dL_law_31 : decode cL_law 31 = .ok (.iand, 1) := by decide +kernel
theorem dL_law_32 : decode cL_law 32 = .ok (.tableswitch 837 0 19 #[96, 189, 242, 275, 298, 341, 364, 397, 430, 453, 486, 519, 552, 585, 608, 641, 684, 737, 781, 814], 96) := by decide +kernel
theorem dL_law_128 : decode cL_law 128 = .ok (.aload_n 1, 1) := by decide +kernel
theorem dL_law_129 : decode cL_law 129 = .ok (.aload_n 0, 1) := by decide +kernel
theorem dL_law_130 : decode cL_law 130 = .ok (.iload_n 3, 1) := by decide +kernel
theorem dL_law_131 : decode cL_law 131 = .ok (.iconst 1, 1) := by decide +kernel
theorem dL_law_132 : decode cL_law 132 = .ok (.iadd, 1) := by decide +kernel
theorem dL_law_133 : decode cL_law 133 = .ok (.iaload, 1) := by decide +kernel
theorem dL_law_134 : decode cL_law 134 = .ok (.i2l, 1) := by decide +kernel
theorem dL_law_135 : decode cL_law 135 = .ok (.bipush 32, 2) := by decide +kernel
theorem dL_law_137 : decode cL_law 137 = .ok (.lshl, 1) := by decide +kernel
theorem dL_law_138 : decode cL_law 138 = .ok (.aload_n 0, 1) := by decide +kernel
theorem dL_law_139 : decode cL_law 139 = .ok (.iload_n 3, 1) := by decide +kernel
theorem dL_law_140 : decode cL_law 140 = .ok (.iconst 2, 1) := by decide +kernel
theorem dL_law_141 : decode cL_law 141 = .ok (.iadd, 1) := by decide +kernel
theorem dL_law_142 : decode cL_law 142 = .ok (.iaload, 1) := by decide +kernel
theorem dL_law_143 : decode cL_law 143 = .ok (.i2l, 1) := by decide +kernel
theorem dL_law_144 : decode cL_law 144 = .ok (.ldc2_w 13, 3) := by decide +kernel
theorem dL_law_147 : decode cL_law 147 = .ok (.land, 1) := by decide +kernel
theorem dL_law_148 : decode cL_law 148 = .ok (.lor, 1) := by decide +kernel
theorem dL_law_149 : decode cL_law 149 = .ok (.aload_n 0, 1) := by decide +kernel
theorem dL_law_150 : decode cL_law 150 = .ok (.iload_n 3, 1) := by decide +kernel
theorem dL_law_151 : decode cL_law 151 = .ok (.iconst 3, 1) := by decide +kernel
theorem dL_law_152 : decode cL_law 152 = .ok (.iadd, 1) := by decide +kernel
theorem dL_law_153 : decode cL_law 153 = .ok (.iaload, 1) := by decide +kernel
theorem dL_law_154 : decode cL_law 154 = .ok (.i2l, 1) := by decide +kernel
theorem dL_law_155 : decode cL_law 155 = .ok (.bipush 32, 2) := by decide +kernel
theorem dL_law_157 : decode cL_law 157 = .ok (.lshl, 1) := by decide +kernel
theorem dL_law_158 : decode cL_law 158 = .ok (.aload_n 0, 1) := by decide +kernel
theorem dL_law_159 : decode cL_law 159 = .ok (.iload_n 3, 1) := by decide +kernel
theorem dL_law_160 : decode cL_law 160 = .ok (.iconst 4, 1) := by decide +kernel
theorem dL_law_161 : decode cL_law 161 = .ok (.iadd, 1) := by decide +kernel
theorem dL_law_162 : decode cL_law 162 = .ok (.iaload, 1) := by decide +kernel
theorem dL_law_163 : decode cL_law 163 = .ok (.i2l, 1) := by decide +kernel
theorem dL_law_164 : decode cL_law 164 = .ok (.ldc2_w 13, 3) := by decide +kernel
theorem dL_law_167 : decode cL_law 167 = .ok (.land, 1) := by decide +kernel
theorem dL_law_168 : decode cL_law 168 = .ok (.lor, 1) := by decide +kernel
theorem dL_law_169 : decode cL_law 169 = .ok (.invokevirtual 15, 3) := by decide +kernel
theorem dL_law_172 : decode cL_law 172 = .ok (.pop2, 1) := by decide +kernel
theorem dL_law_173 : decode cL_law 173 = .ok (.aload_n 2, 1) := by decide +kernel
theorem dL_law_174 : decode cL_law 174 = .ok (.aload_n 0, 1) := by decide +kernel
theorem dL_law_175 : decode cL_law 175 = .ok (.iload_n 3, 1) := by decide +kernel
theorem dL_law_176 : decode cL_law 176 = .ok (.iconst 1, 1) := by decide +kernel
theorem dL_law_177 : decode cL_law 177 = .ok (.iadd, 1) := by decide +kernel
theorem dL_law_178 : decode cL_law 178 = .ok (.iaload, 1) := by decide +kernel
theorem dL_law_179 : decode cL_law 179 = .ok (.i2l, 1) := by decide +kernel
theorem dL_law_180 : decode cL_law 180 = .ok (.bipush 32, 2) := by decide +kernel
theorem dL_law_182 : decode cL_law 182 = .ok (.lshl, 1) := by decide +kernel
theorem dL_law_183 : decode cL_law 183 = .ok (.aload_n 0, 1) := by decide +kernel
theorem dL_law_184 : decode cL_law 184 = .ok (.iload_n 3, 1) := by decide +kernel
theorem dL_law_185 : decode cL_law 185 = .ok (.iconst 2, 1) := by decide +kernel
theorem dL_law_186 : decode cL_law 186 = .ok (.iadd, 1) := by decide +kernel
theorem dL_law_187 : decode cL_law 187 = .ok (.iaload, 1) := by decide +kernel
theorem dL_law_188 : decode cL_law 188 = .ok (.i2l, 1) := by decide +kernel
theorem dL_law_189 : decode cL_law 189 = .ok (.ldc2_w 13, 3) := by decide +kernel
theorem dL_law_192 : decode cL_law 192 = .ok (.land, 1) := by decide +kernel
theorem dL_law_193 : decode cL_law 193 = .ok (.lor, 1) := by decide +kernel
theorem dL_law_194 : decode cL_law 194 = .ok (.aload_n 0, 1) := by decide +kernel
theorem dL_law_195 : decode cL_law 195 = .ok (.iload_n 3, 1) := by decide +kernel
theorem dL_law_196 : decode cL_law 196 = .ok (.iconst 3, 1) := by decide +kernel
theorem dL_law_197 : decode cL_law 197 = .ok (.iadd, 1) := by decide +kernel
theorem dL_law_198 : decode cL_law 198 = .ok (.iaload, 1) := by decide +kernel
theorem dL_law_199 : decode cL_law 199 = .ok (.i2l, 1) := by decide +kernel
theorem dL_law_200 : decode cL_law 200 = .ok (.bipush 32, 2) := by decide +kernel
theorem dL_law_202 : decode cL_law 202 = .ok (.lshl, 1) := by decide +kernel
theorem dL_law_203 : decode cL_law 203 = .ok (.aload_n 0, 1) := by decide +kernel
theorem dL_law_204 : decode cL_law 204 = .ok (.iload_n 3, 1) := by decide +kernel
theorem dL_law_205 : decode cL_law 205 = .ok (.iconst 4, 1) := by decide +kernel
theorem dL_law_206 : decode cL_law 206 = .ok (.iadd, 1) := by decide +kernel
theorem dL_law_207 : decode cL_law 207 = .ok (.iaload, 1) := by decide +kernel
theorem dL_law_208 : decode cL_law 208 = .ok (.i2l, 1) := by decide +kernel
theorem dL_law_209 : decode cL_law 209 = .ok (.ldc2_w 13, 3) := by decide +kernel
theorem dL_law_212 : decode cL_law 212 = .ok (.land, 1) := by decide +kernel
theorem dL_law_213 : decode cL_law 213 = .ok (.lor, 1) := by decide +kernel
theorem dL_law_214 : decode cL_law 214 = .ok (.invokevirtual 19, 3) := by decide +kernel
theorem dL_law_217 : decode cL_law 217 = .ok (.pop2, 1) := by decide +kernel
theorem dL_law_218 : decode cL_law 218 = .ok (.goto 651, 3) := by decide +kernel
theorem dL_law_221 : decode cL_law 221 = .ok (.aload_n 1, 1) := by decide +kernel
theorem dL_law_222 : decode cL_law 222 = .ok (.aload_n 0, 1) := by decide +kernel
theorem dL_law_223 : decode cL_law 223 = .ok (.iload_n 3, 1) := by decide +kernel
theorem dL_law_224 : decode cL_law 224 = .ok (.iconst 1, 1) := by decide +kernel
theorem dL_law_225 : decode cL_law 225 = .ok (.iadd, 1) := by decide +kernel
theorem dL_law_226 : decode cL_law 226 = .ok (.iaload, 1) := by decide +kernel
theorem dL_law_227 : decode cL_law 227 = .ok (.aload_n 0, 1) := by decide +kernel
theorem dL_law_228 : decode cL_law 228 = .ok (.iload_n 3, 1) := by decide +kernel
theorem dL_law_229 : decode cL_law 229 = .ok (.iconst 2, 1) := by decide +kernel
theorem dL_law_230 : decode cL_law 230 = .ok (.iadd, 1) := by decide +kernel
theorem dL_law_231 : decode cL_law 231 = .ok (.iaload, 1) := by decide +kernel
theorem dL_law_232 : decode cL_law 232 = .ok (.aload_n 0, 1) := by decide +kernel
theorem dL_law_233 : decode cL_law 233 = .ok (.iload_n 3, 1) := by decide +kernel
theorem dL_law_234 : decode cL_law 234 = .ok (.iconst 3, 1) := by decide +kernel
theorem dL_law_235 : decode cL_law 235 = .ok (.iadd, 1) := by decide +kernel
theorem dL_law_236 : decode cL_law 236 = .ok (.iaload, 1) := by decide +kernel
theorem dL_law_237 : decode cL_law 237 = .ok (.aload_n 0, 1) := by decide +kernel
theorem dL_law_238 : decode cL_law 238 = .ok (.iload_n 3, 1) := by decide +kernel
theorem dL_law_239 : decode cL_law 239 = .ok (.iconst 4, 1) := by decide +kernel
theorem dL_law_240 : decode cL_law 240 = .ok (.iadd, 1) := by decide +kernel
theorem dL_law_241 : decode cL_law 241 = .ok (.iaload, 1) := by decide +kernel
theorem dL_law_242 : decode cL_law 242 = .ok (.invokevirtual 20, 3) := by decide +kernel
theorem dL_law_245 : decode cL_law 245 = .ok (.pop2, 1) := by decide +kernel
theorem dL_law_246 : decode cL_law 246 = .ok (.aload_n 2, 1) := by decide +kernel
theorem dL_law_247 : decode cL_law 247 = .ok (.aload_n 0, 1) := by decide +kernel
theorem dL_law_248 : decode cL_law 248 = .ok (.iload_n 3, 1) := by decide +kernel
theorem dL_law_249 : decode cL_law 249 = .ok (.iconst 1, 1) := by decide +kernel
theorem dL_law_250 : decode cL_law 250 = .ok (.iadd, 1) := by decide +kernel
theorem dL_law_251 : decode cL_law 251 = .ok (.iaload, 1) := by decide +kernel
theorem dL_law_252 : decode cL_law 252 = .ok (.aload_n 0, 1) := by decide +kernel
theorem dL_law_253 : decode cL_law 253 = .ok (.iload_n 3, 1) := by decide +kernel
theorem dL_law_254 : decode cL_law 254 = .ok (.iconst 2, 1) := by decide +kernel
theorem dL_law_255 : decode cL_law 255 = .ok (.iadd, 1) := by decide +kernel
theorem dL_law_256 : decode cL_law 256 = .ok (.iaload, 1) := by decide +kernel
theorem dL_law_257 : decode cL_law 257 = .ok (.aload_n 0, 1) := by decide +kernel
theorem dL_law_258 : decode cL_law 258 = .ok (.iload_n 3, 1) := by decide +kernel
theorem dL_law_259 : decode cL_law 259 = .ok (.iconst 3, 1) := by decide +kernel
theorem dL_law_260 : decode cL_law 260 = .ok (.iadd, 1) := by decide +kernel
theorem dL_law_261 : decode cL_law 261 = .ok (.iaload, 1) := by decide +kernel
theorem dL_law_262 : decode cL_law 262 = .ok (.aload_n 0, 1) := by decide +kernel
theorem dL_law_263 : decode cL_law 263 = .ok (.iload_n 3, 1) := by decide +kernel
theorem dL_law_264 : decode cL_law 264 = .ok (.iconst 4, 1) := by decide +kernel
theorem dL_law_265 : decode cL_law 265 = .ok (.iadd, 1) := by decide +kernel
theorem dL_law_266 : decode cL_law 266 = .ok (.iaload, 1) := by decide +kernel
theorem dL_law_267 : decode cL_law 267 = .ok (.invokevirtual 24, 3) := by decide +kernel
theorem dL_law_270 : decode cL_law 270 = .ok (.pop2, 1) := by decide +kernel
theorem dL_law_271 : decode cL_law 271 = .ok (.goto 598, 3) := by decide +kernel
theorem dL_law_274 : decode cL_law 274 = .ok (.aload_n 1, 1) := by decide +kernel
theorem dL_law_275 : decode cL_law 275 = .ok (.aload_n 0, 1) := by decide +kernel
theorem dL_law_276 : decode cL_law 276 = .ok (.iload_n 3, 1) := by decide +kernel
theorem dL_law_277 : decode cL_law 277 = .ok (.iconst 1, 1) := by decide +kernel
theorem dL_law_278 : decode cL_law 278 = .ok (.iadd, 1) := by decide +kernel
theorem dL_law_279 : decode cL_law 279 = .ok (.iaload, 1) := by decide +kernel
theorem dL_law_280 : decode cL_law 280 = .ok (.aload_n 0, 1) := by decide +kernel
theorem dL_law_281 : decode cL_law 281 = .ok (.iload_n 3, 1) := by decide +kernel
theorem dL_law_282 : decode cL_law 282 = .ok (.iconst 2, 1) := by decide +kernel
theorem dL_law_283 : decode cL_law 283 = .ok (.iadd, 1) := by decide +kernel
theorem dL_law_284 : decode cL_law 284 = .ok (.iaload, 1) := by decide +kernel
theorem dL_law_285 : decode cL_law 285 = .ok (.invokevirtual 25, 3) := by decide +kernel
theorem dL_law_288 : decode cL_law 288 = .ok (.pop2, 1) := by decide +kernel
theorem dL_law_289 : decode cL_law 289 = .ok (.aload_n 2, 1) := by decide +kernel
theorem dL_law_290 : decode cL_law 290 = .ok (.aload_n 0, 1) := by decide +kernel
theorem dL_law_291 : decode cL_law 291 = .ok (.iload_n 3, 1) := by decide +kernel
theorem dL_law_292 : decode cL_law 292 = .ok (.iconst 1, 1) := by decide +kernel
theorem dL_law_293 : decode cL_law 293 = .ok (.iadd, 1) := by decide +kernel
theorem dL_law_294 : decode cL_law 294 = .ok (.iaload, 1) := by decide +kernel
theorem dL_law_295 : decode cL_law 295 = .ok (.aload_n 0, 1) := by decide +kernel
theorem dL_law_296 : decode cL_law 296 = .ok (.iload_n 3, 1) := by decide +kernel
theorem dL_law_297 : decode cL_law 297 = .ok (.iconst 2, 1) := by decide +kernel
theorem dL_law_298 : decode cL_law 298 = .ok (.iadd, 1) := by decide +kernel
theorem dL_law_299 : decode cL_law 299 = .ok (.iaload, 1) := by decide +kernel
theorem dL_law_300 : decode cL_law 300 = .ok (.invokevirtual 29, 3) := by decide +kernel
theorem dL_law_303 : decode cL_law 303 = .ok (.pop2, 1) := by decide +kernel
theorem dL_law_304 : decode cL_law 304 = .ok (.goto 565, 3) := by decide +kernel
theorem dL_law_307 : decode cL_law 307 = .ok (.aload_n 1, 1) := by decide +kernel
theorem dL_law_308 : decode cL_law 308 = .ok (.aload_n 0, 1) := by decide +kernel
theorem dL_law_309 : decode cL_law 309 = .ok (.iload_n 3, 1) := by decide +kernel
theorem dL_law_310 : decode cL_law 310 = .ok (.iconst 1, 1) := by decide +kernel
theorem dL_law_311 : decode cL_law 311 = .ok (.iadd, 1) := by decide +kernel
theorem dL_law_312 : decode cL_law 312 = .ok (.iaload, 1) := by decide +kernel
theorem dL_law_313 : decode cL_law 313 = .ok (.invokevirtual 30, 3) := by decide +kernel
theorem dL_law_316 : decode cL_law 316 = .ok (.pop2, 1) := by decide +kernel
theorem dL_law_317 : decode cL_law 317 = .ok (.aload_n 2, 1) := by decide +kernel
theorem dL_law_318 : decode cL_law 318 = .ok (.aload_n 0, 1) := by decide +kernel
theorem dL_law_319 : decode cL_law 319 = .ok (.iload_n 3, 1) := by decide +kernel
theorem dL_law_320 : decode cL_law 320 = .ok (.iconst 1, 1) := by decide +kernel
theorem dL_law_321 : decode cL_law 321 = .ok (.iadd, 1) := by decide +kernel
theorem dL_law_322 : decode cL_law 322 = .ok (.iaload, 1) := by decide +kernel
theorem dL_law_323 : decode cL_law 323 = .ok (.invokevirtual 34, 3) := by decide +kernel
theorem dL_law_326 : decode cL_law 326 = .ok (.pop2, 1) := by decide +kernel
theorem dL_law_327 : decode cL_law 327 = .ok (.goto 542, 3) := by decide +kernel
theorem dL_law_330 : decode cL_law 330 = .ok (.aload_n 1, 1) := by decide +kernel
theorem dL_law_331 : decode cL_law 331 = .ok (.aload_n 0, 1) := by decide +kernel
theorem dL_law_332 : decode cL_law 332 = .ok (.iload_n 3, 1) := by decide +kernel
theorem dL_law_333 : decode cL_law 333 = .ok (.iconst 1, 1) := by decide +kernel
theorem dL_law_334 : decode cL_law 334 = .ok (.iadd, 1) := by decide +kernel
theorem dL_law_335 : decode cL_law 335 = .ok (.iaload, 1) := by decide +kernel
theorem dL_law_336 : decode cL_law 336 = .ok (.aload_n 0, 1) := by decide +kernel
theorem dL_law_337 : decode cL_law 337 = .ok (.iload_n 3, 1) := by decide +kernel
theorem dL_law_338 : decode cL_law 338 = .ok (.iconst 2, 1) := by decide +kernel
theorem dL_law_339 : decode cL_law 339 = .ok (.iadd, 1) := by decide +kernel
theorem dL_law_340 : decode cL_law 340 = .ok (.iaload, 1) := by decide +kernel
theorem dL_law_341 : decode cL_law 341 = .ok (.aload_n 0, 1) := by decide +kernel
theorem dL_law_342 : decode cL_law 342 = .ok (.iload_n 3, 1) := by decide +kernel
theorem dL_law_343 : decode cL_law 343 = .ok (.iconst 3, 1) := by decide +kernel
theorem dL_law_344 : decode cL_law 344 = .ok (.iadd, 1) := by decide +kernel
theorem dL_law_345 : decode cL_law 345 = .ok (.iaload, 1) := by decide +kernel
theorem dL_law_346 : decode cL_law 346 = .ok (.invokevirtual 35, 3) := by decide +kernel
theorem dL_law_349 : decode cL_law 349 = .ok (.pop2, 1) := by decide +kernel
theorem dL_law_350 : decode cL_law 350 = .ok (.aload_n 2, 1) := by decide +kernel
theorem dL_law_351 : decode cL_law 351 = .ok (.aload_n 0, 1) := by decide +kernel
theorem dL_law_352 : decode cL_law 352 = .ok (.iload_n 3, 1) := by decide +kernel
theorem dL_law_353 : decode cL_law 353 = .ok (.iconst 1, 1) := by decide +kernel
theorem dL_law_354 : decode cL_law 354 = .ok (.iadd, 1) := by decide +kernel
theorem dL_law_355 : decode cL_law 355 = .ok (.iaload, 1) := by decide +kernel
theorem dL_law_356 : decode cL_law 356 = .ok (.aload_n 0, 1) := by decide +kernel
theorem dL_law_357 : decode cL_law 357 = .ok (.iload_n 3, 1) := by decide +kernel
theorem dL_law_358 : decode cL_law 358 = .ok (.iconst 2, 1) := by decide +kernel
theorem dL_law_359 : decode cL_law 359 = .ok (.iadd, 1) := by decide +kernel
theorem dL_law_360 : decode cL_law 360 = .ok (.iaload, 1) := by decide +kernel
theorem dL_law_361 : decode cL_law 361 = .ok (.aload_n 0, 1) := by decide +kernel
theorem dL_law_362 : decode cL_law 362 = .ok (.iload_n 3, 1) := by decide +kernel
theorem dL_law_363 : decode cL_law 363 = .ok (.iconst 3, 1) := by decide +kernel
theorem dL_law_364 : decode cL_law 364 = .ok (.iadd, 1) := by decide +kernel
theorem dL_law_365 : decode cL_law 365 = .ok (.iaload, 1) := by decide +kernel
theorem dL_law_366 : decode cL_law 366 = .ok (.invokevirtual 39, 3) := by decide +kernel
theorem dL_law_369 : decode cL_law 369 = .ok (.pop2, 1) := by decide +kernel
theorem dL_law_370 : decode cL_law 370 = .ok (.goto 499, 3) := by decide +kernel
theorem dL_law_373 : decode cL_law 373 = .ok (.aload_n 1, 1) := by decide +kernel
theorem dL_law_374 : decode cL_law 374 = .ok (.aload_n 0, 1) := by decide +kernel
theorem dL_law_375 : decode cL_law 375 = .ok (.iload_n 3, 1) := by decide +kernel
theorem dL_law_376 : decode cL_law 376 = .ok (.iconst 1, 1) := by decide +kernel
theorem dL_law_377 : decode cL_law 377 = .ok (.iadd, 1) := by decide +kernel
theorem dL_law_378 : decode cL_law 378 = .ok (.iaload, 1) := by decide +kernel
theorem dL_law_379 : decode cL_law 379 = .ok (.invokevirtual 40, 3) := by decide +kernel
theorem dL_law_382 : decode cL_law 382 = .ok (.pop2, 1) := by decide +kernel
theorem dL_law_383 : decode cL_law 383 = .ok (.aload_n 2, 1) := by decide +kernel
theorem dL_law_384 : decode cL_law 384 = .ok (.aload_n 0, 1) := by decide +kernel
theorem dL_law_385 : decode cL_law 385 = .ok (.iload_n 3, 1) := by decide +kernel
theorem dL_law_386 : decode cL_law 386 = .ok (.iconst 1, 1) := by decide +kernel
theorem dL_law_387 : decode cL_law 387 = .ok (.iadd, 1) := by decide +kernel
theorem dL_law_388 : decode cL_law 388 = .ok (.iaload, 1) := by decide +kernel
theorem dL_law_389 : decode cL_law 389 = .ok (.invokevirtual 43, 3) := by decide +kernel
theorem dL_law_392 : decode cL_law 392 = .ok (.pop2, 1) := by decide +kernel
theorem dL_law_393 : decode cL_law 393 = .ok (.goto 476, 3) := by decide +kernel
theorem dL_law_396 : decode cL_law 396 = .ok (.aload_n 1, 1) := by decide +kernel
theorem dL_law_397 : decode cL_law 397 = .ok (.aload_n 0, 1) := by decide +kernel
theorem dL_law_398 : decode cL_law 398 = .ok (.iload_n 3, 1) := by decide +kernel
theorem dL_law_399 : decode cL_law 399 = .ok (.iconst 1, 1) := by decide +kernel
theorem dL_law_400 : decode cL_law 400 = .ok (.iadd, 1) := by decide +kernel
theorem dL_law_401 : decode cL_law 401 = .ok (.iaload, 1) := by decide +kernel
theorem dL_law_402 : decode cL_law 402 = .ok (.aload_n 0, 1) := by decide +kernel
theorem dL_law_403 : decode cL_law 403 = .ok (.iload_n 3, 1) := by decide +kernel
theorem dL_law_404 : decode cL_law 404 = .ok (.iconst 2, 1) := by decide +kernel
theorem dL_law_405 : decode cL_law 405 = .ok (.iadd, 1) := by decide +kernel
theorem dL_law_406 : decode cL_law 406 = .ok (.iaload, 1) := by decide +kernel
theorem dL_law_407 : decode cL_law 407 = .ok (.invokevirtual 44, 3) := by decide +kernel
theorem dL_law_410 : decode cL_law 410 = .ok (.pop2, 1) := by decide +kernel
theorem dL_law_411 : decode cL_law 411 = .ok (.aload_n 2, 1) := by decide +kernel
theorem dL_law_412 : decode cL_law 412 = .ok (.aload_n 0, 1) := by decide +kernel
theorem dL_law_413 : decode cL_law 413 = .ok (.iload_n 3, 1) := by decide +kernel
theorem dL_law_414 : decode cL_law 414 = .ok (.iconst 1, 1) := by decide +kernel
theorem dL_law_415 : decode cL_law 415 = .ok (.iadd, 1) := by decide +kernel
theorem dL_law_416 : decode cL_law 416 = .ok (.iaload, 1) := by decide +kernel
theorem dL_law_417 : decode cL_law 417 = .ok (.aload_n 0, 1) := by decide +kernel
theorem dL_law_418 : decode cL_law 418 = .ok (.iload_n 3, 1) := by decide +kernel
theorem dL_law_419 : decode cL_law 419 = .ok (.iconst 2, 1) := by decide +kernel
theorem dL_law_420 : decode cL_law 420 = .ok (.iadd, 1) := by decide +kernel
theorem dL_law_421 : decode cL_law 421 = .ok (.iaload, 1) := by decide +kernel
theorem dL_law_422 : decode cL_law 422 = .ok (.invokevirtual 47, 3) := by decide +kernel
theorem dL_law_425 : decode cL_law 425 = .ok (.pop2, 1) := by decide +kernel
theorem dL_law_426 : decode cL_law 426 = .ok (.goto 443, 3) := by decide +kernel
theorem dL_law_429 : decode cL_law 429 = .ok (.aload_n 1, 1) := by decide +kernel
theorem dL_law_430 : decode cL_law 430 = .ok (.aload_n 0, 1) := by decide +kernel
theorem dL_law_431 : decode cL_law 431 = .ok (.iload_n 3, 1) := by decide +kernel
theorem dL_law_432 : decode cL_law 432 = .ok (.iconst 1, 1) := by decide +kernel
theorem dL_law_433 : decode cL_law 433 = .ok (.iadd, 1) := by decide +kernel
theorem dL_law_434 : decode cL_law 434 = .ok (.iaload, 1) := by decide +kernel
theorem dL_law_435 : decode cL_law 435 = .ok (.aload_n 0, 1) := by decide +kernel
theorem dL_law_436 : decode cL_law 436 = .ok (.iload_n 3, 1) := by decide +kernel
theorem dL_law_437 : decode cL_law 437 = .ok (.iconst 2, 1) := by decide +kernel
theorem dL_law_438 : decode cL_law 438 = .ok (.iadd, 1) := by decide +kernel
theorem dL_law_439 : decode cL_law 439 = .ok (.iaload, 1) := by decide +kernel
theorem dL_law_440 : decode cL_law 440 = .ok (.invokevirtual 48, 3) := by decide +kernel
theorem dL_law_443 : decode cL_law 443 = .ok (.pop2, 1) := by decide +kernel
theorem dL_law_444 : decode cL_law 444 = .ok (.aload_n 2, 1) := by decide +kernel
theorem dL_law_445 : decode cL_law 445 = .ok (.aload_n 0, 1) := by decide +kernel
theorem dL_law_446 : decode cL_law 446 = .ok (.iload_n 3, 1) := by decide +kernel
theorem dL_law_447 : decode cL_law 447 = .ok (.iconst 1, 1) := by decide +kernel
theorem dL_law_448 : decode cL_law 448 = .ok (.iadd, 1) := by decide +kernel
theorem dL_law_449 : decode cL_law 449 = .ok (.iaload, 1) := by decide +kernel
theorem dL_law_450 : decode cL_law 450 = .ok (.aload_n 0, 1) := by decide +kernel
theorem dL_law_451 : decode cL_law 451 = .ok (.iload_n 3, 1) := by decide +kernel
theorem dL_law_452 : decode cL_law 452 = .ok (.iconst 2, 1) := by decide +kernel
theorem dL_law_453 : decode cL_law 453 = .ok (.iadd, 1) := by decide +kernel
theorem dL_law_454 : decode cL_law 454 = .ok (.iaload, 1) := by decide +kernel
theorem dL_law_455 : decode cL_law 455 = .ok (.invokevirtual 51, 3) := by decide +kernel
theorem dL_law_458 : decode cL_law 458 = .ok (.pop2, 1) := by decide +kernel
theorem dL_law_459 : decode cL_law 459 = .ok (.goto 410, 3) := by decide +kernel
theorem dL_law_462 : decode cL_law 462 = .ok (.aload_n 1, 1) := by decide +kernel
theorem dL_law_463 : decode cL_law 463 = .ok (.aload_n 0, 1) := by decide +kernel
theorem dL_law_464 : decode cL_law 464 = .ok (.iload_n 3, 1) := by decide +kernel
theorem dL_law_465 : decode cL_law 465 = .ok (.iconst 1, 1) := by decide +kernel
theorem dL_law_466 : decode cL_law 466 = .ok (.iadd, 1) := by decide +kernel
theorem dL_law_467 : decode cL_law 467 = .ok (.iaload, 1) := by decide +kernel
theorem dL_law_468 : decode cL_law 468 = .ok (.invokevirtual 52, 3) := by decide +kernel
theorem dL_law_471 : decode cL_law 471 = .ok (.pop2, 1) := by decide +kernel
theorem dL_law_472 : decode cL_law 472 = .ok (.aload_n 2, 1) := by decide +kernel
theorem dL_law_473 : decode cL_law 473 = .ok (.aload_n 0, 1) := by decide +kernel
theorem dL_law_474 : decode cL_law 474 = .ok (.iload_n 3, 1) := by decide +kernel
theorem dL_law_475 : decode cL_law 475 = .ok (.iconst 1, 1) := by decide +kernel
theorem dL_law_476 : decode cL_law 476 = .ok (.iadd, 1) := by decide +kernel
theorem dL_law_477 : decode cL_law 477 = .ok (.iaload, 1) := by decide +kernel
theorem dL_law_478 : decode cL_law 478 = .ok (.invokevirtual 55, 3) := by decide +kernel
theorem dL_law_481 : decode cL_law 481 = .ok (.pop2, 1) := by decide +kernel
theorem dL_law_482 : decode cL_law 482 = .ok (.goto 387, 3) := by decide +kernel
theorem dL_law_485 : decode cL_law 485 = .ok (.aload_n 1, 1) := by decide +kernel
theorem dL_law_486 : decode cL_law 486 = .ok (.aload_n 0, 1) := by decide +kernel
theorem dL_law_487 : decode cL_law 487 = .ok (.iload_n 3, 1) := by decide +kernel
theorem dL_law_488 : decode cL_law 488 = .ok (.iconst 1, 1) := by decide +kernel
theorem dL_law_489 : decode cL_law 489 = .ok (.iadd, 1) := by decide +kernel
theorem dL_law_490 : decode cL_law 490 = .ok (.iaload, 1) := by decide +kernel
theorem dL_law_491 : decode cL_law 491 = .ok (.aload_n 0, 1) := by decide +kernel
theorem dL_law_492 : decode cL_law 492 = .ok (.iload_n 3, 1) := by decide +kernel
theorem dL_law_493 : decode cL_law 493 = .ok (.iconst 2, 1) := by decide +kernel
theorem dL_law_494 : decode cL_law 494 = .ok (.iadd, 1) := by decide +kernel
theorem dL_law_495 : decode cL_law 495 = .ok (.iaload, 1) := by decide +kernel
theorem dL_law_496 : decode cL_law 496 = .ok (.invokevirtual 56, 3) := by decide +kernel
theorem dL_law_499 : decode cL_law 499 = .ok (.pop2, 1) := by decide +kernel
theorem dL_law_500 : decode cL_law 500 = .ok (.aload_n 2, 1) := by decide +kernel
theorem dL_law_501 : decode cL_law 501 = .ok (.aload_n 0, 1) := by decide +kernel
theorem dL_law_502 : decode cL_law 502 = .ok (.iload_n 3, 1) := by decide +kernel
theorem dL_law_503 : decode cL_law 503 = .ok (.iconst 1, 1) := by decide +kernel
theorem dL_law_504 : decode cL_law 504 = .ok (.iadd, 1) := by decide +kernel
theorem dL_law_505 : decode cL_law 505 = .ok (.iaload, 1) := by decide +kernel
theorem dL_law_506 : decode cL_law 506 = .ok (.aload_n 0, 1) := by decide +kernel
theorem dL_law_507 : decode cL_law 507 = .ok (.iload_n 3, 1) := by decide +kernel
theorem dL_law_508 : decode cL_law 508 = .ok (.iconst 2, 1) := by decide +kernel
theorem dL_law_509 : decode cL_law 509 = .ok (.iadd, 1) := by decide +kernel
theorem dL_law_510 : decode cL_law 510 = .ok (.iaload, 1) := by decide +kernel
theorem dL_law_511 : decode cL_law 511 = .ok (.invokevirtual 59, 3) := by decide +kernel
theorem dL_law_514 : decode cL_law 514 = .ok (.pop2, 1) := by decide +kernel
theorem dL_law_515 : decode cL_law 515 = .ok (.goto 354, 3) := by decide +kernel
theorem dL_law_518 : decode cL_law 518 = .ok (.aload_n 1, 1) := by decide +kernel
theorem dL_law_519 : decode cL_law 519 = .ok (.aload_n 0, 1) := by decide +kernel
theorem dL_law_520 : decode cL_law 520 = .ok (.iload_n 3, 1) := by decide +kernel
theorem dL_law_521 : decode cL_law 521 = .ok (.iconst 1, 1) := by decide +kernel
theorem dL_law_522 : decode cL_law 522 = .ok (.iadd, 1) := by decide +kernel
theorem dL_law_523 : decode cL_law 523 = .ok (.iaload, 1) := by decide +kernel
theorem dL_law_524 : decode cL_law 524 = .ok (.aload_n 0, 1) := by decide +kernel
theorem dL_law_525 : decode cL_law 525 = .ok (.iload_n 3, 1) := by decide +kernel
theorem dL_law_526 : decode cL_law 526 = .ok (.iconst 2, 1) := by decide +kernel
theorem dL_law_527 : decode cL_law 527 = .ok (.iadd, 1) := by decide +kernel
theorem dL_law_528 : decode cL_law 528 = .ok (.iaload, 1) := by decide +kernel
theorem dL_law_529 : decode cL_law 529 = .ok (.invokevirtual 60, 3) := by decide +kernel
theorem dL_law_532 : decode cL_law 532 = .ok (.pop2, 1) := by decide +kernel
theorem dL_law_533 : decode cL_law 533 = .ok (.aload_n 2, 1) := by decide +kernel
theorem dL_law_534 : decode cL_law 534 = .ok (.aload_n 0, 1) := by decide +kernel
theorem dL_law_535 : decode cL_law 535 = .ok (.iload_n 3, 1) := by decide +kernel
theorem dL_law_536 : decode cL_law 536 = .ok (.iconst 1, 1) := by decide +kernel
theorem dL_law_537 : decode cL_law 537 = .ok (.iadd, 1) := by decide +kernel
theorem dL_law_538 : decode cL_law 538 = .ok (.iaload, 1) := by decide +kernel
theorem dL_law_539 : decode cL_law 539 = .ok (.aload_n 0, 1) := by decide +kernel
theorem dL_law_540 : decode cL_law 540 = .ok (.iload_n 3, 1) := by decide +kernel
theorem dL_law_541 : decode cL_law 541 = .ok (.iconst 2, 1) := by decide +kernel
theorem dL_law_542 : decode cL_law 542 = .ok (.iadd, 1) := by decide +kernel
theorem dL_law_543 : decode cL_law 543 = .ok (.iaload, 1) := by decide +kernel
theorem dL_law_544 : decode cL_law 544 = .ok (.invokevirtual 63, 3) := by decide +kernel
theorem dL_law_547 : decode cL_law 547 = .ok (.pop2, 1) := by decide +kernel
theorem dL_law_548 : decode cL_law 548 = .ok (.goto 321, 3) := by decide +kernel
theorem dL_law_551 : decode cL_law 551 = .ok (.aload_n 1, 1) := by decide +kernel
theorem dL_law_552 : decode cL_law 552 = .ok (.aload_n 0, 1) := by decide +kernel
theorem dL_law_553 : decode cL_law 553 = .ok (.iload_n 3, 1) := by decide +kernel
theorem dL_law_554 : decode cL_law 554 = .ok (.iconst 1, 1) := by decide +kernel
theorem dL_law_555 : decode cL_law 555 = .ok (.iadd, 1) := by decide +kernel
theorem dL_law_556 : decode cL_law 556 = .ok (.iaload, 1) := by decide +kernel
theorem dL_law_557 : decode cL_law 557 = .ok (.aload_n 0, 1) := by decide +kernel
theorem dL_law_558 : decode cL_law 558 = .ok (.iload_n 3, 1) := by decide +kernel
theorem dL_law_559 : decode cL_law 559 = .ok (.iconst 2, 1) := by decide +kernel
theorem dL_law_560 : decode cL_law 560 = .ok (.iadd, 1) := by decide +kernel
theorem dL_law_561 : decode cL_law 561 = .ok (.iaload, 1) := by decide +kernel
theorem dL_law_562 : decode cL_law 562 = .ok (.invokevirtual 64, 3) := by decide +kernel
theorem dL_law_565 : decode cL_law 565 = .ok (.pop2, 1) := by decide +kernel
theorem dL_law_566 : decode cL_law 566 = .ok (.aload_n 2, 1) := by decide +kernel
theorem dL_law_567 : decode cL_law 567 = .ok (.aload_n 0, 1) := by decide +kernel
theorem dL_law_568 : decode cL_law 568 = .ok (.iload_n 3, 1) := by decide +kernel
theorem dL_law_569 : decode cL_law 569 = .ok (.iconst 1, 1) := by decide +kernel
theorem dL_law_570 : decode cL_law 570 = .ok (.iadd, 1) := by decide +kernel
theorem dL_law_571 : decode cL_law 571 = .ok (.iaload, 1) := by decide +kernel
theorem dL_law_572 : decode cL_law 572 = .ok (.aload_n 0, 1) := by decide +kernel
theorem dL_law_573 : decode cL_law 573 = .ok (.iload_n 3, 1) := by decide +kernel
theorem dL_law_574 : decode cL_law 574 = .ok (.iconst 2, 1) := by decide +kernel
theorem dL_law_575 : decode cL_law 575 = .ok (.iadd, 1) := by decide +kernel
theorem dL_law_576 : decode cL_law 576 = .ok (.iaload, 1) := by decide +kernel
theorem dL_law_577 : decode cL_law 577 = .ok (.invokevirtual 67, 3) := by decide +kernel
theorem dL_law_580 : decode cL_law 580 = .ok (.pop2, 1) := by decide +kernel
theorem dL_law_581 : decode cL_law 581 = .ok (.goto 288, 3) := by decide +kernel
theorem dL_law_584 : decode cL_law 584 = .ok (.aload_n 1, 1) := by decide +kernel
theorem dL_law_585 : decode cL_law 585 = .ok (.aload_n 0, 1) := by decide +kernel
theorem dL_law_586 : decode cL_law 586 = .ok (.iload_n 3, 1) := by decide +kernel
theorem dL_law_587 : decode cL_law 587 = .ok (.iconst 1, 1) := by decide +kernel
theorem dL_law_588 : decode cL_law 588 = .ok (.iadd, 1) := by decide +kernel
theorem dL_law_589 : decode cL_law 589 = .ok (.iaload, 1) := by decide +kernel
theorem dL_law_590 : decode cL_law 590 = .ok (.aload_n 0, 1) := by decide +kernel
theorem dL_law_591 : decode cL_law 591 = .ok (.iload_n 3, 1) := by decide +kernel
theorem dL_law_592 : decode cL_law 592 = .ok (.iconst 2, 1) := by decide +kernel
theorem dL_law_593 : decode cL_law 593 = .ok (.iadd, 1) := by decide +kernel
theorem dL_law_594 : decode cL_law 594 = .ok (.iaload, 1) := by decide +kernel
theorem dL_law_595 : decode cL_law 595 = .ok (.invokevirtual 68, 3) := by decide +kernel
theorem dL_law_598 : decode cL_law 598 = .ok (.pop2, 1) := by decide +kernel
theorem dL_law_599 : decode cL_law 599 = .ok (.aload_n 2, 1) := by decide +kernel
theorem dL_law_600 : decode cL_law 600 = .ok (.aload_n 0, 1) := by decide +kernel
theorem dL_law_601 : decode cL_law 601 = .ok (.iload_n 3, 1) := by decide +kernel
theorem dL_law_602 : decode cL_law 602 = .ok (.iconst 1, 1) := by decide +kernel
theorem dL_law_603 : decode cL_law 603 = .ok (.iadd, 1) := by decide +kernel
theorem dL_law_604 : decode cL_law 604 = .ok (.iaload, 1) := by decide +kernel
theorem dL_law_605 : decode cL_law 605 = .ok (.aload_n 0, 1) := by decide +kernel
theorem dL_law_606 : decode cL_law 606 = .ok (.iload_n 3, 1) := by decide +kernel
theorem dL_law_607 : decode cL_law 607 = .ok (.iconst 2, 1) := by decide +kernel
theorem dL_law_608 : decode cL_law 608 = .ok (.iadd, 1) := by decide +kernel
theorem dL_law_609 : decode cL_law 609 = .ok (.iaload, 1) := by decide +kernel
theorem dL_law_610 : decode cL_law 610 = .ok (.invokevirtual 71, 3) := by decide +kernel
theorem dL_law_613 : decode cL_law 613 = .ok (.pop2, 1) := by decide +kernel
theorem dL_law_614 : decode cL_law 614 = .ok (.goto 255, 3) := by decide +kernel
theorem dL_law_617 : decode cL_law 617 = .ok (.aload_n 1, 1) := by decide +kernel
theorem dL_law_618 : decode cL_law 618 = .ok (.aload_n 0, 1) := by decide +kernel
theorem dL_law_619 : decode cL_law 619 = .ok (.iload_n 3, 1) := by decide +kernel
theorem dL_law_620 : decode cL_law 620 = .ok (.iconst 1, 1) := by decide +kernel
theorem dL_law_621 : decode cL_law 621 = .ok (.iadd, 1) := by decide +kernel
theorem dL_law_622 : decode cL_law 622 = .ok (.iaload, 1) := by decide +kernel
theorem dL_law_623 : decode cL_law 623 = .ok (.invokevirtual 72, 3) := by decide +kernel
theorem dL_law_626 : decode cL_law 626 = .ok (.pop2, 1) := by decide +kernel
theorem dL_law_627 : decode cL_law 627 = .ok (.aload_n 2, 1) := by decide +kernel
theorem dL_law_628 : decode cL_law 628 = .ok (.aload_n 0, 1) := by decide +kernel
theorem dL_law_629 : decode cL_law 629 = .ok (.iload_n 3, 1) := by decide +kernel
theorem dL_law_630 : decode cL_law 630 = .ok (.iconst 1, 1) := by decide +kernel
theorem dL_law_631 : decode cL_law 631 = .ok (.iadd, 1) := by decide +kernel
theorem dL_law_632 : decode cL_law 632 = .ok (.iaload, 1) := by decide +kernel
theorem dL_law_633 : decode cL_law 633 = .ok (.invokevirtual 75, 3) := by decide +kernel
theorem dL_law_636 : decode cL_law 636 = .ok (.pop2, 1) := by decide +kernel
theorem dL_law_637 : decode cL_law 637 = .ok (.goto 232, 3) := by decide +kernel
theorem dL_law_640 : decode cL_law 640 = .ok (.aload_n 1, 1) := by decide +kernel
theorem dL_law_641 : decode cL_law 641 = .ok (.aload_n 0, 1) := by decide +kernel
theorem dL_law_642 : decode cL_law 642 = .ok (.iload_n 3, 1) := by decide +kernel
theorem dL_law_643 : decode cL_law 643 = .ok (.iconst 1, 1) := by decide +kernel
theorem dL_law_644 : decode cL_law 644 = .ok (.iadd, 1) := by decide +kernel
theorem dL_law_645 : decode cL_law 645 = .ok (.iaload, 1) := by decide +kernel
theorem dL_law_646 : decode cL_law 646 = .ok (.aload_n 0, 1) := by decide +kernel
theorem dL_law_647 : decode cL_law 647 = .ok (.iload_n 3, 1) := by decide +kernel
theorem dL_law_648 : decode cL_law 648 = .ok (.iconst 2, 1) := by decide +kernel
theorem dL_law_649 : decode cL_law 649 = .ok (.iadd, 1) := by decide +kernel
theorem dL_law_650 : decode cL_law 650 = .ok (.iaload, 1) := by decide +kernel
theorem dL_law_651 : decode cL_law 651 = .ok (.invokevirtual 76, 3) := by decide +kernel
theorem dL_law_654 : decode cL_law 654 = .ok (.pop2, 1) := by decide +kernel
theorem dL_law_655 : decode cL_law 655 = .ok (.aload_n 2, 1) := by decide +kernel
theorem dL_law_656 : decode cL_law 656 = .ok (.aload_n 0, 1) := by decide +kernel
theorem dL_law_657 : decode cL_law 657 = .ok (.iload_n 3, 1) := by decide +kernel
theorem dL_law_658 : decode cL_law 658 = .ok (.iconst 1, 1) := by decide +kernel
theorem dL_law_659 : decode cL_law 659 = .ok (.iadd, 1) := by decide +kernel
theorem dL_law_660 : decode cL_law 660 = .ok (.iaload, 1) := by decide +kernel
theorem dL_law_661 : decode cL_law 661 = .ok (.aload_n 0, 1) := by decide +kernel
theorem dL_law_662 : decode cL_law 662 = .ok (.iload_n 3, 1) := by decide +kernel
theorem dL_law_663 : decode cL_law 663 = .ok (.iconst 2, 1) := by decide +kernel
theorem dL_law_664 : decode cL_law 664 = .ok (.iadd, 1) := by decide +kernel
theorem dL_law_665 : decode cL_law 665 = .ok (.iaload, 1) := by decide +kernel
theorem dL_law_666 : decode cL_law 666 = .ok (.invokevirtual 79, 3) := by decide +kernel
theorem dL_law_669 : decode cL_law 669 = .ok (.pop2, 1) := by decide +kernel
theorem dL_law_670 : decode cL_law 670 = .ok (.goto 199, 3) := by decide +kernel
theorem dL_law_673 : decode cL_law 673 = .ok (.aload_n 1, 1) := by decide +kernel
theorem dL_law_674 : decode cL_law 674 = .ok (.aload_n 0, 1) := by decide +kernel
theorem dL_law_675 : decode cL_law 675 = .ok (.iload_n 3, 1) := by decide +kernel
theorem dL_law_676 : decode cL_law 676 = .ok (.iconst 1, 1) := by decide +kernel
theorem dL_law_677 : decode cL_law 677 = .ok (.iadd, 1) := by decide +kernel
theorem dL_law_678 : decode cL_law 678 = .ok (.iaload, 1) := by decide +kernel
theorem dL_law_679 : decode cL_law 679 = .ok (.aload_n 0, 1) := by decide +kernel
theorem dL_law_680 : decode cL_law 680 = .ok (.iload_n 3, 1) := by decide +kernel
theorem dL_law_681 : decode cL_law 681 = .ok (.iconst 2, 1) := by decide +kernel
theorem dL_law_682 : decode cL_law 682 = .ok (.iadd, 1) := by decide +kernel
theorem dL_law_683 : decode cL_law 683 = .ok (.iaload, 1) := by decide +kernel
theorem dL_law_684 : decode cL_law 684 = .ok (.aload_n 0, 1) := by decide +kernel
theorem dL_law_685 : decode cL_law 685 = .ok (.iload_n 3, 1) := by decide +kernel
theorem dL_law_686 : decode cL_law 686 = .ok (.iconst 3, 1) := by decide +kernel
theorem dL_law_687 : decode cL_law 687 = .ok (.iadd, 1) := by decide +kernel
theorem dL_law_688 : decode cL_law 688 = .ok (.iaload, 1) := by decide +kernel
theorem dL_law_689 : decode cL_law 689 = .ok (.invokevirtual 80, 3) := by decide +kernel
theorem dL_law_692 : decode cL_law 692 = .ok (.pop2, 1) := by decide +kernel
theorem dL_law_693 : decode cL_law 693 = .ok (.aload_n 2, 1) := by decide +kernel
theorem dL_law_694 : decode cL_law 694 = .ok (.aload_n 0, 1) := by decide +kernel
theorem dL_law_695 : decode cL_law 695 = .ok (.iload_n 3, 1) := by decide +kernel
theorem dL_law_696 : decode cL_law 696 = .ok (.iconst 1, 1) := by decide +kernel
theorem dL_law_697 : decode cL_law 697 = .ok (.iadd, 1) := by decide +kernel
theorem dL_law_698 : decode cL_law 698 = .ok (.iaload, 1) := by decide +kernel
theorem dL_law_699 : decode cL_law 699 = .ok (.aload_n 0, 1) := by decide +kernel
theorem dL_law_700 : decode cL_law 700 = .ok (.iload_n 3, 1) := by decide +kernel
theorem dL_law_701 : decode cL_law 701 = .ok (.iconst 2, 1) := by decide +kernel
theorem dL_law_702 : decode cL_law 702 = .ok (.iadd, 1) := by decide +kernel
theorem dL_law_703 : decode cL_law 703 = .ok (.iaload, 1) := by decide +kernel
theorem dL_law_704 : decode cL_law 704 = .ok (.aload_n 0, 1) := by decide +kernel
theorem dL_law_705 : decode cL_law 705 = .ok (.iload_n 3, 1) := by decide +kernel
theorem dL_law_706 : decode cL_law 706 = .ok (.iconst 3, 1) := by decide +kernel
theorem dL_law_707 : decode cL_law 707 = .ok (.iadd, 1) := by decide +kernel
theorem dL_law_708 : decode cL_law 708 = .ok (.iaload, 1) := by decide +kernel
theorem dL_law_709 : decode cL_law 709 = .ok (.invokevirtual 83, 3) := by decide +kernel
theorem dL_law_712 : decode cL_law 712 = .ok (.pop2, 1) := by decide +kernel
theorem dL_law_713 : decode cL_law 713 = .ok (.goto 156, 3) := by decide +kernel
theorem dL_law_716 : decode cL_law 716 = .ok (.aload_n 1, 1) := by decide +kernel
theorem dL_law_717 : decode cL_law 717 = .ok (.aload_n 0, 1) := by decide +kernel
theorem dL_law_718 : decode cL_law 718 = .ok (.iload_n 3, 1) := by decide +kernel
theorem dL_law_719 : decode cL_law 719 = .ok (.iconst 1, 1) := by decide +kernel
theorem dL_law_720 : decode cL_law 720 = .ok (.iadd, 1) := by decide +kernel
theorem dL_law_721 : decode cL_law 721 = .ok (.iaload, 1) := by decide +kernel
theorem dL_law_722 : decode cL_law 722 = .ok (.aload_n 0, 1) := by decide +kernel
theorem dL_law_723 : decode cL_law 723 = .ok (.iload_n 3, 1) := by decide +kernel
theorem dL_law_724 : decode cL_law 724 = .ok (.iconst 2, 1) := by decide +kernel
theorem dL_law_725 : decode cL_law 725 = .ok (.iadd, 1) := by decide +kernel
theorem dL_law_726 : decode cL_law 726 = .ok (.iaload, 1) := by decide +kernel
theorem dL_law_727 : decode cL_law 727 = .ok (.aload_n 0, 1) := by decide +kernel
theorem dL_law_728 : decode cL_law 728 = .ok (.iload_n 3, 1) := by decide +kernel
theorem dL_law_729 : decode cL_law 729 = .ok (.iconst 3, 1) := by decide +kernel
theorem dL_law_730 : decode cL_law 730 = .ok (.iadd, 1) := by decide +kernel
theorem dL_law_731 : decode cL_law 731 = .ok (.iaload, 1) := by decide +kernel
theorem dL_law_732 : decode cL_law 732 = .ok (.aload_n 0, 1) := by decide +kernel
theorem dL_law_733 : decode cL_law 733 = .ok (.iload_n 3, 1) := by decide +kernel
theorem dL_law_734 : decode cL_law 734 = .ok (.iconst 4, 1) := by decide +kernel
theorem dL_law_735 : decode cL_law 735 = .ok (.iadd, 1) := by decide +kernel
theorem dL_law_736 : decode cL_law 736 = .ok (.iaload, 1) := by decide +kernel
theorem dL_law_737 : decode cL_law 737 = .ok (.invokevirtual 84, 3) := by decide +kernel
theorem dL_law_740 : decode cL_law 740 = .ok (.pop2, 1) := by decide +kernel
theorem dL_law_741 : decode cL_law 741 = .ok (.aload_n 2, 1) := by decide +kernel
theorem dL_law_742 : decode cL_law 742 = .ok (.aload_n 0, 1) := by decide +kernel
theorem dL_law_743 : decode cL_law 743 = .ok (.iload_n 3, 1) := by decide +kernel
theorem dL_law_744 : decode cL_law 744 = .ok (.iconst 1, 1) := by decide +kernel
theorem dL_law_745 : decode cL_law 745 = .ok (.iadd, 1) := by decide +kernel
theorem dL_law_746 : decode cL_law 746 = .ok (.iaload, 1) := by decide +kernel
theorem dL_law_747 : decode cL_law 747 = .ok (.aload_n 0, 1) := by decide +kernel
theorem dL_law_748 : decode cL_law 748 = .ok (.iload_n 3, 1) := by decide +kernel
theorem dL_law_749 : decode cL_law 749 = .ok (.iconst 2, 1) := by decide +kernel
theorem dL_law_750 : decode cL_law 750 = .ok (.iadd, 1) := by decide +kernel
theorem dL_law_751 : decode cL_law 751 = .ok (.iaload, 1) := by decide +kernel
theorem dL_law_752 : decode cL_law 752 = .ok (.aload_n 0, 1) := by decide +kernel
theorem dL_law_753 : decode cL_law 753 = .ok (.iload_n 3, 1) := by decide +kernel
theorem dL_law_754 : decode cL_law 754 = .ok (.iconst 3, 1) := by decide +kernel
theorem dL_law_755 : decode cL_law 755 = .ok (.iadd, 1) := by decide +kernel
theorem dL_law_756 : decode cL_law 756 = .ok (.iaload, 1) := by decide +kernel
theorem dL_law_757 : decode cL_law 757 = .ok (.aload_n 0, 1) := by decide +kernel
theorem dL_law_758 : decode cL_law 758 = .ok (.iload_n 3, 1) := by decide +kernel
theorem dL_law_759 : decode cL_law 759 = .ok (.iconst 4, 1) := by decide +kernel
theorem dL_law_760 : decode cL_law 760 = .ok (.iadd, 1) := by decide +kernel
theorem dL_law_761 : decode cL_law 761 = .ok (.iaload, 1) := by decide +kernel
theorem dL_law_762 : decode cL_law 762 = .ok (.invokevirtual 87, 3) := by decide +kernel
theorem dL_law_765 : decode cL_law 765 = .ok (.pop2, 1) := by decide +kernel
theorem dL_law_766 : decode cL_law 766 = .ok (.goto 103, 3) := by decide +kernel
theorem dL_law_769 : decode cL_law 769 = .ok (.aload_n 1, 1) := by decide +kernel
theorem dL_law_770 : decode cL_law 770 = .ok (.aload_n 0, 1) := by decide +kernel
theorem dL_law_771 : decode cL_law 771 = .ok (.iload_n 3, 1) := by decide +kernel
theorem dL_law_772 : decode cL_law 772 = .ok (.iconst 1, 1) := by decide +kernel
theorem dL_law_773 : decode cL_law 773 = .ok (.iadd, 1) := by decide +kernel
theorem dL_law_774 : decode cL_law 774 = .ok (.iaload, 1) := by decide +kernel
theorem dL_law_775 : decode cL_law 775 = .ok (.aload_n 0, 1) := by decide +kernel
theorem dL_law_776 : decode cL_law 776 = .ok (.iload_n 3, 1) := by decide +kernel
theorem dL_law_777 : decode cL_law 777 = .ok (.iconst 2, 1) := by decide +kernel
theorem dL_law_778 : decode cL_law 778 = .ok (.iadd, 1) := by decide +kernel
theorem dL_law_779 : decode cL_law 779 = .ok (.iaload, 1) := by decide +kernel
theorem dL_law_780 : decode cL_law 780 = .ok (.aload_n 0, 1) := by decide +kernel
theorem dL_law_781 : decode cL_law 781 = .ok (.iload_n 3, 1) := by decide +kernel
theorem dL_law_782 : decode cL_law 782 = .ok (.iconst 3, 1) := by decide +kernel
theorem dL_law_783 : decode cL_law 783 = .ok (.iadd, 1) := by decide +kernel
theorem dL_law_784 : decode cL_law 784 = .ok (.iaload, 1) := by decide +kernel
theorem dL_law_785 : decode cL_law 785 = .ok (.invokevirtual 88, 3) := by decide +kernel
theorem dL_law_788 : decode cL_law 788 = .ok (.aload_n 2, 1) := by decide +kernel
theorem dL_law_789 : decode cL_law 789 = .ok (.aload_n 0, 1) := by decide +kernel
theorem dL_law_790 : decode cL_law 790 = .ok (.iload_n 3, 1) := by decide +kernel
theorem dL_law_791 : decode cL_law 791 = .ok (.iconst 1, 1) := by decide +kernel
theorem dL_law_792 : decode cL_law 792 = .ok (.iadd, 1) := by decide +kernel
theorem dL_law_793 : decode cL_law 793 = .ok (.iaload, 1) := by decide +kernel
theorem dL_law_794 : decode cL_law 794 = .ok (.aload_n 0, 1) := by decide +kernel
theorem dL_law_795 : decode cL_law 795 = .ok (.iload_n 3, 1) := by decide +kernel
theorem dL_law_796 : decode cL_law 796 = .ok (.iconst 2, 1) := by decide +kernel
theorem dL_law_797 : decode cL_law 797 = .ok (.iadd, 1) := by decide +kernel
theorem dL_law_798 : decode cL_law 798 = .ok (.iaload, 1) := by decide +kernel
theorem dL_law_799 : decode cL_law 799 = .ok (.aload_n 0, 1) := by decide +kernel
theorem dL_law_800 : decode cL_law 800 = .ok (.iload_n 3, 1) := by decide +kernel
theorem dL_law_801 : decode cL_law 801 = .ok (.iconst 3, 1) := by decide +kernel
theorem dL_law_802 : decode cL_law 802 = .ok (.iadd, 1) := by decide +kernel
theorem dL_law_803 : decode cL_law 803 = .ok (.iaload, 1) := by decide +kernel
theorem dL_law_804 : decode cL_law 804 = .ok (.invokevirtual 91, 3) := by decide +kernel
theorem dL_law_807 : decode cL_law 807 = .ok (.lcmp, 1) := by decide +kernel
theorem dL_law_808 : decode cL_law 808 = .ok (.ifCond .eq 61, 3) := by decide +kernel
theorem dL_law_811 : decode cL_law 811 = .ok (.iconst 0, 1) := by decide +kernel
theorem dL_law_812 : decode cL_law 812 = .ok (.ireturn, 1) := by decide +kernel
theorem dL_law_813 : decode cL_law 813 = .ok (.aload_n 1, 1) := by decide +kernel
theorem dL_law_814 : decode cL_law 814 = .ok (.aload_n 0, 1) := by decide +kernel
theorem dL_law_815 : decode cL_law 815 = .ok (.iload_n 3, 1) := by decide +kernel
theorem dL_law_816 : decode cL_law 816 = .ok (.iconst 1, 1) := by decide +kernel
theorem dL_law_817 : decode cL_law 817 = .ok (.iadd, 1) := by decide +kernel
theorem dL_law_818 : decode cL_law 818 = .ok (.iaload, 1) := by decide +kernel
theorem dL_law_819 : decode cL_law 819 = .ok (.aload_n 0, 1) := by decide +kernel
theorem dL_law_820 : decode cL_law 820 = .ok (.iload_n 3, 1) := by decide +kernel
theorem dL_law_821 : decode cL_law 821 = .ok (.iconst 2, 1) := by decide +kernel
theorem dL_law_822 : decode cL_law 822 = .ok (.iadd, 1) := by decide +kernel
theorem dL_law_823 : decode cL_law 823 = .ok (.iaload, 1) := by decide +kernel
theorem dL_law_824 : decode cL_law 824 = .ok (.invokevirtual 92, 3) := by decide +kernel
theorem dL_law_827 : decode cL_law 827 = .ok (.pop2, 1) := by decide +kernel
theorem dL_law_828 : decode cL_law 828 = .ok (.aload_n 2, 1) := by decide +kernel
theorem dL_law_829 : decode cL_law 829 = .ok (.aload_n 0, 1) := by decide +kernel
theorem dL_law_830 : decode cL_law 830 = .ok (.iload_n 3, 1) := by decide +kernel
theorem dL_law_831 : decode cL_law 831 = .ok (.iconst 1, 1) := by decide +kernel
theorem dL_law_832 : decode cL_law 832 = .ok (.iadd, 1) := by decide +kernel
theorem dL_law_833 : decode cL_law 833 = .ok (.iaload, 1) := by decide +kernel
theorem dL_law_834 : decode cL_law 834 = .ok (.aload_n 0, 1) := by decide +kernel
theorem dL_law_835 : decode cL_law 835 = .ok (.iload_n 3, 1) := by decide +kernel
theorem dL_law_836 : decode cL_law 836 = .ok (.iconst 2, 1) := by decide +kernel
theorem dL_law_837 : decode cL_law 837 = .ok (.iadd, 1) := by decide +kernel
theorem dL_law_838 : decode cL_law 838 = .ok (.iaload, 1) := by decide +kernel
theorem dL_law_839 : decode cL_law 839 = .ok (.invokevirtual 95, 3) := by decide +kernel
theorem dL_law_842 : decode cL_law 842 = .ok (.pop2, 1) := by decide +kernel
theorem dL_law_843 : decode cL_law 843 = .ok (.goto 26, 3) := by decide +kernel
theorem dL_law_846 : decode cL_law 846 = .ok (.aload_n 1, 1) := by decide +kernel
theorem dL_law_847 : decode cL_law 847 = .ok (.aload_n 0, 1) := by decide +kernel
theorem dL_law_848 : decode cL_law 848 = .ok (.iload_n 3, 1) := by decide +kernel
theorem dL_law_849 : decode cL_law 849 = .ok (.iconst 1, 1) := by decide +kernel
theorem dL_law_850 : decode cL_law 850 = .ok (.iadd, 1) := by decide +kernel
theorem dL_law_851 : decode cL_law 851 = .ok (.iaload, 1) := by decide +kernel
theorem dL_law_852 : decode cL_law 852 = .ok (.invokevirtual 96, 3) := by decide +kernel
theorem dL_law_855 : decode cL_law 855 = .ok (.pop2, 1) := by decide +kernel
theorem dL_law_856 : decode cL_law 856 = .ok (.aload_n 2, 1) := by decide +kernel
theorem dL_law_857 : decode cL_law 857 = .ok (.aload_n 0, 1) := by decide +kernel
theorem dL_law_858 : decode cL_law 858 = .ok (.iload_n 3, 1) := by decide +kernel
theorem dL_law_859 : decode cL_law 859 = .ok (.iconst 1, 1) := by decide +kernel
theorem dL_law_860 : decode cL_law 860 = .ok (.iadd, 1) := by decide +kernel
theorem dL_law_861 : decode cL_law 861 = .ok (.iaload, 1) := by decide +kernel
theorem dL_law_862 : decode cL_law 862 = .ok (.invokevirtual 99, 3) := by decide +kernel
theorem dL_law_865 : decode cL_law 865 = .ok (.pop2, 1) := by decide +kernel
theorem dL_law_866 : decode cL_law 866 = .ok (.goto 3, 3) := by decide +kernel
theorem dL_law_869 : decode cL_law 869 = .ok (.iinc 3 5, 3) := by decide +kernel
theorem dL_law_872 : decode cL_law 872 = .ok (.goto (-854), 3) := by decide +kernel
theorem dL_law_875 : decode cL_law 875 = .ok (.iconst 1, 1) := by decide +kernel
theorem dL_law_876 : decode cL_law 876 = .ok (.ireturn, 1) := by decide +kernel
theorem wL_law_18 {b L : Nat} {xs : Nat → Int32} (G : GG) (hG : GT G) (R : Int32 × AH) (hR1 : R.1 = 1) (hX : va_X b L xs G.2.1 G.2.1.heap) {k n : Nat} (hkA : k ≤ 10000) (hnA : n ≤ 200000) {K18 : Nat → Nat → Int32 → AH → Fn Int32} (hK18 : ∀ (l1 : Nat) (l2 : Nat) (l3 : Int32) (h : AH), K18 l1 l2 l3 h = some R → AW (eL G) RL cL_law 18 [some (.ref b), some (.ref (gB G + l1)), some (.ref (gB G + l2)), some (.int l3)] [] h k n) (l1 : Nat) (l2 : Nat) (l3 : Int32) (h : AH) (X : fL_law_18 L xs K18 l1 l2 l3 h = some R) : AW (eL G) RL cL_law 18 [some (.ref b), some (.ref (gB G + l1)), some (.ref (gB G + l2)), some (.int l3)] [] h k n := by
  unfold fL_law_18 at X
  refine r_ild3 19 dL_law_18 rfl ?_
  refine r_ald0 20 dL_law_19 rfl ?_
  refine r_xN 21 dL_law_20 rfl hX ?_
  refine r_iconst 22 _ dL_law_21 rfl ki_5 ?_
  refine r_isub 23 dL_law_22 rfl ?_
  refine r_icmp_gt 875 26 dL_law_23 (by decide) rfl X (fun _ X => ?_) (fun _ X => ?_)
  · refine r_iconst 876 _ dL_law_875 rfl ki_1 ?_
    exact r_retLaw dL_law_876 (by show _ ≤ 600000; omega) (by show _ ≤ 7302250; omega) hR1 X
  · refine r_ald0 27 dL_law_26 rfl ?_
    refine r_ild3 28 dL_law_27 rfl ?_
    refine r_xI 29 dL_law_28 rfl hX X (fun x101 X => ?_)
    refine r_bipush 31 _ dL_law_29 rfl kb_31 ?_
    refine r_iand 32 dL_law_31 rfl ?_
    refine r_case 128 0 0 96 dL_law_32 (by decide) (by decide) (by decide) (by decide) X (fun _ X => ?_) (fun n0 X => ?_)
    · refine r_ald1 129 dL_law_128 rfl ?_
      refine r_ald0 130 dL_law_129 rfl ?_
      refine r_ild3 131 dL_law_130 rfl ?_
      refine r_iconst 132 _ dL_law_131 rfl ki_1 ?_
      refine r_iadd 133 dL_law_132 rfl ?_
      refine r_xI 134 dL_law_133 rfl hX X (fun x278 X => ?_)
      refine r_i2l 135 dL_law_134 rfl ?_
      refine r_bipush 137 _ dL_law_135 rfl kb_32 ?_
      refine r_lshl 138 dL_law_137 rfl ?_
      refine r_ald0 139 dL_law_138 rfl ?_
      refine r_ild3 140 dL_law_139 rfl ?_
      refine r_iconst 141 _ dL_law_140 rfl ki_2 ?_
      refine r_iadd 142 dL_law_141 rfl ?_
      refine r_xI 143 dL_law_142 rfl hX X (fun x279 X => ?_)
      refine r_i2l 144 dL_law_143 rfl ?_
      refine r_ldc2 147 dL_law_144 rfl lkL_13 ?_
      refine r_land 148 dL_law_147 rfl ?_
      refine r_lor 149 dL_law_148 rfl ?_
      refine r_ald0 150 dL_law_149 rfl ?_
      refine r_ild3 151 dL_law_150 rfl ?_
      refine r_iconst 152 _ dL_law_151 rfl ki_3 ?_
      refine r_iadd 153 dL_law_152 rfl ?_
      refine r_xI 154 dL_law_153 rfl hX X (fun x280 X => ?_)
      refine r_i2l 155 dL_law_154 rfl ?_
      refine r_bipush 157 _ dL_law_155 rfl kb_32 ?_
      refine r_lshl 158 dL_law_157 rfl ?_
      refine r_ald0 159 dL_law_158 rfl ?_
      refine r_ild3 160 dL_law_159 rfl ?_
      refine r_iconst 161 _ dL_law_160 rfl ki_4 ?_
      refine r_iadd 162 dL_law_161 rfl ?_
      refine r_xI 163 dL_law_162 rfl hX X (fun x281 X => ?_)
      refine r_i2l 164 dL_law_163 rfl ?_
      refine r_ldc2 167 dL_law_164 rfl lkL_13 ?_
      refine r_land 168 dL_law_167 rfl ?_
      refine r_lor 169 dL_law_168 rfl ?_
      obtain ⟨hs, X⟩ := r_cv X
      obtain ⟨x283, h282, hc, X⟩ := bnd_ok X
      refine r_callV2 172 dL_law_169 rfl lmL_15 hs (mtX8_ratio G hG hc) rfl ⟨(by show _ ≤ 600000; omega), (by show _ ≤ 7302250; omega)⟩ ?_
      refine r_pop2 173 dL_law_172 rfl rfl ?_
      refine r_ald2 174 dL_law_173 rfl ?_
      refine r_ald0 175 dL_law_174 rfl ?_
      refine r_ild3 176 dL_law_175 rfl ?_
      refine r_iconst 177 _ dL_law_176 rfl ki_1 ?_
      refine r_iadd 178 dL_law_177 rfl ?_
      refine r_xI 179 dL_law_178 rfl hX X (fun x284 X => ?_)
      refine r_i2l 180 dL_law_179 rfl ?_
      refine r_bipush 182 _ dL_law_180 rfl kb_32 ?_
      refine r_lshl 183 dL_law_182 rfl ?_
      refine r_ald0 184 dL_law_183 rfl ?_
      refine r_ild3 185 dL_law_184 rfl ?_
      refine r_iconst 186 _ dL_law_185 rfl ki_2 ?_
      refine r_iadd 187 dL_law_186 rfl ?_
      refine r_xI 188 dL_law_187 rfl hX X (fun x285 X => ?_)
      refine r_i2l 189 dL_law_188 rfl ?_
      refine r_ldc2 192 dL_law_189 rfl lkL_13 ?_
      refine r_land 193 dL_law_192 rfl ?_
      refine r_lor 194 dL_law_193 rfl ?_
      refine r_ald0 195 dL_law_194 rfl ?_
      refine r_ild3 196 dL_law_195 rfl ?_
      refine r_iconst 197 _ dL_law_196 rfl ki_3 ?_
      refine r_iadd 198 dL_law_197 rfl ?_
      refine r_xI 199 dL_law_198 rfl hX X (fun x286 X => ?_)
      refine r_i2l 200 dL_law_199 rfl ?_
      refine r_bipush 202 _ dL_law_200 rfl kb_32 ?_
      refine r_lshl 203 dL_law_202 rfl ?_
      refine r_ald0 204 dL_law_203 rfl ?_
      refine r_ild3 205 dL_law_204 rfl ?_
      refine r_iconst 206 _ dL_law_205 rfl ki_4 ?_
      refine r_iadd 207 dL_law_206 rfl ?_
      refine r_xI 208 dL_law_207 rfl hX X (fun x287 X => ?_)
      refine r_i2l 209 dL_law_208 rfl ?_
      refine r_ldc2 212 dL_law_209 rfl lkL_13 ?_
      refine r_land 213 dL_law_212 rfl ?_
      refine r_lor 214 dL_law_213 rfl ?_
      obtain ⟨hs, X⟩ := r_cv X
      obtain ⟨x289, h288, hc, X⟩ := bnd_ok X
      refine r_callV2 217 dL_law_214 rfl lmL_19 hs (mtX9_ratio G hG hc) rfl ⟨(by show _ ≤ 600000; omega), (by show _ ≤ 7302250; omega)⟩ ?_
      refine r_pop2 218 dL_law_217 rfl rfl ?_
      refine r_goto 869 dL_law_218 (by decide) ?_
      refine r_iinc3w 872 dL_law_869 rfl rfl ki_5 X (fun x290 X => ?_)
      refine r_goto 18 dL_law_872 (by decide) ?_
      exact r_cut (hK18 _ _ _ _ X) ⟨rfl, ⟨rfl, ⟨rfl, ⟨rfl, trivial⟩⟩⟩⟩
    · refine r_case 221 1 1 189 dL_law_32 (by decide) (by decide) (by decide) (by decide) X (fun _ X => ?_) (fun n1 X => ?_)
      · refine r_ald1 222 dL_law_221 rfl ?_
        refine r_ald0 223 dL_law_222 rfl ?_
        refine r_ild3 224 dL_law_223 rfl ?_
        refine r_iconst 225 _ dL_law_224 rfl ki_1 ?_
        refine r_iadd 226 dL_law_225 rfl ?_
        refine r_xI 227 dL_law_226 rfl hX X (fun x265 X => ?_)
        refine r_ald0 228 dL_law_227 rfl ?_
        refine r_ild3 229 dL_law_228 rfl ?_
        refine r_iconst 230 _ dL_law_229 rfl ki_2 ?_
        refine r_iadd 231 dL_law_230 rfl ?_
        refine r_xI 232 dL_law_231 rfl hX X (fun x266 X => ?_)
        refine r_ald0 233 dL_law_232 rfl ?_
        refine r_ild3 234 dL_law_233 rfl ?_
        refine r_iconst 235 _ dL_law_234 rfl ki_3 ?_
        refine r_iadd 236 dL_law_235 rfl ?_
        refine r_xI 237 dL_law_236 rfl hX X (fun x267 X => ?_)
        refine r_ald0 238 dL_law_237 rfl ?_
        refine r_ild3 239 dL_law_238 rfl ?_
        refine r_iconst 240 _ dL_law_239 rfl ki_4 ?_
        refine r_iadd 241 dL_law_240 rfl ?_
        refine r_xI 242 dL_law_241 rfl hX X (fun x268 X => ?_)
        obtain ⟨hs, X⟩ := r_cv X
        obtain ⟨x270, h269, hc, X⟩ := bnd_ok X
        refine r_callV4 245 dL_law_242 rfl lmL_20 hs (mtX8_root G hG hc) rfl ⟨(by show _ ≤ 600000; omega), (by show _ ≤ 7302250; omega)⟩ ?_
        refine r_pop2 246 dL_law_245 rfl rfl ?_
        refine r_ald2 247 dL_law_246 rfl ?_
        refine r_ald0 248 dL_law_247 rfl ?_
        refine r_ild3 249 dL_law_248 rfl ?_
        refine r_iconst 250 _ dL_law_249 rfl ki_1 ?_
        refine r_iadd 251 dL_law_250 rfl ?_
        refine r_xI 252 dL_law_251 rfl hX X (fun x271 X => ?_)
        refine r_ald0 253 dL_law_252 rfl ?_
        refine r_ild3 254 dL_law_253 rfl ?_
        refine r_iconst 255 _ dL_law_254 rfl ki_2 ?_
        refine r_iadd 256 dL_law_255 rfl ?_
        refine r_xI 257 dL_law_256 rfl hX X (fun x272 X => ?_)
        refine r_ald0 258 dL_law_257 rfl ?_
        refine r_ild3 259 dL_law_258 rfl ?_
        refine r_iconst 260 _ dL_law_259 rfl ki_3 ?_
        refine r_iadd 261 dL_law_260 rfl ?_
        refine r_xI 262 dL_law_261 rfl hX X (fun x273 X => ?_)
        refine r_ald0 263 dL_law_262 rfl ?_
        refine r_ild3 264 dL_law_263 rfl ?_
        refine r_iconst 265 _ dL_law_264 rfl ki_4 ?_
        refine r_iadd 266 dL_law_265 rfl ?_
        refine r_xI 267 dL_law_266 rfl hX X (fun x274 X => ?_)
        obtain ⟨hs, X⟩ := r_cv X
        obtain ⟨x276, h275, hc, X⟩ := bnd_ok X
        refine r_callV4 270 dL_law_267 rfl lmL_24 hs (mtX9_root G hG hc) rfl ⟨(by show _ ≤ 600000; omega), (by show _ ≤ 7302250; omega)⟩ ?_
        refine r_pop2 271 dL_law_270 rfl rfl ?_
        refine r_goto 869 dL_law_271 (by decide) ?_
        refine r_iinc3w 872 dL_law_869 rfl rfl ki_5 X (fun x277 X => ?_)
        refine r_goto 18 dL_law_872 (by decide) ?_
        exact r_cut (hK18 _ _ _ _ X) ⟨rfl, ⟨rfl, ⟨rfl, ⟨rfl, trivial⟩⟩⟩⟩
      · refine r_case 274 2 2 242 dL_law_32 (by decide) (by decide) (by decide) (by decide) X (fun _ X => ?_) (fun n2 X => ?_)
        · refine r_ald1 275 dL_law_274 rfl ?_
          refine r_ald0 276 dL_law_275 rfl ?_
          refine r_ild3 277 dL_law_276 rfl ?_
          refine r_iconst 278 _ dL_law_277 rfl ki_1 ?_
          refine r_iadd 279 dL_law_278 rfl ?_
          refine r_xI 280 dL_law_279 rfl hX X (fun x256 X => ?_)
          refine r_ald0 281 dL_law_280 rfl ?_
          refine r_ild3 282 dL_law_281 rfl ?_
          refine r_iconst 283 _ dL_law_282 rfl ki_2 ?_
          refine r_iadd 284 dL_law_283 rfl ?_
          refine r_xI 285 dL_law_284 rfl hX X (fun x257 X => ?_)
          obtain ⟨hs, X⟩ := r_cv X
          obtain ⟨x259, h258, hc, X⟩ := bnd_ok X
          refine r_callV2 288 dL_law_285 rfl lmL_25 hs (mtX8_row G hG hc) rfl ⟨(by show _ ≤ 600000; omega), (by show _ ≤ 7302250; omega)⟩ ?_
          refine r_pop2 289 dL_law_288 rfl rfl ?_
          refine r_ald2 290 dL_law_289 rfl ?_
          refine r_ald0 291 dL_law_290 rfl ?_
          refine r_ild3 292 dL_law_291 rfl ?_
          refine r_iconst 293 _ dL_law_292 rfl ki_1 ?_
          refine r_iadd 294 dL_law_293 rfl ?_
          refine r_xI 295 dL_law_294 rfl hX X (fun x260 X => ?_)
          refine r_ald0 296 dL_law_295 rfl ?_
          refine r_ild3 297 dL_law_296 rfl ?_
          refine r_iconst 298 _ dL_law_297 rfl ki_2 ?_
          refine r_iadd 299 dL_law_298 rfl ?_
          refine r_xI 300 dL_law_299 rfl hX X (fun x261 X => ?_)
          obtain ⟨hs, X⟩ := r_cv X
          obtain ⟨x263, h262, hc, X⟩ := bnd_ok X
          refine r_callV2 303 dL_law_300 rfl lmL_29 hs (mtX9_row G hG hc) rfl ⟨(by show _ ≤ 600000; omega), (by show _ ≤ 7302250; omega)⟩ ?_
          refine r_pop2 304 dL_law_303 rfl rfl ?_
          refine r_goto 869 dL_law_304 (by decide) ?_
          refine r_iinc3w 872 dL_law_869 rfl rfl ki_5 X (fun x264 X => ?_)
          refine r_goto 18 dL_law_872 (by decide) ?_
          exact r_cut (hK18 _ _ _ _ X) ⟨rfl, ⟨rfl, ⟨rfl, ⟨rfl, trivial⟩⟩⟩⟩
        · refine r_case 307 3 3 275 dL_law_32 (by decide) (by decide) (by decide) (by decide) X (fun _ X => ?_) (fun n3 X => ?_)
          · refine r_ald1 308 dL_law_307 rfl ?_
            refine r_ald0 309 dL_law_308 rfl ?_
            refine r_ild3 310 dL_law_309 rfl ?_
            refine r_iconst 311 _ dL_law_310 rfl ki_1 ?_
            refine r_iadd 312 dL_law_311 rfl ?_
            refine r_xI 313 dL_law_312 rfl hX X (fun x249 X => ?_)
            obtain ⟨hs, X⟩ := r_cv X
            obtain ⟨x251, h250, hc, X⟩ := bnd_ok X
            refine r_callV1 316 dL_law_313 rfl lmL_30 hs (mtX8_rule G hG hc) rfl ⟨(by show _ ≤ 600000; omega), (by show _ ≤ 7302250; omega)⟩ ?_
            refine r_pop2 317 dL_law_316 rfl rfl ?_
            refine r_ald2 318 dL_law_317 rfl ?_
            refine r_ald0 319 dL_law_318 rfl ?_
            refine r_ild3 320 dL_law_319 rfl ?_
            refine r_iconst 321 _ dL_law_320 rfl ki_1 ?_
            refine r_iadd 322 dL_law_321 rfl ?_
            refine r_xI 323 dL_law_322 rfl hX X (fun x252 X => ?_)
            obtain ⟨hs, X⟩ := r_cv X
            obtain ⟨x254, h253, hc, X⟩ := bnd_ok X
            refine r_callV1 326 dL_law_323 rfl lmL_34 hs (mtX9_rule G hG hc) rfl ⟨(by show _ ≤ 600000; omega), (by show _ ≤ 7302250; omega)⟩ ?_
            refine r_pop2 327 dL_law_326 rfl rfl ?_
            refine r_goto 869 dL_law_327 (by decide) ?_
            refine r_iinc3w 872 dL_law_869 rfl rfl ki_5 X (fun x255 X => ?_)
            refine r_goto 18 dL_law_872 (by decide) ?_
            exact r_cut (hK18 _ _ _ _ X) ⟨rfl, ⟨rfl, ⟨rfl, ⟨rfl, trivial⟩⟩⟩⟩
          · refine r_case 330 4 4 298 dL_law_32 (by decide) (by decide) (by decide) (by decide) X (fun _ X => ?_) (fun n4 X => ?_)
            · refine r_ald1 331 dL_law_330 rfl ?_
              refine r_ald0 332 dL_law_331 rfl ?_
              refine r_ild3 333 dL_law_332 rfl ?_
              refine r_iconst 334 _ dL_law_333 rfl ki_1 ?_
              refine r_iadd 335 dL_law_334 rfl ?_
              refine r_xI 336 dL_law_335 rfl hX X (fun x238 X => ?_)
              refine r_ald0 337 dL_law_336 rfl ?_
              refine r_ild3 338 dL_law_337 rfl ?_
              refine r_iconst 339 _ dL_law_338 rfl ki_2 ?_
              refine r_iadd 340 dL_law_339 rfl ?_
              refine r_xI 341 dL_law_340 rfl hX X (fun x239 X => ?_)
              refine r_ald0 342 dL_law_341 rfl ?_
              refine r_ild3 343 dL_law_342 rfl ?_
              refine r_iconst 344 _ dL_law_343 rfl ki_3 ?_
              refine r_iadd 345 dL_law_344 rfl ?_
              refine r_xI 346 dL_law_345 rfl hX X (fun x240 X => ?_)
              obtain ⟨hs, X⟩ := r_cv X
              obtain ⟨x242, h241, hc, X⟩ := bnd_ok X
              refine r_callV3 349 dL_law_346 rfl lmL_35 hs (mtX8_act G hG hc) rfl ⟨(by show _ ≤ 600000; omega), (by show _ ≤ 7302250; omega)⟩ ?_
              refine r_pop2 350 dL_law_349 rfl rfl ?_
              refine r_ald2 351 dL_law_350 rfl ?_
              refine r_ald0 352 dL_law_351 rfl ?_
              refine r_ild3 353 dL_law_352 rfl ?_
              refine r_iconst 354 _ dL_law_353 rfl ki_1 ?_
              refine r_iadd 355 dL_law_354 rfl ?_
              refine r_xI 356 dL_law_355 rfl hX X (fun x243 X => ?_)
              refine r_ald0 357 dL_law_356 rfl ?_
              refine r_ild3 358 dL_law_357 rfl ?_
              refine r_iconst 359 _ dL_law_358 rfl ki_2 ?_
              refine r_iadd 360 dL_law_359 rfl ?_
              refine r_xI 361 dL_law_360 rfl hX X (fun x244 X => ?_)
              refine r_ald0 362 dL_law_361 rfl ?_
              refine r_ild3 363 dL_law_362 rfl ?_
              refine r_iconst 364 _ dL_law_363 rfl ki_3 ?_
              refine r_iadd 365 dL_law_364 rfl ?_
              refine r_xI 366 dL_law_365 rfl hX X (fun x245 X => ?_)
              obtain ⟨hs, X⟩ := r_cv X
              obtain ⟨x247, h246, hc, X⟩ := bnd_ok X
              refine r_callV3 369 dL_law_366 rfl lmL_39 hs (mtX9_act G hG hc) rfl ⟨(by show _ ≤ 600000; omega), (by show _ ≤ 7302250; omega)⟩ ?_
              refine r_pop2 370 dL_law_369 rfl rfl ?_
              refine r_goto 869 dL_law_370 (by decide) ?_
              refine r_iinc3w 872 dL_law_869 rfl rfl ki_5 X (fun x248 X => ?_)
              refine r_goto 18 dL_law_872 (by decide) ?_
              exact r_cut (hK18 _ _ _ _ X) ⟨rfl, ⟨rfl, ⟨rfl, ⟨rfl, trivial⟩⟩⟩⟩
            · refine r_case 373 5 5 341 dL_law_32 (by decide) (by decide) (by decide) (by decide) X (fun _ X => ?_) (fun n5 X => ?_)
              · refine r_ald1 374 dL_law_373 rfl ?_
                refine r_ald0 375 dL_law_374 rfl ?_
                refine r_ild3 376 dL_law_375 rfl ?_
                refine r_iconst 377 _ dL_law_376 rfl ki_1 ?_
                refine r_iadd 378 dL_law_377 rfl ?_
                refine r_xI 379 dL_law_378 rfl hX X (fun x231 X => ?_)
                obtain ⟨hs, X⟩ := r_cv X
                obtain ⟨x233, h232, hc, X⟩ := bnd_ok X
                refine r_callV1 382 dL_law_379 rfl lmL_40 hs (mtX8_turn G hG hc) rfl ⟨(by show _ ≤ 600000; omega), (by show _ ≤ 7302250; omega)⟩ ?_
                refine r_pop2 383 dL_law_382 rfl rfl ?_
                refine r_ald2 384 dL_law_383 rfl ?_
                refine r_ald0 385 dL_law_384 rfl ?_
                refine r_ild3 386 dL_law_385 rfl ?_
                refine r_iconst 387 _ dL_law_386 rfl ki_1 ?_
                refine r_iadd 388 dL_law_387 rfl ?_
                refine r_xI 389 dL_law_388 rfl hX X (fun x234 X => ?_)
                obtain ⟨hs, X⟩ := r_cv X
                obtain ⟨x236, h235, hc, X⟩ := bnd_ok X
                refine r_callV1 392 dL_law_389 rfl lmL_43 hs (mtX9_turn G hG hc) rfl ⟨(by show _ ≤ 600000; omega), (by show _ ≤ 7302250; omega)⟩ ?_
                refine r_pop2 393 dL_law_392 rfl rfl ?_
                refine r_goto 869 dL_law_393 (by decide) ?_
                refine r_iinc3w 872 dL_law_869 rfl rfl ki_5 X (fun x237 X => ?_)
                refine r_goto 18 dL_law_872 (by decide) ?_
                exact r_cut (hK18 _ _ _ _ X) ⟨rfl, ⟨rfl, ⟨rfl, ⟨rfl, trivial⟩⟩⟩⟩
              · refine r_case 396 6 6 364 dL_law_32 (by decide) (by decide) (by decide) (by decide) X (fun _ X => ?_) (fun n6 X => ?_)
                · refine r_ald1 397 dL_law_396 rfl ?_
                  refine r_ald0 398 dL_law_397 rfl ?_
                  refine r_ild3 399 dL_law_398 rfl ?_
                  refine r_iconst 400 _ dL_law_399 rfl ki_1 ?_
                  refine r_iadd 401 dL_law_400 rfl ?_
                  refine r_xI 402 dL_law_401 rfl hX X (fun x222 X => ?_)
                  refine r_ald0 403 dL_law_402 rfl ?_
                  refine r_ild3 404 dL_law_403 rfl ?_
                  refine r_iconst 405 _ dL_law_404 rfl ki_2 ?_
                  refine r_iadd 406 dL_law_405 rfl ?_
                  refine r_xI 407 dL_law_406 rfl hX X (fun x223 X => ?_)
                  obtain ⟨hs, X⟩ := r_cv X
                  obtain ⟨x225, h224, hc, X⟩ := bnd_ok X
                  refine r_callV2 410 dL_law_407 rfl lmL_44 hs (mtX8_factor G hG hc) rfl ⟨(by show _ ≤ 600000; omega), (by show _ ≤ 7302250; omega)⟩ ?_
                  refine r_pop2 411 dL_law_410 rfl rfl ?_
                  refine r_ald2 412 dL_law_411 rfl ?_
                  refine r_ald0 413 dL_law_412 rfl ?_
                  refine r_ild3 414 dL_law_413 rfl ?_
                  refine r_iconst 415 _ dL_law_414 rfl ki_1 ?_
                  refine r_iadd 416 dL_law_415 rfl ?_
                  refine r_xI 417 dL_law_416 rfl hX X (fun x226 X => ?_)
                  refine r_ald0 418 dL_law_417 rfl ?_
                  refine r_ild3 419 dL_law_418 rfl ?_
                  refine r_iconst 420 _ dL_law_419 rfl ki_2 ?_
                  refine r_iadd 421 dL_law_420 rfl ?_
                  refine r_xI 422 dL_law_421 rfl hX X (fun x227 X => ?_)
                  obtain ⟨hs, X⟩ := r_cv X
                  obtain ⟨x229, h228, hc, X⟩ := bnd_ok X
                  refine r_callV2 425 dL_law_422 rfl lmL_47 hs (mtX9_factor G hG hc) rfl ⟨(by show _ ≤ 600000; omega), (by show _ ≤ 7302250; omega)⟩ ?_
                  refine r_pop2 426 dL_law_425 rfl rfl ?_
                  refine r_goto 869 dL_law_426 (by decide) ?_
                  refine r_iinc3w 872 dL_law_869 rfl rfl ki_5 X (fun x230 X => ?_)
                  refine r_goto 18 dL_law_872 (by decide) ?_
                  exact r_cut (hK18 _ _ _ _ X) ⟨rfl, ⟨rfl, ⟨rfl, ⟨rfl, trivial⟩⟩⟩⟩
                · refine r_case 429 7 7 397 dL_law_32 (by decide) (by decide) (by decide) (by decide) X (fun _ X => ?_) (fun n7 X => ?_)
                  · refine r_ald1 430 dL_law_429 rfl ?_
                    refine r_ald0 431 dL_law_430 rfl ?_
                    refine r_ild3 432 dL_law_431 rfl ?_
                    refine r_iconst 433 _ dL_law_432 rfl ki_1 ?_
                    refine r_iadd 434 dL_law_433 rfl ?_
                    refine r_xI 435 dL_law_434 rfl hX X (fun x213 X => ?_)
                    refine r_ald0 436 dL_law_435 rfl ?_
                    refine r_ild3 437 dL_law_436 rfl ?_
                    refine r_iconst 438 _ dL_law_437 rfl ki_2 ?_
                    refine r_iadd 439 dL_law_438 rfl ?_
                    refine r_xI 440 dL_law_439 rfl hX X (fun x214 X => ?_)
                    obtain ⟨hs, X⟩ := r_cv X
                    obtain ⟨x216, h215, hc, X⟩ := bnd_ok X
                    refine r_callV2 443 dL_law_440 rfl lmL_48 hs (mtX8_mix G hG hc) rfl ⟨(by show _ ≤ 600000; omega), (by show _ ≤ 7302250; omega)⟩ ?_
                    refine r_pop2 444 dL_law_443 rfl rfl ?_
                    refine r_ald2 445 dL_law_444 rfl ?_
                    refine r_ald0 446 dL_law_445 rfl ?_
                    refine r_ild3 447 dL_law_446 rfl ?_
                    refine r_iconst 448 _ dL_law_447 rfl ki_1 ?_
                    refine r_iadd 449 dL_law_448 rfl ?_
                    refine r_xI 450 dL_law_449 rfl hX X (fun x217 X => ?_)
                    refine r_ald0 451 dL_law_450 rfl ?_
                    refine r_ild3 452 dL_law_451 rfl ?_
                    refine r_iconst 453 _ dL_law_452 rfl ki_2 ?_
                    refine r_iadd 454 dL_law_453 rfl ?_
                    refine r_xI 455 dL_law_454 rfl hX X (fun x218 X => ?_)
                    obtain ⟨hs, X⟩ := r_cv X
                    obtain ⟨x220, h219, hc, X⟩ := bnd_ok X
                    refine r_callV2 458 dL_law_455 rfl lmL_51 hs (mtX9_mix G hG hc) rfl ⟨(by show _ ≤ 600000; omega), (by show _ ≤ 7302250; omega)⟩ ?_
                    refine r_pop2 459 dL_law_458 rfl rfl ?_
                    refine r_goto 869 dL_law_459 (by decide) ?_
                    refine r_iinc3w 872 dL_law_869 rfl rfl ki_5 X (fun x221 X => ?_)
                    refine r_goto 18 dL_law_872 (by decide) ?_
                    exact r_cut (hK18 _ _ _ _ X) ⟨rfl, ⟨rfl, ⟨rfl, ⟨rfl, trivial⟩⟩⟩⟩
                  · refine r_case 462 8 8 430 dL_law_32 (by decide) (by decide) (by decide) (by decide) X (fun _ X => ?_) (fun n8 X => ?_)
                    · refine r_ald1 463 dL_law_462 rfl ?_
                      refine r_ald0 464 dL_law_463 rfl ?_
                      refine r_ild3 465 dL_law_464 rfl ?_
                      refine r_iconst 466 _ dL_law_465 rfl ki_1 ?_
                      refine r_iadd 467 dL_law_466 rfl ?_
                      refine r_xI 468 dL_law_467 rfl hX X (fun x206 X => ?_)
                      obtain ⟨hs, X⟩ := r_cv X
                      obtain ⟨x208, h207, hc, X⟩ := bnd_ok X
                      refine r_callV1 471 dL_law_468 rfl lmL_52 hs (mtX8_drop G hG hc) rfl ⟨(by show _ ≤ 600000; omega), (by show _ ≤ 7302250; omega)⟩ ?_
                      refine r_pop2 472 dL_law_471 rfl rfl ?_
                      refine r_ald2 473 dL_law_472 rfl ?_
                      refine r_ald0 474 dL_law_473 rfl ?_
                      refine r_ild3 475 dL_law_474 rfl ?_
                      refine r_iconst 476 _ dL_law_475 rfl ki_1 ?_
                      refine r_iadd 477 dL_law_476 rfl ?_
                      refine r_xI 478 dL_law_477 rfl hX X (fun x209 X => ?_)
                      obtain ⟨hs, X⟩ := r_cv X
                      obtain ⟨x211, h210, hc, X⟩ := bnd_ok X
                      refine r_callV1 481 dL_law_478 rfl lmL_55 hs (mtX9_drop G hG hc) rfl ⟨(by show _ ≤ 600000; omega), (by show _ ≤ 7302250; omega)⟩ ?_
                      refine r_pop2 482 dL_law_481 rfl rfl ?_
                      refine r_goto 869 dL_law_482 (by decide) ?_
                      refine r_iinc3w 872 dL_law_869 rfl rfl ki_5 X (fun x212 X => ?_)
                      refine r_goto 18 dL_law_872 (by decide) ?_
                      exact r_cut (hK18 _ _ _ _ X) ⟨rfl, ⟨rfl, ⟨rfl, ⟨rfl, trivial⟩⟩⟩⟩
                    · refine r_case 485 9 9 453 dL_law_32 (by decide) (by decide) (by decide) (by decide) X (fun _ X => ?_) (fun n9 X => ?_)
                      · refine r_ald1 486 dL_law_485 rfl ?_
                        refine r_ald0 487 dL_law_486 rfl ?_
                        refine r_ild3 488 dL_law_487 rfl ?_
                        refine r_iconst 489 _ dL_law_488 rfl ki_1 ?_
                        refine r_iadd 490 dL_law_489 rfl ?_
                        refine r_xI 491 dL_law_490 rfl hX X (fun x197 X => ?_)
                        refine r_ald0 492 dL_law_491 rfl ?_
                        refine r_ild3 493 dL_law_492 rfl ?_
                        refine r_iconst 494 _ dL_law_493 rfl ki_2 ?_
                        refine r_iadd 495 dL_law_494 rfl ?_
                        refine r_xI 496 dL_law_495 rfl hX X (fun x198 X => ?_)
                        obtain ⟨hs, X⟩ := r_cv X
                        obtain ⟨x200, h199, hc, X⟩ := bnd_ok X
                        refine r_callV2 499 dL_law_496 rfl lmL_56 hs (mtX8_told G hG hc) rfl ⟨(by show _ ≤ 600000; omega), (by show _ ≤ 7302250; omega)⟩ ?_
                        refine r_pop2 500 dL_law_499 rfl rfl ?_
                        refine r_ald2 501 dL_law_500 rfl ?_
                        refine r_ald0 502 dL_law_501 rfl ?_
                        refine r_ild3 503 dL_law_502 rfl ?_
                        refine r_iconst 504 _ dL_law_503 rfl ki_1 ?_
                        refine r_iadd 505 dL_law_504 rfl ?_
                        refine r_xI 506 dL_law_505 rfl hX X (fun x201 X => ?_)
                        refine r_ald0 507 dL_law_506 rfl ?_
                        refine r_ild3 508 dL_law_507 rfl ?_
                        refine r_iconst 509 _ dL_law_508 rfl ki_2 ?_
                        refine r_iadd 510 dL_law_509 rfl ?_
                        refine r_xI 511 dL_law_510 rfl hX X (fun x202 X => ?_)
                        obtain ⟨hs, X⟩ := r_cv X
                        obtain ⟨x204, h203, hc, X⟩ := bnd_ok X
                        refine r_callV2 514 dL_law_511 rfl lmL_59 hs (mtX9_told G hG hc) rfl ⟨(by show _ ≤ 600000; omega), (by show _ ≤ 7302250; omega)⟩ ?_
                        refine r_pop2 515 dL_law_514 rfl rfl ?_
                        refine r_goto 869 dL_law_515 (by decide) ?_
                        refine r_iinc3w 872 dL_law_869 rfl rfl ki_5 X (fun x205 X => ?_)
                        refine r_goto 18 dL_law_872 (by decide) ?_
                        exact r_cut (hK18 _ _ _ _ X) ⟨rfl, ⟨rfl, ⟨rfl, ⟨rfl, trivial⟩⟩⟩⟩
                      · refine r_case 518 10 10 486 dL_law_32 (by decide) (by decide) (by decide) (by decide) X (fun _ X => ?_) (fun n10 X => ?_)
                        · refine r_ald1 519 dL_law_518 rfl ?_
                          refine r_ald0 520 dL_law_519 rfl ?_
                          refine r_ild3 521 dL_law_520 rfl ?_
                          refine r_iconst 522 _ dL_law_521 rfl ki_1 ?_
                          refine r_iadd 523 dL_law_522 rfl ?_
                          refine r_xI 524 dL_law_523 rfl hX X (fun x188 X => ?_)
                          refine r_ald0 525 dL_law_524 rfl ?_
                          refine r_ild3 526 dL_law_525 rfl ?_
                          refine r_iconst 527 _ dL_law_526 rfl ki_2 ?_
                          refine r_iadd 528 dL_law_527 rfl ?_
                          refine r_xI 529 dL_law_528 rfl hX X (fun x189 X => ?_)
                          obtain ⟨hs, X⟩ := r_cv X
                          obtain ⟨x191, h190, hc, X⟩ := bnd_ok X
                          refine r_callV2 532 dL_law_529 rfl lmL_60 hs (mtX8_part G hG hc) rfl ⟨(by show _ ≤ 600000; omega), (by show _ ≤ 7302250; omega)⟩ ?_
                          refine r_pop2 533 dL_law_532 rfl rfl ?_
                          refine r_ald2 534 dL_law_533 rfl ?_
                          refine r_ald0 535 dL_law_534 rfl ?_
                          refine r_ild3 536 dL_law_535 rfl ?_
                          refine r_iconst 537 _ dL_law_536 rfl ki_1 ?_
                          refine r_iadd 538 dL_law_537 rfl ?_
                          refine r_xI 539 dL_law_538 rfl hX X (fun x192 X => ?_)
                          refine r_ald0 540 dL_law_539 rfl ?_
                          refine r_ild3 541 dL_law_540 rfl ?_
                          refine r_iconst 542 _ dL_law_541 rfl ki_2 ?_
                          refine r_iadd 543 dL_law_542 rfl ?_
                          refine r_xI 544 dL_law_543 rfl hX X (fun x193 X => ?_)
                          obtain ⟨hs, X⟩ := r_cv X
                          obtain ⟨x195, h194, hc, X⟩ := bnd_ok X
                          refine r_callV2 547 dL_law_544 rfl lmL_63 hs (mtX9_part G hG hc) rfl ⟨(by show _ ≤ 600000; omega), (by show _ ≤ 7302250; omega)⟩ ?_
                          refine r_pop2 548 dL_law_547 rfl rfl ?_
                          refine r_goto 869 dL_law_548 (by decide) ?_
                          refine r_iinc3w 872 dL_law_869 rfl rfl ki_5 X (fun x196 X => ?_)
                          refine r_goto 18 dL_law_872 (by decide) ?_
                          exact r_cut (hK18 _ _ _ _ X) ⟨rfl, ⟨rfl, ⟨rfl, ⟨rfl, trivial⟩⟩⟩⟩
                        · refine r_case 551 11 11 519 dL_law_32 (by decide) (by decide) (by decide) (by decide) X (fun _ X => ?_) (fun n11 X => ?_)
                          · refine r_ald1 552 dL_law_551 rfl ?_
                            refine r_ald0 553 dL_law_552 rfl ?_
                            refine r_ild3 554 dL_law_553 rfl ?_
                            refine r_iconst 555 _ dL_law_554 rfl ki_1 ?_
                            refine r_iadd 556 dL_law_555 rfl ?_
                            refine r_xI 557 dL_law_556 rfl hX X (fun x179 X => ?_)
                            refine r_ald0 558 dL_law_557 rfl ?_
                            refine r_ild3 559 dL_law_558 rfl ?_
                            refine r_iconst 560 _ dL_law_559 rfl ki_2 ?_
                            refine r_iadd 561 dL_law_560 rfl ?_
                            refine r_xI 562 dL_law_561 rfl hX X (fun x180 X => ?_)
                            obtain ⟨hs, X⟩ := r_cv X
                            obtain ⟨x182, h181, hc, X⟩ := bnd_ok X
                            refine r_callV2 565 dL_law_562 rfl lmL_64 hs (mtX8_exact G hG hc) rfl ⟨(by show _ ≤ 600000; omega), (by show _ ≤ 7302250; omega)⟩ ?_
                            refine r_pop2 566 dL_law_565 rfl rfl ?_
                            refine r_ald2 567 dL_law_566 rfl ?_
                            refine r_ald0 568 dL_law_567 rfl ?_
                            refine r_ild3 569 dL_law_568 rfl ?_
                            refine r_iconst 570 _ dL_law_569 rfl ki_1 ?_
                            refine r_iadd 571 dL_law_570 rfl ?_
                            refine r_xI 572 dL_law_571 rfl hX X (fun x183 X => ?_)
                            refine r_ald0 573 dL_law_572 rfl ?_
                            refine r_ild3 574 dL_law_573 rfl ?_
                            refine r_iconst 575 _ dL_law_574 rfl ki_2 ?_
                            refine r_iadd 576 dL_law_575 rfl ?_
                            refine r_xI 577 dL_law_576 rfl hX X (fun x184 X => ?_)
                            obtain ⟨hs, X⟩ := r_cv X
                            obtain ⟨x186, h185, hc, X⟩ := bnd_ok X
                            refine r_callV2 580 dL_law_577 rfl lmL_67 hs (mtX9_exact G hG hc) rfl ⟨(by show _ ≤ 600000; omega), (by show _ ≤ 7302250; omega)⟩ ?_
                            refine r_pop2 581 dL_law_580 rfl rfl ?_
                            refine r_goto 869 dL_law_581 (by decide) ?_
                            refine r_iinc3w 872 dL_law_869 rfl rfl ki_5 X (fun x187 X => ?_)
                            refine r_goto 18 dL_law_872 (by decide) ?_
                            exact r_cut (hK18 _ _ _ _ X) ⟨rfl, ⟨rfl, ⟨rfl, ⟨rfl, trivial⟩⟩⟩⟩
                          · refine r_case 584 12 12 552 dL_law_32 (by decide) (by decide) (by decide) (by decide) X (fun _ X => ?_) (fun n12 X => ?_)
                            · refine r_ald1 585 dL_law_584 rfl ?_
                              refine r_ald0 586 dL_law_585 rfl ?_
                              refine r_ild3 587 dL_law_586 rfl ?_
                              refine r_iconst 588 _ dL_law_587 rfl ki_1 ?_
                              refine r_iadd 589 dL_law_588 rfl ?_
                              refine r_xI 590 dL_law_589 rfl hX X (fun x170 X => ?_)
                              refine r_ald0 591 dL_law_590 rfl ?_
                              refine r_ild3 592 dL_law_591 rfl ?_
                              refine r_iconst 593 _ dL_law_592 rfl ki_2 ?_
                              refine r_iadd 594 dL_law_593 rfl ?_
                              refine r_xI 595 dL_law_594 rfl hX X (fun x171 X => ?_)
                              obtain ⟨hs, X⟩ := r_cv X
                              obtain ⟨x173, h172, hc, X⟩ := bnd_ok X
                              refine r_callV2 598 dL_law_595 rfl lmL_68 hs (mtX8_round G hG hc) rfl ⟨(by show _ ≤ 600000; omega), (by show _ ≤ 7302250; omega)⟩ ?_
                              refine r_pop2 599 dL_law_598 rfl rfl ?_
                              refine r_ald2 600 dL_law_599 rfl ?_
                              refine r_ald0 601 dL_law_600 rfl ?_
                              refine r_ild3 602 dL_law_601 rfl ?_
                              refine r_iconst 603 _ dL_law_602 rfl ki_1 ?_
                              refine r_iadd 604 dL_law_603 rfl ?_
                              refine r_xI 605 dL_law_604 rfl hX X (fun x174 X => ?_)
                              refine r_ald0 606 dL_law_605 rfl ?_
                              refine r_ild3 607 dL_law_606 rfl ?_
                              refine r_iconst 608 _ dL_law_607 rfl ki_2 ?_
                              refine r_iadd 609 dL_law_608 rfl ?_
                              refine r_xI 610 dL_law_609 rfl hX X (fun x175 X => ?_)
                              obtain ⟨hs, X⟩ := r_cv X
                              obtain ⟨x177, h176, hc, X⟩ := bnd_ok X
                              refine r_callV2 613 dL_law_610 rfl lmL_71 hs (mtX9_round G hG hc) rfl ⟨(by show _ ≤ 600000; omega), (by show _ ≤ 7302250; omega)⟩ ?_
                              refine r_pop2 614 dL_law_613 rfl rfl ?_
                              refine r_goto 869 dL_law_614 (by decide) ?_
                              refine r_iinc3w 872 dL_law_869 rfl rfl ki_5 X (fun x178 X => ?_)
                              refine r_goto 18 dL_law_872 (by decide) ?_
                              exact r_cut (hK18 _ _ _ _ X) ⟨rfl, ⟨rfl, ⟨rfl, ⟨rfl, trivial⟩⟩⟩⟩
                            · refine r_case 617 13 13 585 dL_law_32 (by decide) (by decide) (by decide) (by decide) X (fun _ X => ?_) (fun n13 X => ?_)
                              · refine r_ald1 618 dL_law_617 rfl ?_
                                refine r_ald0 619 dL_law_618 rfl ?_
                                refine r_ild3 620 dL_law_619 rfl ?_
                                refine r_iconst 621 _ dL_law_620 rfl ki_1 ?_
                                refine r_iadd 622 dL_law_621 rfl ?_
                                refine r_xI 623 dL_law_622 rfl hX X (fun x163 X => ?_)
                                obtain ⟨hs, X⟩ := r_cv X
                                obtain ⟨x165, h164, hc, X⟩ := bnd_ok X
                                refine r_callV1 626 dL_law_623 rfl lmL_72 hs (mtX8_sign G hG hc) rfl ⟨(by show _ ≤ 600000; omega), (by show _ ≤ 7302250; omega)⟩ ?_
                                refine r_pop2 627 dL_law_626 rfl rfl ?_
                                refine r_ald2 628 dL_law_627 rfl ?_
                                refine r_ald0 629 dL_law_628 rfl ?_
                                refine r_ild3 630 dL_law_629 rfl ?_
                                refine r_iconst 631 _ dL_law_630 rfl ki_1 ?_
                                refine r_iadd 632 dL_law_631 rfl ?_
                                refine r_xI 633 dL_law_632 rfl hX X (fun x166 X => ?_)
                                obtain ⟨hs, X⟩ := r_cv X
                                obtain ⟨x168, h167, hc, X⟩ := bnd_ok X
                                refine r_callV1 636 dL_law_633 rfl lmL_75 hs (mtX9_sign G hG hc) rfl ⟨(by show _ ≤ 600000; omega), (by show _ ≤ 7302250; omega)⟩ ?_
                                refine r_pop2 637 dL_law_636 rfl rfl ?_
                                refine r_goto 869 dL_law_637 (by decide) ?_
                                refine r_iinc3w 872 dL_law_869 rfl rfl ki_5 X (fun x169 X => ?_)
                                refine r_goto 18 dL_law_872 (by decide) ?_
                                exact r_cut (hK18 _ _ _ _ X) ⟨rfl, ⟨rfl, ⟨rfl, ⟨rfl, trivial⟩⟩⟩⟩
                              · refine r_case 640 14 14 608 dL_law_32 (by decide) (by decide) (by decide) (by decide) X (fun _ X => ?_) (fun n14 X => ?_)
                                · refine r_ald1 641 dL_law_640 rfl ?_
                                  refine r_ald0 642 dL_law_641 rfl ?_
                                  refine r_ild3 643 dL_law_642 rfl ?_
                                  refine r_iconst 644 _ dL_law_643 rfl ki_1 ?_
                                  refine r_iadd 645 dL_law_644 rfl ?_
                                  refine r_xI 646 dL_law_645 rfl hX X (fun x154 X => ?_)
                                  refine r_ald0 647 dL_law_646 rfl ?_
                                  refine r_ild3 648 dL_law_647 rfl ?_
                                  refine r_iconst 649 _ dL_law_648 rfl ki_2 ?_
                                  refine r_iadd 650 dL_law_649 rfl ?_
                                  refine r_xI 651 dL_law_650 rfl hX X (fun x155 X => ?_)
                                  obtain ⟨hs, X⟩ := r_cv X
                                  obtain ⟨x157, h156, hc, X⟩ := bnd_ok X
                                  refine r_callV2 654 dL_law_651 rfl lmL_76 hs (mtX8_compare G hG hc) rfl ⟨(by show _ ≤ 600000; omega), (by show _ ≤ 7302250; omega)⟩ ?_
                                  refine r_pop2 655 dL_law_654 rfl rfl ?_
                                  refine r_ald2 656 dL_law_655 rfl ?_
                                  refine r_ald0 657 dL_law_656 rfl ?_
                                  refine r_ild3 658 dL_law_657 rfl ?_
                                  refine r_iconst 659 _ dL_law_658 rfl ki_1 ?_
                                  refine r_iadd 660 dL_law_659 rfl ?_
                                  refine r_xI 661 dL_law_660 rfl hX X (fun x158 X => ?_)
                                  refine r_ald0 662 dL_law_661 rfl ?_
                                  refine r_ild3 663 dL_law_662 rfl ?_
                                  refine r_iconst 664 _ dL_law_663 rfl ki_2 ?_
                                  refine r_iadd 665 dL_law_664 rfl ?_
                                  refine r_xI 666 dL_law_665 rfl hX X (fun x159 X => ?_)
                                  obtain ⟨hs, X⟩ := r_cv X
                                  obtain ⟨x161, h160, hc, X⟩ := bnd_ok X
                                  refine r_callV2 669 dL_law_666 rfl lmL_79 hs (mtX9_compare G hG hc) rfl ⟨(by show _ ≤ 600000; omega), (by show _ ≤ 7302250; omega)⟩ ?_
                                  refine r_pop2 670 dL_law_669 rfl rfl ?_
                                  refine r_goto 869 dL_law_670 (by decide) ?_
                                  refine r_iinc3w 872 dL_law_869 rfl rfl ki_5 X (fun x162 X => ?_)
                                  refine r_goto 18 dL_law_872 (by decide) ?_
                                  exact r_cut (hK18 _ _ _ _ X) ⟨rfl, ⟨rfl, ⟨rfl, ⟨rfl, trivial⟩⟩⟩⟩
                                · refine r_case 673 15 15 641 dL_law_32 (by decide) (by decide) (by decide) (by decide) X (fun _ X => ?_) (fun n15 X => ?_)
                                  · refine r_ald1 674 dL_law_673 rfl ?_
                                    refine r_ald0 675 dL_law_674 rfl ?_
                                    refine r_ild3 676 dL_law_675 rfl ?_
                                    refine r_iconst 677 _ dL_law_676 rfl ki_1 ?_
                                    refine r_iadd 678 dL_law_677 rfl ?_
                                    refine r_xI 679 dL_law_678 rfl hX X (fun x143 X => ?_)
                                    refine r_ald0 680 dL_law_679 rfl ?_
                                    refine r_ild3 681 dL_law_680 rfl ?_
                                    refine r_iconst 682 _ dL_law_681 rfl ki_2 ?_
                                    refine r_iadd 683 dL_law_682 rfl ?_
                                    refine r_xI 684 dL_law_683 rfl hX X (fun x144 X => ?_)
                                    refine r_ald0 685 dL_law_684 rfl ?_
                                    refine r_ild3 686 dL_law_685 rfl ?_
                                    refine r_iconst 687 _ dL_law_686 rfl ki_3 ?_
                                    refine r_iadd 688 dL_law_687 rfl ?_
                                    refine r_xI 689 dL_law_688 rfl hX X (fun x145 X => ?_)
                                    obtain ⟨hs, X⟩ := r_cv X
                                    obtain ⟨x147, h146, hc, X⟩ := bnd_ok X
                                    refine r_callV3 692 dL_law_689 rfl lmL_80 hs (mtX8_near G hG hc) rfl ⟨(by show _ ≤ 600000; omega), (by show _ ≤ 7302250; omega)⟩ ?_
                                    refine r_pop2 693 dL_law_692 rfl rfl ?_
                                    refine r_ald2 694 dL_law_693 rfl ?_
                                    refine r_ald0 695 dL_law_694 rfl ?_
                                    refine r_ild3 696 dL_law_695 rfl ?_
                                    refine r_iconst 697 _ dL_law_696 rfl ki_1 ?_
                                    refine r_iadd 698 dL_law_697 rfl ?_
                                    refine r_xI 699 dL_law_698 rfl hX X (fun x148 X => ?_)
                                    refine r_ald0 700 dL_law_699 rfl ?_
                                    refine r_ild3 701 dL_law_700 rfl ?_
                                    refine r_iconst 702 _ dL_law_701 rfl ki_2 ?_
                                    refine r_iadd 703 dL_law_702 rfl ?_
                                    refine r_xI 704 dL_law_703 rfl hX X (fun x149 X => ?_)
                                    refine r_ald0 705 dL_law_704 rfl ?_
                                    refine r_ild3 706 dL_law_705 rfl ?_
                                    refine r_iconst 707 _ dL_law_706 rfl ki_3 ?_
                                    refine r_iadd 708 dL_law_707 rfl ?_
                                    refine r_xI 709 dL_law_708 rfl hX X (fun x150 X => ?_)
                                    obtain ⟨hs, X⟩ := r_cv X
                                    obtain ⟨x152, h151, hc, X⟩ := bnd_ok X
                                    refine r_callV3 712 dL_law_709 rfl lmL_83 hs (mtX9_near G hG hc) rfl ⟨(by show _ ≤ 600000; omega), (by show _ ≤ 7302250; omega)⟩ ?_
                                    refine r_pop2 713 dL_law_712 rfl rfl ?_
                                    refine r_goto 869 dL_law_713 (by decide) ?_
                                    refine r_iinc3w 872 dL_law_869 rfl rfl ki_5 X (fun x153 X => ?_)
                                    refine r_goto 18 dL_law_872 (by decide) ?_
                                    exact r_cut (hK18 _ _ _ _ X) ⟨rfl, ⟨rfl, ⟨rfl, ⟨rfl, trivial⟩⟩⟩⟩
                                  · refine r_case 716 16 16 684 dL_law_32 (by decide) (by decide) (by decide) (by decide) X (fun _ X => ?_) (fun n16 X => ?_)
                                    · refine r_ald1 717 dL_law_716 rfl ?_
                                      refine r_ald0 718 dL_law_717 rfl ?_
                                      refine r_ild3 719 dL_law_718 rfl ?_
                                      refine r_iconst 720 _ dL_law_719 rfl ki_1 ?_
                                      refine r_iadd 721 dL_law_720 rfl ?_
                                      refine r_xI 722 dL_law_721 rfl hX X (fun x130 X => ?_)
                                      refine r_ald0 723 dL_law_722 rfl ?_
                                      refine r_ild3 724 dL_law_723 rfl ?_
                                      refine r_iconst 725 _ dL_law_724 rfl ki_2 ?_
                                      refine r_iadd 726 dL_law_725 rfl ?_
                                      refine r_xI 727 dL_law_726 rfl hX X (fun x131 X => ?_)
                                      refine r_ald0 728 dL_law_727 rfl ?_
                                      refine r_ild3 729 dL_law_728 rfl ?_
                                      refine r_iconst 730 _ dL_law_729 rfl ki_3 ?_
                                      refine r_iadd 731 dL_law_730 rfl ?_
                                      refine r_xI 732 dL_law_731 rfl hX X (fun x132 X => ?_)
                                      refine r_ald0 733 dL_law_732 rfl ?_
                                      refine r_ild3 734 dL_law_733 rfl ?_
                                      refine r_iconst 735 _ dL_law_734 rfl ki_4 ?_
                                      refine r_iadd 736 dL_law_735 rfl ?_
                                      refine r_xI 737 dL_law_736 rfl hX X (fun x133 X => ?_)
                                      obtain ⟨hs, X⟩ := r_cv X
                                      obtain ⟨x135, h134, hc, X⟩ := bnd_ok X
                                      refine r_callV4 740 dL_law_737 rfl lmL_84 hs (mtX8_best G hG hc) rfl ⟨(by show _ ≤ 600000; omega), (by show _ ≤ 7302250; omega)⟩ ?_
                                      refine r_pop2 741 dL_law_740 rfl rfl ?_
                                      refine r_ald2 742 dL_law_741 rfl ?_
                                      refine r_ald0 743 dL_law_742 rfl ?_
                                      refine r_ild3 744 dL_law_743 rfl ?_
                                      refine r_iconst 745 _ dL_law_744 rfl ki_1 ?_
                                      refine r_iadd 746 dL_law_745 rfl ?_
                                      refine r_xI 747 dL_law_746 rfl hX X (fun x136 X => ?_)
                                      refine r_ald0 748 dL_law_747 rfl ?_
                                      refine r_ild3 749 dL_law_748 rfl ?_
                                      refine r_iconst 750 _ dL_law_749 rfl ki_2 ?_
                                      refine r_iadd 751 dL_law_750 rfl ?_
                                      refine r_xI 752 dL_law_751 rfl hX X (fun x137 X => ?_)
                                      refine r_ald0 753 dL_law_752 rfl ?_
                                      refine r_ild3 754 dL_law_753 rfl ?_
                                      refine r_iconst 755 _ dL_law_754 rfl ki_3 ?_
                                      refine r_iadd 756 dL_law_755 rfl ?_
                                      refine r_xI 757 dL_law_756 rfl hX X (fun x138 X => ?_)
                                      refine r_ald0 758 dL_law_757 rfl ?_
                                      refine r_ild3 759 dL_law_758 rfl ?_
                                      refine r_iconst 760 _ dL_law_759 rfl ki_4 ?_
                                      refine r_iadd 761 dL_law_760 rfl ?_
                                      refine r_xI 762 dL_law_761 rfl hX X (fun x139 X => ?_)
                                      obtain ⟨hs, X⟩ := r_cv X
                                      obtain ⟨x141, h140, hc, X⟩ := bnd_ok X
                                      refine r_callV4 765 dL_law_762 rfl lmL_87 hs (mtX9_best G hG hc) rfl ⟨(by show _ ≤ 600000; omega), (by show _ ≤ 7302250; omega)⟩ ?_
                                      refine r_pop2 766 dL_law_765 rfl rfl ?_
                                      refine r_goto 869 dL_law_766 (by decide) ?_
                                      refine r_iinc3w 872 dL_law_869 rfl rfl ki_5 X (fun x142 X => ?_)
                                      refine r_goto 18 dL_law_872 (by decide) ?_
                                      exact r_cut (hK18 _ _ _ _ X) ⟨rfl, ⟨rfl, ⟨rfl, ⟨rfl, trivial⟩⟩⟩⟩
                                    · refine r_case 769 17 17 737 dL_law_32 (by decide) (by decide) (by decide) (by decide) X (fun _ X => ?_) (fun n17 X => ?_)
                                      · refine r_ald1 770 dL_law_769 rfl ?_
                                        refine r_ald0 771 dL_law_770 rfl ?_
                                        refine r_ild3 772 dL_law_771 rfl ?_
                                        refine r_iconst 773 _ dL_law_772 rfl ki_1 ?_
                                        refine r_iadd 774 dL_law_773 rfl ?_
                                        refine r_xI 775 dL_law_774 rfl hX X (fun x119 X => ?_)
                                        refine r_ald0 776 dL_law_775 rfl ?_
                                        refine r_ild3 777 dL_law_776 rfl ?_
                                        refine r_iconst 778 _ dL_law_777 rfl ki_2 ?_
                                        refine r_iadd 779 dL_law_778 rfl ?_
                                        refine r_xI 780 dL_law_779 rfl hX X (fun x120 X => ?_)
                                        refine r_ald0 781 dL_law_780 rfl ?_
                                        refine r_ild3 782 dL_law_781 rfl ?_
                                        refine r_iconst 783 _ dL_law_782 rfl ki_3 ?_
                                        refine r_iadd 784 dL_law_783 rfl ?_
                                        refine r_xI 785 dL_law_784 rfl hX X (fun x121 X => ?_)
                                        obtain ⟨hs, X⟩ := r_cv X
                                        obtain ⟨x123, h122, hc, X⟩ := bnd_ok X
                                        refine r_callV3 788 dL_law_785 rfl lmL_88 hs (mtX8_figure G hG hc) rfl ⟨(by show _ ≤ 600000; omega), (by show _ ≤ 7302250; omega)⟩ ?_
                                        refine r_ald2 789 dL_law_788 rfl ?_
                                        refine r_ald0 790 dL_law_789 rfl ?_
                                        refine r_ild3 791 dL_law_790 rfl ?_
                                        refine r_iconst 792 _ dL_law_791 rfl ki_1 ?_
                                        refine r_iadd 793 dL_law_792 rfl ?_
                                        refine r_xI 794 dL_law_793 rfl hX X (fun x124 X => ?_)
                                        refine r_ald0 795 dL_law_794 rfl ?_
                                        refine r_ild3 796 dL_law_795 rfl ?_
                                        refine r_iconst 797 _ dL_law_796 rfl ki_2 ?_
                                        refine r_iadd 798 dL_law_797 rfl ?_
                                        refine r_xI 799 dL_law_798 rfl hX X (fun x125 X => ?_)
                                        refine r_ald0 800 dL_law_799 rfl ?_
                                        refine r_ild3 801 dL_law_800 rfl ?_
                                        refine r_iconst 802 _ dL_law_801 rfl ki_3 ?_
                                        refine r_iadd 803 dL_law_802 rfl ?_
                                        refine r_xI 804 dL_law_803 rfl hX X (fun x126 X => ?_)
                                        obtain ⟨hs, X⟩ := r_cv X
                                        obtain ⟨x128, h127, hc, X⟩ := bnd_ok X
                                        refine r_callV3 807 dL_law_804 rfl lmL_91 hs (mtX9_figure G hG hc) rfl ⟨(by show _ ≤ 600000; omega), (by show _ ≤ 7302250; omega)⟩ ?_
                                        refine r_lif_eq 869 811 dL_law_807 dL_law_808 (by decide) rfl X (fun _ X => ?_) (fun _ X => ?_)
                                        · refine r_iinc3w 872 dL_law_869 rfl rfl ki_5 X (fun x129 X => ?_)
                                          refine r_goto 18 dL_law_872 (by decide) ?_
                                          exact r_cut (hK18 _ _ _ _ X) ⟨rfl, ⟨rfl, ⟨rfl, ⟨rfl, trivial⟩⟩⟩⟩
                                        · refine r_iconst 812 _ dL_law_811 rfl ki_0 ?_
                                          exact r_retLaw dL_law_812 (by show _ ≤ 600000; omega) (by show _ ≤ 7302250; omega) hR1 X
                                      · refine r_case 813 18 18 781 dL_law_32 (by decide) (by decide) (by decide) (by decide) X (fun _ X => ?_) (fun n18 X => ?_)
                                        · refine r_ald1 814 dL_law_813 rfl ?_
                                          refine r_ald0 815 dL_law_814 rfl ?_
                                          refine r_ild3 816 dL_law_815 rfl ?_
                                          refine r_iconst 817 _ dL_law_816 rfl ki_1 ?_
                                          refine r_iadd 818 dL_law_817 rfl ?_
                                          refine r_xI 819 dL_law_818 rfl hX X (fun x110 X => ?_)
                                          refine r_ald0 820 dL_law_819 rfl ?_
                                          refine r_ild3 821 dL_law_820 rfl ?_
                                          refine r_iconst 822 _ dL_law_821 rfl ki_2 ?_
                                          refine r_iadd 823 dL_law_822 rfl ?_
                                          refine r_xI 824 dL_law_823 rfl hX X (fun x111 X => ?_)
                                          obtain ⟨hs, X⟩ := r_cv X
                                          obtain ⟨x113, h112, hc, X⟩ := bnd_ok X
                                          refine r_callV2 827 dL_law_824 rfl lmL_92 hs (mtX8_roll G hG hc) rfl ⟨(by show _ ≤ 600000; omega), (by show _ ≤ 7302250; omega)⟩ ?_
                                          refine r_pop2 828 dL_law_827 rfl rfl ?_
                                          refine r_ald2 829 dL_law_828 rfl ?_
                                          refine r_ald0 830 dL_law_829 rfl ?_
                                          refine r_ild3 831 dL_law_830 rfl ?_
                                          refine r_iconst 832 _ dL_law_831 rfl ki_1 ?_
                                          refine r_iadd 833 dL_law_832 rfl ?_
                                          refine r_xI 834 dL_law_833 rfl hX X (fun x114 X => ?_)
                                          refine r_ald0 835 dL_law_834 rfl ?_
                                          refine r_ild3 836 dL_law_835 rfl ?_
                                          refine r_iconst 837 _ dL_law_836 rfl ki_2 ?_
                                          refine r_iadd 838 dL_law_837 rfl ?_
                                          refine r_xI 839 dL_law_838 rfl hX X (fun x115 X => ?_)
                                          obtain ⟨hs, X⟩ := r_cv X
                                          obtain ⟨x117, h116, hc, X⟩ := bnd_ok X
                                          refine r_callV2 842 dL_law_839 rfl lmL_95 hs (mtX9_roll_ G hG hc) rfl ⟨(by show _ ≤ 600000; omega), (by show _ ≤ 7302250; omega)⟩ ?_
                                          refine r_pop2 843 dL_law_842 rfl rfl ?_
                                          refine r_goto 869 dL_law_843 (by decide) ?_
                                          refine r_iinc3w 872 dL_law_869 rfl rfl ki_5 X (fun x118 X => ?_)
                                          refine r_goto 18 dL_law_872 (by decide) ?_
                                          exact r_cut (hK18 _ _ _ _ X) ⟨rfl, ⟨rfl, ⟨rfl, ⟨rfl, trivial⟩⟩⟩⟩
                                        · refine r_case 846 19 19 814 dL_law_32 (by decide) (by decide) (by decide) (by decide) X (fun _ X => ?_) (fun n19 X => ?_)
                                          · refine r_ald1 847 dL_law_846 rfl ?_
                                            refine r_ald0 848 dL_law_847 rfl ?_
                                            refine r_ild3 849 dL_law_848 rfl ?_
                                            refine r_iconst 850 _ dL_law_849 rfl ki_1 ?_
                                            refine r_iadd 851 dL_law_850 rfl ?_
                                            refine r_xI 852 dL_law_851 rfl hX X (fun x103 X => ?_)
                                            obtain ⟨hs, X⟩ := r_cv X
                                            obtain ⟨x105, h104, hc, X⟩ := bnd_ok X
                                            refine r_callV1 855 dL_law_852 rfl lmL_96 hs (mtX8_count G hG hc) rfl ⟨(by show _ ≤ 600000; omega), (by show _ ≤ 7302250; omega)⟩ ?_
                                            refine r_pop2 856 dL_law_855 rfl rfl ?_
                                            refine r_ald2 857 dL_law_856 rfl ?_
                                            refine r_ald0 858 dL_law_857 rfl ?_
                                            refine r_ild3 859 dL_law_858 rfl ?_
                                            refine r_iconst 860 _ dL_law_859 rfl ki_1 ?_
                                            refine r_iadd 861 dL_law_860 rfl ?_
                                            refine r_xI 862 dL_law_861 rfl hX X (fun x106 X => ?_)
                                            obtain ⟨hs, X⟩ := r_cv X
                                            obtain ⟨x108, h107, hc, X⟩ := bnd_ok X
                                            refine r_callV1 865 dL_law_862 rfl lmL_99 hs (mtX9_count G hG hc) rfl ⟨(by show _ ≤ 600000; omega), (by show _ ≤ 7302250; omega)⟩ ?_
                                            refine r_pop2 866 dL_law_865 rfl rfl ?_
                                            refine r_goto 869 dL_law_866 (by decide) ?_
                                            refine r_iinc3w 872 dL_law_869 rfl rfl ki_5 X (fun x109 X => ?_)
                                            refine r_goto 18 dL_law_872 (by decide) ?_
                                            exact r_cut (hK18 _ _ _ _ X) ⟨rfl, ⟨rfl, ⟨rfl, ⟨rfl, trivial⟩⟩⟩⟩
                                          · refine r_default 869 dL_law_32 (by omega) (by decide) ?_
                                            refine r_iinc3w 872 dL_law_869 rfl rfl ki_5 X (fun x102 X => ?_)
                                            refine r_goto 18 dL_law_872 (by decide) ?_
                                            exact r_cut (hK18 _ _ _ _ X) ⟨rfl, ⟨rfl, ⟨rfl, ⟨rfl, trivial⟩⟩⟩⟩
theorem wL_law_18L {b L : Nat} {xs : Nat → Int32} (G : GG) (hG : GT G) (R : Int32 × AH) (hR1 : R.1 = 1) (hX : va_X b L xs G.2.1 G.2.1.heap) {k n : Nat} (hkA : k ≤ 10000) (hnA : n ≤ 200000) : ∀ (m : Nat) (l1 : Nat) (l2 : Nat) (l3 : Int32) (h : AH), fL_law_18L L xs m l1 l2 l3 h = some R → AW (eL G) RL cL_law 18 [some (.ref b), some (.ref (gB G + l1)), some (.ref (gB G + l2)), some (.int l3)] [] h k n := by
  intro m
  induction m with
  | zero => intro l1 l2 l3 h X; exact nomatch (show (none : Fn Int32) = some R from X)
  | succ m ih => intro l1 l2 l3 h X; exact wL_law_18 G hG R hR1 hX hkA hnA ih l1 l2 l3 h X
theorem wL_law {b L : Nat} {xs : Nat → Int32} (G : GG) (hG : GT G) (R : Int32 × AH) (hR1 : R.1 = 1) (hX : va_X b L xs G.2.1 G.2.1.heap) (h : AH) (X : fL_law L xs h = some R) : AW (eL G) RL cL_law 0 [some (.ref b), none, none, none] [] h 0 0 := by
  unfold fL_law at X
  refine r_new 3 dL_law_0 rfl lnL_7 X (by show _ ≤ 600000; omega) (by show _ ≤ 7302250; omega) (fun b101 h102 X => ?_)
  refine r_dup 4 dL_law_3 rfl rfl ?_
  obtain ⟨_, h103, hc, X⟩ := bnd_ok X
  refine r_callI0 7 dL_law_4 rfl lmL_9 (mtX8_init G hG hc) rfl (by show _ ≤ 600000; omega) (by show _ ≤ 7302250; omega) ?_
  refine r_ast1 8 dL_law_7 rfl rfl ?_
  refine r_new 11 dL_law_8 rfl lnL_10 X (by show _ ≤ 600000; omega) (by show _ ≤ 7302250; omega) (fun b104 h105 X => ?_)
  refine r_dup 12 dL_law_11 rfl rfl ?_
  obtain ⟨_, h106, hc, X⟩ := bnd_ok X
  refine r_callI0 15 dL_law_12 rfl lmL_12 (mtX9_init G hG hc) rfl (by show _ ≤ 600000; omega) (by show _ ≤ 7302250; omega) ?_
  refine r_ast2 16 dL_law_15 rfl rfl ?_
  refine r_iconst 17 _ dL_law_16 rfl ki_0 ?_
  refine r_ist3 18 dL_law_17 rfl rfl ?_
  exact r_cut (wL_law_18L G hG R hR1 hX (by omega) (by omega) 1000 _ _ _ _ X) ⟨rfl, ⟨rfl, ⟨rfl, ⟨rfl, trivial⟩⟩⟩⟩
theorem gt_of {s : State} {args : Array Value} (hts : ∀ w ∈ lwG, w.before args s = true) (hgv : (Jvm.Cond.and given_1 narrow_1).before args s = true) (G : GG) (hG : G.2.1 = s) (hl : (Cond.laysStatic "RatioStreams" "ACT_FACTORS" "[I").before args s = true) : GT G := by
  have hs := flat_of_before _ hgv
  have harr : (Cond.arrayOf (.static "RatioStreams" "ACT_FACTORS" "[I") .int).before args s = true := hs _ (by decide +kernel)
  have hlen : (Term.length (.static "RatioStreams" "ACT_FACTORS" "[I")).eval args s none [] s = some (.int (Int32.ofNat 40)) := va_eqt (hs (Cond.eq (.length (.static "RatioStreams" "ACT_FACTORS" "[I")) (.int 40)) (by decide +kernel))
  have hA : ∀ a : Nat, a < s.heap.size → ¬ aF G a := fun a h z => by unfold aF gB at z; rw [hG] at z; omega
  have hel : ∀ j : Nat, j < 40 → (Term.elem (.static "RatioStreams" "ACT_FACTORS" "[I") (.int (Int32.ofNat j))).eval args s none [] s = some (.int (actF j)) := by
    intro j hj
    match j, hj with
    | 0, _ => exact va_eqt (hs (Cond.eq (.elem (.static "RatioStreams" "ACT_FACTORS" "[I") (.int 0)) (.int (actF 0))) (by decide +kernel))
    | 1, _ => exact va_eqt (hs (Cond.eq (.elem (.static "RatioStreams" "ACT_FACTORS" "[I") (.int 1)) (.int (actF 1))) (by decide +kernel))
    | 2, _ => exact va_eqt (hs (Cond.eq (.elem (.static "RatioStreams" "ACT_FACTORS" "[I") (.int 2)) (.int (actF 2))) (by decide +kernel))
    | 3, _ => exact va_eqt (hs (Cond.eq (.elem (.static "RatioStreams" "ACT_FACTORS" "[I") (.int 3)) (.int (actF 3))) (by decide +kernel))
    | 4, _ => exact va_eqt (hs (Cond.eq (.elem (.static "RatioStreams" "ACT_FACTORS" "[I") (.int 4)) (.int (actF 4))) (by decide +kernel))
    | 5, _ => exact va_eqt (hs (Cond.eq (.elem (.static "RatioStreams" "ACT_FACTORS" "[I") (.int 5)) (.int (actF 5))) (by decide +kernel))
    | 6, _ => exact va_eqt (hs (Cond.eq (.elem (.static "RatioStreams" "ACT_FACTORS" "[I") (.int 6)) (.int (actF 6))) (by decide +kernel))
    | 7, _ => exact va_eqt (hs (Cond.eq (.elem (.static "RatioStreams" "ACT_FACTORS" "[I") (.int 7)) (.int (actF 7))) (by decide +kernel))
    | 8, _ => exact va_eqt (hs (Cond.eq (.elem (.static "RatioStreams" "ACT_FACTORS" "[I") (.int 8)) (.int (actF 8))) (by decide +kernel))
    | 9, _ => exact va_eqt (hs (Cond.eq (.elem (.static "RatioStreams" "ACT_FACTORS" "[I") (.int 9)) (.int (actF 9))) (by decide +kernel))
    | 10, _ => exact va_eqt (hs (Cond.eq (.elem (.static "RatioStreams" "ACT_FACTORS" "[I") (.int 10)) (.int (actF 10))) (by decide +kernel))
    | 11, _ => exact va_eqt (hs (Cond.eq (.elem (.static "RatioStreams" "ACT_FACTORS" "[I") (.int 11)) (.int (actF 11))) (by decide +kernel))
    | 12, _ => exact va_eqt (hs (Cond.eq (.elem (.static "RatioStreams" "ACT_FACTORS" "[I") (.int 12)) (.int (actF 12))) (by decide +kernel))
    | 13, _ => exact va_eqt (hs (Cond.eq (.elem (.static "RatioStreams" "ACT_FACTORS" "[I") (.int 13)) (.int (actF 13))) (by decide +kernel))
    | 14, _ => exact va_eqt (hs (Cond.eq (.elem (.static "RatioStreams" "ACT_FACTORS" "[I") (.int 14)) (.int (actF 14))) (by decide +kernel))
    | 15, _ => exact va_eqt (hs (Cond.eq (.elem (.static "RatioStreams" "ACT_FACTORS" "[I") (.int 15)) (.int (actF 15))) (by decide +kernel))
    | 16, _ => exact va_eqt (hs (Cond.eq (.elem (.static "RatioStreams" "ACT_FACTORS" "[I") (.int 16)) (.int (actF 16))) (by decide +kernel))
    | 17, _ => exact va_eqt (hs (Cond.eq (.elem (.static "RatioStreams" "ACT_FACTORS" "[I") (.int 17)) (.int (actF 17))) (by decide +kernel))
    | 18, _ => exact va_eqt (hs (Cond.eq (.elem (.static "RatioStreams" "ACT_FACTORS" "[I") (.int 18)) (.int (actF 18))) (by decide +kernel))
    | 19, _ => exact va_eqt (hs (Cond.eq (.elem (.static "RatioStreams" "ACT_FACTORS" "[I") (.int 19)) (.int (actF 19))) (by decide +kernel))
    | 20, _ => exact va_eqt (hs (Cond.eq (.elem (.static "RatioStreams" "ACT_FACTORS" "[I") (.int 20)) (.int (actF 20))) (by decide +kernel))
    | 21, _ => exact va_eqt (hs (Cond.eq (.elem (.static "RatioStreams" "ACT_FACTORS" "[I") (.int 21)) (.int (actF 21))) (by decide +kernel))
    | 22, _ => exact va_eqt (hs (Cond.eq (.elem (.static "RatioStreams" "ACT_FACTORS" "[I") (.int 22)) (.int (actF 22))) (by decide +kernel))
    | 23, _ => exact va_eqt (hs (Cond.eq (.elem (.static "RatioStreams" "ACT_FACTORS" "[I") (.int 23)) (.int (actF 23))) (by decide +kernel))
    | 24, _ => exact va_eqt (hs (Cond.eq (.elem (.static "RatioStreams" "ACT_FACTORS" "[I") (.int 24)) (.int (actF 24))) (by decide +kernel))
    | 25, _ => exact va_eqt (hs (Cond.eq (.elem (.static "RatioStreams" "ACT_FACTORS" "[I") (.int 25)) (.int (actF 25))) (by decide +kernel))
    | 26, _ => exact va_eqt (hs (Cond.eq (.elem (.static "RatioStreams" "ACT_FACTORS" "[I") (.int 26)) (.int (actF 26))) (by decide +kernel))
    | 27, _ => exact va_eqt (hs (Cond.eq (.elem (.static "RatioStreams" "ACT_FACTORS" "[I") (.int 27)) (.int (actF 27))) (by decide +kernel))
    | 28, _ => exact va_eqt (hs (Cond.eq (.elem (.static "RatioStreams" "ACT_FACTORS" "[I") (.int 28)) (.int (actF 28))) (by decide +kernel))
    | 29, _ => exact va_eqt (hs (Cond.eq (.elem (.static "RatioStreams" "ACT_FACTORS" "[I") (.int 29)) (.int (actF 29))) (by decide +kernel))
    | 30, _ => exact va_eqt (hs (Cond.eq (.elem (.static "RatioStreams" "ACT_FACTORS" "[I") (.int 30)) (.int (actF 30))) (by decide +kernel))
    | 31, _ => exact va_eqt (hs (Cond.eq (.elem (.static "RatioStreams" "ACT_FACTORS" "[I") (.int 31)) (.int (actF 31))) (by decide +kernel))
    | 32, _ => exact va_eqt (hs (Cond.eq (.elem (.static "RatioStreams" "ACT_FACTORS" "[I") (.int 32)) (.int (actF 32))) (by decide +kernel))
    | 33, _ => exact va_eqt (hs (Cond.eq (.elem (.static "RatioStreams" "ACT_FACTORS" "[I") (.int 33)) (.int (actF 33))) (by decide +kernel))
    | 34, _ => exact va_eqt (hs (Cond.eq (.elem (.static "RatioStreams" "ACT_FACTORS" "[I") (.int 34)) (.int (actF 34))) (by decide +kernel))
    | 35, _ => exact va_eqt (hs (Cond.eq (.elem (.static "RatioStreams" "ACT_FACTORS" "[I") (.int 35)) (.int (actF 35))) (by decide +kernel))
    | 36, _ => exact va_eqt (hs (Cond.eq (.elem (.static "RatioStreams" "ACT_FACTORS" "[I") (.int 36)) (.int (actF 36))) (by decide +kernel))
    | 37, _ => exact va_eqt (hs (Cond.eq (.elem (.static "RatioStreams" "ACT_FACTORS" "[I") (.int 37)) (.int (actF 37))) (by decide +kernel))
    | 38, _ => exact va_eqt (hs (Cond.eq (.elem (.static "RatioStreams" "ACT_FACTORS" "[I") (.int 38)) (.int (actF 38))) (by decide +kernel))
    | 39, _ => exact va_eqt (hs (Cond.eq (.elem (.static "RatioStreams" "ACT_FACTORS" "[I") (.int 39)) (.int (actF 39))) (by decide +kernel))
    | j + 40, hj => exact absurd hj (by omega)
  obtain ⟨t, ht, hT⟩ := va_Tof (A := aF G) (by decide) harr hlen hel hA
  refine ⟨t, ?_, ?_⟩
  · rw [hG]; exact va_Zref hl (hts _ (mT1 1 rfl rfl)) ht hA
  · rw [hG]; exact hT
def h00 : AH := (fun _ => none, 0, fun _ _ => 0, fun _ _ => 0, fun _ _ => none)
theorem au_of {s : State} {args : Array Value} (l : Launch) (hts : ∀ w ∈ lwG, w.before args s = true) (hnw : ∀ w ∈ nwL, w.before args s = true) (hao : (Cond.arrayOver (.object RX7)).before args s = true) : ∃ (D : va_G) (tys : List (ClassId × FieldType)), AU (l, s, D, tys) s := by
  obtain ⟨c0, i0, K0⟩ := u_known (C := RX0) (T := TX0) (N := 4) (n := 4) hts ckX0.2.2.1 (hts (.instantiable RX0 4) (mT2 10 rfl rfl))
  obtain ⟨c1, i1, K1⟩ := u_known (C := RX1) (T := TX1) (N := 9) (n := 9) hts ckX1.2.2.1 (hts (.instantiable RX1 9) (mT1 140 rfl rfl))
  obtain ⟨c2, i2, K2⟩ := u_known (C := RX2) (T := TX2) (N := 3) (n := 3) hts ckX2.2.2.1 (hts (.instantiable RX2 3) (mT1 202 rfl rfl))
  obtain ⟨c3, i3, K3⟩ := u_known (C := RX3) (T := TX3) (N := 4) (n := 4) hts ckX3.2.2.1 (hts (.instantiable RX3 4) (mT1 87 rfl rfl))
  obtain ⟨c4, i4, K4⟩ := u_known (C := RX4) (T := TX4) (N := 5) (n := 5) hts ckX4.2.2.1 (hts (.instantiable RX4 5) (mT1 115 rfl rfl))
  obtain ⟨c5, i5, K5⟩ := u_known (C := RX5) (T := TX5) (N := 6) (n := 6) hts ckX5.2.2.1 (hts (.instantiable RX5 6) (mT1 221 rfl rfl))
  obtain ⟨c6, i6, K6⟩ := u_known (C := RX6) (T := TX6) (N := 5) (n := 5) hts ckX6.2.2.1 (hts (.instantiable RX6 5) (mT1 146 rfl rfl))
  obtain ⟨c7, i7, K7⟩ := u_known (C := RX7) (T := TX7) (N := 10) (n := 10) hts ckX7.2.2.1 (hts (.instantiable RX7 10) (mT1 22 rfl rfl))
  obtain ⟨c8, i8, K8⟩ := u_known (C := RX8) (T := TX8) (N := 12) (n := 12) hts ckX8.2.2.1 (hts (.instantiable RX8 12) (mT1 13 rfl rfl))
  obtain ⟨c9, i9, K9⟩ := u_known (C := RX9) (T := TX9) (N := 36) (n := 36) hts ckX9.2.2.1 (hts (.instantiable RX9 36) (mT4 2 rfl rfl))
  obtain ⟨aI, kI, mI, fI1, fI2, fI3⟩ := Cond.arrayClass_spec (hts _ la_int)
  obtain ⟨aJ, kJ, mJ, fJ1, fJ2, fJ3⟩ := Cond.arrayClass_spec (hts _ la_long)
  obtain ⟨aZ, kZ, mZ, fZ1, fZ2, fZ3⟩ := Cond.arrayClass_spec (hts _ la_boolean)
  obtain ⟨mO, aO, kO, fO1, fO2, fO3, fO4, fO5⟩ := Cond.arrayOver_spec hao
  refine ⟨(fun k => match k with | 0 => c0 | 1 => c1 | 2 => c2 | 3 => c3 | 4 => c4 | 5 => c5 | 6 => c6 | 7 => c7 | 8 => c8 | _ => c9, fun k => match k with | 0 => i0 | 1 => i1 | 2 => i2 | 3 => i3 | 4 => i4 | 5 => i5 | 6 => i6 | 7 => i7 | 8 => i8 | _ => i9), [(aI, .int), (aJ, .long), (aZ, .boolean), (aO, .object RX7)], ⟨?_, ?_⟩, ?_, Vm.Alike.refl _, rfl, va_AO.of hao⟩
  · intro k q hq
    match k, hq with
    | 0, hq => cases hq; exact K0
    | 1, hq => cases hq; exact K1
    | 2, hq => cases hq; exact K2
    | 3, hq => cases hq; exact K3
    | 4, hq => cases hq; exact K4
    | 5, hq => cases hq; exact K5
    | 6, hq => cases hq; exact K6
    | 7, hq => cases hq; exact K7
    | 8, hq => cases hq; exact K8
    | 9, hq => cases hq; exact K9
    | k + 10, hq => simp [vwCl] at hq
  · intro k q hq
    match k, hq with
    | 0, hq => cases hq; exact ⟨fun n z => ⟨fun k h => (by cases h), kI, fI2, mI, fI3⟩, fI1⟩
    | 1, hq => cases hq; exact ⟨fun n z => ⟨fun k h => (by cases h), kJ, fJ2, mJ, fJ3⟩, fJ1⟩
    | 2, hq => cases hq; exact ⟨fun n z => ⟨fun k h => (by cases h), kZ, fZ2, mZ, fZ3⟩, fZ1⟩
    | 3, hq => cases hq; exact ⟨fun n z => ⟨fun k h => (by cases h), kO, fO3, mO, fO4⟩, kO, mO, fO3, fO4, fO1, fO5⟩
    | k + 4, hq => simp at hq
  · intro w hw
    rcases nwL_ok w hw with ⟨a, i, b, n, d, g, rfl⟩ | ⟨a, i, x, g, rfl⟩
    · exact hnw _ hw
    · exact hnw _ hw
def LawPure : Prop := ∀ (L : Nat) (xs : Nat → Int32), L ≤ 2560 → ∃ h1, fL_law L xs h00 = some (1, h1)
theorem whole_start_of {p : Program} {e : Env} {s : State} {m : MethodId} {below : List Frame} {meth : Method} {c : Code} (hLP : LawPure) (l : Launch) {b L : Nat} {xs : Nat → Int32} (hL : L ≤ 2560) (C0 : lw_At p s m meth c b L xs) : W p l e room_1 s m #[Value.ref b] below meth c s.heap [] 0 0 (lw_Z below #[Value.ref b] s) (entryFrame m ([Value.ref b] : List Value).toArray 4) := by
  obtain ⟨hx, hb, hr, hml, hown, hts, hX, hbl, hlocks, hgv⟩ := id C0
  have htG : ∀ w ∈ lwG, w.before #[Value.ref b] s = true := fun w hw => hts w (List.mem_filter.mp hw).1
  have htN : ∀ w ∈ nwL, w.before #[Value.ref b] s = true := fun w hw => hts w (List.mem_append_right _ (List.mem_filter.mp hw).1)
  have hao : (Cond.arrayOver (.object RX7)).before #[Value.ref b] s = true := hts _ (List.mem_append_right _ (by decide +kernel))
  have hls : (Cond.laysStatic "RatioStreams" "ACT_FACTORS" "[I").before #[Value.ref b] s = true := hts _ (List.mem_append_right _ (by decide +kernel))
  obtain ⟨D, tys, hU⟩ := au_of l htG htN hao
  have hGT : GT (l, s, D, tys) := gt_of htG hgv _ rfl hls
  obtain ⟨h1, hpure⟩ := hLP L xs hL
  have K := wL_law (l, s, D, tys) hGT (1, h1) rfl hX h00 hpure
  have hl := lv_entry ([.ref b]) (n := 4) (Nat.le_of_ble_eq_true rfl)
  rw [lg_entry_eq]
  have K2 := K p e s m #[Value.ref b] below meth c ⟨hx, hb, hml, hr, hlocks, (fun z => by cases z), hown, htG, hU⟩ _ s.heap [] ⟨⟨hl, Nat.le_of_ble_eq_true rfl⟩, ⟨rfl, fun q _ => rfl, fun a c z => by cases z⟩, fun q z => by cases z⟩
  intro T hT X
  obtain ⟨t, a1, b1⟩ := K2 T hT X
  exact ⟨t, a1, b1 rfl⟩
