/-! THE LAW: its instructions, printed -/
/-! THE CLAIM OUT OF ONE WALK OF THE LAW'S BODY. Your part is whole_start (and what it stands on); all else here is the same for every law, but numbers. -/
def R_law : String := "CaravanZonesLaw"
def lw_P (b : Addr) (xs : List Int32) (args : Array Value) (s : State) : Prop := args = #[.ref b] ∧ s.IntsAt b xs ∧ xs.length ≤ 2048 ∧ (Jvm.Cond.and given_1 narrow_1).before args s = true
def lw_Q (_ : Array Value) (s : State) (o : Outcome) (t : State) : Prop := o = .returned (some (.int 1)) ∧ Framed s o t [] 600000 7302250
def lw_Z (below : List Frame) (a : Array Value) (s : State) : State → Prop := fun t => ∃ o, t.status = .running ∧ Ended t below o ∧ lw_Q a s o t
/-- the law's own end, with 1 on the stack, nothing written that was there before, its room as the claim has it -/
theorem lw_ret {p : Program} {l : Launch} {e : Env} {s : State} {m : MethodId} {below : List Frame} {meth : Method} {c : Code} {b : Nat} (hx : p.tables.exec = Jvm.exec) (hb : c.code = code) (hr : meth.sig.returnType = ret) (hlocks : meth.locks = false) {pc : Nat} {H : Heap} {ls : Array Slot} (hdg : decode code pc = .ok (.ireturn, 1)) : W p l e room_1 s m #[Value.ref b] below meth c H [] 600000 7302250 (lw_Z below #[Value.ref b] s) (F0 m pc ls [.int 1]) := by
  intro T hT X
  obtain ⟨fs, hret, hrun, hended, hW, hframe⟩ := X.leave (v := some (.int 1)) (hlocks := hlocks) (fun h => by rw [hr] at h; cases h)
  have hmeth' : T.vm.method? m = some meth := X.method'
  refine ⟨T.setFrames fs, ?_, .returned (some (.int 1)), hrun, hended, rfl, ⟨_, rfl⟩, hW, hframe⟩
  jvm_step X.here [X.here.top, hx, hb, hdg, hmeth', hr, ret, narrow_b1]
  (try refine ⟨rfl, ?_⟩); (try refine ⟨rfl, ?_⟩)
  first | (intro acts; rw [hret _ acts rfl rfl rfl]) | rw [hret _ _ rfl rfl rfl]
  exact Steps.refl _
/-- what holds at the law's entry: the machine, the code, the tables' words (any of lw_tbl by 'hts w (by decide +kernel)'), the script of L ints xs at the cell b, what the Statement gives of the start (any of its parts by flat_of_before) -/
def lw_At (p : Program) (s : State) (m : MethodId) (meth : Method) (c : Code) (b L : Nat) (xs : Nat → Int32) : Prop :=
  p.tables.exec = Jvm.exec ∧ c.code = code ∧ meth.sig.returnType = ret ∧ c.maxLocals = 4 ∧ s.vm.findClass R_law = some m.cls ∧ (∀ w ∈ lw_tbl, w.before #[Value.ref b] s = true) ∧ va_X b L xs s s.heap ∧ b < s.heap.size ∧ meth.locks = false ∧ (Jvm.Cond.and given_1 narrow_1).before #[Value.ref b] s = true
theorem lz_d_0 : decode code 0 = .ok (.new 7, 3) := by decide +kernel
theorem lz_d_3 : decode code 3 = .ok (.dup, 1) := by decide +kernel
theorem lz_d_4 : decode code 4 = .ok (.invokespecial 9, 3) := by decide +kernel
theorem lz_d_7 : decode code 7 = .ok (.astore_n 1, 1) := by decide +kernel
theorem lz_d_8 : decode code 8 = .ok (.new 10, 3) := by decide +kernel
theorem lz_d_11 : decode code 11 = .ok (.dup, 1) := by decide +kernel
theorem lz_d_12 : decode code 12 = .ok (.invokespecial 12, 3) := by decide +kernel
theorem lz_d_15 : decode code 15 = .ok (.astore_n 2, 1) := by decide +kernel
theorem lz_d_16 : decode code 16 = .ok (.iconst 0, 1) := by decide +kernel
theorem lz_d_17 : decode code 17 = .ok (.istore_n 3, 1) := by decide +kernel
theorem lz_d_18 : decode code 18 = .ok (.iload_n 3, 1) := by decide +kernel
theorem lz_d_19 : decode code 19 = .ok (.aload_n 0, 1) := by decide +kernel
theorem lz_d_20 : decode code 20 = .ok (.arraylength, 1) := by decide +kernel
theorem lz_d_21 : decode code 21 = .ok (.iconst 4, 1) := by decide +kernel
theorem lz_d_22 : decode code 22 = .ok (.isub, 1) := by decide +kernel
theorem lz_d_23 : decode code 23 = .ok (.if_icmp .gt 812, 3) := by decide +kernel
theorem lz_d_26 : decode code 26 = .ok (.aload_n 0, 1) := by decide +kernel
theorem lz_d_27 : decode code 27 = .ok (.iload_n 3, 1) := by decide +kernel
theorem lz_d_28 : decode code 28 = .ok (.iaload, 1) := by decide +kernel
theorem lz_d_29 : decode code 29 = .ok (.bipush 31, 2) := by decide +kernel
theorem lz_d_31 : decode code 31 = .ok (.iand, 1) := by decide +kernel
theorem lz_d_32 : decode code 32 = .ok (.tableswitch 797 0 28 #[132, 165, 198, 247, 280, 303, 326, 349, 372, 395, 408, 421, 434, 447, 472, 485, 498, 511, 524, 537, 570, 613, 646, 669, 692, 715, 738, 751, 774], 132) := by decide +kernel
theorem lz_d_164 : decode code 164 = .ok (.aload_n 1, 1) := by decide +kernel
theorem lz_d_165 : decode code 165 = .ok (.aload_n 0, 1) := by decide +kernel
theorem lz_d_166 : decode code 166 = .ok (.iload_n 3, 1) := by decide +kernel
theorem lz_d_167 : decode code 167 = .ok (.iconst 1, 1) := by decide +kernel
theorem lz_d_168 : decode code 168 = .ok (.iadd, 1) := by decide +kernel
theorem lz_d_169 : decode code 169 = .ok (.iaload, 1) := by decide +kernel
theorem lz_d_170 : decode code 170 = .ok (.aload_n 0, 1) := by decide +kernel
theorem lz_d_171 : decode code 171 = .ok (.iload_n 3, 1) := by decide +kernel
theorem lz_d_172 : decode code 172 = .ok (.iconst 2, 1) := by decide +kernel
theorem lz_d_173 : decode code 173 = .ok (.iadd, 1) := by decide +kernel
theorem lz_d_174 : decode code 174 = .ok (.iaload, 1) := by decide +kernel
theorem lz_d_175 : decode code 175 = .ok (.invokevirtual 13, 3) := by decide +kernel
theorem lz_d_178 : decode code 178 = .ok (.aload_n 2, 1) := by decide +kernel
theorem lz_d_179 : decode code 179 = .ok (.aload_n 0, 1) := by decide +kernel
theorem lz_d_180 : decode code 180 = .ok (.iload_n 3, 1) := by decide +kernel
theorem lz_d_181 : decode code 181 = .ok (.iconst 1, 1) := by decide +kernel
theorem lz_d_182 : decode code 182 = .ok (.iadd, 1) := by decide +kernel
theorem lz_d_183 : decode code 183 = .ok (.iaload, 1) := by decide +kernel
theorem lz_d_184 : decode code 184 = .ok (.aload_n 0, 1) := by decide +kernel
theorem lz_d_185 : decode code 185 = .ok (.iload_n 3, 1) := by decide +kernel
theorem lz_d_186 : decode code 186 = .ok (.iconst 2, 1) := by decide +kernel
theorem lz_d_187 : decode code 187 = .ok (.iadd, 1) := by decide +kernel
theorem lz_d_188 : decode code 188 = .ok (.iaload, 1) := by decide +kernel
theorem lz_d_189 : decode code 189 = .ok (.invokevirtual 17, 3) := by decide +kernel
theorem lz_d_192 : decode code 192 = .ok (.if_icmp .eq 637, 3) := by decide +kernel
theorem lz_d_195 : decode code 195 = .ok (.iconst 0, 1) := by decide +kernel
theorem lz_d_196 : decode code 196 = .ok (.ireturn, 1) := by decide +kernel
theorem lz_d_197 : decode code 197 = .ok (.aload_n 1, 1) := by decide +kernel
theorem lz_d_198 : decode code 198 = .ok (.aload_n 0, 1) := by decide +kernel
theorem lz_d_199 : decode code 199 = .ok (.iload_n 3, 1) := by decide +kernel
theorem lz_d_200 : decode code 200 = .ok (.iconst 1, 1) := by decide +kernel
theorem lz_d_201 : decode code 201 = .ok (.iadd, 1) := by decide +kernel
theorem lz_d_202 : decode code 202 = .ok (.iaload, 1) := by decide +kernel
theorem lz_d_203 : decode code 203 = .ok (.aload_n 0, 1) := by decide +kernel
theorem lz_d_204 : decode code 204 = .ok (.iload_n 3, 1) := by decide +kernel
theorem lz_d_205 : decode code 205 = .ok (.iconst 2, 1) := by decide +kernel
theorem lz_d_206 : decode code 206 = .ok (.iadd, 1) := by decide +kernel
theorem lz_d_207 : decode code 207 = .ok (.iaload, 1) := by decide +kernel
theorem lz_d_208 : decode code 208 = .ok (.invokevirtual 18, 3) := by decide +kernel
theorem lz_d_211 : decode code 211 = .ok (.aload_n 2, 1) := by decide +kernel
theorem lz_d_212 : decode code 212 = .ok (.aload_n 0, 1) := by decide +kernel
theorem lz_d_213 : decode code 213 = .ok (.iload_n 3, 1) := by decide +kernel
theorem lz_d_214 : decode code 214 = .ok (.iconst 1, 1) := by decide +kernel
theorem lz_d_215 : decode code 215 = .ok (.iadd, 1) := by decide +kernel
theorem lz_d_216 : decode code 216 = .ok (.iaload, 1) := by decide +kernel
theorem lz_d_217 : decode code 217 = .ok (.aload_n 0, 1) := by decide +kernel
theorem lz_d_218 : decode code 218 = .ok (.iload_n 3, 1) := by decide +kernel
theorem lz_d_219 : decode code 219 = .ok (.iconst 2, 1) := by decide +kernel
theorem lz_d_220 : decode code 220 = .ok (.iadd, 1) := by decide +kernel
theorem lz_d_221 : decode code 221 = .ok (.iaload, 1) := by decide +kernel
theorem lz_d_222 : decode code 222 = .ok (.invokevirtual 21, 3) := by decide +kernel
theorem lz_d_225 : decode code 225 = .ok (.if_icmp .eq 604, 3) := by decide +kernel
theorem lz_d_228 : decode code 228 = .ok (.iconst 0, 1) := by decide +kernel
theorem lz_d_229 : decode code 229 = .ok (.ireturn, 1) := by decide +kernel
theorem lz_d_230 : decode code 230 = .ok (.aload_n 1, 1) := by decide +kernel
theorem lz_d_231 : decode code 231 = .ok (.aload_n 0, 1) := by decide +kernel
theorem lz_d_232 : decode code 232 = .ok (.iload_n 3, 1) := by decide +kernel
theorem lz_d_233 : decode code 233 = .ok (.iconst 1, 1) := by decide +kernel
theorem lz_d_234 : decode code 234 = .ok (.iadd, 1) := by decide +kernel
theorem lz_d_235 : decode code 235 = .ok (.iaload, 1) := by decide +kernel
theorem lz_d_236 : decode code 236 = .ok (.aload_n 0, 1) := by decide +kernel
theorem lz_d_237 : decode code 237 = .ok (.iload_n 3, 1) := by decide +kernel
theorem lz_d_238 : decode code 238 = .ok (.iconst 2, 1) := by decide +kernel
theorem lz_d_239 : decode code 239 = .ok (.iadd, 1) := by decide +kernel
theorem lz_d_240 : decode code 240 = .ok (.iaload, 1) := by decide +kernel
theorem lz_d_241 : decode code 241 = .ok (.ifCond .eq 7, 3) := by decide +kernel
theorem lz_d_244 : decode code 244 = .ok (.iconst 1, 1) := by decide +kernel
theorem lz_d_245 : decode code 245 = .ok (.goto 4, 3) := by decide +kernel
theorem lz_d_248 : decode code 248 = .ok (.iconst 0, 1) := by decide +kernel
theorem lz_d_249 : decode code 249 = .ok (.invokevirtual 22, 3) := by decide +kernel
theorem lz_d_252 : decode code 252 = .ok (.aload_n 2, 1) := by decide +kernel
theorem lz_d_253 : decode code 253 = .ok (.aload_n 0, 1) := by decide +kernel
theorem lz_d_254 : decode code 254 = .ok (.iload_n 3, 1) := by decide +kernel
theorem lz_d_255 : decode code 255 = .ok (.iconst 1, 1) := by decide +kernel
theorem lz_d_256 : decode code 256 = .ok (.iadd, 1) := by decide +kernel
theorem lz_d_257 : decode code 257 = .ok (.iaload, 1) := by decide +kernel
theorem lz_d_258 : decode code 258 = .ok (.aload_n 0, 1) := by decide +kernel
theorem lz_d_259 : decode code 259 = .ok (.iload_n 3, 1) := by decide +kernel
theorem lz_d_260 : decode code 260 = .ok (.iconst 2, 1) := by decide +kernel
theorem lz_d_261 : decode code 261 = .ok (.iadd, 1) := by decide +kernel
theorem lz_d_262 : decode code 262 = .ok (.iaload, 1) := by decide +kernel
theorem lz_d_263 : decode code 263 = .ok (.ifCond .eq 7, 3) := by decide +kernel
theorem lz_d_266 : decode code 266 = .ok (.iconst 1, 1) := by decide +kernel
theorem lz_d_267 : decode code 267 = .ok (.goto 4, 3) := by decide +kernel
theorem lz_d_270 : decode code 270 = .ok (.iconst 0, 1) := by decide +kernel
theorem lz_d_271 : decode code 271 = .ok (.invokevirtual 26, 3) := by decide +kernel
theorem lz_d_274 : decode code 274 = .ok (.if_icmp .eq 555, 3) := by decide +kernel
theorem lz_d_277 : decode code 277 = .ok (.iconst 0, 1) := by decide +kernel
theorem lz_d_278 : decode code 278 = .ok (.ireturn, 1) := by decide +kernel
theorem lz_d_279 : decode code 279 = .ok (.aload_n 1, 1) := by decide +kernel
theorem lz_d_280 : decode code 280 = .ok (.aload_n 0, 1) := by decide +kernel
theorem lz_d_281 : decode code 281 = .ok (.iload_n 3, 1) := by decide +kernel
theorem lz_d_282 : decode code 282 = .ok (.iconst 1, 1) := by decide +kernel
theorem lz_d_283 : decode code 283 = .ok (.iadd, 1) := by decide +kernel
theorem lz_d_284 : decode code 284 = .ok (.iaload, 1) := by decide +kernel
theorem lz_d_285 : decode code 285 = .ok (.aload_n 0, 1) := by decide +kernel
theorem lz_d_286 : decode code 286 = .ok (.iload_n 3, 1) := by decide +kernel
theorem lz_d_287 : decode code 287 = .ok (.iconst 2, 1) := by decide +kernel
theorem lz_d_288 : decode code 288 = .ok (.iadd, 1) := by decide +kernel
theorem lz_d_289 : decode code 289 = .ok (.iaload, 1) := by decide +kernel
theorem lz_d_290 : decode code 290 = .ok (.invokevirtual 27, 3) := by decide +kernel
theorem lz_d_293 : decode code 293 = .ok (.aload_n 2, 1) := by decide +kernel
theorem lz_d_294 : decode code 294 = .ok (.aload_n 0, 1) := by decide +kernel
theorem lz_d_295 : decode code 295 = .ok (.iload_n 3, 1) := by decide +kernel
theorem lz_d_296 : decode code 296 = .ok (.iconst 1, 1) := by decide +kernel
theorem lz_d_297 : decode code 297 = .ok (.iadd, 1) := by decide +kernel
theorem lz_d_298 : decode code 298 = .ok (.iaload, 1) := by decide +kernel
theorem lz_d_299 : decode code 299 = .ok (.aload_n 0, 1) := by decide +kernel
