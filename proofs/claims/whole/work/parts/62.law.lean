/-! THE CLAIM OUT OF ONE WALK OF THE LAW'S BODY. Your part is whole_start (and what it stands on); all else here is the same for every law, but numbers. -/
def R_law : String := "FrozenBranchesLaw"
def lw_P (b : Addr) (xs : List Int32) (args : Array Value) (s : State) : Prop := args = #[.ref b] ∧ s.IntsAt b xs ∧ xs.length ≤ 1536 ∧ (Jvm.Cond.and given_1 narrow_1).before args s = true
def lw_Q (_ : Array Value) (s : State) (o : Outcome) (t : State) : Prop := o = .returned (some (.int 1)) ∧ Framed s o t [] 601024 7293034
def lw_Z (below : List Frame) (a : Array Value) (s : State) : State → Prop := fun t => ∃ o, t.status = .running ∧ Ended t below o ∧ lw_Q a s o t
/-- the law's own end, with 1 on the stack, nothing written that was there before, its room as the claim has it -/
theorem lw_ret {p : Program} {l : Launch} {e : Env} {s : State} {m : MethodId} {below : List Frame} {meth : Method} {c : Code} {b : Nat} (hx : p.tables.exec = Jvm.exec) (hb : c.code = code) (hr : meth.sig.returnType = ret) (hlocks : meth.locks = false) {pc : Nat} {H : Heap} {ls : Array Slot} (hdg : decode code pc = .ok (.ireturn, 1)) : W p l e room_1 s m #[Value.ref b] below meth c H [] 601024 7293034 (lw_Z below #[Value.ref b] s) (F0 m pc ls [.int 1]) := by
  intro T hT X
  obtain ⟨fs, hret, hrun, hended, hW, hframe⟩ := X.leave (v := some (.int 1)) (hlocks := hlocks) (fun h => by rw [hr] at h; cases h)
  have hmeth' : T.vm.method? m = some meth := X.method'
  refine ⟨T.setFrames fs, ?_, .returned (some (.int 1)), hrun, hended, rfl, ⟨_, rfl⟩, hW, hframe⟩
  jvm_step X.here [X.here.top, hx, hb, hdg, hmeth', hr, ret, narrow_b1]
  (try refine ⟨rfl, ?_⟩); (try refine ⟨rfl, ?_⟩)
  first | (intro acts; rw [hret _ acts rfl rfl rfl]) | rw [hret _ _ rfl rfl rfl]
  exact Steps.refl _
/-- what holds at the law's entry: the machine, the code, the tables' words (any of lw_tbl by 'hts w (by decide +kernel)'), the script of L ints xs at the cell b, what the Statement gives of the start (any of its parts by flat_of_before) -/
def lw_At (p : Program) (s : State) (m : MethodId) (meth : Method) (c : Code) (b L : Nat) (xs : Nat → Int32) : Prop :=
  p.tables.exec = Jvm.exec ∧ c.code = code ∧ meth.sig.returnType = ret ∧ c.maxLocals = 7 ∧ s.vm.findClass R_law = some m.cls ∧ (∀ w ∈ lw_tbl, w.before #[Value.ref b] s = true) ∧ va_X b L xs s s.heap ∧ b < s.heap.size ∧ meth.locks = false ∧ (Jvm.Cond.and given_1 narrow_1).before #[Value.ref b] s = true
theorem nd_LW_law_0 : decode code 0 = .ok (.new 8, 3) := by decide +kernel
theorem nd_LW_law_3 : decode code 3 = .ok (.dup, 1) := by decide +kernel
theorem nd_LW_law_4 : decode code 4 = .ok (.invokespecial 62, 3) := by decide +kernel
theorem nd_LW_law_7 : decode code 7 = .ok (.astore_n 1, 1) := by decide +kernel
theorem nd_LW_law_8 : decode code 8 = .ok (.new 63, 3) := by decide +kernel
theorem nd_LW_law_11 : decode code 11 = .ok (.dup, 1) := by decide +kernel
theorem nd_LW_law_12 : decode code 12 = .ok (.invokespecial 65, 3) := by decide +kernel
theorem nd_LW_law_15 : decode code 15 = .ok (.astore_n 2, 1) := by decide +kernel
theorem nd_LW_law_16 : decode code 16 = .ok (.iconst 1, 1) := by decide +kernel
theorem nd_LW_law_17 : decode code 17 = .ok (.newarray .long, 2) := by decide +kernel
theorem nd_LW_law_19 : decode code 19 = .ok (.astore_n 3, 1) := by decide +kernel
theorem nd_LW_law_20 : decode code 20 = .ok (.iconst 0, 1) := by decide +kernel
theorem nd_LW_law_21 : decode code 21 = .ok (.istore 4, 2) := by decide +kernel
theorem nd_LW_law_23 : decode code 23 = .ok (.iload 4, 2) := by decide +kernel
theorem nd_LW_law_25 : decode code 25 = .ok (.aload_n 0, 1) := by decide +kernel
theorem nd_LW_law_26 : decode code 26 = .ok (.arraylength, 1) := by decide +kernel
theorem nd_LW_law_27 : decode code 27 = .ok (.iconst 3, 1) := by decide +kernel
theorem nd_LW_law_28 : decode code 28 = .ok (.isub, 1) := by decide +kernel
theorem nd_LW_law_29 : decode code 29 = .ok (.if_icmp .gt 961, 3) := by decide +kernel
theorem nd_LW_law_32 : decode code 32 = .ok (.aload_n 0, 1) := by decide +kernel
theorem nd_LW_law_33 : decode code 33 = .ok (.iload 4, 2) := by decide +kernel
theorem nd_LW_law_35 : decode code 35 = .ok (.iaload, 1) := by decide +kernel
theorem nd_LW_law_36 : decode code 36 = .ok (.bipush 31, 2) := by decide +kernel
theorem nd_LW_law_38 : decode code 38 = .ok (.iand, 1) := by decide +kernel
theorem nd_LW_law_39 : decode code 39 = .ok (.tableswitch 945 0 17 #[85, 153, 209, 277, 345, 401, 457, 525, 593, 637, 693, 749, 793, 837, 881, 906, 919, 932], 85) := by decide +kernel
theorem nd_LW_law_124 : decode code 124 = .ok (.aload_n 1, 1) := by decide +kernel
theorem nd_LW_law_125 : decode code 125 = .ok (.aload_n 0, 1) := by decide +kernel
theorem nd_LW_law_126 : decode code 126 = .ok (.iload 4, 2) := by decide +kernel
theorem nd_LW_law_128 : decode code 128 = .ok (.iconst 1, 1) := by decide +kernel
theorem nd_LW_law_129 : decode code 129 = .ok (.iadd, 1) := by decide +kernel
theorem nd_LW_law_130 : decode code 130 = .ok (.iaload, 1) := by decide +kernel
theorem nd_LW_law_131 : decode code 131 = .ok (.aload_n 0, 1) := by decide +kernel
theorem nd_LW_law_132 : decode code 132 = .ok (.iload 4, 2) := by decide +kernel
theorem nd_LW_law_134 : decode code 134 = .ok (.iconst 2, 1) := by decide +kernel
theorem nd_LW_law_135 : decode code 135 = .ok (.iadd, 1) := by decide +kernel
theorem nd_LW_law_136 : decode code 136 = .ok (.iaload, 1) := by decide +kernel
theorem nd_LW_law_137 : decode code 137 = .ok (.aload_n 3, 1) := by decide +kernel
theorem nd_LW_law_138 : decode code 138 = .ok (.invokestatic 66, 3) := by decide +kernel
theorem nd_LW_law_141 : decode code 141 = .ok (.istore 5, 2) := by decide +kernel
theorem nd_LW_law_143 : decode code 143 = .ok (.aload_n 2, 1) := by decide +kernel
theorem nd_LW_law_144 : decode code 144 = .ok (.aload_n 0, 1) := by decide +kernel
theorem nd_LW_law_145 : decode code 145 = .ok (.iload 4, 2) := by decide +kernel
theorem nd_LW_law_147 : decode code 147 = .ok (.iconst 1, 1) := by decide +kernel
theorem nd_LW_law_148 : decode code 148 = .ok (.iadd, 1) := by decide +kernel
theorem nd_LW_law_149 : decode code 149 = .ok (.iaload, 1) := by decide +kernel
theorem nd_LW_law_150 : decode code 150 = .ok (.aload_n 0, 1) := by decide +kernel
theorem nd_LW_law_151 : decode code 151 = .ok (.iload 4, 2) := by decide +kernel
theorem nd_LW_law_153 : decode code 153 = .ok (.iconst 2, 1) := by decide +kernel
theorem nd_LW_law_154 : decode code 154 = .ok (.iadd, 1) := by decide +kernel
theorem nd_LW_law_155 : decode code 155 = .ok (.iaload, 1) := by decide +kernel
theorem nd_LW_law_156 : decode code 156 = .ok (.invokevirtual 71, 3) := by decide +kernel
theorem nd_LW_law_159 : decode code 159 = .ok (.istore 6, 2) := by decide +kernel
theorem nd_LW_law_161 : decode code 161 = .ok (.aload_n 2, 1) := by decide +kernel
theorem nd_LW_law_162 : decode code 162 = .ok (.invokevirtual 72, 3) := by decide +kernel
theorem nd_LW_law_165 : decode code 165 = .ok (.iload 5, 2) := by decide +kernel
theorem nd_LW_law_167 : decode code 167 = .ok (.if_icmp .eq 5, 3) := by decide +kernel
theorem nd_LW_law_170 : decode code 170 = .ok (.iconst 0, 1) := by decide +kernel
theorem nd_LW_law_171 : decode code 171 = .ok (.ireturn, 1) := by decide +kernel
theorem nd_LW_law_172 : decode code 172 = .ok (.iload 5, 2) := by decide +kernel
theorem nd_LW_law_174 : decode code 174 = .ok (.ifCond .ne 15, 3) := by decide +kernel
theorem nd_LW_law_177 : decode code 177 = .ok (.aload_n 3, 1) := by decide +kernel
theorem nd_LW_law_178 : decode code 178 = .ok (.iconst 0, 1) := by decide +kernel
theorem nd_LW_law_179 : decode code 179 = .ok (.laload, 1) := by decide +kernel
theorem nd_LW_law_180 : decode code 180 = .ok (.iload 6, 2) := by decide +kernel
theorem nd_LW_law_182 : decode code 182 = .ok (.i2l, 1) := by decide +kernel
theorem nd_LW_law_183 : decode code 183 = .ok (.lcmp, 1) := by decide +kernel
theorem nd_LW_law_184 : decode code 184 = .ok (.ifCond .eq 5, 3) := by decide +kernel
theorem nd_LW_law_187 : decode code 187 = .ok (.iconst 0, 1) := by decide +kernel
theorem nd_LW_law_188 : decode code 188 = .ok (.ireturn, 1) := by decide +kernel
theorem nd_LW_law_189 : decode code 189 = .ok (.goto 795, 3) := by decide +kernel
theorem nd_LW_law_192 : decode code 192 = .ok (.aload_n 1, 1) := by decide +kernel
theorem nd_LW_law_193 : decode code 193 = .ok (.aload_n 0, 1) := by decide +kernel
theorem nd_LW_law_194 : decode code 194 = .ok (.iload 4, 2) := by decide +kernel
theorem nd_LW_law_196 : decode code 196 = .ok (.iconst 1, 1) := by decide +kernel
theorem nd_LW_law_197 : decode code 197 = .ok (.iadd, 1) := by decide +kernel
theorem nd_LW_law_198 : decode code 198 = .ok (.iaload, 1) := by decide +kernel
theorem nd_LW_law_199 : decode code 199 = .ok (.aload_n 3, 1) := by decide +kernel
theorem nd_LW_law_200 : decode code 200 = .ok (.invokestatic 75, 3) := by decide +kernel
theorem nd_LW_law_203 : decode code 203 = .ok (.istore 5, 2) := by decide +kernel
theorem nd_LW_law_205 : decode code 205 = .ok (.aload_n 2, 1) := by decide +kernel
theorem nd_LW_law_206 : decode code 206 = .ok (.aload_n 0, 1) := by decide +kernel
theorem nd_LW_law_207 : decode code 207 = .ok (.iload 4, 2) := by decide +kernel
theorem nd_LW_law_209 : decode code 209 = .ok (.iconst 1, 1) := by decide +kernel
theorem nd_LW_law_210 : decode code 210 = .ok (.iadd, 1) := by decide +kernel
theorem nd_LW_law_211 : decode code 211 = .ok (.iaload, 1) := by decide +kernel
theorem nd_LW_law_212 : decode code 212 = .ok (.invokevirtual 78, 3) := by decide +kernel
theorem nd_LW_law_215 : decode code 215 = .ok (.istore 6, 2) := by decide +kernel
theorem nd_LW_law_217 : decode code 217 = .ok (.aload_n 2, 1) := by decide +kernel
theorem nd_LW_law_218 : decode code 218 = .ok (.invokevirtual 72, 3) := by decide +kernel
theorem nd_LW_law_221 : decode code 221 = .ok (.iload 5, 2) := by decide +kernel
theorem nd_LW_law_223 : decode code 223 = .ok (.if_icmp .eq 5, 3) := by decide +kernel
theorem nd_LW_law_226 : decode code 226 = .ok (.iconst 0, 1) := by decide +kernel
theorem nd_LW_law_227 : decode code 227 = .ok (.ireturn, 1) := by decide +kernel
theorem nd_LW_law_228 : decode code 228 = .ok (.iload 5, 2) := by decide +kernel
theorem nd_LW_law_230 : decode code 230 = .ok (.ifCond .ne 15, 3) := by decide +kernel
theorem nd_LW_law_233 : decode code 233 = .ok (.aload_n 3, 1) := by decide +kernel
theorem nd_LW_law_234 : decode code 234 = .ok (.iconst 0, 1) := by decide +kernel
theorem nd_LW_law_235 : decode code 235 = .ok (.laload, 1) := by decide +kernel
theorem nd_LW_law_236 : decode code 236 = .ok (.iload 6, 2) := by decide +kernel
theorem nd_LW_law_238 : decode code 238 = .ok (.i2l, 1) := by decide +kernel
theorem nd_LW_law_239 : decode code 239 = .ok (.lcmp, 1) := by decide +kernel
theorem nd_LW_law_240 : decode code 240 = .ok (.ifCond .eq 5, 3) := by decide +kernel
theorem nd_LW_law_243 : decode code 243 = .ok (.iconst 0, 1) := by decide +kernel
theorem nd_LW_law_244 : decode code 244 = .ok (.ireturn, 1) := by decide +kernel
theorem nd_LW_law_245 : decode code 245 = .ok (.goto 739, 3) := by decide +kernel
theorem nd_LW_law_248 : decode code 248 = .ok (.aload_n 1, 1) := by decide +kernel
theorem nd_LW_law_249 : decode code 249 = .ok (.aload_n 0, 1) := by decide +kernel
theorem nd_LW_law_250 : decode code 250 = .ok (.iload 4, 2) := by decide +kernel
theorem nd_LW_law_252 : decode code 252 = .ok (.iconst 1, 1) := by decide +kernel
theorem nd_LW_law_253 : decode code 253 = .ok (.iadd, 1) := by decide +kernel
theorem nd_LW_law_254 : decode code 254 = .ok (.iaload, 1) := by decide +kernel
theorem nd_LW_law_255 : decode code 255 = .ok (.aload_n 0, 1) := by decide +kernel
theorem nd_LW_law_256 : decode code 256 = .ok (.iload 4, 2) := by decide +kernel
theorem nd_LW_law_258 : decode code 258 = .ok (.iconst 2, 1) := by decide +kernel
theorem nd_LW_law_259 : decode code 259 = .ok (.iadd, 1) := by decide +kernel
theorem nd_LW_law_260 : decode code 260 = .ok (.iaload, 1) := by decide +kernel
theorem nd_LW_law_261 : decode code 261 = .ok (.aload_n 3, 1) := by decide +kernel
theorem nd_LW_law_262 : decode code 262 = .ok (.invokestatic 79, 3) := by decide +kernel
theorem nd_LW_law_265 : decode code 265 = .ok (.istore 5, 2) := by decide +kernel
theorem nd_LW_law_267 : decode code 267 = .ok (.aload_n 2, 1) := by decide +kernel
theorem nd_LW_law_268 : decode code 268 = .ok (.aload_n 0, 1) := by decide +kernel
theorem nd_LW_law_269 : decode code 269 = .ok (.iload 4, 2) := by decide +kernel
theorem nd_LW_law_271 : decode code 271 = .ok (.iconst 1, 1) := by decide +kernel
theorem nd_LW_law_272 : decode code 272 = .ok (.iadd, 1) := by decide +kernel
theorem nd_LW_law_273 : decode code 273 = .ok (.iaload, 1) := by decide +kernel
theorem nd_LW_law_274 : decode code 274 = .ok (.aload_n 0, 1) := by decide +kernel
theorem nd_LW_law_275 : decode code 275 = .ok (.iload 4, 2) := by decide +kernel
theorem nd_LW_law_277 : decode code 277 = .ok (.iconst 2, 1) := by decide +kernel
theorem nd_LW_law_278 : decode code 278 = .ok (.iadd, 1) := by decide +kernel
theorem nd_LW_law_279 : decode code 279 = .ok (.iaload, 1) := by decide +kernel
theorem nd_LW_law_280 : decode code 280 = .ok (.invokevirtual 81, 3) := by decide +kernel
theorem nd_LW_law_283 : decode code 283 = .ok (.istore 6, 2) := by decide +kernel
theorem nd_LW_law_285 : decode code 285 = .ok (.aload_n 2, 1) := by decide +kernel
theorem nd_LW_law_286 : decode code 286 = .ok (.invokevirtual 72, 3) := by decide +kernel
theorem nd_LW_law_289 : decode code 289 = .ok (.iload 5, 2) := by decide +kernel
theorem nd_LW_law_291 : decode code 291 = .ok (.if_icmp .eq 5, 3) := by decide +kernel
theorem nd_LW_law_294 : decode code 294 = .ok (.iconst 0, 1) := by decide +kernel
theorem nd_LW_law_295 : decode code 295 = .ok (.ireturn, 1) := by decide +kernel
theorem nd_LW_law_296 : decode code 296 = .ok (.iload 5, 2) := by decide +kernel
theorem nd_LW_law_298 : decode code 298 = .ok (.ifCond .ne 15, 3) := by decide +kernel
theorem nd_LW_law_301 : decode code 301 = .ok (.aload_n 3, 1) := by decide +kernel
theorem nd_LW_law_302 : decode code 302 = .ok (.iconst 0, 1) := by decide +kernel
theorem nd_LW_law_303 : decode code 303 = .ok (.laload, 1) := by decide +kernel
theorem nd_LW_law_304 : decode code 304 = .ok (.iload 6, 2) := by decide +kernel
theorem nd_LW_law_306 : decode code 306 = .ok (.i2l, 1) := by decide +kernel
theorem nd_LW_law_307 : decode code 307 = .ok (.lcmp, 1) := by decide +kernel
theorem nd_LW_law_308 : decode code 308 = .ok (.ifCond .eq 5, 3) := by decide +kernel
theorem nd_LW_law_311 : decode code 311 = .ok (.iconst 0, 1) := by decide +kernel
theorem nd_LW_law_312 : decode code 312 = .ok (.ireturn, 1) := by decide +kernel
theorem nd_LW_law_313 : decode code 313 = .ok (.goto 671, 3) := by decide +kernel
theorem nd_LW_law_316 : decode code 316 = .ok (.aload_n 1, 1) := by decide +kernel
theorem nd_LW_law_317 : decode code 317 = .ok (.aload_n 0, 1) := by decide +kernel
theorem nd_LW_law_318 : decode code 318 = .ok (.iload 4, 2) := by decide +kernel
theorem nd_LW_law_320 : decode code 320 = .ok (.iconst 1, 1) := by decide +kernel
theorem nd_LW_law_321 : decode code 321 = .ok (.iadd, 1) := by decide +kernel
theorem nd_LW_law_322 : decode code 322 = .ok (.iaload, 1) := by decide +kernel
theorem nd_LW_law_323 : decode code 323 = .ok (.aload_n 0, 1) := by decide +kernel
theorem nd_LW_law_324 : decode code 324 = .ok (.iload 4, 2) := by decide +kernel
theorem nd_LW_law_326 : decode code 326 = .ok (.iconst 2, 1) := by decide +kernel
theorem nd_LW_law_327 : decode code 327 = .ok (.iadd, 1) := by decide +kernel
theorem nd_LW_law_328 : decode code 328 = .ok (.iaload, 1) := by decide +kernel
theorem nd_LW_law_329 : decode code 329 = .ok (.aload_n 3, 1) := by decide +kernel
theorem nd_LW_law_330 : decode code 330 = .ok (.invokestatic 82, 3) := by decide +kernel
theorem nd_LW_law_333 : decode code 333 = .ok (.istore 5, 2) := by decide +kernel
theorem nd_LW_law_335 : decode code 335 = .ok (.aload_n 2, 1) := by decide +kernel
theorem nd_LW_law_336 : decode code 336 = .ok (.aload_n 0, 1) := by decide +kernel
theorem nd_LW_law_337 : decode code 337 = .ok (.iload 4, 2) := by decide +kernel
theorem nd_LW_law_339 : decode code 339 = .ok (.iconst 1, 1) := by decide +kernel
theorem nd_LW_law_340 : decode code 340 = .ok (.iadd, 1) := by decide +kernel
theorem nd_LW_law_341 : decode code 341 = .ok (.iaload, 1) := by decide +kernel
theorem nd_LW_law_342 : decode code 342 = .ok (.aload_n 0, 1) := by decide +kernel
theorem nd_LW_law_343 : decode code 343 = .ok (.iload 4, 2) := by decide +kernel
theorem nd_LW_law_345 : decode code 345 = .ok (.iconst 2, 1) := by decide +kernel
theorem nd_LW_law_346 : decode code 346 = .ok (.iadd, 1) := by decide +kernel
theorem nd_LW_law_347 : decode code 347 = .ok (.iaload, 1) := by decide +kernel
theorem nd_LW_law_348 : decode code 348 = .ok (.invokevirtual 84, 3) := by decide +kernel
theorem nd_LW_law_351 : decode code 351 = .ok (.istore 6, 2) := by decide +kernel
theorem nd_LW_law_353 : decode code 353 = .ok (.aload_n 2, 1) := by decide +kernel
theorem nd_LW_law_354 : decode code 354 = .ok (.invokevirtual 72, 3) := by decide +kernel
theorem nd_LW_law_357 : decode code 357 = .ok (.iload 5, 2) := by decide +kernel
theorem nd_LW_law_359 : decode code 359 = .ok (.if_icmp .eq 5, 3) := by decide +kernel
theorem nd_LW_law_362 : decode code 362 = .ok (.iconst 0, 1) := by decide +kernel
theorem nd_LW_law_363 : decode code 363 = .ok (.ireturn, 1) := by decide +kernel
theorem nd_LW_law_364 : decode code 364 = .ok (.iload 5, 2) := by decide +kernel
theorem nd_LW_law_366 : decode code 366 = .ok (.ifCond .ne 15, 3) := by decide +kernel
theorem nd_LW_law_369 : decode code 369 = .ok (.aload_n 3, 1) := by decide +kernel
theorem nd_LW_law_370 : decode code 370 = .ok (.iconst 0, 1) := by decide +kernel
theorem nd_LW_law_371 : decode code 371 = .ok (.laload, 1) := by decide +kernel
theorem nd_LW_law_372 : decode code 372 = .ok (.iload 6, 2) := by decide +kernel
theorem nd_LW_law_374 : decode code 374 = .ok (.i2l, 1) := by decide +kernel
theorem nd_LW_law_375 : decode code 375 = .ok (.lcmp, 1) := by decide +kernel
theorem nd_LW_law_376 : decode code 376 = .ok (.ifCond .eq 5, 3) := by decide +kernel
theorem nd_LW_law_379 : decode code 379 = .ok (.iconst 0, 1) := by decide +kernel
theorem nd_LW_law_380 : decode code 380 = .ok (.ireturn, 1) := by decide +kernel
theorem nd_LW_law_381 : decode code 381 = .ok (.goto 603, 3) := by decide +kernel
theorem nd_LW_law_384 : decode code 384 = .ok (.aload_n 1, 1) := by decide +kernel
theorem nd_LW_law_385 : decode code 385 = .ok (.aload_n 0, 1) := by decide +kernel
theorem nd_LW_law_386 : decode code 386 = .ok (.iload 4, 2) := by decide +kernel
theorem nd_LW_law_388 : decode code 388 = .ok (.iconst 1, 1) := by decide +kernel
theorem nd_LW_law_389 : decode code 389 = .ok (.iadd, 1) := by decide +kernel
theorem nd_LW_law_390 : decode code 390 = .ok (.iaload, 1) := by decide +kernel
theorem nd_LW_law_391 : decode code 391 = .ok (.aload_n 3, 1) := by decide +kernel
theorem nd_LW_law_392 : decode code 392 = .ok (.invokestatic 85, 3) := by decide +kernel
theorem nd_LW_law_395 : decode code 395 = .ok (.istore 5, 2) := by decide +kernel
theorem nd_LW_law_397 : decode code 397 = .ok (.aload_n 2, 1) := by decide +kernel
theorem nd_LW_law_398 : decode code 398 = .ok (.aload_n 0, 1) := by decide +kernel
theorem nd_LW_law_399 : decode code 399 = .ok (.iload 4, 2) := by decide +kernel
theorem nd_LW_law_401 : decode code 401 = .ok (.iconst 1, 1) := by decide +kernel
theorem nd_LW_law_402 : decode code 402 = .ok (.iadd, 1) := by decide +kernel
theorem nd_LW_law_403 : decode code 403 = .ok (.iaload, 1) := by decide +kernel
theorem nd_LW_law_404 : decode code 404 = .ok (.invokevirtual 87, 3) := by decide +kernel
theorem nd_LW_law_407 : decode code 407 = .ok (.istore 6, 2) := by decide +kernel
theorem nd_LW_law_409 : decode code 409 = .ok (.aload_n 2, 1) := by decide +kernel
theorem nd_LW_law_410 : decode code 410 = .ok (.invokevirtual 72, 3) := by decide +kernel
theorem nd_LW_law_413 : decode code 413 = .ok (.iload 5, 2) := by decide +kernel
theorem nd_LW_law_415 : decode code 415 = .ok (.if_icmp .eq 5, 3) := by decide +kernel
theorem nd_LW_law_418 : decode code 418 = .ok (.iconst 0, 1) := by decide +kernel
theorem nd_LW_law_419 : decode code 419 = .ok (.ireturn, 1) := by decide +kernel
theorem nd_LW_law_420 : decode code 420 = .ok (.iload 5, 2) := by decide +kernel
theorem nd_LW_law_422 : decode code 422 = .ok (.ifCond .ne 15, 3) := by decide +kernel
theorem nd_LW_law_425 : decode code 425 = .ok (.aload_n 3, 1) := by decide +kernel
theorem nd_LW_law_426 : decode code 426 = .ok (.iconst 0, 1) := by decide +kernel
theorem nd_LW_law_427 : decode code 427 = .ok (.laload, 1) := by decide +kernel
theorem nd_LW_law_428 : decode code 428 = .ok (.iload 6, 2) := by decide +kernel
theorem nd_LW_law_430 : decode code 430 = .ok (.i2l, 1) := by decide +kernel
theorem nd_LW_law_431 : decode code 431 = .ok (.lcmp, 1) := by decide +kernel
theorem nd_LW_law_432 : decode code 432 = .ok (.ifCond .eq 5, 3) := by decide +kernel
theorem nd_LW_law_435 : decode code 435 = .ok (.iconst 0, 1) := by decide +kernel
theorem nd_LW_law_436 : decode code 436 = .ok (.ireturn, 1) := by decide +kernel
theorem nd_LW_law_437 : decode code 437 = .ok (.goto 547, 3) := by decide +kernel
theorem nd_LW_law_440 : decode code 440 = .ok (.aload_n 1, 1) := by decide +kernel
theorem nd_LW_law_441 : decode code 441 = .ok (.aload_n 0, 1) := by decide +kernel
theorem nd_LW_law_442 : decode code 442 = .ok (.iload 4, 2) := by decide +kernel
theorem nd_LW_law_444 : decode code 444 = .ok (.iconst 1, 1) := by decide +kernel
theorem nd_LW_law_445 : decode code 445 = .ok (.iadd, 1) := by decide +kernel
theorem nd_LW_law_446 : decode code 446 = .ok (.iaload, 1) := by decide +kernel
theorem nd_LW_law_447 : decode code 447 = .ok (.aload_n 3, 1) := by decide +kernel
theorem nd_LW_law_448 : decode code 448 = .ok (.invokestatic 88, 3) := by decide +kernel
theorem nd_LW_law_451 : decode code 451 = .ok (.istore 5, 2) := by decide +kernel
theorem nd_LW_law_453 : decode code 453 = .ok (.aload_n 2, 1) := by decide +kernel
theorem nd_LW_law_454 : decode code 454 = .ok (.aload_n 0, 1) := by decide +kernel
theorem nd_LW_law_455 : decode code 455 = .ok (.iload 4, 2) := by decide +kernel
theorem nd_LW_law_457 : decode code 457 = .ok (.iconst 1, 1) := by decide +kernel
theorem nd_LW_law_458 : decode code 458 = .ok (.iadd, 1) := by decide +kernel
theorem nd_LW_law_459 : decode code 459 = .ok (.iaload, 1) := by decide +kernel
theorem nd_LW_law_460 : decode code 460 = .ok (.invokevirtual 90, 3) := by decide +kernel
theorem nd_LW_law_463 : decode code 463 = .ok (.istore 6, 2) := by decide +kernel
theorem nd_LW_law_465 : decode code 465 = .ok (.aload_n 2, 1) := by decide +kernel
theorem nd_LW_law_466 : decode code 466 = .ok (.invokevirtual 72, 3) := by decide +kernel
theorem nd_LW_law_469 : decode code 469 = .ok (.iload 5, 2) := by decide +kernel
theorem nd_LW_law_471 : decode code 471 = .ok (.if_icmp .eq 5, 3) := by decide +kernel
theorem nd_LW_law_474 : decode code 474 = .ok (.iconst 0, 1) := by decide +kernel
theorem nd_LW_law_475 : decode code 475 = .ok (.ireturn, 1) := by decide +kernel
theorem nd_LW_law_476 : decode code 476 = .ok (.iload 5, 2) := by decide +kernel
theorem nd_LW_law_478 : decode code 478 = .ok (.ifCond .ne 15, 3) := by decide +kernel
theorem nd_LW_law_481 : decode code 481 = .ok (.aload_n 3, 1) := by decide +kernel
theorem nd_LW_law_482 : decode code 482 = .ok (.iconst 0, 1) := by decide +kernel
theorem nd_LW_law_483 : decode code 483 = .ok (.laload, 1) := by decide +kernel
theorem nd_LW_law_484 : decode code 484 = .ok (.iload 6, 2) := by decide +kernel
theorem nd_LW_law_486 : decode code 486 = .ok (.i2l, 1) := by decide +kernel
theorem nd_LW_law_487 : decode code 487 = .ok (.lcmp, 1) := by decide +kernel
theorem nd_LW_law_488 : decode code 488 = .ok (.ifCond .eq 5, 3) := by decide +kernel
theorem nd_LW_law_491 : decode code 491 = .ok (.iconst 0, 1) := by decide +kernel
theorem nd_LW_law_492 : decode code 492 = .ok (.ireturn, 1) := by decide +kernel
theorem nd_LW_law_493 : decode code 493 = .ok (.goto 491, 3) := by decide +kernel
theorem nd_LW_law_496 : decode code 496 = .ok (.aload_n 1, 1) := by decide +kernel
theorem nd_LW_law_497 : decode code 497 = .ok (.aload_n 0, 1) := by decide +kernel
theorem nd_LW_law_498 : decode code 498 = .ok (.iload 4, 2) := by decide +kernel
theorem nd_LW_law_500 : decode code 500 = .ok (.iconst 1, 1) := by decide +kernel
theorem nd_LW_law_501 : decode code 501 = .ok (.iadd, 1) := by decide +kernel
theorem nd_LW_law_502 : decode code 502 = .ok (.iaload, 1) := by decide +kernel
theorem nd_LW_law_503 : decode code 503 = .ok (.aload_n 0, 1) := by decide +kernel
theorem nd_LW_law_504 : decode code 504 = .ok (.iload 4, 2) := by decide +kernel
theorem nd_LW_law_506 : decode code 506 = .ok (.iconst 2, 1) := by decide +kernel
theorem nd_LW_law_507 : decode code 507 = .ok (.iadd, 1) := by decide +kernel
theorem nd_LW_law_508 : decode code 508 = .ok (.iaload, 1) := by decide +kernel
theorem nd_LW_law_509 : decode code 509 = .ok (.aload_n 3, 1) := by decide +kernel
theorem nd_LW_law_510 : decode code 510 = .ok (.invokestatic 91, 3) := by decide +kernel
theorem nd_LW_law_513 : decode code 513 = .ok (.istore 5, 2) := by decide +kernel
theorem nd_LW_law_515 : decode code 515 = .ok (.aload_n 2, 1) := by decide +kernel
theorem nd_LW_law_516 : decode code 516 = .ok (.aload_n 0, 1) := by decide +kernel
theorem nd_LW_law_517 : decode code 517 = .ok (.iload 4, 2) := by decide +kernel
theorem nd_LW_law_519 : decode code 519 = .ok (.iconst 1, 1) := by decide +kernel
theorem nd_LW_law_520 : decode code 520 = .ok (.iadd, 1) := by decide +kernel
theorem nd_LW_law_521 : decode code 521 = .ok (.iaload, 1) := by decide +kernel
theorem nd_LW_law_522 : decode code 522 = .ok (.aload_n 0, 1) := by decide +kernel
theorem nd_LW_law_523 : decode code 523 = .ok (.iload 4, 2) := by decide +kernel
theorem nd_LW_law_525 : decode code 525 = .ok (.iconst 2, 1) := by decide +kernel
theorem nd_LW_law_526 : decode code 526 = .ok (.iadd, 1) := by decide +kernel
theorem nd_LW_law_527 : decode code 527 = .ok (.iaload, 1) := by decide +kernel
theorem nd_LW_law_528 : decode code 528 = .ok (.invokevirtual 93, 3) := by decide +kernel
theorem nd_LW_law_531 : decode code 531 = .ok (.istore 6, 2) := by decide +kernel
theorem nd_LW_law_533 : decode code 533 = .ok (.aload_n 2, 1) := by decide +kernel
theorem nd_LW_law_534 : decode code 534 = .ok (.invokevirtual 72, 3) := by decide +kernel
theorem nd_LW_law_537 : decode code 537 = .ok (.iload 5, 2) := by decide +kernel
theorem nd_LW_law_539 : decode code 539 = .ok (.if_icmp .eq 5, 3) := by decide +kernel
theorem nd_LW_law_542 : decode code 542 = .ok (.iconst 0, 1) := by decide +kernel
theorem nd_LW_law_543 : decode code 543 = .ok (.ireturn, 1) := by decide +kernel
theorem nd_LW_law_544 : decode code 544 = .ok (.iload 5, 2) := by decide +kernel
theorem nd_LW_law_546 : decode code 546 = .ok (.ifCond .ne 15, 3) := by decide +kernel
theorem nd_LW_law_549 : decode code 549 = .ok (.aload_n 3, 1) := by decide +kernel
theorem nd_LW_law_550 : decode code 550 = .ok (.iconst 0, 1) := by decide +kernel
theorem nd_LW_law_551 : decode code 551 = .ok (.laload, 1) := by decide +kernel
theorem nd_LW_law_552 : decode code 552 = .ok (.iload 6, 2) := by decide +kernel
theorem nd_LW_law_554 : decode code 554 = .ok (.i2l, 1) := by decide +kernel
theorem nd_LW_law_555 : decode code 555 = .ok (.lcmp, 1) := by decide +kernel
theorem nd_LW_law_556 : decode code 556 = .ok (.ifCond .eq 5, 3) := by decide +kernel
theorem nd_LW_law_559 : decode code 559 = .ok (.iconst 0, 1) := by decide +kernel
theorem nd_LW_law_560 : decode code 560 = .ok (.ireturn, 1) := by decide +kernel
theorem nd_LW_law_561 : decode code 561 = .ok (.goto 423, 3) := by decide +kernel
theorem nd_LW_law_564 : decode code 564 = .ok (.aload_n 1, 1) := by decide +kernel
theorem nd_LW_law_565 : decode code 565 = .ok (.aload_n 0, 1) := by decide +kernel
theorem nd_LW_law_566 : decode code 566 = .ok (.iload 4, 2) := by decide +kernel
theorem nd_LW_law_568 : decode code 568 = .ok (.iconst 1, 1) := by decide +kernel
theorem nd_LW_law_569 : decode code 569 = .ok (.iadd, 1) := by decide +kernel
theorem nd_LW_law_570 : decode code 570 = .ok (.iaload, 1) := by decide +kernel
theorem nd_LW_law_571 : decode code 571 = .ok (.aload_n 0, 1) := by decide +kernel
theorem nd_LW_law_572 : decode code 572 = .ok (.iload 4, 2) := by decide +kernel
theorem nd_LW_law_574 : decode code 574 = .ok (.iconst 2, 1) := by decide +kernel
theorem nd_LW_law_575 : decode code 575 = .ok (.iadd, 1) := by decide +kernel
theorem nd_LW_law_576 : decode code 576 = .ok (.iaload, 1) := by decide +kernel
theorem nd_LW_law_577 : decode code 577 = .ok (.aload_n 3, 1) := by decide +kernel
theorem nd_LW_law_578 : decode code 578 = .ok (.invokestatic 94, 3) := by decide +kernel
theorem nd_LW_law_581 : decode code 581 = .ok (.istore 5, 2) := by decide +kernel
theorem nd_LW_law_583 : decode code 583 = .ok (.aload_n 2, 1) := by decide +kernel
theorem nd_LW_law_584 : decode code 584 = .ok (.aload_n 0, 1) := by decide +kernel
theorem nd_LW_law_585 : decode code 585 = .ok (.iload 4, 2) := by decide +kernel
theorem nd_LW_law_587 : decode code 587 = .ok (.iconst 1, 1) := by decide +kernel
theorem nd_LW_law_588 : decode code 588 = .ok (.iadd, 1) := by decide +kernel
theorem nd_LW_law_589 : decode code 589 = .ok (.iaload, 1) := by decide +kernel
theorem nd_LW_law_590 : decode code 590 = .ok (.aload_n 0, 1) := by decide +kernel
theorem nd_LW_law_591 : decode code 591 = .ok (.iload 4, 2) := by decide +kernel
theorem nd_LW_law_593 : decode code 593 = .ok (.iconst 2, 1) := by decide +kernel
theorem nd_LW_law_594 : decode code 594 = .ok (.iadd, 1) := by decide +kernel
theorem nd_LW_law_595 : decode code 595 = .ok (.iaload, 1) := by decide +kernel
theorem nd_LW_law_596 : decode code 596 = .ok (.invokevirtual 96, 3) := by decide +kernel
theorem nd_LW_law_599 : decode code 599 = .ok (.istore 6, 2) := by decide +kernel
theorem nd_LW_law_601 : decode code 601 = .ok (.aload_n 2, 1) := by decide +kernel
theorem nd_LW_law_602 : decode code 602 = .ok (.invokevirtual 72, 3) := by decide +kernel
theorem nd_LW_law_605 : decode code 605 = .ok (.iload 5, 2) := by decide +kernel
theorem nd_LW_law_607 : decode code 607 = .ok (.if_icmp .eq 5, 3) := by decide +kernel
theorem nd_LW_law_610 : decode code 610 = .ok (.iconst 0, 1) := by decide +kernel
theorem nd_LW_law_611 : decode code 611 = .ok (.ireturn, 1) := by decide +kernel
theorem nd_LW_law_612 : decode code 612 = .ok (.iload 5, 2) := by decide +kernel
theorem nd_LW_law_614 : decode code 614 = .ok (.ifCond .ne 15, 3) := by decide +kernel
theorem nd_LW_law_617 : decode code 617 = .ok (.aload_n 3, 1) := by decide +kernel
theorem nd_LW_law_618 : decode code 618 = .ok (.iconst 0, 1) := by decide +kernel
theorem nd_LW_law_619 : decode code 619 = .ok (.laload, 1) := by decide +kernel
theorem nd_LW_law_620 : decode code 620 = .ok (.iload 6, 2) := by decide +kernel
theorem nd_LW_law_622 : decode code 622 = .ok (.i2l, 1) := by decide +kernel
theorem nd_LW_law_623 : decode code 623 = .ok (.lcmp, 1) := by decide +kernel
theorem nd_LW_law_624 : decode code 624 = .ok (.ifCond .eq 5, 3) := by decide +kernel
theorem nd_LW_law_627 : decode code 627 = .ok (.iconst 0, 1) := by decide +kernel
theorem nd_LW_law_628 : decode code 628 = .ok (.ireturn, 1) := by decide +kernel
theorem nd_LW_law_629 : decode code 629 = .ok (.goto 355, 3) := by decide +kernel
theorem nd_LW_law_632 : decode code 632 = .ok (.aload_n 1, 1) := by decide +kernel
theorem nd_LW_law_633 : decode code 633 = .ok (.aload_n 3, 1) := by decide +kernel
theorem nd_LW_law_634 : decode code 634 = .ok (.invokestatic 97, 3) := by decide +kernel
theorem nd_LW_law_637 : decode code 637 = .ok (.istore 5, 2) := by decide +kernel
theorem nd_LW_law_639 : decode code 639 = .ok (.aload_n 2, 1) := by decide +kernel
theorem nd_LW_law_640 : decode code 640 = .ok (.invokevirtual 100, 3) := by decide +kernel
theorem nd_LW_law_643 : decode code 643 = .ok (.istore 6, 2) := by decide +kernel
theorem nd_LW_law_645 : decode code 645 = .ok (.aload_n 2, 1) := by decide +kernel
theorem nd_LW_law_646 : decode code 646 = .ok (.invokevirtual 72, 3) := by decide +kernel
theorem nd_LW_law_649 : decode code 649 = .ok (.iload 5, 2) := by decide +kernel
theorem nd_LW_law_651 : decode code 651 = .ok (.if_icmp .eq 5, 3) := by decide +kernel
theorem nd_LW_law_654 : decode code 654 = .ok (.iconst 0, 1) := by decide +kernel
theorem nd_LW_law_655 : decode code 655 = .ok (.ireturn, 1) := by decide +kernel
theorem nd_LW_law_656 : decode code 656 = .ok (.iload 5, 2) := by decide +kernel
theorem nd_LW_law_658 : decode code 658 = .ok (.ifCond .ne 15, 3) := by decide +kernel
theorem nd_LW_law_661 : decode code 661 = .ok (.aload_n 3, 1) := by decide +kernel
theorem nd_LW_law_662 : decode code 662 = .ok (.iconst 0, 1) := by decide +kernel
theorem nd_LW_law_663 : decode code 663 = .ok (.laload, 1) := by decide +kernel
theorem nd_LW_law_664 : decode code 664 = .ok (.iload 6, 2) := by decide +kernel
theorem nd_LW_law_666 : decode code 666 = .ok (.i2l, 1) := by decide +kernel
theorem nd_LW_law_667 : decode code 667 = .ok (.lcmp, 1) := by decide +kernel
theorem nd_LW_law_668 : decode code 668 = .ok (.ifCond .eq 5, 3) := by decide +kernel
theorem nd_LW_law_671 : decode code 671 = .ok (.iconst 0, 1) := by decide +kernel
theorem nd_LW_law_672 : decode code 672 = .ok (.ireturn, 1) := by decide +kernel
theorem nd_LW_law_673 : decode code 673 = .ok (.goto 311, 3) := by decide +kernel
theorem nd_LW_law_676 : decode code 676 = .ok (.aload_n 1, 1) := by decide +kernel
theorem nd_LW_law_677 : decode code 677 = .ok (.aload_n 0, 1) := by decide +kernel
theorem nd_LW_law_678 : decode code 678 = .ok (.iload 4, 2) := by decide +kernel
theorem nd_LW_law_680 : decode code 680 = .ok (.iconst 1, 1) := by decide +kernel
theorem nd_LW_law_681 : decode code 681 = .ok (.iadd, 1) := by decide +kernel
theorem nd_LW_law_682 : decode code 682 = .ok (.iaload, 1) := by decide +kernel
theorem nd_LW_law_683 : decode code 683 = .ok (.aload_n 3, 1) := by decide +kernel
theorem nd_LW_law_684 : decode code 684 = .ok (.invokestatic 101, 3) := by decide +kernel
theorem nd_LW_law_687 : decode code 687 = .ok (.istore 5, 2) := by decide +kernel
theorem nd_LW_law_689 : decode code 689 = .ok (.aload_n 2, 1) := by decide +kernel
theorem nd_LW_law_690 : decode code 690 = .ok (.aload_n 0, 1) := by decide +kernel
theorem nd_LW_law_691 : decode code 691 = .ok (.iload 4, 2) := by decide +kernel
theorem nd_LW_law_693 : decode code 693 = .ok (.iconst 1, 1) := by decide +kernel
theorem nd_LW_law_694 : decode code 694 = .ok (.iadd, 1) := by decide +kernel
theorem nd_LW_law_695 : decode code 695 = .ok (.iaload, 1) := by decide +kernel
theorem nd_LW_law_696 : decode code 696 = .ok (.invokevirtual 103, 3) := by decide +kernel
theorem nd_LW_law_699 : decode code 699 = .ok (.istore 6, 2) := by decide +kernel
theorem nd_LW_law_701 : decode code 701 = .ok (.aload_n 2, 1) := by decide +kernel
theorem nd_LW_law_702 : decode code 702 = .ok (.invokevirtual 72, 3) := by decide +kernel
theorem nd_LW_law_705 : decode code 705 = .ok (.iload 5, 2) := by decide +kernel
theorem nd_LW_law_707 : decode code 707 = .ok (.if_icmp .eq 5, 3) := by decide +kernel
theorem nd_LW_law_710 : decode code 710 = .ok (.iconst 0, 1) := by decide +kernel
theorem nd_LW_law_711 : decode code 711 = .ok (.ireturn, 1) := by decide +kernel
theorem nd_LW_law_712 : decode code 712 = .ok (.iload 5, 2) := by decide +kernel
theorem nd_LW_law_714 : decode code 714 = .ok (.ifCond .ne 15, 3) := by decide +kernel
theorem nd_LW_law_717 : decode code 717 = .ok (.aload_n 3, 1) := by decide +kernel
theorem nd_LW_law_718 : decode code 718 = .ok (.iconst 0, 1) := by decide +kernel
theorem nd_LW_law_719 : decode code 719 = .ok (.laload, 1) := by decide +kernel
theorem nd_LW_law_720 : decode code 720 = .ok (.iload 6, 2) := by decide +kernel
theorem nd_LW_law_722 : decode code 722 = .ok (.i2l, 1) := by decide +kernel
theorem nd_LW_law_723 : decode code 723 = .ok (.lcmp, 1) := by decide +kernel
theorem nd_LW_law_724 : decode code 724 = .ok (.ifCond .eq 5, 3) := by decide +kernel
theorem nd_LW_law_727 : decode code 727 = .ok (.iconst 0, 1) := by decide +kernel
theorem nd_LW_law_728 : decode code 728 = .ok (.ireturn, 1) := by decide +kernel
theorem nd_LW_law_729 : decode code 729 = .ok (.goto 255, 3) := by decide +kernel
theorem nd_LW_law_732 : decode code 732 = .ok (.aload_n 1, 1) := by decide +kernel
theorem nd_LW_law_733 : decode code 733 = .ok (.aload_n 0, 1) := by decide +kernel
theorem nd_LW_law_734 : decode code 734 = .ok (.iload 4, 2) := by decide +kernel
theorem nd_LW_law_736 : decode code 736 = .ok (.iconst 1, 1) := by decide +kernel
theorem nd_LW_law_737 : decode code 737 = .ok (.iadd, 1) := by decide +kernel
theorem nd_LW_law_738 : decode code 738 = .ok (.iaload, 1) := by decide +kernel
theorem nd_LW_law_739 : decode code 739 = .ok (.aload_n 3, 1) := by decide +kernel
theorem nd_LW_law_740 : decode code 740 = .ok (.invokestatic 104, 3) := by decide +kernel
theorem nd_LW_law_743 : decode code 743 = .ok (.istore 5, 2) := by decide +kernel
theorem nd_LW_law_745 : decode code 745 = .ok (.aload_n 2, 1) := by decide +kernel
theorem nd_LW_law_746 : decode code 746 = .ok (.aload_n 0, 1) := by decide +kernel
theorem nd_LW_law_747 : decode code 747 = .ok (.iload 4, 2) := by decide +kernel
theorem nd_LW_law_749 : decode code 749 = .ok (.iconst 1, 1) := by decide +kernel
theorem nd_LW_law_750 : decode code 750 = .ok (.iadd, 1) := by decide +kernel
theorem nd_LW_law_751 : decode code 751 = .ok (.iaload, 1) := by decide +kernel
theorem nd_LW_law_752 : decode code 752 = .ok (.invokevirtual 106, 3) := by decide +kernel
theorem nd_LW_law_755 : decode code 755 = .ok (.istore 6, 2) := by decide +kernel
theorem nd_LW_law_757 : decode code 757 = .ok (.aload_n 2, 1) := by decide +kernel
theorem nd_LW_law_758 : decode code 758 = .ok (.invokevirtual 72, 3) := by decide +kernel
theorem nd_LW_law_761 : decode code 761 = .ok (.iload 5, 2) := by decide +kernel
theorem nd_LW_law_763 : decode code 763 = .ok (.if_icmp .eq 5, 3) := by decide +kernel
theorem nd_LW_law_766 : decode code 766 = .ok (.iconst 0, 1) := by decide +kernel
theorem nd_LW_law_767 : decode code 767 = .ok (.ireturn, 1) := by decide +kernel
theorem nd_LW_law_768 : decode code 768 = .ok (.iload 5, 2) := by decide +kernel
theorem nd_LW_law_770 : decode code 770 = .ok (.ifCond .ne 15, 3) := by decide +kernel
theorem nd_LW_law_773 : decode code 773 = .ok (.aload_n 3, 1) := by decide +kernel
theorem nd_LW_law_774 : decode code 774 = .ok (.iconst 0, 1) := by decide +kernel
theorem nd_LW_law_775 : decode code 775 = .ok (.laload, 1) := by decide +kernel
theorem nd_LW_law_776 : decode code 776 = .ok (.iload 6, 2) := by decide +kernel
theorem nd_LW_law_778 : decode code 778 = .ok (.i2l, 1) := by decide +kernel
theorem nd_LW_law_779 : decode code 779 = .ok (.lcmp, 1) := by decide +kernel
theorem nd_LW_law_780 : decode code 780 = .ok (.ifCond .eq 5, 3) := by decide +kernel
theorem nd_LW_law_783 : decode code 783 = .ok (.iconst 0, 1) := by decide +kernel
theorem nd_LW_law_784 : decode code 784 = .ok (.ireturn, 1) := by decide +kernel
theorem nd_LW_law_785 : decode code 785 = .ok (.goto 199, 3) := by decide +kernel
theorem nd_LW_law_788 : decode code 788 = .ok (.aload_n 1, 1) := by decide +kernel
theorem nd_LW_law_789 : decode code 789 = .ok (.aload_n 3, 1) := by decide +kernel
theorem nd_LW_law_790 : decode code 790 = .ok (.invokestatic 107, 3) := by decide +kernel
theorem nd_LW_law_793 : decode code 793 = .ok (.istore 5, 2) := by decide +kernel
theorem nd_LW_law_795 : decode code 795 = .ok (.aload_n 2, 1) := by decide +kernel
theorem nd_LW_law_796 : decode code 796 = .ok (.invokevirtual 109, 3) := by decide +kernel
theorem nd_LW_law_799 : decode code 799 = .ok (.istore 6, 2) := by decide +kernel
theorem nd_LW_law_801 : decode code 801 = .ok (.aload_n 2, 1) := by decide +kernel
theorem nd_LW_law_802 : decode code 802 = .ok (.invokevirtual 72, 3) := by decide +kernel
theorem nd_LW_law_805 : decode code 805 = .ok (.iload 5, 2) := by decide +kernel
theorem nd_LW_law_807 : decode code 807 = .ok (.if_icmp .eq 5, 3) := by decide +kernel
theorem nd_LW_law_810 : decode code 810 = .ok (.iconst 0, 1) := by decide +kernel
theorem nd_LW_law_811 : decode code 811 = .ok (.ireturn, 1) := by decide +kernel
theorem nd_LW_law_812 : decode code 812 = .ok (.iload 5, 2) := by decide +kernel
theorem nd_LW_law_814 : decode code 814 = .ok (.ifCond .ne 15, 3) := by decide +kernel
theorem nd_LW_law_817 : decode code 817 = .ok (.aload_n 3, 1) := by decide +kernel
theorem nd_LW_law_818 : decode code 818 = .ok (.iconst 0, 1) := by decide +kernel
theorem nd_LW_law_819 : decode code 819 = .ok (.laload, 1) := by decide +kernel
theorem nd_LW_law_820 : decode code 820 = .ok (.iload 6, 2) := by decide +kernel
theorem nd_LW_law_822 : decode code 822 = .ok (.i2l, 1) := by decide +kernel
theorem nd_LW_law_823 : decode code 823 = .ok (.lcmp, 1) := by decide +kernel
theorem nd_LW_law_824 : decode code 824 = .ok (.ifCond .eq 5, 3) := by decide +kernel
theorem nd_LW_law_827 : decode code 827 = .ok (.iconst 0, 1) := by decide +kernel
theorem nd_LW_law_828 : decode code 828 = .ok (.ireturn, 1) := by decide +kernel
theorem nd_LW_law_829 : decode code 829 = .ok (.goto 155, 3) := by decide +kernel
theorem nd_LW_law_832 : decode code 832 = .ok (.aload_n 1, 1) := by decide +kernel
theorem nd_LW_law_833 : decode code 833 = .ok (.aload_n 3, 1) := by decide +kernel
theorem nd_LW_law_834 : decode code 834 = .ok (.invokestatic 110, 3) := by decide +kernel
theorem nd_LW_law_837 : decode code 837 = .ok (.istore 5, 2) := by decide +kernel
theorem nd_LW_law_839 : decode code 839 = .ok (.aload_n 2, 1) := by decide +kernel
theorem nd_LW_law_840 : decode code 840 = .ok (.invokevirtual 112, 3) := by decide +kernel
theorem nd_LW_law_843 : decode code 843 = .ok (.istore 6, 2) := by decide +kernel
theorem nd_LW_law_845 : decode code 845 = .ok (.aload_n 2, 1) := by decide +kernel
theorem nd_LW_law_846 : decode code 846 = .ok (.invokevirtual 72, 3) := by decide +kernel
theorem nd_LW_law_849 : decode code 849 = .ok (.iload 5, 2) := by decide +kernel
theorem nd_LW_law_851 : decode code 851 = .ok (.if_icmp .eq 5, 3) := by decide +kernel
theorem nd_LW_law_854 : decode code 854 = .ok (.iconst 0, 1) := by decide +kernel
theorem nd_LW_law_855 : decode code 855 = .ok (.ireturn, 1) := by decide +kernel
theorem nd_LW_law_856 : decode code 856 = .ok (.iload 5, 2) := by decide +kernel
theorem nd_LW_law_858 : decode code 858 = .ok (.ifCond .ne 15, 3) := by decide +kernel
theorem nd_LW_law_861 : decode code 861 = .ok (.aload_n 3, 1) := by decide +kernel
theorem nd_LW_law_862 : decode code 862 = .ok (.iconst 0, 1) := by decide +kernel
theorem nd_LW_law_863 : decode code 863 = .ok (.laload, 1) := by decide +kernel
theorem nd_LW_law_864 : decode code 864 = .ok (.iload 6, 2) := by decide +kernel
theorem nd_LW_law_866 : decode code 866 = .ok (.i2l, 1) := by decide +kernel
theorem nd_LW_law_867 : decode code 867 = .ok (.lcmp, 1) := by decide +kernel
theorem nd_LW_law_868 : decode code 868 = .ok (.ifCond .eq 5, 3) := by decide +kernel
theorem nd_LW_law_871 : decode code 871 = .ok (.iconst 0, 1) := by decide +kernel
theorem nd_LW_law_872 : decode code 872 = .ok (.ireturn, 1) := by decide +kernel
theorem nd_LW_law_873 : decode code 873 = .ok (.goto 111, 3) := by decide +kernel
theorem nd_LW_law_876 : decode code 876 = .ok (.aload_n 1, 1) := by decide +kernel
theorem nd_LW_law_877 : decode code 877 = .ok (.aload_n 3, 1) := by decide +kernel
theorem nd_LW_law_878 : decode code 878 = .ok (.invokestatic 113, 3) := by decide +kernel
theorem nd_LW_law_881 : decode code 881 = .ok (.istore 5, 2) := by decide +kernel
theorem nd_LW_law_883 : decode code 883 = .ok (.aload_n 2, 1) := by decide +kernel
theorem nd_LW_law_884 : decode code 884 = .ok (.invokevirtual 115, 3) := by decide +kernel
theorem nd_LW_law_887 : decode code 887 = .ok (.istore 6, 2) := by decide +kernel
theorem nd_LW_law_889 : decode code 889 = .ok (.aload_n 2, 1) := by decide +kernel
theorem nd_LW_law_890 : decode code 890 = .ok (.invokevirtual 72, 3) := by decide +kernel
theorem nd_LW_law_893 : decode code 893 = .ok (.iload 5, 2) := by decide +kernel
theorem nd_LW_law_895 : decode code 895 = .ok (.if_icmp .eq 5, 3) := by decide +kernel
theorem nd_LW_law_898 : decode code 898 = .ok (.iconst 0, 1) := by decide +kernel
theorem nd_LW_law_899 : decode code 899 = .ok (.ireturn, 1) := by decide +kernel
theorem nd_LW_law_900 : decode code 900 = .ok (.iload 5, 2) := by decide +kernel
theorem nd_LW_law_902 : decode code 902 = .ok (.ifCond .ne 15, 3) := by decide +kernel
theorem nd_LW_law_905 : decode code 905 = .ok (.aload_n 3, 1) := by decide +kernel
theorem nd_LW_law_906 : decode code 906 = .ok (.iconst 0, 1) := by decide +kernel
theorem nd_LW_law_907 : decode code 907 = .ok (.laload, 1) := by decide +kernel
theorem nd_LW_law_908 : decode code 908 = .ok (.iload 6, 2) := by decide +kernel
theorem nd_LW_law_910 : decode code 910 = .ok (.i2l, 1) := by decide +kernel
theorem nd_LW_law_911 : decode code 911 = .ok (.lcmp, 1) := by decide +kernel
theorem nd_LW_law_912 : decode code 912 = .ok (.ifCond .eq 5, 3) := by decide +kernel
theorem nd_LW_law_915 : decode code 915 = .ok (.iconst 0, 1) := by decide +kernel
theorem nd_LW_law_916 : decode code 916 = .ok (.ireturn, 1) := by decide +kernel
theorem nd_LW_law_917 : decode code 917 = .ok (.goto 67, 3) := by decide +kernel
theorem nd_LW_law_920 : decode code 920 = .ok (.aload_n 1, 1) := by decide +kernel
theorem nd_LW_law_921 : decode code 921 = .ok (.aload_n 0, 1) := by decide +kernel
theorem nd_LW_law_922 : decode code 922 = .ok (.iload 4, 2) := by decide +kernel
theorem nd_LW_law_924 : decode code 924 = .ok (.iconst 1, 1) := by decide +kernel
theorem nd_LW_law_925 : decode code 925 = .ok (.iadd, 1) := by decide +kernel
theorem nd_LW_law_926 : decode code 926 = .ok (.iaload, 1) := by decide +kernel
theorem nd_LW_law_927 : decode code 927 = .ok (.invokevirtual 116, 3) := by decide +kernel
theorem nd_LW_law_930 : decode code 930 = .ok (.aload_n 2, 1) := by decide +kernel
theorem nd_LW_law_931 : decode code 931 = .ok (.aload_n 0, 1) := by decide +kernel
theorem nd_LW_law_932 : decode code 932 = .ok (.iload 4, 2) := by decide +kernel
theorem nd_LW_law_934 : decode code 934 = .ok (.iconst 1, 1) := by decide +kernel
theorem nd_LW_law_935 : decode code 935 = .ok (.iadd, 1) := by decide +kernel
theorem nd_LW_law_936 : decode code 936 = .ok (.iaload, 1) := by decide +kernel
theorem nd_LW_law_937 : decode code 937 = .ok (.invokevirtual 120, 3) := by decide +kernel
theorem nd_LW_law_940 : decode code 940 = .ok (.if_icmp .eq 44, 3) := by decide +kernel
theorem nd_LW_law_943 : decode code 943 = .ok (.iconst 0, 1) := by decide +kernel
theorem nd_LW_law_944 : decode code 944 = .ok (.ireturn, 1) := by decide +kernel
theorem nd_LW_law_945 : decode code 945 = .ok (.aload_n 1, 1) := by decide +kernel
theorem nd_LW_law_946 : decode code 946 = .ok (.invokevirtual 121, 3) := by decide +kernel
theorem nd_LW_law_949 : decode code 949 = .ok (.aload_n 2, 1) := by decide +kernel
theorem nd_LW_law_950 : decode code 950 = .ok (.invokevirtual 124, 3) := by decide +kernel
theorem nd_LW_law_953 : decode code 953 = .ok (.if_icmp .eq 31, 3) := by decide +kernel
theorem nd_LW_law_956 : decode code 956 = .ok (.iconst 0, 1) := by decide +kernel
theorem nd_LW_law_957 : decode code 957 = .ok (.ireturn, 1) := by decide +kernel
theorem nd_LW_law_958 : decode code 958 = .ok (.aload_n 1, 1) := by decide +kernel
theorem nd_LW_law_959 : decode code 959 = .ok (.invokevirtual 125, 3) := by decide +kernel
theorem nd_LW_law_962 : decode code 962 = .ok (.aload_n 2, 1) := by decide +kernel
theorem nd_LW_law_963 : decode code 963 = .ok (.invokevirtual 128, 3) := by decide +kernel
theorem nd_LW_law_966 : decode code 966 = .ok (.if_icmp .eq 18, 3) := by decide +kernel
theorem nd_LW_law_969 : decode code 969 = .ok (.iconst 0, 1) := by decide +kernel
theorem nd_LW_law_970 : decode code 970 = .ok (.ireturn, 1) := by decide +kernel
theorem nd_LW_law_971 : decode code 971 = .ok (.aload_n 1, 1) := by decide +kernel
theorem nd_LW_law_972 : decode code 972 = .ok (.invokevirtual 129, 3) := by decide +kernel
theorem nd_LW_law_975 : decode code 975 = .ok (.aload_n 2, 1) := by decide +kernel
theorem nd_LW_law_976 : decode code 976 = .ok (.invokevirtual 133, 3) := by decide +kernel
theorem nd_LW_law_979 : decode code 979 = .ok (.if_icmp .eq 5, 3) := by decide +kernel
theorem nd_LW_law_982 : decode code 982 = .ok (.iconst 0, 1) := by decide +kernel
theorem nd_LW_law_983 : decode code 983 = .ok (.ireturn, 1) := by decide +kernel
theorem nd_LW_law_984 : decode code 984 = .ok (.iinc 4 3, 3) := by decide +kernel
theorem nd_LW_law_987 : decode code 987 = .ok (.goto (-964), 3) := by decide +kernel
theorem nd_LW_law_990 : decode code 990 = .ok (.iconst 1, 1) := by decide +kernel
theorem nd_LW_law_991 : decode code 991 = .ok (.ireturn, 1) := by decide +kernel
section
variable {p : Program} {l : Launch} {e : Env} {R : Room} {s : State} {m : MethodId} {args : Array Value} {below : List Frame} {meth : Method} {c : Code} {cells slots : Nat} {Q : State → Prop}
variable {cc : ByteArray} {nL : Nat} {ret0 : Option FieldType} {own : String} {Y : sy_Y} {M U M' U' : me_M} {o o' : Int64} {pc : Nat} {L L' : List (Nat × Value)} {st : List Value}
theorem vv_lcmp0 (fx : vv_fix p s m args meth c cc nL ret0 own Y) {x y : Int64} (h : x = y) (hd : decode cc pc = .ok (.lcmp, 1)) (kk : vv p l e R s m args below meth c cells slots Q nL Y M U o (pc + 1) L (.int 0 :: st)) : vv p l e R s m args below meth c cells slots Q nL Y M U o pc L (.long y :: .long x :: st) := fun H locs ls hP hS hl => by
  subst h
  intro T hT X
  obtain ⟨t, a, b⟩ := kk H locs ls hP hS hl T hT X
  have hx := fx.1
  have hb := fx.2.1
  refine ⟨t, ?_, b⟩
  jvm_step X.here [X.here.top, hx, hb, hd]
  first | exact a | (simp; exact a)
theorem vv_sld (fx : vv_fix p s m args meth c cc nL ret0 own Y) {b L0 : Nat} {xs : Nat → Int32} (hX : va_X b L0 xs s s.heap) (hbl : b < s.heap.size) (hbA : ¬ Y.2.2.2 b) {j : Nat} (hj : j < L0) (hn : L0 < 2 ^ 31) (hd : decode cc pc = .ok (.iaload, 1)) (kk : vv p l e R s m args below meth c cells slots Q nL Y M U o (pc + 1) L (.int (xs j) :: st)) : vv p l e R s m args below meth c cells slots Q nL Y M U o pc L (.int (nI j) :: .ref b :: st) := fun H locs ls hP hS hl => by
  refine va_sld fx.1 fx.2.1 hX hbl hbA hS (vp_in_nI hj hn) hd ?_
  rw [nI_clamp (by omega)]
  exact kk H locs ls hP hS hl
theorem vv_slen (fx : vv_fix p s m args meth c cc nL ret0 own Y) {b L0 : Nat} {xs : Nat → Int32} (hX : va_X b L0 xs s s.heap) (hbl : b < s.heap.size) (hbA : ¬ Y.2.2.2 b) (hd : decode cc pc = .ok (.arraylength, 1)) (kk : vv p l e R s m args below meth c cells slots Q nL Y M U o (pc + 1) L (.int (nI L0) :: st)) : vv p l e R s m args below meth c cells slots Q nL Y M U o pc L (.ref b :: st) := fun H locs ls hP hS hl => va_slen fx.1 fx.2.1 hX hbl hbA hS hd (kk H locs ls hP hS hl)
theorem vv_tabIn (fx : vv_fix p s m args meth c cc nL ret0 own Y) {dflt lo hi : Int} {offs : Array Int} {len : Nat} {x : Int32} {off : Int} {tgt : Nat} (hd : decode cc pc = .ok (.tableswitch dflt lo hi offs, len)) (h1 : ¬ x.toInt < lo) (h2 : ¬ hi < x.toInt) (ho : offs[(x.toInt - lo).toNat]? = some off) (ht : (pc : Int) + off = (tgt : Int)) (kk : vv p l e R s m args below meth c cells slots Q nL Y M U o tgt L st) : vv p l e R s m args below meth c cells slots Q nL Y M U o pc L (.int x :: st) := fun H locs ls hP hS hl => lv_tableIn fx.1 fx.2.1 hd h1 h2 ho ht (kk H locs ls hP hS hl)
theorem vv_tabOut (fx : vv_fix p s m args meth c cc nL ret0 own Y) {dflt lo hi : Int} {offs : Array Int} {len : Nat} {x : Int32} {tgt : Nat} (hd : decode cc pc = .ok (.tableswitch dflt lo hi offs, len)) (h : x.toInt < lo ∨ hi < x.toInt) (ht : (pc : Int) + dflt = (tgt : Int)) (kk : vv p l e R s m args below meth c cells slots Q nL Y M U o tgt L st) : vv p l e R s m args below meth c cells slots Q nL Y M U o pc L (.int x :: st) := fun H locs ls hP hS hl => lv_tableOut fx.1 fx.2.1 hd h ht (kk H locs ls hP hS hl)
theorem vv_widen {k n : Nat} (h1 : cells ≤ k) (h2 : slots ≤ n) (kk : vv p l e R s m args below meth c k n Q nL Y M U o pc L st) : vv p l e R s m args below meth c cells slots Q nL Y M U o pc L st := fun H locs ls hP hS hl T hT X => kk H locs ls hP hS hl T hT (stand_widen X h1 h2)
theorem vv_callSw (fx : vv_fix p s m args meth c cc nL ret0 own Y) {y : MethodName} {b2 : ByteArray} {n2 : Nat} {hh : List (Nat × Nat × Nat × Nat)} {rm2 : Room} {mc2 ms2 : Nat} {As : List Value} {r : Int32} {index : Nat} (hct : ct_IW l y b2 n2 hh rm2 Y As M U o r M' U' o' mc2 ms2)
    (h1 : Cond.methodLink own index y ∈ wl) (h2 : Cond.static y ∈ wl) (h4 : Cond.initialized own ∈ wl) (h5 : Cond.codeWith y b2 n2 (some .int) hh ∈ wl) (hi : y.cls = own ∧ y.cls ≠ "java/lang/invoke/MethodHandle" ∧ y.cls ≠ "java/lang/invoke/VarHandle" ∧ (parseMethodDescriptor y.desc).map (fun d => d.parameters.length) = some As.length)
    (hR : ct_CX R rm2 n2 mc2 ms2) (hcs : cells + mc2 ≤ R.cells ∧ slots + ms2 ≤ R.slots) (hst : (st.map fun v => v.category).sum ≤ 8) (hd : decode cc pc = .ok (.invokestatic index, 3)) {S9 : List Value} (hS9 : S9 = As.reverse ++ st)
    (kk : vv p l e R s m args below meth c (cells + mc2) (slots + ms2) Q nL Y M' U' o' (pc + 3) L (.int r :: st)) : vv p l e R s m args below meth c cells slots Q nL Y M U o pc L S9 := fun H locs ls hP hS hl => by
  subst hS9
  obtain ⟨hx0, hb, hml, hown, hts, hok, -, hlk⟩ := id fx
  have hG : GoodIn wl (va_wsS own index y (.codeWith y b2 n2 (some .int) hh :: wl)) := by
    intro w hw
    have h : w ∈ wl := by
      unfold va_wsS at hw
      simp only [List.mem_append, List.mem_cons, List.not_mem_nil, or_false] at hw
      rw [hi.1] at hw
      rcases hw with hw | hw
      · rcases hw with rfl | rfl | rfl
        · exact h1
        · exact h2
        · exact h4
      · rcases hw with rfl | hw
        · exact h5
        · exact hw
    exact ⟨h, good_of_word (wl_good h)⟩
  refine vx_calli (vx_runSX (As := As) (rest := st) ⟨hx0, hb, hml, hown, hts⟩ hct (vx_cwSW As.length hts hG rfl hR.1 hR.2.1 hi.2 ⟨hR.2.2.1, hR.2.2.2⟩) ⟨ct_blind Y _ M U o, fun S hS1 hW => ⟨rfl, by rw [hS1]; exact sy_ok_go hW hS hok, by rw [hS1]; exact hP⟩⟩ rfl rfl hl.1 rfl (lv_room hst) hd ⟨hcs.1, hcs.2⟩) hS (fun q _ h => h) (fun q h => h) (fun q _ h => h) (fun E ce q9 u t H1 locs1 ht hvm _ hB _ _ hS1 hce hcv hcl => absurd rfl hB.1) (fun r2 u t H1 locs1 ht hvm hr hB _ _ hS1 => ?_)
  obtain ⟨-, hr2⟩ := hr
  subst hr2
  exact kk H1 locs1 ls (by rw [← ht]; exact hB) hS1 hl
end
theorem sy_rp {M U : me_M} {N : Nat} {cd : Nat → Int32} {a : fb_X} {b : Int32 × me_M} (h : rf_E cd a b N) : b.2 4 0 = cd a.1 ∧ (a.1 = 0 → a.2.1 = b.1) ∧ rf_I a.2.2 b.2 N := h
section
variable {p : Program} {l : Launch} {e : Env} {s : State} {m : MethodId} {below : List Frame} {meth : Method} {c : Code} {b L0 i cells slots : Nat} {xs : Nat → Int32} {Y : sy_Y} {M U : me_M} {o : Int64}
set_option maxRecDepth 4000 in
theorem lc_0 (hst : l.stackTraces = false) (fx : vv_fix p s m #[Value.ref b] meth c code 7 ret nr_LW Y) (hX : va_X b L0 xs s s.heap) (hbl : b < s.heap.size) (hbA : ¬ Y.2.2.2 b) (hL : L0 ≤ 1536) (hi : 3 * i + 3 ≤ L0) (hI : rf_I M U (3 * i)) (hc : cells + 1 ≤ room_1.cells) (hs : slots + 6 ≤ room_1.slots) (kk : ∀ (M' U' : me_M) (o' : Int64), rf_I M' U' (3 * i + 3) → vv p l e room_1 s m #[Value.ref b] below meth c (cells + 1) (slots + 6) (lw_Z below #[Value.ref b] s) 7 Y M' U' o' 984 [(0, .ref b), (1, .ref (Y.2.1 0)), (2, .ref (Y.2.1 8)), (3, .ref (Y.2.1 13)), (4, .int (nI (3 * i)))] []) : vv p l e room_1 s m #[Value.ref b] below meth c cells slots (lw_Z below #[Value.ref b] s) 7 Y M U o 124 [(0, .ref b), (1, .ref (Y.2.1 0)), (2, .ref (Y.2.1 8)), (3, .ref (Y.2.1 13)), (4, .int (nI (3 * i)))] [] := by
  have hE := rp_put hI (by omega) (xs (3 * i + 1)) (xs (3 * i + 2))
  obtain ⟨g1, g2, g3⟩ := hE
  have hcd : (fb_put M (xs (3 * i + 1)) (xs (3 * i + 2))).1 = 0 ∨ rf_cP (fb_put M (xs (3 * i + 1)) (xs (3 * i + 2))).1 ≠ 0 := by rcases fx_put M (xs (3 * i + 1)) (xs (3 * i + 2)) with h9 | h9 | h9 | h9 <;> first | exact Or.inl h9 | exact Or.inr (by rw [h9]; decide)
  refine vv_aload_n fx nd_LW_law_124 rfl 1 rfl ?_
  refine vv_aload_n fx nd_LW_law_125 rfl 0 rfl ?_
  refine vv_iload fx nd_LW_law_126 4 rfl ?_
  refine vv_iconst (v := nI 1) fx nd_LW_law_128 (by decide) ?_
  refine vv_iadd fx nd_LW_law_129 ?_
  refine vv_top (y := nI ((3 * i) + 1)) (nI_add _ _) ?_
  refine vv_sld fx hX hbl hbA (by omega) (by omega) nd_LW_law_130 ?_
  refine vv_aload_n fx nd_LW_law_131 rfl 0 rfl ?_
  refine vv_iload fx nd_LW_law_132 4 rfl ?_
  refine vv_iconst (v := nI 2) fx nd_LW_law_134 (by decide) ?_
  refine vv_iadd fx nd_LW_law_135 ?_
  refine vv_top (y := nI ((3 * i) + 2)) (nI_add _ _) ?_
  refine vv_sld fx hX hbl hbA (by omega) (by omega) nd_LW_law_136 ?_
  refine vv_aload_n fx nd_LW_law_137 rfl 3 rfl ?_
  refine vv_callSw fx (cc_LW_put l Y M U o (xs (3 * i + 1)) (xs (3 * i + 2)) hst hI) nm_LW_66 ns_LW_put nz_LW nc_LW_put ni_LW_put ⟨rfl, rfl, by decide, by decide⟩ ⟨hc, hs⟩ (Nat.le_of_ble_eq_true rfl) nd_LW_law_138 rfl ?_
  refine vv_istore (L' := [(0, .ref b), (1, .ref (Y.2.1 0)), (2, .ref (Y.2.1 8)), (3, .ref (Y.2.1 13)), (4, .int (nI (3 * i))), (5, .int (rf_cP (fb_put M (xs (3 * i + 1)) (xs (3 * i + 2))).1))]) fx nd_LW_law_141 (by decide) [1, 2, 3, 4, 5, 0] rfl ?_
  refine vv_aload_n fx nd_LW_law_143 rfl 2 rfl ?_
  refine vv_aload_n fx nd_LW_law_144 rfl 0 rfl ?_
  refine vv_iload fx nd_LW_law_145 4 rfl ?_
  refine vv_iconst (v := nI 1) fx nd_LW_law_147 (by decide) ?_
  refine vv_iadd fx nd_LW_law_148 ?_
  refine vv_top (y := nI ((3 * i) + 1)) (nI_add _ _) ?_
  refine vv_sld fx hX hbl hbA (by omega) (by omega) nd_LW_law_149 ?_
  refine vv_aload_n fx nd_LW_law_150 rfl 0 rfl ?_
  refine vv_iload fx nd_LW_law_151 4 rfl ?_
  refine vv_iconst (v := nI 2) fx nd_LW_law_153 (by decide) ?_
  refine vv_iadd fx nd_LW_law_154 ?_
  refine vv_top (y := nI ((3 * i) + 2)) (nI_add _ _) ?_
  refine vv_sld fx hX hbl hbA (by omega) (by omega) nd_LW_law_155 ?_
  refine vv_callVi (C := nr_MO) (T := nt_MO) (N := 10) (ci := 2) fx (cc_MO_put l Y (fb_put M (xs (3 * i + 1)) (xs (3 * i + 2))).2.2 U (lw_o (fb_put M (xs (3 * i + 1)) (xs (3 * i + 2))).1 (fb_put M (xs (3 * i + 1)) (xs (3 * i + 2))).2.1 o) (xs (3 * i + 1)) (xs (3 * i + 2)) (rf_moB hI)) nm_LW_71 ns_MO_put nv_MO_put nz_MO nc_MO_put ni_MO_put 8 rfl rfl ⟨rfl, rfl, by decide, by decide⟩ ⟨hc, hs⟩ (Nat.le_of_ble_eq_true rfl) nd_LW_law_156 rfl ?_
  refine vv_istore (L' := [(0, .ref b), (1, .ref (Y.2.1 0)), (2, .ref (Y.2.1 8)), (3, .ref (Y.2.1 13)), (4, .int (nI (3 * i))), (5, .int (rf_cP (fb_put M (xs (3 * i + 1)) (xs (3 * i + 2))).1)), (6, .int ((mo_put U (xs (3 * i + 1)) (xs (3 * i + 2))).1))]) fx nd_LW_law_159 (by decide) [1, 2, 3, 4, 5, 6, 0] rfl ?_
  refine vv_aload_n fx nd_LW_law_161 rfl 2 rfl ?_
  refine vv_callVi (C := nr_MO) (T := nt_MO) (N := 10) (ci := 2) fx (cc_MO_thrown l Y (fb_put M (xs (3 * i + 1)) (xs (3 * i + 2))).2.2 (mo_put U (xs (3 * i + 1)) (xs (3 * i + 2))).2 (lw_o (fb_put M (xs (3 * i + 1)) (xs (3 * i + 2))).1 (fb_put M (xs (3 * i + 1)) (xs (3 * i + 2))).2.1 o)) nm_LW_72 ns_MO_thrown nv_MO_thrown nz_MO nc_MO_thrown ni_MO_thrown 8 rfl rfl ⟨rfl, rfl, by decide, by decide⟩ ⟨hc, hs⟩ (Nat.le_of_ble_eq_true rfl) nd_LW_law_162 rfl ?_
  refine vv_iload fx nd_LW_law_165 5 rfl ?_
  refine vv_icmp_eq (tgt := 172) fx nd_LW_law_167 (by decide) (fun _ => ?_) (fun hb => absurd (g1) hb)
  refine vv_iload fx nd_LW_law_172 5 rfl ?_
  rcases hcd with h0 | h1
  · refine vv_if_ne (tgt := 189) fx nd_LW_law_174 (by decide) (fun hb => absurd (by rw [h0]; rfl) hb) (fun _ => ?_)
    refine vv_aload_n fx nd_LW_law_177 rfl 3 rfl ?_
    refine vv_iconst (v := nI 0) fx nd_LW_law_178 (by decide) ?_
    refine vv_lald fx (f := fun _ => lw_o (fb_put M (xs (3 * i + 1)) (xs (3 * i + 2))).1 (fb_put M (xs (3 * i + 1)) (xs (3 * i + 2))).2.1 o) 13 2 rfl rfl (by decide) (by decide) nd_LW_law_179 ?_
    refine vv_iload fx nd_LW_law_180 6 rfl ?_
    refine vv_i2l fx nd_LW_law_182 ?_
    refine vv_lcmp0 fx (by rw [h0]; exact congrArg Int32.toInt64 (g2 h0)) nd_LW_law_183 ?_
    refine vv_if_eq (tgt := 189) fx nd_LW_law_184 (by decide) (fun _ => ?_) (fun hb => absurd (rfl) hb)
    refine vv_goto (tgt := 984) fx nd_LW_law_189 (by decide) ?_
    refine vv_loc (L' := [(0, .ref b), (1, .ref (Y.2.1 0)), (2, .ref (Y.2.1 8)), (3, .ref (Y.2.1 13)), (4, .int (nI (3 * i)))]) [0, 1, 2, 3, 4] rfl ?_
    exact kk _ _ _ g3
  · refine vv_if_ne (tgt := 189) fx nd_LW_law_174 (by decide) (fun _ => ?_) (fun hb => absurd hb (h1))
    refine vv_goto (tgt := 984) fx nd_LW_law_189 (by decide) ?_
    refine vv_loc (L' := [(0, .ref b), (1, .ref (Y.2.1 0)), (2, .ref (Y.2.1 8)), (3, .ref (Y.2.1 13)), (4, .int (nI (3 * i)))]) [0, 1, 2, 3, 4] rfl ?_
    exact kk _ _ _ g3
set_option maxRecDepth 4000 in
theorem lc_1 (hst : l.stackTraces = false) (fx : vv_fix p s m #[Value.ref b] meth c code 7 ret nr_LW Y) (hX : va_X b L0 xs s s.heap) (hbl : b < s.heap.size) (hbA : ¬ Y.2.2.2 b) (hL : L0 ≤ 1536) (hi : 3 * i + 3 ≤ L0) (hI : rf_I M U (3 * i)) (hc : cells + 1 ≤ room_1.cells) (hs : slots + 6 ≤ room_1.slots) (kk : ∀ (M' U' : me_M) (o' : Int64), rf_I M' U' (3 * i + 3) → vv p l e room_1 s m #[Value.ref b] below meth c (cells + 1) (slots + 6) (lw_Z below #[Value.ref b] s) 7 Y M' U' o' 984 [(0, .ref b), (1, .ref (Y.2.1 0)), (2, .ref (Y.2.1 8)), (3, .ref (Y.2.1 13)), (4, .int (nI (3 * i)))] []) : vv p l e room_1 s m #[Value.ref b] below meth c cells slots (lw_Z below #[Value.ref b] s) 7 Y M U o 192 [(0, .ref b), (1, .ref (Y.2.1 0)), (2, .ref (Y.2.1 8)), (3, .ref (Y.2.1 13)), (4, .int (nI (3 * i)))] [] := by
  have hE := rp_remove hI (by omega) (xs (3 * i + 1))
  obtain ⟨g1, g2, g3⟩ := hE
  have hcd : (fb_remove M (xs (3 * i + 1))).1 = 0 ∨ rf_cR (fb_remove M (xs (3 * i + 1))).1 ≠ 0 := by rcases fx_remove M (xs (3 * i + 1)) with h9 | h9 | h9 | h9 <;> first | exact Or.inl h9 | exact Or.inr (by rw [h9]; decide)
  refine vv_aload_n fx nd_LW_law_192 rfl 1 rfl ?_
  refine vv_aload_n fx nd_LW_law_193 rfl 0 rfl ?_
  refine vv_iload fx nd_LW_law_194 4 rfl ?_
  refine vv_iconst (v := nI 1) fx nd_LW_law_196 (by decide) ?_
  refine vv_iadd fx nd_LW_law_197 ?_
  refine vv_top (y := nI ((3 * i) + 1)) (nI_add _ _) ?_
  refine vv_sld fx hX hbl hbA (by omega) (by omega) nd_LW_law_198 ?_
  refine vv_aload_n fx nd_LW_law_199 rfl 3 rfl ?_
  refine vv_callSw fx (cc_LW_remove l Y M U o (xs (3 * i + 1)) hst hI) nm_LW_75 ns_LW_remove nz_LW nc_LW_remove ni_LW_remove ⟨rfl, rfl, by decide, by decide⟩ ⟨hc, hs⟩ (Nat.le_of_ble_eq_true rfl) nd_LW_law_200 rfl ?_
  refine vv_istore (L' := [(0, .ref b), (1, .ref (Y.2.1 0)), (2, .ref (Y.2.1 8)), (3, .ref (Y.2.1 13)), (4, .int (nI (3 * i))), (5, .int (rf_cR (fb_remove M (xs (3 * i + 1))).1))]) fx nd_LW_law_203 (by decide) [1, 2, 3, 4, 5, 0] rfl ?_
  refine vv_aload_n fx nd_LW_law_205 rfl 2 rfl ?_
  refine vv_aload_n fx nd_LW_law_206 rfl 0 rfl ?_
  refine vv_iload fx nd_LW_law_207 4 rfl ?_
  refine vv_iconst (v := nI 1) fx nd_LW_law_209 (by decide) ?_
  refine vv_iadd fx nd_LW_law_210 ?_
  refine vv_top (y := nI ((3 * i) + 1)) (nI_add _ _) ?_
  refine vv_sld fx hX hbl hbA (by omega) (by omega) nd_LW_law_211 ?_
  refine vv_callVi (C := nr_MO) (T := nt_MO) (N := 10) (ci := 2) fx (cc_MO_remove l Y (fb_remove M (xs (3 * i + 1))).2.2 U (lw_o (fb_remove M (xs (3 * i + 1))).1 (fb_remove M (xs (3 * i + 1))).2.1 o) (xs (3 * i + 1)) (rf_moB hI)) nm_LW_78 ns_MO_remove nv_MO_remove nz_MO nc_MO_remove ni_MO_remove 8 rfl rfl ⟨rfl, rfl, by decide, by decide⟩ ⟨hc, hs⟩ (Nat.le_of_ble_eq_true rfl) nd_LW_law_212 rfl ?_
  refine vv_istore (L' := [(0, .ref b), (1, .ref (Y.2.1 0)), (2, .ref (Y.2.1 8)), (3, .ref (Y.2.1 13)), (4, .int (nI (3 * i))), (5, .int (rf_cR (fb_remove M (xs (3 * i + 1))).1)), (6, .int ((mo_remove U (xs (3 * i + 1))).1))]) fx nd_LW_law_215 (by decide) [1, 2, 3, 4, 5, 6, 0] rfl ?_
  refine vv_aload_n fx nd_LW_law_217 rfl 2 rfl ?_
  refine vv_callVi (C := nr_MO) (T := nt_MO) (N := 10) (ci := 2) fx (cc_MO_thrown l Y (fb_remove M (xs (3 * i + 1))).2.2 (mo_remove U (xs (3 * i + 1))).2 (lw_o (fb_remove M (xs (3 * i + 1))).1 (fb_remove M (xs (3 * i + 1))).2.1 o)) nm_LW_72 ns_MO_thrown nv_MO_thrown nz_MO nc_MO_thrown ni_MO_thrown 8 rfl rfl ⟨rfl, rfl, by decide, by decide⟩ ⟨hc, hs⟩ (Nat.le_of_ble_eq_true rfl) nd_LW_law_218 rfl ?_
  refine vv_iload fx nd_LW_law_221 5 rfl ?_
  refine vv_icmp_eq (tgt := 228) fx nd_LW_law_223 (by decide) (fun _ => ?_) (fun hb => absurd (g1) hb)
  refine vv_iload fx nd_LW_law_228 5 rfl ?_
  rcases hcd with h0 | h1
  · refine vv_if_ne (tgt := 245) fx nd_LW_law_230 (by decide) (fun hb => absurd (by rw [h0]; rfl) hb) (fun _ => ?_)
    refine vv_aload_n fx nd_LW_law_233 rfl 3 rfl ?_
    refine vv_iconst (v := nI 0) fx nd_LW_law_234 (by decide) ?_
    refine vv_lald fx (f := fun _ => lw_o (fb_remove M (xs (3 * i + 1))).1 (fb_remove M (xs (3 * i + 1))).2.1 o) 13 2 rfl rfl (by decide) (by decide) nd_LW_law_235 ?_
    refine vv_iload fx nd_LW_law_236 6 rfl ?_
    refine vv_i2l fx nd_LW_law_238 ?_
    refine vv_lcmp0 fx (by rw [h0]; exact congrArg Int32.toInt64 (g2 h0)) nd_LW_law_239 ?_
    refine vv_if_eq (tgt := 245) fx nd_LW_law_240 (by decide) (fun _ => ?_) (fun hb => absurd (rfl) hb)
    refine vv_goto (tgt := 984) fx nd_LW_law_245 (by decide) ?_
    refine vv_loc (L' := [(0, .ref b), (1, .ref (Y.2.1 0)), (2, .ref (Y.2.1 8)), (3, .ref (Y.2.1 13)), (4, .int (nI (3 * i)))]) [0, 1, 2, 3, 4] rfl ?_
    exact kk _ _ _ g3
  · refine vv_if_ne (tgt := 245) fx nd_LW_law_230 (by decide) (fun _ => ?_) (fun hb => absurd hb (h1))
    refine vv_goto (tgt := 984) fx nd_LW_law_245 (by decide) ?_
    refine vv_loc (L' := [(0, .ref b), (1, .ref (Y.2.1 0)), (2, .ref (Y.2.1 8)), (3, .ref (Y.2.1 13)), (4, .int (nI (3 * i)))]) [0, 1, 2, 3, 4] rfl ?_
    exact kk _ _ _ g3
set_option maxRecDepth 4000 in
theorem lc_2 (hst : l.stackTraces = false) (fx : vv_fix p s m #[Value.ref b] meth c code 7 ret nr_LW Y) (hX : va_X b L0 xs s s.heap) (hbl : b < s.heap.size) (hbA : ¬ Y.2.2.2 b) (hL : L0 ≤ 1536) (hi : 3 * i + 3 ≤ L0) (hI : rf_I M U (3 * i)) (hc : cells + 1 ≤ room_1.cells) (hs : slots + 6 ≤ room_1.slots) (kk : ∀ (M' U' : me_M) (o' : Int64), rf_I M' U' (3 * i + 3) → vv p l e room_1 s m #[Value.ref b] below meth c (cells + 1) (slots + 6) (lw_Z below #[Value.ref b] s) 7 Y M' U' o' 984 [(0, .ref b), (1, .ref (Y.2.1 0)), (2, .ref (Y.2.1 8)), (3, .ref (Y.2.1 13)), (4, .int (nI (3 * i)))] []) : vv p l e room_1 s m #[Value.ref b] below meth c cells slots (lw_Z below #[Value.ref b] s) 7 Y M U o 248 [(0, .ref b), (1, .ref (Y.2.1 0)), (2, .ref (Y.2.1 8)), (3, .ref (Y.2.1 13)), (4, .int (nI (3 * i)))] [] := by
  have hE := rp_get hI (by omega) (xs (3 * i + 1)) (xs (3 * i + 2))
  obtain ⟨g1, g2, g3⟩ := hE
  have g3 := rf_I_N g3 (show 3 * i ≤ 3 * i + 3 by omega)
  have hcd : (fb_get M (xs (3 * i + 1)) (xs (3 * i + 2))).1 = 0 ∨ rf_cG (fb_get M (xs (3 * i + 1)) (xs (3 * i + 2))).1 ≠ 0 := by rcases fx_get M (xs (3 * i + 1)) (xs (3 * i + 2)) with h9 | h9 | h9 | h9 <;> first | exact Or.inl h9 | exact Or.inr (by rw [h9]; decide)
  refine vv_aload_n fx nd_LW_law_248 rfl 1 rfl ?_
  refine vv_aload_n fx nd_LW_law_249 rfl 0 rfl ?_
  refine vv_iload fx nd_LW_law_250 4 rfl ?_
  refine vv_iconst (v := nI 1) fx nd_LW_law_252 (by decide) ?_
  refine vv_iadd fx nd_LW_law_253 ?_
  refine vv_top (y := nI ((3 * i) + 1)) (nI_add _ _) ?_
  refine vv_sld fx hX hbl hbA (by omega) (by omega) nd_LW_law_254 ?_
  refine vv_aload_n fx nd_LW_law_255 rfl 0 rfl ?_
  refine vv_iload fx nd_LW_law_256 4 rfl ?_
  refine vv_iconst (v := nI 2) fx nd_LW_law_258 (by decide) ?_
  refine vv_iadd fx nd_LW_law_259 ?_
  refine vv_top (y := nI ((3 * i) + 2)) (nI_add _ _) ?_
  refine vv_sld fx hX hbl hbA (by omega) (by omega) nd_LW_law_260 ?_
  refine vv_aload_n fx nd_LW_law_261 rfl 3 rfl ?_
  refine vv_callSw fx (cc_LW_get l Y M U o (xs (3 * i + 1)) (xs (3 * i + 2)) hst hI) nm_LW_79 ns_LW_get nz_LW nc_LW_get ni_LW_get ⟨rfl, rfl, by decide, by decide⟩ ⟨hc, hs⟩ (Nat.le_of_ble_eq_true rfl) nd_LW_law_262 rfl ?_
  refine vv_istore (L' := [(0, .ref b), (1, .ref (Y.2.1 0)), (2, .ref (Y.2.1 8)), (3, .ref (Y.2.1 13)), (4, .int (nI (3 * i))), (5, .int (rf_cG (fb_get M (xs (3 * i + 1)) (xs (3 * i + 2))).1))]) fx nd_LW_law_265 (by decide) [1, 2, 3, 4, 5, 0] rfl ?_
  refine vv_aload_n fx nd_LW_law_267 rfl 2 rfl ?_
  refine vv_aload_n fx nd_LW_law_268 rfl 0 rfl ?_
  refine vv_iload fx nd_LW_law_269 4 rfl ?_
  refine vv_iconst (v := nI 1) fx nd_LW_law_271 (by decide) ?_
  refine vv_iadd fx nd_LW_law_272 ?_
  refine vv_top (y := nI ((3 * i) + 1)) (nI_add _ _) ?_
  refine vv_sld fx hX hbl hbA (by omega) (by omega) nd_LW_law_273 ?_
  refine vv_aload_n fx nd_LW_law_274 rfl 0 rfl ?_
  refine vv_iload fx nd_LW_law_275 4 rfl ?_
  refine vv_iconst (v := nI 2) fx nd_LW_law_277 (by decide) ?_
  refine vv_iadd fx nd_LW_law_278 ?_
  refine vv_top (y := nI ((3 * i) + 2)) (nI_add _ _) ?_
  refine vv_sld fx hX hbl hbA (by omega) (by omega) nd_LW_law_279 ?_
  refine vv_callVi (C := nr_MO) (T := nt_MO) (N := 10) (ci := 2) fx (cc_MO_get l Y (fb_get M (xs (3 * i + 1)) (xs (3 * i + 2))).2.2 U (lw_o (fb_get M (xs (3 * i + 1)) (xs (3 * i + 2))).1 (fb_get M (xs (3 * i + 1)) (xs (3 * i + 2))).2.1 o) (xs (3 * i + 1)) (xs (3 * i + 2)) (rf_moB hI)) nm_LW_81 ns_MO_get nv_MO_get nz_MO nc_MO_get ni_MO_get 8 rfl rfl ⟨rfl, rfl, by decide, by decide⟩ ⟨hc, hs⟩ (Nat.le_of_ble_eq_true rfl) nd_LW_law_280 rfl ?_
  refine vv_istore (L' := [(0, .ref b), (1, .ref (Y.2.1 0)), (2, .ref (Y.2.1 8)), (3, .ref (Y.2.1 13)), (4, .int (nI (3 * i))), (5, .int (rf_cG (fb_get M (xs (3 * i + 1)) (xs (3 * i + 2))).1)), (6, .int ((mo_get U (xs (3 * i + 1)) (xs (3 * i + 2))).1))]) fx nd_LW_law_283 (by decide) [1, 2, 3, 4, 5, 6, 0] rfl ?_
  refine vv_aload_n fx nd_LW_law_285 rfl 2 rfl ?_
  refine vv_callVi (C := nr_MO) (T := nt_MO) (N := 10) (ci := 2) fx (cc_MO_thrown l Y (fb_get M (xs (3 * i + 1)) (xs (3 * i + 2))).2.2 (mo_get U (xs (3 * i + 1)) (xs (3 * i + 2))).2 (lw_o (fb_get M (xs (3 * i + 1)) (xs (3 * i + 2))).1 (fb_get M (xs (3 * i + 1)) (xs (3 * i + 2))).2.1 o)) nm_LW_72 ns_MO_thrown nv_MO_thrown nz_MO nc_MO_thrown ni_MO_thrown 8 rfl rfl ⟨rfl, rfl, by decide, by decide⟩ ⟨hc, hs⟩ (Nat.le_of_ble_eq_true rfl) nd_LW_law_286 rfl ?_
  refine vv_iload fx nd_LW_law_289 5 rfl ?_
  refine vv_icmp_eq (tgt := 296) fx nd_LW_law_291 (by decide) (fun _ => ?_) (fun hb => absurd (g1) hb)
  refine vv_iload fx nd_LW_law_296 5 rfl ?_
  rcases hcd with h0 | h1
  · refine vv_if_ne (tgt := 313) fx nd_LW_law_298 (by decide) (fun hb => absurd (by rw [h0]; rfl) hb) (fun _ => ?_)
    refine vv_aload_n fx nd_LW_law_301 rfl 3 rfl ?_
    refine vv_iconst (v := nI 0) fx nd_LW_law_302 (by decide) ?_
    refine vv_lald fx (f := fun _ => lw_o (fb_get M (xs (3 * i + 1)) (xs (3 * i + 2))).1 (fb_get M (xs (3 * i + 1)) (xs (3 * i + 2))).2.1 o) 13 2 rfl rfl (by decide) (by decide) nd_LW_law_303 ?_
    refine vv_iload fx nd_LW_law_304 6 rfl ?_
    refine vv_i2l fx nd_LW_law_306 ?_
    refine vv_lcmp0 fx (by rw [h0]; exact congrArg Int32.toInt64 (g2 h0)) nd_LW_law_307 ?_
    refine vv_if_eq (tgt := 313) fx nd_LW_law_308 (by decide) (fun _ => ?_) (fun hb => absurd (rfl) hb)
    refine vv_goto (tgt := 984) fx nd_LW_law_313 (by decide) ?_
    refine vv_loc (L' := [(0, .ref b), (1, .ref (Y.2.1 0)), (2, .ref (Y.2.1 8)), (3, .ref (Y.2.1 13)), (4, .int (nI (3 * i)))]) [0, 1, 2, 3, 4] rfl ?_
    exact kk _ _ _ g3
  · refine vv_if_ne (tgt := 313) fx nd_LW_law_298 (by decide) (fun _ => ?_) (fun hb => absurd hb (h1))
    refine vv_goto (tgt := 984) fx nd_LW_law_313 (by decide) ?_
    refine vv_loc (L' := [(0, .ref b), (1, .ref (Y.2.1 0)), (2, .ref (Y.2.1 8)), (3, .ref (Y.2.1 13)), (4, .int (nI (3 * i)))]) [0, 1, 2, 3, 4] rfl ?_
    exact kk _ _ _ g3
set_option maxRecDepth 4000 in
theorem lc_3 (hst : l.stackTraces = false) (fx : vv_fix p s m #[Value.ref b] meth c code 7 ret nr_LW Y) (hX : va_X b L0 xs s s.heap) (hbl : b < s.heap.size) (hbA : ¬ Y.2.2.2 b) (hL : L0 ≤ 1536) (hi : 3 * i + 3 ≤ L0) (hI : rf_I M U (3 * i)) (hc : cells + 1 ≤ room_1.cells) (hs : slots + 6 ≤ room_1.slots) (kk : ∀ (M' U' : me_M) (o' : Int64), rf_I M' U' (3 * i + 3) → vv p l e room_1 s m #[Value.ref b] below meth c (cells + 1) (slots + 6) (lw_Z below #[Value.ref b] s) 7 Y M' U' o' 984 [(0, .ref b), (1, .ref (Y.2.1 0)), (2, .ref (Y.2.1 8)), (3, .ref (Y.2.1 13)), (4, .int (nI (3 * i)))] []) : vv p l e room_1 s m #[Value.ref b] below meth c cells slots (lw_Z below #[Value.ref b] s) 7 Y M U o 316 [(0, .ref b), (1, .ref (Y.2.1 0)), (2, .ref (Y.2.1 8)), (3, .ref (Y.2.1 13)), (4, .int (nI (3 * i)))] [] := by
  have hE := rp_next hI (by omega) (xs (3 * i + 1)) (xs (3 * i + 2))
  obtain ⟨g1, g2, g3⟩ := hE
  have g3 := rf_I_N g3 (show 3 * i ≤ 3 * i + 3 by omega)
  have hcd : (fb_next M (xs (3 * i + 1)) (xs (3 * i + 2))).1 = 0 ∨ rf_cG (fb_next M (xs (3 * i + 1)) (xs (3 * i + 2))).1 ≠ 0 := by rcases fx_next M (xs (3 * i + 1)) (xs (3 * i + 2)) with h9 | h9 | h9 <;> first | exact Or.inl h9 | exact Or.inr (by rw [h9]; decide)
  refine vv_aload_n fx nd_LW_law_316 rfl 1 rfl ?_
  refine vv_aload_n fx nd_LW_law_317 rfl 0 rfl ?_
  refine vv_iload fx nd_LW_law_318 4 rfl ?_
  refine vv_iconst (v := nI 1) fx nd_LW_law_320 (by decide) ?_
  refine vv_iadd fx nd_LW_law_321 ?_
  refine vv_top (y := nI ((3 * i) + 1)) (nI_add _ _) ?_
  refine vv_sld fx hX hbl hbA (by omega) (by omega) nd_LW_law_322 ?_
  refine vv_aload_n fx nd_LW_law_323 rfl 0 rfl ?_
  refine vv_iload fx nd_LW_law_324 4 rfl ?_
  refine vv_iconst (v := nI 2) fx nd_LW_law_326 (by decide) ?_
  refine vv_iadd fx nd_LW_law_327 ?_
  refine vv_top (y := nI ((3 * i) + 2)) (nI_add _ _) ?_
  refine vv_sld fx hX hbl hbA (by omega) (by omega) nd_LW_law_328 ?_
  refine vv_aload_n fx nd_LW_law_329 rfl 3 rfl ?_
  refine vv_callSw fx (cc_LW_next l Y M U o (xs (3 * i + 1)) (xs (3 * i + 2)) hst hI) nm_LW_82 ns_LW_next nz_LW nc_LW_next ni_LW_next ⟨rfl, rfl, by decide, by decide⟩ ⟨hc, hs⟩ (Nat.le_of_ble_eq_true rfl) nd_LW_law_330 rfl ?_
  refine vv_istore (L' := [(0, .ref b), (1, .ref (Y.2.1 0)), (2, .ref (Y.2.1 8)), (3, .ref (Y.2.1 13)), (4, .int (nI (3 * i))), (5, .int (rf_cG (fb_next M (xs (3 * i + 1)) (xs (3 * i + 2))).1))]) fx nd_LW_law_333 (by decide) [1, 2, 3, 4, 5, 0] rfl ?_
  refine vv_aload_n fx nd_LW_law_335 rfl 2 rfl ?_
  refine vv_aload_n fx nd_LW_law_336 rfl 0 rfl ?_
  refine vv_iload fx nd_LW_law_337 4 rfl ?_
  refine vv_iconst (v := nI 1) fx nd_LW_law_339 (by decide) ?_
  refine vv_iadd fx nd_LW_law_340 ?_
  refine vv_top (y := nI ((3 * i) + 1)) (nI_add _ _) ?_
  refine vv_sld fx hX hbl hbA (by omega) (by omega) nd_LW_law_341 ?_
  refine vv_aload_n fx nd_LW_law_342 rfl 0 rfl ?_
  refine vv_iload fx nd_LW_law_343 4 rfl ?_
  refine vv_iconst (v := nI 2) fx nd_LW_law_345 (by decide) ?_
  refine vv_iadd fx nd_LW_law_346 ?_
  refine vv_top (y := nI ((3 * i) + 2)) (nI_add _ _) ?_
  refine vv_sld fx hX hbl hbA (by omega) (by omega) nd_LW_law_347 ?_
  refine vv_callVi (C := nr_MO) (T := nt_MO) (N := 10) (ci := 2) fx (cc_MO_next l Y (fb_next M (xs (3 * i + 1)) (xs (3 * i + 2))).2.2 U (lw_o (fb_next M (xs (3 * i + 1)) (xs (3 * i + 2))).1 (fb_next M (xs (3 * i + 1)) (xs (3 * i + 2))).2.1 o) (xs (3 * i + 1)) (xs (3 * i + 2)) (rf_moB hI)) nm_LW_84 ns_MO_next nv_MO_next nz_MO nc_MO_next ni_MO_next 8 rfl rfl ⟨rfl, rfl, by decide, by decide⟩ ⟨hc, hs⟩ (Nat.le_of_ble_eq_true rfl) nd_LW_law_348 rfl ?_
  refine vv_istore (L' := [(0, .ref b), (1, .ref (Y.2.1 0)), (2, .ref (Y.2.1 8)), (3, .ref (Y.2.1 13)), (4, .int (nI (3 * i))), (5, .int (rf_cG (fb_next M (xs (3 * i + 1)) (xs (3 * i + 2))).1)), (6, .int ((mo_next U (xs (3 * i + 1)) (xs (3 * i + 2))).1))]) fx nd_LW_law_351 (by decide) [1, 2, 3, 4, 5, 6, 0] rfl ?_
  refine vv_aload_n fx nd_LW_law_353 rfl 2 rfl ?_
  refine vv_callVi (C := nr_MO) (T := nt_MO) (N := 10) (ci := 2) fx (cc_MO_thrown l Y (fb_next M (xs (3 * i + 1)) (xs (3 * i + 2))).2.2 (mo_next U (xs (3 * i + 1)) (xs (3 * i + 2))).2 (lw_o (fb_next M (xs (3 * i + 1)) (xs (3 * i + 2))).1 (fb_next M (xs (3 * i + 1)) (xs (3 * i + 2))).2.1 o)) nm_LW_72 ns_MO_thrown nv_MO_thrown nz_MO nc_MO_thrown ni_MO_thrown 8 rfl rfl ⟨rfl, rfl, by decide, by decide⟩ ⟨hc, hs⟩ (Nat.le_of_ble_eq_true rfl) nd_LW_law_354 rfl ?_
  refine vv_iload fx nd_LW_law_357 5 rfl ?_
  refine vv_icmp_eq (tgt := 364) fx nd_LW_law_359 (by decide) (fun _ => ?_) (fun hb => absurd (g1) hb)
  refine vv_iload fx nd_LW_law_364 5 rfl ?_
  rcases hcd with h0 | h1
  · refine vv_if_ne (tgt := 381) fx nd_LW_law_366 (by decide) (fun hb => absurd (by rw [h0]; rfl) hb) (fun _ => ?_)
    refine vv_aload_n fx nd_LW_law_369 rfl 3 rfl ?_
    refine vv_iconst (v := nI 0) fx nd_LW_law_370 (by decide) ?_
    refine vv_lald fx (f := fun _ => lw_o (fb_next M (xs (3 * i + 1)) (xs (3 * i + 2))).1 (fb_next M (xs (3 * i + 1)) (xs (3 * i + 2))).2.1 o) 13 2 rfl rfl (by decide) (by decide) nd_LW_law_371 ?_
    refine vv_iload fx nd_LW_law_372 6 rfl ?_
    refine vv_i2l fx nd_LW_law_374 ?_
    refine vv_lcmp0 fx (by rw [h0]; exact congrArg Int32.toInt64 (g2 h0)) nd_LW_law_375 ?_
    refine vv_if_eq (tgt := 381) fx nd_LW_law_376 (by decide) (fun _ => ?_) (fun hb => absurd (rfl) hb)
    refine vv_goto (tgt := 984) fx nd_LW_law_381 (by decide) ?_
    refine vv_loc (L' := [(0, .ref b), (1, .ref (Y.2.1 0)), (2, .ref (Y.2.1 8)), (3, .ref (Y.2.1 13)), (4, .int (nI (3 * i)))]) [0, 1, 2, 3, 4] rfl ?_
    exact kk _ _ _ g3
  · refine vv_if_ne (tgt := 381) fx nd_LW_law_366 (by decide) (fun _ => ?_) (fun hb => absurd hb (h1))
    refine vv_goto (tgt := 984) fx nd_LW_law_381 (by decide) ?_
    refine vv_loc (L' := [(0, .ref b), (1, .ref (Y.2.1 0)), (2, .ref (Y.2.1 8)), (3, .ref (Y.2.1 13)), (4, .int (nI (3 * i)))]) [0, 1, 2, 3, 4] rfl ?_
    exact kk _ _ _ g3
set_option maxRecDepth 4000 in
theorem lc_4 (hst : l.stackTraces = false) (fx : vv_fix p s m #[Value.ref b] meth c code 7 ret nr_LW Y) (hX : va_X b L0 xs s s.heap) (hbl : b < s.heap.size) (hbA : ¬ Y.2.2.2 b) (hL : L0 ≤ 1536) (hi : 3 * i + 3 ≤ L0) (hI : rf_I M U (3 * i)) (hc : cells + 1 ≤ room_1.cells) (hs : slots + 6 ≤ room_1.slots) (kk : ∀ (M' U' : me_M) (o' : Int64), rf_I M' U' (3 * i + 3) → vv p l e room_1 s m #[Value.ref b] below meth c (cells + 1) (slots + 6) (lw_Z below #[Value.ref b] s) 7 Y M' U' o' 984 [(0, .ref b), (1, .ref (Y.2.1 0)), (2, .ref (Y.2.1 8)), (3, .ref (Y.2.1 13)), (4, .int (nI (3 * i)))] []) : vv p l e room_1 s m #[Value.ref b] below meth c cells slots (lw_Z below #[Value.ref b] s) 7 Y M U o 384 [(0, .ref b), (1, .ref (Y.2.1 0)), (2, .ref (Y.2.1 8)), (3, .ref (Y.2.1 13)), (4, .int (nI (3 * i)))] [] := by
  have hE := rp_count hI (by omega) (xs (3 * i + 1))
  obtain ⟨g1, g2, g3⟩ := hE
  have g3 := rf_I_N g3 (show 3 * i ≤ 3 * i + 3 by omega)
  have hcd : (fb_count M (xs (3 * i + 1))).1 = 0 ∨ rf_cG (fb_count M (xs (3 * i + 1))).1 ≠ 0 := by rcases fx_count M (xs (3 * i + 1)) with h9 | h9 | h9 <;> first | exact Or.inl h9 | exact Or.inr (by rw [h9]; decide)
  refine vv_aload_n fx nd_LW_law_384 rfl 1 rfl ?_
  refine vv_aload_n fx nd_LW_law_385 rfl 0 rfl ?_
  refine vv_iload fx nd_LW_law_386 4 rfl ?_
  refine vv_iconst (v := nI 1) fx nd_LW_law_388 (by decide) ?_
  refine vv_iadd fx nd_LW_law_389 ?_
  refine vv_top (y := nI ((3 * i) + 1)) (nI_add _ _) ?_
  refine vv_sld fx hX hbl hbA (by omega) (by omega) nd_LW_law_390 ?_
  refine vv_aload_n fx nd_LW_law_391 rfl 3 rfl ?_
  refine vv_callSw fx (cc_LW_count l Y M U o (xs (3 * i + 1)) hst hI) nm_LW_85 ns_LW_count nz_LW nc_LW_count ni_LW_count ⟨rfl, rfl, by decide, by decide⟩ ⟨hc, hs⟩ (Nat.le_of_ble_eq_true rfl) nd_LW_law_392 rfl ?_
  refine vv_istore (L' := [(0, .ref b), (1, .ref (Y.2.1 0)), (2, .ref (Y.2.1 8)), (3, .ref (Y.2.1 13)), (4, .int (nI (3 * i))), (5, .int (rf_cG (fb_count M (xs (3 * i + 1))).1))]) fx nd_LW_law_395 (by decide) [1, 2, 3, 4, 5, 0] rfl ?_
  refine vv_aload_n fx nd_LW_law_397 rfl 2 rfl ?_
  refine vv_aload_n fx nd_LW_law_398 rfl 0 rfl ?_
  refine vv_iload fx nd_LW_law_399 4 rfl ?_
  refine vv_iconst (v := nI 1) fx nd_LW_law_401 (by decide) ?_
  refine vv_iadd fx nd_LW_law_402 ?_
  refine vv_top (y := nI ((3 * i) + 1)) (nI_add _ _) ?_
  refine vv_sld fx hX hbl hbA (by omega) (by omega) nd_LW_law_403 ?_
  refine vv_callVi (C := nr_MO) (T := nt_MO) (N := 10) (ci := 2) fx (cc_MO_count l Y (fb_count M (xs (3 * i + 1))).2.2 U (lw_o (fb_count M (xs (3 * i + 1))).1 (fb_count M (xs (3 * i + 1))).2.1 o) (xs (3 * i + 1)) (rf_moB hI)) nm_LW_87 ns_MO_count nv_MO_count nz_MO nc_MO_count ni_MO_count 8 rfl rfl ⟨rfl, rfl, by decide, by decide⟩ ⟨hc, hs⟩ (Nat.le_of_ble_eq_true rfl) nd_LW_law_404 rfl ?_
  refine vv_istore (L' := [(0, .ref b), (1, .ref (Y.2.1 0)), (2, .ref (Y.2.1 8)), (3, .ref (Y.2.1 13)), (4, .int (nI (3 * i))), (5, .int (rf_cG (fb_count M (xs (3 * i + 1))).1)), (6, .int ((mo_count U (xs (3 * i + 1))).1))]) fx nd_LW_law_407 (by decide) [1, 2, 3, 4, 5, 6, 0] rfl ?_
  refine vv_aload_n fx nd_LW_law_409 rfl 2 rfl ?_
  refine vv_callVi (C := nr_MO) (T := nt_MO) (N := 10) (ci := 2) fx (cc_MO_thrown l Y (fb_count M (xs (3 * i + 1))).2.2 (mo_count U (xs (3 * i + 1))).2 (lw_o (fb_count M (xs (3 * i + 1))).1 (fb_count M (xs (3 * i + 1))).2.1 o)) nm_LW_72 ns_MO_thrown nv_MO_thrown nz_MO nc_MO_thrown ni_MO_thrown 8 rfl rfl ⟨rfl, rfl, by decide, by decide⟩ ⟨hc, hs⟩ (Nat.le_of_ble_eq_true rfl) nd_LW_law_410 rfl ?_
  refine vv_iload fx nd_LW_law_413 5 rfl ?_
  refine vv_icmp_eq (tgt := 420) fx nd_LW_law_415 (by decide) (fun _ => ?_) (fun hb => absurd (g1) hb)
  refine vv_iload fx nd_LW_law_420 5 rfl ?_
  rcases hcd with h0 | h1
  · refine vv_if_ne (tgt := 437) fx nd_LW_law_422 (by decide) (fun hb => absurd (by rw [h0]; rfl) hb) (fun _ => ?_)
    refine vv_aload_n fx nd_LW_law_425 rfl 3 rfl ?_
    refine vv_iconst (v := nI 0) fx nd_LW_law_426 (by decide) ?_
    refine vv_lald fx (f := fun _ => lw_o (fb_count M (xs (3 * i + 1))).1 (fb_count M (xs (3 * i + 1))).2.1 o) 13 2 rfl rfl (by decide) (by decide) nd_LW_law_427 ?_
    refine vv_iload fx nd_LW_law_428 6 rfl ?_
    refine vv_i2l fx nd_LW_law_430 ?_
    refine vv_lcmp0 fx (by rw [h0]; exact congrArg Int32.toInt64 (g2 h0)) nd_LW_law_431 ?_
    refine vv_if_eq (tgt := 437) fx nd_LW_law_432 (by decide) (fun _ => ?_) (fun hb => absurd (rfl) hb)
    refine vv_goto (tgt := 984) fx nd_LW_law_437 (by decide) ?_
    refine vv_loc (L' := [(0, .ref b), (1, .ref (Y.2.1 0)), (2, .ref (Y.2.1 8)), (3, .ref (Y.2.1 13)), (4, .int (nI (3 * i)))]) [0, 1, 2, 3, 4] rfl ?_
    exact kk _ _ _ g3
  · refine vv_if_ne (tgt := 437) fx nd_LW_law_422 (by decide) (fun _ => ?_) (fun hb => absurd hb (h1))
    refine vv_goto (tgt := 984) fx nd_LW_law_437 (by decide) ?_
    refine vv_loc (L' := [(0, .ref b), (1, .ref (Y.2.1 0)), (2, .ref (Y.2.1 8)), (3, .ref (Y.2.1 13)), (4, .int (nI (3 * i)))]) [0, 1, 2, 3, 4] rfl ?_
    exact kk _ _ _ g3
set_option maxRecDepth 4000 in
theorem lc_5 (hst : l.stackTraces = false) (fx : vv_fix p s m #[Value.ref b] meth c code 7 ret nr_LW Y) (hX : va_X b L0 xs s s.heap) (hbl : b < s.heap.size) (hbA : ¬ Y.2.2.2 b) (hL : L0 ≤ 1536) (hi : 3 * i + 3 ≤ L0) (hI : rf_I M U (3 * i)) (hc : cells + 1 ≤ room_1.cells) (hs : slots + 6 ≤ room_1.slots) (kk : ∀ (M' U' : me_M) (o' : Int64), rf_I M' U' (3 * i + 3) → vv p l e room_1 s m #[Value.ref b] below meth c (cells + 1) (slots + 6) (lw_Z below #[Value.ref b] s) 7 Y M' U' o' 984 [(0, .ref b), (1, .ref (Y.2.1 0)), (2, .ref (Y.2.1 8)), (3, .ref (Y.2.1 13)), (4, .int (nI (3 * i)))] []) : vv p l e room_1 s m #[Value.ref b] below meth c cells slots (lw_Z below #[Value.ref b] s) 7 Y M U o 440 [(0, .ref b), (1, .ref (Y.2.1 0)), (2, .ref (Y.2.1 8)), (3, .ref (Y.2.1 13)), (4, .int (nI (3 * i)))] [] := by
  have hE := rp_nodes hI (by omega) (xs (3 * i + 1))
  obtain ⟨g1, g2, g3⟩ := hE
  have g3 := rf_I_N g3 (show 3 * i ≤ 3 * i + 3 by omega)
  have hcd : (fb_nodes M (xs (3 * i + 1))).1 = 0 ∨ rf_cG (fb_nodes M (xs (3 * i + 1))).1 ≠ 0 := by rcases fx_nodes M (xs (3 * i + 1)) with h9 | h9 | h9 <;> first | exact Or.inl h9 | exact Or.inr (by rw [h9]; decide)
  refine vv_aload_n fx nd_LW_law_440 rfl 1 rfl ?_
  refine vv_aload_n fx nd_LW_law_441 rfl 0 rfl ?_
  refine vv_iload fx nd_LW_law_442 4 rfl ?_
  refine vv_iconst (v := nI 1) fx nd_LW_law_444 (by decide) ?_
  refine vv_iadd fx nd_LW_law_445 ?_
  refine vv_top (y := nI ((3 * i) + 1)) (nI_add _ _) ?_
  refine vv_sld fx hX hbl hbA (by omega) (by omega) nd_LW_law_446 ?_
  refine vv_aload_n fx nd_LW_law_447 rfl 3 rfl ?_
  refine vv_callSw fx (cc_LW_nodes l Y M U o (xs (3 * i + 1)) hst hI) nm_LW_88 ns_LW_nodes nz_LW nc_LW_nodes ni_LW_nodes ⟨rfl, rfl, by decide, by decide⟩ ⟨hc, hs⟩ (Nat.le_of_ble_eq_true rfl) nd_LW_law_448 rfl ?_
  refine vv_istore (L' := [(0, .ref b), (1, .ref (Y.2.1 0)), (2, .ref (Y.2.1 8)), (3, .ref (Y.2.1 13)), (4, .int (nI (3 * i))), (5, .int (rf_cG (fb_nodes M (xs (3 * i + 1))).1))]) fx nd_LW_law_451 (by decide) [1, 2, 3, 4, 5, 0] rfl ?_
  refine vv_aload_n fx nd_LW_law_453 rfl 2 rfl ?_
  refine vv_aload_n fx nd_LW_law_454 rfl 0 rfl ?_
  refine vv_iload fx nd_LW_law_455 4 rfl ?_
  refine vv_iconst (v := nI 1) fx nd_LW_law_457 (by decide) ?_
  refine vv_iadd fx nd_LW_law_458 ?_
  refine vv_top (y := nI ((3 * i) + 1)) (nI_add _ _) ?_
  refine vv_sld fx hX hbl hbA (by omega) (by omega) nd_LW_law_459 ?_
  refine vv_callVi (C := nr_MO) (T := nt_MO) (N := 10) (ci := 2) fx (cc_MO_nodes l Y (fb_nodes M (xs (3 * i + 1))).2.2 U (lw_o (fb_nodes M (xs (3 * i + 1))).1 (fb_nodes M (xs (3 * i + 1))).2.1 o) (xs (3 * i + 1)) (rf_moB hI)) nm_LW_90 ns_MO_nodes nv_MO_nodes nz_MO nc_MO_nodes ni_MO_nodes 8 rfl rfl ⟨rfl, rfl, by decide, by decide⟩ ⟨hc, hs⟩ (Nat.le_of_ble_eq_true rfl) nd_LW_law_460 rfl ?_
  refine vv_istore (L' := [(0, .ref b), (1, .ref (Y.2.1 0)), (2, .ref (Y.2.1 8)), (3, .ref (Y.2.1 13)), (4, .int (nI (3 * i))), (5, .int (rf_cG (fb_nodes M (xs (3 * i + 1))).1)), (6, .int ((mo_nodes U (xs (3 * i + 1))).1))]) fx nd_LW_law_463 (by decide) [1, 2, 3, 4, 5, 6, 0] rfl ?_
  refine vv_aload_n fx nd_LW_law_465 rfl 2 rfl ?_
  refine vv_callVi (C := nr_MO) (T := nt_MO) (N := 10) (ci := 2) fx (cc_MO_thrown l Y (fb_nodes M (xs (3 * i + 1))).2.2 (mo_nodes U (xs (3 * i + 1))).2 (lw_o (fb_nodes M (xs (3 * i + 1))).1 (fb_nodes M (xs (3 * i + 1))).2.1 o)) nm_LW_72 ns_MO_thrown nv_MO_thrown nz_MO nc_MO_thrown ni_MO_thrown 8 rfl rfl ⟨rfl, rfl, by decide, by decide⟩ ⟨hc, hs⟩ (Nat.le_of_ble_eq_true rfl) nd_LW_law_466 rfl ?_
  refine vv_iload fx nd_LW_law_469 5 rfl ?_
  refine vv_icmp_eq (tgt := 476) fx nd_LW_law_471 (by decide) (fun _ => ?_) (fun hb => absurd (g1) hb)
  refine vv_iload fx nd_LW_law_476 5 rfl ?_
  rcases hcd with h0 | h1
  · refine vv_if_ne (tgt := 493) fx nd_LW_law_478 (by decide) (fun hb => absurd (by rw [h0]; rfl) hb) (fun _ => ?_)
    refine vv_aload_n fx nd_LW_law_481 rfl 3 rfl ?_
    refine vv_iconst (v := nI 0) fx nd_LW_law_482 (by decide) ?_
    refine vv_lald fx (f := fun _ => lw_o (fb_nodes M (xs (3 * i + 1))).1 (fb_nodes M (xs (3 * i + 1))).2.1 o) 13 2 rfl rfl (by decide) (by decide) nd_LW_law_483 ?_
    refine vv_iload fx nd_LW_law_484 6 rfl ?_
    refine vv_i2l fx nd_LW_law_486 ?_
    refine vv_lcmp0 fx (by rw [h0]; exact congrArg Int32.toInt64 (g2 h0)) nd_LW_law_487 ?_
    refine vv_if_eq (tgt := 493) fx nd_LW_law_488 (by decide) (fun _ => ?_) (fun hb => absurd (rfl) hb)
    refine vv_goto (tgt := 984) fx nd_LW_law_493 (by decide) ?_
    refine vv_loc (L' := [(0, .ref b), (1, .ref (Y.2.1 0)), (2, .ref (Y.2.1 8)), (3, .ref (Y.2.1 13)), (4, .int (nI (3 * i)))]) [0, 1, 2, 3, 4] rfl ?_
    exact kk _ _ _ g3
  · refine vv_if_ne (tgt := 493) fx nd_LW_law_478 (by decide) (fun _ => ?_) (fun hb => absurd hb (h1))
    refine vv_goto (tgt := 984) fx nd_LW_law_493 (by decide) ?_
    refine vv_loc (L' := [(0, .ref b), (1, .ref (Y.2.1 0)), (2, .ref (Y.2.1 8)), (3, .ref (Y.2.1 13)), (4, .int (nI (3 * i)))]) [0, 1, 2, 3, 4] rfl ?_
    exact kk _ _ _ g3
set_option maxRecDepth 4000 in
theorem lc_6 (hst : l.stackTraces = false) (fx : vv_fix p s m #[Value.ref b] meth c code 7 ret nr_LW Y) (hX : va_X b L0 xs s s.heap) (hbl : b < s.heap.size) (hbA : ¬ Y.2.2.2 b) (hL : L0 ≤ 1536) (hi : 3 * i + 3 ≤ L0) (hI : rf_I M U (3 * i)) (hc : cells + 1 ≤ room_1.cells) (hs : slots + 6 ≤ room_1.slots) (kk : ∀ (M' U' : me_M) (o' : Int64), rf_I M' U' (3 * i + 3) → vv p l e room_1 s m #[Value.ref b] below meth c (cells + 1) (slots + 6) (lw_Z below #[Value.ref b] s) 7 Y M' U' o' 984 [(0, .ref b), (1, .ref (Y.2.1 0)), (2, .ref (Y.2.1 8)), (3, .ref (Y.2.1 13)), (4, .int (nI (3 * i)))] []) : vv p l e room_1 s m #[Value.ref b] below meth c cells slots (lw_Z below #[Value.ref b] s) 7 Y M U o 496 [(0, .ref b), (1, .ref (Y.2.1 0)), (2, .ref (Y.2.1 8)), (3, .ref (Y.2.1 13)), (4, .int (nI (3 * i)))] [] := by
  have hE := rp_shared hI (by omega) (xs (3 * i + 1)) (xs (3 * i + 2))
  obtain ⟨g1, g2, g3⟩ := hE
  have g3 := rf_I_N g3 (show 3 * i ≤ 3 * i + 3 by omega)
  have hcd : (fb_shared M (xs (3 * i + 1)) (xs (3 * i + 2))).1 = 0 ∨ rf_cG (fb_shared M (xs (3 * i + 1)) (xs (3 * i + 2))).1 ≠ 0 := by rcases fx_shared M (xs (3 * i + 1)) (xs (3 * i + 2)) with h9 | h9 | h9 <;> first | exact Or.inl h9 | exact Or.inr (by rw [h9]; decide)
  refine vv_aload_n fx nd_LW_law_496 rfl 1 rfl ?_
  refine vv_aload_n fx nd_LW_law_497 rfl 0 rfl ?_
  refine vv_iload fx nd_LW_law_498 4 rfl ?_
  refine vv_iconst (v := nI 1) fx nd_LW_law_500 (by decide) ?_
  refine vv_iadd fx nd_LW_law_501 ?_
  refine vv_top (y := nI ((3 * i) + 1)) (nI_add _ _) ?_
  refine vv_sld fx hX hbl hbA (by omega) (by omega) nd_LW_law_502 ?_
  refine vv_aload_n fx nd_LW_law_503 rfl 0 rfl ?_
  refine vv_iload fx nd_LW_law_504 4 rfl ?_
  refine vv_iconst (v := nI 2) fx nd_LW_law_506 (by decide) ?_
  refine vv_iadd fx nd_LW_law_507 ?_
  refine vv_top (y := nI ((3 * i) + 2)) (nI_add _ _) ?_
  refine vv_sld fx hX hbl hbA (by omega) (by omega) nd_LW_law_508 ?_
  refine vv_aload_n fx nd_LW_law_509 rfl 3 rfl ?_
  refine vv_callSw fx (cc_LW_shared l Y M U o (xs (3 * i + 1)) (xs (3 * i + 2)) hst hI) nm_LW_91 ns_LW_shared nz_LW nc_LW_shared ni_LW_shared ⟨rfl, rfl, by decide, by decide⟩ ⟨hc, hs⟩ (Nat.le_of_ble_eq_true rfl) nd_LW_law_510 rfl ?_
  refine vv_istore (L' := [(0, .ref b), (1, .ref (Y.2.1 0)), (2, .ref (Y.2.1 8)), (3, .ref (Y.2.1 13)), (4, .int (nI (3 * i))), (5, .int (rf_cG (fb_shared M (xs (3 * i + 1)) (xs (3 * i + 2))).1))]) fx nd_LW_law_513 (by decide) [1, 2, 3, 4, 5, 0] rfl ?_
  refine vv_aload_n fx nd_LW_law_515 rfl 2 rfl ?_
  refine vv_aload_n fx nd_LW_law_516 rfl 0 rfl ?_
  refine vv_iload fx nd_LW_law_517 4 rfl ?_
  refine vv_iconst (v := nI 1) fx nd_LW_law_519 (by decide) ?_
  refine vv_iadd fx nd_LW_law_520 ?_
  refine vv_top (y := nI ((3 * i) + 1)) (nI_add _ _) ?_
  refine vv_sld fx hX hbl hbA (by omega) (by omega) nd_LW_law_521 ?_
  refine vv_aload_n fx nd_LW_law_522 rfl 0 rfl ?_
  refine vv_iload fx nd_LW_law_523 4 rfl ?_
  refine vv_iconst (v := nI 2) fx nd_LW_law_525 (by decide) ?_
  refine vv_iadd fx nd_LW_law_526 ?_
  refine vv_top (y := nI ((3 * i) + 2)) (nI_add _ _) ?_
  refine vv_sld fx hX hbl hbA (by omega) (by omega) nd_LW_law_527 ?_
  refine vv_callVi (C := nr_MO) (T := nt_MO) (N := 10) (ci := 2) fx (cc_MO_shared l Y (fb_shared M (xs (3 * i + 1)) (xs (3 * i + 2))).2.2 U (lw_o (fb_shared M (xs (3 * i + 1)) (xs (3 * i + 2))).1 (fb_shared M (xs (3 * i + 1)) (xs (3 * i + 2))).2.1 o) (xs (3 * i + 1)) (xs (3 * i + 2)) (rf_moB hI)) nm_LW_93 ns_MO_shared nv_MO_shared nz_MO nc_MO_shared ni_MO_shared 8 rfl rfl ⟨rfl, rfl, by decide, by decide⟩ ⟨hc, hs⟩ (Nat.le_of_ble_eq_true rfl) nd_LW_law_528 rfl ?_
  refine vv_istore (L' := [(0, .ref b), (1, .ref (Y.2.1 0)), (2, .ref (Y.2.1 8)), (3, .ref (Y.2.1 13)), (4, .int (nI (3 * i))), (5, .int (rf_cG (fb_shared M (xs (3 * i + 1)) (xs (3 * i + 2))).1)), (6, .int ((mo_shared U (xs (3 * i + 1)) (xs (3 * i + 2))).1))]) fx nd_LW_law_531 (by decide) [1, 2, 3, 4, 5, 6, 0] rfl ?_
  refine vv_aload_n fx nd_LW_law_533 rfl 2 rfl ?_
  refine vv_callVi (C := nr_MO) (T := nt_MO) (N := 10) (ci := 2) fx (cc_MO_thrown l Y (fb_shared M (xs (3 * i + 1)) (xs (3 * i + 2))).2.2 (mo_shared U (xs (3 * i + 1)) (xs (3 * i + 2))).2 (lw_o (fb_shared M (xs (3 * i + 1)) (xs (3 * i + 2))).1 (fb_shared M (xs (3 * i + 1)) (xs (3 * i + 2))).2.1 o)) nm_LW_72 ns_MO_thrown nv_MO_thrown nz_MO nc_MO_thrown ni_MO_thrown 8 rfl rfl ⟨rfl, rfl, by decide, by decide⟩ ⟨hc, hs⟩ (Nat.le_of_ble_eq_true rfl) nd_LW_law_534 rfl ?_
  refine vv_iload fx nd_LW_law_537 5 rfl ?_
  refine vv_icmp_eq (tgt := 544) fx nd_LW_law_539 (by decide) (fun _ => ?_) (fun hb => absurd (g1) hb)
  refine vv_iload fx nd_LW_law_544 5 rfl ?_
  rcases hcd with h0 | h1
  · refine vv_if_ne (tgt := 561) fx nd_LW_law_546 (by decide) (fun hb => absurd (by rw [h0]; rfl) hb) (fun _ => ?_)
    refine vv_aload_n fx nd_LW_law_549 rfl 3 rfl ?_
    refine vv_iconst (v := nI 0) fx nd_LW_law_550 (by decide) ?_
    refine vv_lald fx (f := fun _ => lw_o (fb_shared M (xs (3 * i + 1)) (xs (3 * i + 2))).1 (fb_shared M (xs (3 * i + 1)) (xs (3 * i + 2))).2.1 o) 13 2 rfl rfl (by decide) (by decide) nd_LW_law_551 ?_
    refine vv_iload fx nd_LW_law_552 6 rfl ?_
    refine vv_i2l fx nd_LW_law_554 ?_
    refine vv_lcmp0 fx (by rw [h0]; exact congrArg Int32.toInt64 (g2 h0)) nd_LW_law_555 ?_
    refine vv_if_eq (tgt := 561) fx nd_LW_law_556 (by decide) (fun _ => ?_) (fun hb => absurd (rfl) hb)
    refine vv_goto (tgt := 984) fx nd_LW_law_561 (by decide) ?_
    refine vv_loc (L' := [(0, .ref b), (1, .ref (Y.2.1 0)), (2, .ref (Y.2.1 8)), (3, .ref (Y.2.1 13)), (4, .int (nI (3 * i)))]) [0, 1, 2, 3, 4] rfl ?_
    exact kk _ _ _ g3
  · refine vv_if_ne (tgt := 561) fx nd_LW_law_546 (by decide) (fun _ => ?_) (fun hb => absurd hb (h1))
    refine vv_goto (tgt := 984) fx nd_LW_law_561 (by decide) ?_
    refine vv_loc (L' := [(0, .ref b), (1, .ref (Y.2.1 0)), (2, .ref (Y.2.1 8)), (3, .ref (Y.2.1 13)), (4, .int (nI (3 * i)))]) [0, 1, 2, 3, 4] rfl ?_
    exact kk _ _ _ g3
set_option maxRecDepth 4000 in
theorem lc_7 (hst : l.stackTraces = false) (fx : vv_fix p s m #[Value.ref b] meth c code 7 ret nr_LW Y) (hX : va_X b L0 xs s s.heap) (hbl : b < s.heap.size) (hbA : ¬ Y.2.2.2 b) (hL : L0 ≤ 1536) (hi : 3 * i + 3 ≤ L0) (hI : rf_I M U (3 * i)) (hc : cells + 1 ≤ room_1.cells) (hs : slots + 6 ≤ room_1.slots) (kk : ∀ (M' U' : me_M) (o' : Int64), rf_I M' U' (3 * i + 3) → vv p l e room_1 s m #[Value.ref b] below meth c (cells + 1) (slots + 6) (lw_Z below #[Value.ref b] s) 7 Y M' U' o' 984 [(0, .ref b), (1, .ref (Y.2.1 0)), (2, .ref (Y.2.1 8)), (3, .ref (Y.2.1 13)), (4, .int (nI (3 * i)))] []) : vv p l e room_1 s m #[Value.ref b] below meth c cells slots (lw_Z below #[Value.ref b] s) 7 Y M U o 564 [(0, .ref b), (1, .ref (Y.2.1 0)), (2, .ref (Y.2.1 8)), (3, .ref (Y.2.1 13)), (4, .int (nI (3 * i)))] [] := by
  have hE := rp_differ hI (by omega) (xs (3 * i + 1)) (xs (3 * i + 2))
  obtain ⟨g1, g2, g3⟩ := hE
  have g3 := rf_I_N g3 (show 3 * i ≤ 3 * i + 3 by omega)
  have hcd : (fb_differ M (xs (3 * i + 1)) (xs (3 * i + 2))).1 = 0 ∨ rf_cG (fb_differ M (xs (3 * i + 1)) (xs (3 * i + 2))).1 ≠ 0 := by rcases fx_differ M (xs (3 * i + 1)) (xs (3 * i + 2)) with h9 | h9 | h9 <;> first | exact Or.inl h9 | exact Or.inr (by rw [h9]; decide)
  refine vv_aload_n fx nd_LW_law_564 rfl 1 rfl ?_
  refine vv_aload_n fx nd_LW_law_565 rfl 0 rfl ?_
  refine vv_iload fx nd_LW_law_566 4 rfl ?_
  refine vv_iconst (v := nI 1) fx nd_LW_law_568 (by decide) ?_
  refine vv_iadd fx nd_LW_law_569 ?_
  refine vv_top (y := nI ((3 * i) + 1)) (nI_add _ _) ?_
  refine vv_sld fx hX hbl hbA (by omega) (by omega) nd_LW_law_570 ?_
  refine vv_aload_n fx nd_LW_law_571 rfl 0 rfl ?_
  refine vv_iload fx nd_LW_law_572 4 rfl ?_
  refine vv_iconst (v := nI 2) fx nd_LW_law_574 (by decide) ?_
  refine vv_iadd fx nd_LW_law_575 ?_
  refine vv_top (y := nI ((3 * i) + 2)) (nI_add _ _) ?_
  refine vv_sld fx hX hbl hbA (by omega) (by omega) nd_LW_law_576 ?_
  refine vv_aload_n fx nd_LW_law_577 rfl 3 rfl ?_
  refine vv_callSw fx (cc_LW_differ l Y M U o (xs (3 * i + 1)) (xs (3 * i + 2)) hst hI) nm_LW_94 ns_LW_differ nz_LW nc_LW_differ ni_LW_differ ⟨rfl, rfl, by decide, by decide⟩ ⟨hc, hs⟩ (Nat.le_of_ble_eq_true rfl) nd_LW_law_578 rfl ?_
  refine vv_istore (L' := [(0, .ref b), (1, .ref (Y.2.1 0)), (2, .ref (Y.2.1 8)), (3, .ref (Y.2.1 13)), (4, .int (nI (3 * i))), (5, .int (rf_cG (fb_differ M (xs (3 * i + 1)) (xs (3 * i + 2))).1))]) fx nd_LW_law_581 (by decide) [1, 2, 3, 4, 5, 0] rfl ?_
  refine vv_aload_n fx nd_LW_law_583 rfl 2 rfl ?_
  refine vv_aload_n fx nd_LW_law_584 rfl 0 rfl ?_
  refine vv_iload fx nd_LW_law_585 4 rfl ?_
  refine vv_iconst (v := nI 1) fx nd_LW_law_587 (by decide) ?_
  refine vv_iadd fx nd_LW_law_588 ?_
  refine vv_top (y := nI ((3 * i) + 1)) (nI_add _ _) ?_
  refine vv_sld fx hX hbl hbA (by omega) (by omega) nd_LW_law_589 ?_
  refine vv_aload_n fx nd_LW_law_590 rfl 0 rfl ?_
  refine vv_iload fx nd_LW_law_591 4 rfl ?_
  refine vv_iconst (v := nI 2) fx nd_LW_law_593 (by decide) ?_
  refine vv_iadd fx nd_LW_law_594 ?_
  refine vv_top (y := nI ((3 * i) + 2)) (nI_add _ _) ?_
  refine vv_sld fx hX hbl hbA (by omega) (by omega) nd_LW_law_595 ?_
  refine vv_callVi (C := nr_MO) (T := nt_MO) (N := 10) (ci := 2) fx (cc_MO_differ l Y (fb_differ M (xs (3 * i + 1)) (xs (3 * i + 2))).2.2 U (lw_o (fb_differ M (xs (3 * i + 1)) (xs (3 * i + 2))).1 (fb_differ M (xs (3 * i + 1)) (xs (3 * i + 2))).2.1 o) (xs (3 * i + 1)) (xs (3 * i + 2)) (rf_moB hI)) nm_LW_96 ns_MO_differ nv_MO_differ nz_MO nc_MO_differ ni_MO_differ 8 rfl rfl ⟨rfl, rfl, by decide, by decide⟩ ⟨hc, hs⟩ (Nat.le_of_ble_eq_true rfl) nd_LW_law_596 rfl ?_
  refine vv_istore (L' := [(0, .ref b), (1, .ref (Y.2.1 0)), (2, .ref (Y.2.1 8)), (3, .ref (Y.2.1 13)), (4, .int (nI (3 * i))), (5, .int (rf_cG (fb_differ M (xs (3 * i + 1)) (xs (3 * i + 2))).1)), (6, .int ((mo_differ U (xs (3 * i + 1)) (xs (3 * i + 2))).1))]) fx nd_LW_law_599 (by decide) [1, 2, 3, 4, 5, 6, 0] rfl ?_
  refine vv_aload_n fx nd_LW_law_601 rfl 2 rfl ?_
  refine vv_callVi (C := nr_MO) (T := nt_MO) (N := 10) (ci := 2) fx (cc_MO_thrown l Y (fb_differ M (xs (3 * i + 1)) (xs (3 * i + 2))).2.2 (mo_differ U (xs (3 * i + 1)) (xs (3 * i + 2))).2 (lw_o (fb_differ M (xs (3 * i + 1)) (xs (3 * i + 2))).1 (fb_differ M (xs (3 * i + 1)) (xs (3 * i + 2))).2.1 o)) nm_LW_72 ns_MO_thrown nv_MO_thrown nz_MO nc_MO_thrown ni_MO_thrown 8 rfl rfl ⟨rfl, rfl, by decide, by decide⟩ ⟨hc, hs⟩ (Nat.le_of_ble_eq_true rfl) nd_LW_law_602 rfl ?_
  refine vv_iload fx nd_LW_law_605 5 rfl ?_
  refine vv_icmp_eq (tgt := 612) fx nd_LW_law_607 (by decide) (fun _ => ?_) (fun hb => absurd (g1) hb)
  refine vv_iload fx nd_LW_law_612 5 rfl ?_
  rcases hcd with h0 | h1
  · refine vv_if_ne (tgt := 629) fx nd_LW_law_614 (by decide) (fun hb => absurd (by rw [h0]; rfl) hb) (fun _ => ?_)
    refine vv_aload_n fx nd_LW_law_617 rfl 3 rfl ?_
    refine vv_iconst (v := nI 0) fx nd_LW_law_618 (by decide) ?_
    refine vv_lald fx (f := fun _ => lw_o (fb_differ M (xs (3 * i + 1)) (xs (3 * i + 2))).1 (fb_differ M (xs (3 * i + 1)) (xs (3 * i + 2))).2.1 o) 13 2 rfl rfl (by decide) (by decide) nd_LW_law_619 ?_
    refine vv_iload fx nd_LW_law_620 6 rfl ?_
    refine vv_i2l fx nd_LW_law_622 ?_
    refine vv_lcmp0 fx (by rw [h0]; exact congrArg Int32.toInt64 (g2 h0)) nd_LW_law_623 ?_
    refine vv_if_eq (tgt := 629) fx nd_LW_law_624 (by decide) (fun _ => ?_) (fun hb => absurd (rfl) hb)
    refine vv_goto (tgt := 984) fx nd_LW_law_629 (by decide) ?_
    refine vv_loc (L' := [(0, .ref b), (1, .ref (Y.2.1 0)), (2, .ref (Y.2.1 8)), (3, .ref (Y.2.1 13)), (4, .int (nI (3 * i)))]) [0, 1, 2, 3, 4] rfl ?_
    exact kk _ _ _ g3
  · refine vv_if_ne (tgt := 629) fx nd_LW_law_614 (by decide) (fun _ => ?_) (fun hb => absurd hb (h1))
    refine vv_goto (tgt := 984) fx nd_LW_law_629 (by decide) ?_
    refine vv_loc (L' := [(0, .ref b), (1, .ref (Y.2.1 0)), (2, .ref (Y.2.1 8)), (3, .ref (Y.2.1 13)), (4, .int (nI (3 * i)))]) [0, 1, 2, 3, 4] rfl ?_
    exact kk _ _ _ g3
set_option maxRecDepth 4000 in
theorem lc_8 (hst : l.stackTraces = false) (fx : vv_fix p s m #[Value.ref b] meth c code 7 ret nr_LW Y) (hX : va_X b L0 xs s s.heap) (hbl : b < s.heap.size) (hbA : ¬ Y.2.2.2 b) (hL : L0 ≤ 1536) (hi : 3 * i + 3 ≤ L0) (hI : rf_I M U (3 * i)) (hc : cells + 1 ≤ room_1.cells) (hs : slots + 6 ≤ room_1.slots) (kk : ∀ (M' U' : me_M) (o' : Int64), rf_I M' U' (3 * i + 3) → vv p l e room_1 s m #[Value.ref b] below meth c (cells + 1) (slots + 6) (lw_Z below #[Value.ref b] s) 7 Y M' U' o' 984 [(0, .ref b), (1, .ref (Y.2.1 0)), (2, .ref (Y.2.1 8)), (3, .ref (Y.2.1 13)), (4, .int (nI (3 * i)))] []) : vv p l e room_1 s m #[Value.ref b] below meth c cells slots (lw_Z below #[Value.ref b] s) 7 Y M U o 632 [(0, .ref b), (1, .ref (Y.2.1 0)), (2, .ref (Y.2.1 8)), (3, .ref (Y.2.1 13)), (4, .int (nI (3 * i)))] [] := by
  have hE := rp_snapshot hI (by omega)
  obtain ⟨g1, g2, g3⟩ := hE
  have g3 := rf_I_N g3 (show 3 * i ≤ 3 * i + 3 by omega)
  have hcd : (fb_snapshot M).1 = 0 ∨ rf_cS (fb_snapshot M).1 ≠ 0 := by rcases fx_snapshot M with h9 | h9 | h9 <;> first | exact Or.inl h9 | exact Or.inr (by rw [h9]; decide)
  refine vv_aload_n fx nd_LW_law_632 rfl 1 rfl ?_
  refine vv_aload_n fx nd_LW_law_633 rfl 3 rfl ?_
  refine vv_callSw fx (cc_LW_snapshot l Y M U o hst hI) nm_LW_97 ns_LW_snapshot nz_LW nc_LW_snapshot ni_LW_snapshot ⟨rfl, rfl, by decide, by decide⟩ ⟨hc, hs⟩ (Nat.le_of_ble_eq_true rfl) nd_LW_law_634 rfl ?_
  refine vv_istore (L' := [(0, .ref b), (1, .ref (Y.2.1 0)), (2, .ref (Y.2.1 8)), (3, .ref (Y.2.1 13)), (4, .int (nI (3 * i))), (5, .int (rf_cS (fb_snapshot M).1))]) fx nd_LW_law_637 (by decide) [1, 2, 3, 4, 5, 0] rfl ?_
  refine vv_aload_n fx nd_LW_law_639 rfl 2 rfl ?_
  refine vv_callVi (C := nr_MO) (T := nt_MO) (N := 10) (ci := 2) fx (cc_MO_snapshot l Y (fb_snapshot M).2.2 U (lw_o (fb_snapshot M).1 (fb_snapshot M).2.1 o) (rf_moB hI)) nm_LW_100 ns_MO_snapshot nv_MO_snapshot nz_MO nc_MO_snapshot ni_MO_snapshot 8 rfl rfl ⟨rfl, rfl, by decide, by decide⟩ ⟨hc, hs⟩ (Nat.le_of_ble_eq_true rfl) nd_LW_law_640 rfl ?_
  refine vv_istore (L' := [(0, .ref b), (1, .ref (Y.2.1 0)), (2, .ref (Y.2.1 8)), (3, .ref (Y.2.1 13)), (4, .int (nI (3 * i))), (5, .int (rf_cS (fb_snapshot M).1)), (6, .int ((mo_snapshot U).1))]) fx nd_LW_law_643 (by decide) [1, 2, 3, 4, 5, 6, 0] rfl ?_
  refine vv_aload_n fx nd_LW_law_645 rfl 2 rfl ?_
  refine vv_callVi (C := nr_MO) (T := nt_MO) (N := 10) (ci := 2) fx (cc_MO_thrown l Y (fb_snapshot M).2.2 (mo_snapshot U).2 (lw_o (fb_snapshot M).1 (fb_snapshot M).2.1 o)) nm_LW_72 ns_MO_thrown nv_MO_thrown nz_MO nc_MO_thrown ni_MO_thrown 8 rfl rfl ⟨rfl, rfl, by decide, by decide⟩ ⟨hc, hs⟩ (Nat.le_of_ble_eq_true rfl) nd_LW_law_646 rfl ?_
  refine vv_iload fx nd_LW_law_649 5 rfl ?_
  refine vv_icmp_eq (tgt := 656) fx nd_LW_law_651 (by decide) (fun _ => ?_) (fun hb => absurd (g1) hb)
  refine vv_iload fx nd_LW_law_656 5 rfl ?_
  rcases hcd with h0 | h1
  · refine vv_if_ne (tgt := 673) fx nd_LW_law_658 (by decide) (fun hb => absurd (by rw [h0]; rfl) hb) (fun _ => ?_)
    refine vv_aload_n fx nd_LW_law_661 rfl 3 rfl ?_
    refine vv_iconst (v := nI 0) fx nd_LW_law_662 (by decide) ?_
    refine vv_lald fx (f := fun _ => lw_o (fb_snapshot M).1 (fb_snapshot M).2.1 o) 13 2 rfl rfl (by decide) (by decide) nd_LW_law_663 ?_
    refine vv_iload fx nd_LW_law_664 6 rfl ?_
    refine vv_i2l fx nd_LW_law_666 ?_
    refine vv_lcmp0 fx (by rw [h0]; exact congrArg Int32.toInt64 (g2 h0)) nd_LW_law_667 ?_
    refine vv_if_eq (tgt := 673) fx nd_LW_law_668 (by decide) (fun _ => ?_) (fun hb => absurd (rfl) hb)
    refine vv_goto (tgt := 984) fx nd_LW_law_673 (by decide) ?_
    refine vv_loc (L' := [(0, .ref b), (1, .ref (Y.2.1 0)), (2, .ref (Y.2.1 8)), (3, .ref (Y.2.1 13)), (4, .int (nI (3 * i)))]) [0, 1, 2, 3, 4] rfl ?_
    exact kk _ _ _ g3
  · refine vv_if_ne (tgt := 673) fx nd_LW_law_658 (by decide) (fun _ => ?_) (fun hb => absurd hb (h1))
    refine vv_goto (tgt := 984) fx nd_LW_law_673 (by decide) ?_
    refine vv_loc (L' := [(0, .ref b), (1, .ref (Y.2.1 0)), (2, .ref (Y.2.1 8)), (3, .ref (Y.2.1 13)), (4, .int (nI (3 * i)))]) [0, 1, 2, 3, 4] rfl ?_
    exact kk _ _ _ g3
set_option maxRecDepth 4000 in
theorem lc_9 (hst : l.stackTraces = false) (fx : vv_fix p s m #[Value.ref b] meth c code 7 ret nr_LW Y) (hX : va_X b L0 xs s s.heap) (hbl : b < s.heap.size) (hbA : ¬ Y.2.2.2 b) (hL : L0 ≤ 1536) (hi : 3 * i + 3 ≤ L0) (hI : rf_I M U (3 * i)) (hc : cells + 1 ≤ room_1.cells) (hs : slots + 6 ≤ room_1.slots) (kk : ∀ (M' U' : me_M) (o' : Int64), rf_I M' U' (3 * i + 3) → vv p l e room_1 s m #[Value.ref b] below meth c (cells + 1) (slots + 6) (lw_Z below #[Value.ref b] s) 7 Y M' U' o' 984 [(0, .ref b), (1, .ref (Y.2.1 0)), (2, .ref (Y.2.1 8)), (3, .ref (Y.2.1 13)), (4, .int (nI (3 * i)))] []) : vv p l e room_1 s m #[Value.ref b] below meth c cells slots (lw_Z below #[Value.ref b] s) 7 Y M U o 676 [(0, .ref b), (1, .ref (Y.2.1 0)), (2, .ref (Y.2.1 8)), (3, .ref (Y.2.1 13)), (4, .int (nI (3 * i)))] [] := by
  have hE := rp_rollback hI (by omega) (xs (3 * i + 1))
  obtain ⟨g1, g2, g3⟩ := hE
  have g3 := rf_I_N g3 (show 3 * i ≤ 3 * i + 3 by omega)
  have hcd : (fb_rollback M (xs (3 * i + 1))).1 = 0 ∨ rf_cG (fb_rollback M (xs (3 * i + 1))).1 ≠ 0 := by rcases fx_rollback M (xs (3 * i + 1)) with h9 | h9 | h9 <;> first | exact Or.inl h9 | exact Or.inr (by rw [h9]; decide)
  refine vv_aload_n fx nd_LW_law_676 rfl 1 rfl ?_
  refine vv_aload_n fx nd_LW_law_677 rfl 0 rfl ?_
  refine vv_iload fx nd_LW_law_678 4 rfl ?_
  refine vv_iconst (v := nI 1) fx nd_LW_law_680 (by decide) ?_
  refine vv_iadd fx nd_LW_law_681 ?_
  refine vv_top (y := nI ((3 * i) + 1)) (nI_add _ _) ?_
  refine vv_sld fx hX hbl hbA (by omega) (by omega) nd_LW_law_682 ?_
  refine vv_aload_n fx nd_LW_law_683 rfl 3 rfl ?_
  refine vv_callSw fx (cc_LW_rollback l Y M U o (xs (3 * i + 1)) hst hI) nm_LW_101 ns_LW_rollback nz_LW nc_LW_rollback ni_LW_rollback ⟨rfl, rfl, by decide, by decide⟩ ⟨hc, hs⟩ (Nat.le_of_ble_eq_true rfl) nd_LW_law_684 rfl ?_
  refine vv_istore (L' := [(0, .ref b), (1, .ref (Y.2.1 0)), (2, .ref (Y.2.1 8)), (3, .ref (Y.2.1 13)), (4, .int (nI (3 * i))), (5, .int (rf_cG (fb_rollback M (xs (3 * i + 1))).1))]) fx nd_LW_law_687 (by decide) [1, 2, 3, 4, 5, 0] rfl ?_
  refine vv_aload_n fx nd_LW_law_689 rfl 2 rfl ?_
  refine vv_aload_n fx nd_LW_law_690 rfl 0 rfl ?_
  refine vv_iload fx nd_LW_law_691 4 rfl ?_
  refine vv_iconst (v := nI 1) fx nd_LW_law_693 (by decide) ?_
  refine vv_iadd fx nd_LW_law_694 ?_
  refine vv_top (y := nI ((3 * i) + 1)) (nI_add _ _) ?_
  refine vv_sld fx hX hbl hbA (by omega) (by omega) nd_LW_law_695 ?_
  refine vv_callVi (C := nr_MO) (T := nt_MO) (N := 10) (ci := 2) fx (cc_MO_rollback l Y (fb_rollback M (xs (3 * i + 1))).2.2 U (lw_o (fb_rollback M (xs (3 * i + 1))).1 (fb_rollback M (xs (3 * i + 1))).2.1 o) (xs (3 * i + 1)) (rf_moB hI)) nm_LW_103 ns_MO_rollback nv_MO_rollback nz_MO nc_MO_rollback ni_MO_rollback 8 rfl rfl ⟨rfl, rfl, by decide, by decide⟩ ⟨hc, hs⟩ (Nat.le_of_ble_eq_true rfl) nd_LW_law_696 rfl ?_
  refine vv_istore (L' := [(0, .ref b), (1, .ref (Y.2.1 0)), (2, .ref (Y.2.1 8)), (3, .ref (Y.2.1 13)), (4, .int (nI (3 * i))), (5, .int (rf_cG (fb_rollback M (xs (3 * i + 1))).1)), (6, .int ((mo_rollback U (xs (3 * i + 1))).1))]) fx nd_LW_law_699 (by decide) [1, 2, 3, 4, 5, 6, 0] rfl ?_
  refine vv_aload_n fx nd_LW_law_701 rfl 2 rfl ?_
  refine vv_callVi (C := nr_MO) (T := nt_MO) (N := 10) (ci := 2) fx (cc_MO_thrown l Y (fb_rollback M (xs (3 * i + 1))).2.2 (mo_rollback U (xs (3 * i + 1))).2 (lw_o (fb_rollback M (xs (3 * i + 1))).1 (fb_rollback M (xs (3 * i + 1))).2.1 o)) nm_LW_72 ns_MO_thrown nv_MO_thrown nz_MO nc_MO_thrown ni_MO_thrown 8 rfl rfl ⟨rfl, rfl, by decide, by decide⟩ ⟨hc, hs⟩ (Nat.le_of_ble_eq_true rfl) nd_LW_law_702 rfl ?_
  refine vv_iload fx nd_LW_law_705 5 rfl ?_
  refine vv_icmp_eq (tgt := 712) fx nd_LW_law_707 (by decide) (fun _ => ?_) (fun hb => absurd (g1) hb)
  refine vv_iload fx nd_LW_law_712 5 rfl ?_
  rcases hcd with h0 | h1
  · refine vv_if_ne (tgt := 729) fx nd_LW_law_714 (by decide) (fun hb => absurd (by rw [h0]; rfl) hb) (fun _ => ?_)
    refine vv_aload_n fx nd_LW_law_717 rfl 3 rfl ?_
    refine vv_iconst (v := nI 0) fx nd_LW_law_718 (by decide) ?_
    refine vv_lald fx (f := fun _ => lw_o (fb_rollback M (xs (3 * i + 1))).1 (fb_rollback M (xs (3 * i + 1))).2.1 o) 13 2 rfl rfl (by decide) (by decide) nd_LW_law_719 ?_
    refine vv_iload fx nd_LW_law_720 6 rfl ?_
    refine vv_i2l fx nd_LW_law_722 ?_
    refine vv_lcmp0 fx (by rw [h0]; exact congrArg Int32.toInt64 (g2 h0)) nd_LW_law_723 ?_
    refine vv_if_eq (tgt := 729) fx nd_LW_law_724 (by decide) (fun _ => ?_) (fun hb => absurd (rfl) hb)
    refine vv_goto (tgt := 984) fx nd_LW_law_729 (by decide) ?_
    refine vv_loc (L' := [(0, .ref b), (1, .ref (Y.2.1 0)), (2, .ref (Y.2.1 8)), (3, .ref (Y.2.1 13)), (4, .int (nI (3 * i)))]) [0, 1, 2, 3, 4] rfl ?_
    exact kk _ _ _ g3
  · refine vv_if_ne (tgt := 729) fx nd_LW_law_714 (by decide) (fun _ => ?_) (fun hb => absurd hb (h1))
    refine vv_goto (tgt := 984) fx nd_LW_law_729 (by decide) ?_
    refine vv_loc (L' := [(0, .ref b), (1, .ref (Y.2.1 0)), (2, .ref (Y.2.1 8)), (3, .ref (Y.2.1 13)), (4, .int (nI (3 * i)))]) [0, 1, 2, 3, 4] rfl ?_
    exact kk _ _ _ g3
set_option maxRecDepth 4000 in
theorem lc_10 (hst : l.stackTraces = false) (fx : vv_fix p s m #[Value.ref b] meth c code 7 ret nr_LW Y) (hX : va_X b L0 xs s s.heap) (hbl : b < s.heap.size) (hbA : ¬ Y.2.2.2 b) (hL : L0 ≤ 1536) (hi : 3 * i + 3 ≤ L0) (hI : rf_I M U (3 * i)) (hc : cells + 1 ≤ room_1.cells) (hs : slots + 6 ≤ room_1.slots) (kk : ∀ (M' U' : me_M) (o' : Int64), rf_I M' U' (3 * i + 3) → vv p l e room_1 s m #[Value.ref b] below meth c (cells + 1) (slots + 6) (lw_Z below #[Value.ref b] s) 7 Y M' U' o' 984 [(0, .ref b), (1, .ref (Y.2.1 0)), (2, .ref (Y.2.1 8)), (3, .ref (Y.2.1 13)), (4, .int (nI (3 * i)))] []) : vv p l e room_1 s m #[Value.ref b] below meth c cells slots (lw_Z below #[Value.ref b] s) 7 Y M U o 732 [(0, .ref b), (1, .ref (Y.2.1 0)), (2, .ref (Y.2.1 8)), (3, .ref (Y.2.1 13)), (4, .int (nI (3 * i)))] [] := by
  have hE := rp_drop hI (by omega) (xs (3 * i + 1))
  obtain ⟨g1, g2, g3⟩ := hE
  have g3 := rf_I_N g3 (show 3 * i ≤ 3 * i + 3 by omega)
  have hcd : (fb_drop M (xs (3 * i + 1))).1 = 0 ∨ rf_cG (fb_drop M (xs (3 * i + 1))).1 ≠ 0 := by rcases fx_drop M (xs (3 * i + 1)) with h9 | h9 | h9 <;> first | exact Or.inl h9 | exact Or.inr (by rw [h9]; decide)
  refine vv_aload_n fx nd_LW_law_732 rfl 1 rfl ?_
  refine vv_aload_n fx nd_LW_law_733 rfl 0 rfl ?_
  refine vv_iload fx nd_LW_law_734 4 rfl ?_
  refine vv_iconst (v := nI 1) fx nd_LW_law_736 (by decide) ?_
  refine vv_iadd fx nd_LW_law_737 ?_
  refine vv_top (y := nI ((3 * i) + 1)) (nI_add _ _) ?_
  refine vv_sld fx hX hbl hbA (by omega) (by omega) nd_LW_law_738 ?_
  refine vv_aload_n fx nd_LW_law_739 rfl 3 rfl ?_
  refine vv_callSw fx (cc_LW_drop l Y M U o (xs (3 * i + 1)) hst hI) nm_LW_104 ns_LW_drop nz_LW nc_LW_drop ni_LW_drop ⟨rfl, rfl, by decide, by decide⟩ ⟨hc, hs⟩ (Nat.le_of_ble_eq_true rfl) nd_LW_law_740 rfl ?_
  refine vv_istore (L' := [(0, .ref b), (1, .ref (Y.2.1 0)), (2, .ref (Y.2.1 8)), (3, .ref (Y.2.1 13)), (4, .int (nI (3 * i))), (5, .int (rf_cG (fb_drop M (xs (3 * i + 1))).1))]) fx nd_LW_law_743 (by decide) [1, 2, 3, 4, 5, 0] rfl ?_
  refine vv_aload_n fx nd_LW_law_745 rfl 2 rfl ?_
  refine vv_aload_n fx nd_LW_law_746 rfl 0 rfl ?_
  refine vv_iload fx nd_LW_law_747 4 rfl ?_
  refine vv_iconst (v := nI 1) fx nd_LW_law_749 (by decide) ?_
  refine vv_iadd fx nd_LW_law_750 ?_
  refine vv_top (y := nI ((3 * i) + 1)) (nI_add _ _) ?_
  refine vv_sld fx hX hbl hbA (by omega) (by omega) nd_LW_law_751 ?_
  refine vv_callVi (C := nr_MO) (T := nt_MO) (N := 10) (ci := 2) fx (cc_MO_drop l Y (fb_drop M (xs (3 * i + 1))).2.2 U (lw_o (fb_drop M (xs (3 * i + 1))).1 (fb_drop M (xs (3 * i + 1))).2.1 o) (xs (3 * i + 1)) (rf_moB hI)) nm_LW_106 ns_MO_drop nv_MO_drop nz_MO nc_MO_drop ni_MO_drop 8 rfl rfl ⟨rfl, rfl, by decide, by decide⟩ ⟨hc, hs⟩ (Nat.le_of_ble_eq_true rfl) nd_LW_law_752 rfl ?_
  refine vv_istore (L' := [(0, .ref b), (1, .ref (Y.2.1 0)), (2, .ref (Y.2.1 8)), (3, .ref (Y.2.1 13)), (4, .int (nI (3 * i))), (5, .int (rf_cG (fb_drop M (xs (3 * i + 1))).1)), (6, .int ((mo_drop U (xs (3 * i + 1))).1))]) fx nd_LW_law_755 (by decide) [1, 2, 3, 4, 5, 6, 0] rfl ?_
  refine vv_aload_n fx nd_LW_law_757 rfl 2 rfl ?_
  refine vv_callVi (C := nr_MO) (T := nt_MO) (N := 10) (ci := 2) fx (cc_MO_thrown l Y (fb_drop M (xs (3 * i + 1))).2.2 (mo_drop U (xs (3 * i + 1))).2 (lw_o (fb_drop M (xs (3 * i + 1))).1 (fb_drop M (xs (3 * i + 1))).2.1 o)) nm_LW_72 ns_MO_thrown nv_MO_thrown nz_MO nc_MO_thrown ni_MO_thrown 8 rfl rfl ⟨rfl, rfl, by decide, by decide⟩ ⟨hc, hs⟩ (Nat.le_of_ble_eq_true rfl) nd_LW_law_758 rfl ?_
  refine vv_iload fx nd_LW_law_761 5 rfl ?_
  refine vv_icmp_eq (tgt := 768) fx nd_LW_law_763 (by decide) (fun _ => ?_) (fun hb => absurd (g1) hb)
  refine vv_iload fx nd_LW_law_768 5 rfl ?_
  rcases hcd with h0 | h1
  · refine vv_if_ne (tgt := 785) fx nd_LW_law_770 (by decide) (fun hb => absurd (by rw [h0]; rfl) hb) (fun _ => ?_)
    refine vv_aload_n fx nd_LW_law_773 rfl 3 rfl ?_
    refine vv_iconst (v := nI 0) fx nd_LW_law_774 (by decide) ?_
    refine vv_lald fx (f := fun _ => lw_o (fb_drop M (xs (3 * i + 1))).1 (fb_drop M (xs (3 * i + 1))).2.1 o) 13 2 rfl rfl (by decide) (by decide) nd_LW_law_775 ?_
    refine vv_iload fx nd_LW_law_776 6 rfl ?_
    refine vv_i2l fx nd_LW_law_778 ?_
    refine vv_lcmp0 fx (by rw [h0]; exact congrArg Int32.toInt64 (g2 h0)) nd_LW_law_779 ?_
    refine vv_if_eq (tgt := 785) fx nd_LW_law_780 (by decide) (fun _ => ?_) (fun hb => absurd (rfl) hb)
    refine vv_goto (tgt := 984) fx nd_LW_law_785 (by decide) ?_
    refine vv_loc (L' := [(0, .ref b), (1, .ref (Y.2.1 0)), (2, .ref (Y.2.1 8)), (3, .ref (Y.2.1 13)), (4, .int (nI (3 * i)))]) [0, 1, 2, 3, 4] rfl ?_
    exact kk _ _ _ g3
  · refine vv_if_ne (tgt := 785) fx nd_LW_law_770 (by decide) (fun _ => ?_) (fun hb => absurd hb (h1))
    refine vv_goto (tgt := 984) fx nd_LW_law_785 (by decide) ?_
    refine vv_loc (L' := [(0, .ref b), (1, .ref (Y.2.1 0)), (2, .ref (Y.2.1 8)), (3, .ref (Y.2.1 13)), (4, .int (nI (3 * i)))]) [0, 1, 2, 3, 4] rfl ?_
    exact kk _ _ _ g3
set_option maxRecDepth 4000 in
theorem lc_11 (hst : l.stackTraces = false) (fx : vv_fix p s m #[Value.ref b] meth c code 7 ret nr_LW Y) (hX : va_X b L0 xs s s.heap) (hbl : b < s.heap.size) (hbA : ¬ Y.2.2.2 b) (hL : L0 ≤ 1536) (hi : 3 * i + 3 ≤ L0) (hI : rf_I M U (3 * i)) (hc : cells + 1 ≤ room_1.cells) (hs : slots + 6 ≤ room_1.slots) (kk : ∀ (M' U' : me_M) (o' : Int64), rf_I M' U' (3 * i + 3) → vv p l e room_1 s m #[Value.ref b] below meth c (cells + 1) (slots + 6) (lw_Z below #[Value.ref b] s) 7 Y M' U' o' 984 [(0, .ref b), (1, .ref (Y.2.1 0)), (2, .ref (Y.2.1 8)), (3, .ref (Y.2.1 13)), (4, .int (nI (3 * i)))] []) : vv p l e room_1 s m #[Value.ref b] below meth c cells slots (lw_Z below #[Value.ref b] s) 7 Y M U o 788 [(0, .ref b), (1, .ref (Y.2.1 0)), (2, .ref (Y.2.1 8)), (3, .ref (Y.2.1 13)), (4, .int (nI (3 * i)))] [] := by
  have hE := rp_commit hI (by omega)
  obtain ⟨g1, g2, g3⟩ := hE
  have g3 := rf_I_N g3 (show 3 * i ≤ 3 * i + 3 by omega)
  have hcd : (fb_commit M).1 = 0 ∨ rf_cG (fb_commit M).1 ≠ 0 := by rcases fx_commit M with h9 | h9 <;> first | exact Or.inl h9 | exact Or.inr (by rw [h9]; decide)
  refine vv_aload_n fx nd_LW_law_788 rfl 1 rfl ?_
  refine vv_aload_n fx nd_LW_law_789 rfl 3 rfl ?_
  refine vv_callSw fx (cc_LW_commit l Y M U o hst hI) nm_LW_107 ns_LW_commit nz_LW nc_LW_commit ni_LW_commit ⟨rfl, rfl, by decide, by decide⟩ ⟨hc, hs⟩ (Nat.le_of_ble_eq_true rfl) nd_LW_law_790 rfl ?_
  refine vv_istore (L' := [(0, .ref b), (1, .ref (Y.2.1 0)), (2, .ref (Y.2.1 8)), (3, .ref (Y.2.1 13)), (4, .int (nI (3 * i))), (5, .int (rf_cG (fb_commit M).1))]) fx nd_LW_law_793 (by decide) [1, 2, 3, 4, 5, 0] rfl ?_
  refine vv_aload_n fx nd_LW_law_795 rfl 2 rfl ?_
  refine vv_callVi (C := nr_MO) (T := nt_MO) (N := 10) (ci := 2) fx (cc_MO_commit l Y (fb_commit M).2.2 U (lw_o (fb_commit M).1 (fb_commit M).2.1 o) (rf_moB hI)) nm_LW_109 ns_MO_commit nv_MO_commit nz_MO nc_MO_commit ni_MO_commit 8 rfl rfl ⟨rfl, rfl, by decide, by decide⟩ ⟨hc, hs⟩ (Nat.le_of_ble_eq_true rfl) nd_LW_law_796 rfl ?_
  refine vv_istore (L' := [(0, .ref b), (1, .ref (Y.2.1 0)), (2, .ref (Y.2.1 8)), (3, .ref (Y.2.1 13)), (4, .int (nI (3 * i))), (5, .int (rf_cG (fb_commit M).1)), (6, .int ((mo_commit U).1))]) fx nd_LW_law_799 (by decide) [1, 2, 3, 4, 5, 6, 0] rfl ?_
  refine vv_aload_n fx nd_LW_law_801 rfl 2 rfl ?_
  refine vv_callVi (C := nr_MO) (T := nt_MO) (N := 10) (ci := 2) fx (cc_MO_thrown l Y (fb_commit M).2.2 (mo_commit U).2 (lw_o (fb_commit M).1 (fb_commit M).2.1 o)) nm_LW_72 ns_MO_thrown nv_MO_thrown nz_MO nc_MO_thrown ni_MO_thrown 8 rfl rfl ⟨rfl, rfl, by decide, by decide⟩ ⟨hc, hs⟩ (Nat.le_of_ble_eq_true rfl) nd_LW_law_802 rfl ?_
  refine vv_iload fx nd_LW_law_805 5 rfl ?_
  refine vv_icmp_eq (tgt := 812) fx nd_LW_law_807 (by decide) (fun _ => ?_) (fun hb => absurd (g1) hb)
  refine vv_iload fx nd_LW_law_812 5 rfl ?_
  rcases hcd with h0 | h1
  · refine vv_if_ne (tgt := 829) fx nd_LW_law_814 (by decide) (fun hb => absurd (by rw [h0]; rfl) hb) (fun _ => ?_)
    refine vv_aload_n fx nd_LW_law_817 rfl 3 rfl ?_
    refine vv_iconst (v := nI 0) fx nd_LW_law_818 (by decide) ?_
    refine vv_lald fx (f := fun _ => lw_o (fb_commit M).1 (fb_commit M).2.1 o) 13 2 rfl rfl (by decide) (by decide) nd_LW_law_819 ?_
    refine vv_iload fx nd_LW_law_820 6 rfl ?_
    refine vv_i2l fx nd_LW_law_822 ?_
    refine vv_lcmp0 fx (by rw [h0]; exact congrArg Int32.toInt64 (g2 h0)) nd_LW_law_823 ?_
    refine vv_if_eq (tgt := 829) fx nd_LW_law_824 (by decide) (fun _ => ?_) (fun hb => absurd (rfl) hb)
    refine vv_goto (tgt := 984) fx nd_LW_law_829 (by decide) ?_
    refine vv_loc (L' := [(0, .ref b), (1, .ref (Y.2.1 0)), (2, .ref (Y.2.1 8)), (3, .ref (Y.2.1 13)), (4, .int (nI (3 * i)))]) [0, 1, 2, 3, 4] rfl ?_
    exact kk _ _ _ g3
  · refine vv_if_ne (tgt := 829) fx nd_LW_law_814 (by decide) (fun _ => ?_) (fun hb => absurd hb (h1))
    refine vv_goto (tgt := 984) fx nd_LW_law_829 (by decide) ?_
    refine vv_loc (L' := [(0, .ref b), (1, .ref (Y.2.1 0)), (2, .ref (Y.2.1 8)), (3, .ref (Y.2.1 13)), (4, .int (nI (3 * i)))]) [0, 1, 2, 3, 4] rfl ?_
    exact kk _ _ _ g3
set_option maxRecDepth 4000 in
theorem lc_12 (hst : l.stackTraces = false) (fx : vv_fix p s m #[Value.ref b] meth c code 7 ret nr_LW Y) (hX : va_X b L0 xs s s.heap) (hbl : b < s.heap.size) (hbA : ¬ Y.2.2.2 b) (hL : L0 ≤ 1536) (hi : 3 * i + 3 ≤ L0) (hI : rf_I M U (3 * i)) (hc : cells + 1 ≤ room_1.cells) (hs : slots + 6 ≤ room_1.slots) (kk : ∀ (M' U' : me_M) (o' : Int64), rf_I M' U' (3 * i + 3) → vv p l e room_1 s m #[Value.ref b] below meth c (cells + 1) (slots + 6) (lw_Z below #[Value.ref b] s) 7 Y M' U' o' 984 [(0, .ref b), (1, .ref (Y.2.1 0)), (2, .ref (Y.2.1 8)), (3, .ref (Y.2.1 13)), (4, .int (nI (3 * i)))] []) : vv p l e room_1 s m #[Value.ref b] below meth c cells slots (lw_Z below #[Value.ref b] s) 7 Y M U o 832 [(0, .ref b), (1, .ref (Y.2.1 0)), (2, .ref (Y.2.1 8)), (3, .ref (Y.2.1 13)), (4, .int (nI (3 * i)))] [] := by
  have hE := rp_free hI (by omega)
  obtain ⟨g1, g2, g3⟩ := hE
  have g3 := rf_I_N g3 (show 3 * i ≤ 3 * i + 3 by omega)
  have hcd : (fb_freeC M).1 = 0 ∨ rf_cG (fb_freeC M).1 ≠ 0 := by rcases fx_free M with h9 | h9 <;> first | exact Or.inl h9 | exact Or.inr (by rw [h9]; decide)
  refine vv_aload_n fx nd_LW_law_832 rfl 1 rfl ?_
  refine vv_aload_n fx nd_LW_law_833 rfl 3 rfl ?_
  refine vv_callSw fx (cc_LW_free l Y M U o hst hI) nm_LW_110 ns_LW_free nz_LW nc_LW_free ni_LW_free ⟨rfl, rfl, by decide, by decide⟩ ⟨hc, hs⟩ (Nat.le_of_ble_eq_true rfl) nd_LW_law_834 rfl ?_
  refine vv_istore (L' := [(0, .ref b), (1, .ref (Y.2.1 0)), (2, .ref (Y.2.1 8)), (3, .ref (Y.2.1 13)), (4, .int (nI (3 * i))), (5, .int (rf_cG (fb_freeC M).1))]) fx nd_LW_law_837 (by decide) [1, 2, 3, 4, 5, 0] rfl ?_
  refine vv_aload_n fx nd_LW_law_839 rfl 2 rfl ?_
  refine vv_callVi (C := nr_MO) (T := nt_MO) (N := 10) (ci := 2) fx (cc_MO_free l Y (fb_freeC M).2.2 U (lw_o (fb_freeC M).1 (fb_freeC M).2.1 o) (rf_moB hI)) nm_LW_112 ns_MO_free nv_MO_free nz_MO nc_MO_free ni_MO_free 8 rfl rfl ⟨rfl, rfl, by decide, by decide⟩ ⟨hc, hs⟩ (Nat.le_of_ble_eq_true rfl) nd_LW_law_840 rfl ?_
  refine vv_istore (L' := [(0, .ref b), (1, .ref (Y.2.1 0)), (2, .ref (Y.2.1 8)), (3, .ref (Y.2.1 13)), (4, .int (nI (3 * i))), (5, .int (rf_cG (fb_freeC M).1)), (6, .int ((mo_freeC U).1))]) fx nd_LW_law_843 (by decide) [1, 2, 3, 4, 5, 6, 0] rfl ?_
  refine vv_aload_n fx nd_LW_law_845 rfl 2 rfl ?_
  refine vv_callVi (C := nr_MO) (T := nt_MO) (N := 10) (ci := 2) fx (cc_MO_thrown l Y (fb_freeC M).2.2 (mo_freeC U).2 (lw_o (fb_freeC M).1 (fb_freeC M).2.1 o)) nm_LW_72 ns_MO_thrown nv_MO_thrown nz_MO nc_MO_thrown ni_MO_thrown 8 rfl rfl ⟨rfl, rfl, by decide, by decide⟩ ⟨hc, hs⟩ (Nat.le_of_ble_eq_true rfl) nd_LW_law_846 rfl ?_
  refine vv_iload fx nd_LW_law_849 5 rfl ?_
  refine vv_icmp_eq (tgt := 856) fx nd_LW_law_851 (by decide) (fun _ => ?_) (fun hb => absurd (g1) hb)
  refine vv_iload fx nd_LW_law_856 5 rfl ?_
  rcases hcd with h0 | h1
  · refine vv_if_ne (tgt := 873) fx nd_LW_law_858 (by decide) (fun hb => absurd (by rw [h0]; rfl) hb) (fun _ => ?_)
    refine vv_aload_n fx nd_LW_law_861 rfl 3 rfl ?_
    refine vv_iconst (v := nI 0) fx nd_LW_law_862 (by decide) ?_
    refine vv_lald fx (f := fun _ => lw_o (fb_freeC M).1 (fb_freeC M).2.1 o) 13 2 rfl rfl (by decide) (by decide) nd_LW_law_863 ?_
    refine vv_iload fx nd_LW_law_864 6 rfl ?_
    refine vv_i2l fx nd_LW_law_866 ?_
    refine vv_lcmp0 fx (by rw [h0]; exact congrArg Int32.toInt64 (g2 h0)) nd_LW_law_867 ?_
    refine vv_if_eq (tgt := 873) fx nd_LW_law_868 (by decide) (fun _ => ?_) (fun hb => absurd (rfl) hb)
    refine vv_goto (tgt := 984) fx nd_LW_law_873 (by decide) ?_
    refine vv_loc (L' := [(0, .ref b), (1, .ref (Y.2.1 0)), (2, .ref (Y.2.1 8)), (3, .ref (Y.2.1 13)), (4, .int (nI (3 * i)))]) [0, 1, 2, 3, 4] rfl ?_
    exact kk _ _ _ g3
  · refine vv_if_ne (tgt := 873) fx nd_LW_law_858 (by decide) (fun _ => ?_) (fun hb => absurd hb (h1))
    refine vv_goto (tgt := 984) fx nd_LW_law_873 (by decide) ?_
    refine vv_loc (L' := [(0, .ref b), (1, .ref (Y.2.1 0)), (2, .ref (Y.2.1 8)), (3, .ref (Y.2.1 13)), (4, .int (nI (3 * i)))]) [0, 1, 2, 3, 4] rfl ?_
    exact kk _ _ _ g3
set_option maxRecDepth 4000 in
theorem lc_13 (hst : l.stackTraces = false) (fx : vv_fix p s m #[Value.ref b] meth c code 7 ret nr_LW Y) (hX : va_X b L0 xs s s.heap) (hbl : b < s.heap.size) (hbA : ¬ Y.2.2.2 b) (hL : L0 ≤ 1536) (hi : 3 * i + 3 ≤ L0) (hI : rf_I M U (3 * i)) (hc : cells + 1 ≤ room_1.cells) (hs : slots + 6 ≤ room_1.slots) (kk : ∀ (M' U' : me_M) (o' : Int64), rf_I M' U' (3 * i + 3) → vv p l e room_1 s m #[Value.ref b] below meth c (cells + 1) (slots + 6) (lw_Z below #[Value.ref b] s) 7 Y M' U' o' 984 [(0, .ref b), (1, .ref (Y.2.1 0)), (2, .ref (Y.2.1 8)), (3, .ref (Y.2.1 13)), (4, .int (nI (3 * i)))] []) : vv p l e room_1 s m #[Value.ref b] below meth c cells slots (lw_Z below #[Value.ref b] s) 7 Y M U o 876 [(0, .ref b), (1, .ref (Y.2.1 0)), (2, .ref (Y.2.1 8)), (3, .ref (Y.2.1 13)), (4, .int (nI (3 * i)))] [] := by
  have hE := rp_due hI (by omega)
  obtain ⟨g1, g2, g3⟩ := hE
  have g3 := rf_I_N g3 (show 3 * i ≤ 3 * i + 3 by omega)
  have hcd : (fb_due M).1 = 0 ∨ rf_cG (fb_due M).1 ≠ 0 := by rcases fx_due M with h9 | h9 <;> first | exact Or.inl h9 | exact Or.inr (by rw [h9]; decide)
  refine vv_aload_n fx nd_LW_law_876 rfl 1 rfl ?_
  refine vv_aload_n fx nd_LW_law_877 rfl 3 rfl ?_
  refine vv_callSw fx (cc_LW_due l Y M U o hst hI) nm_LW_113 ns_LW_due nz_LW nc_LW_due ni_LW_due ⟨rfl, rfl, by decide, by decide⟩ ⟨hc, hs⟩ (Nat.le_of_ble_eq_true rfl) nd_LW_law_878 rfl ?_
  refine vv_istore (L' := [(0, .ref b), (1, .ref (Y.2.1 0)), (2, .ref (Y.2.1 8)), (3, .ref (Y.2.1 13)), (4, .int (nI (3 * i))), (5, .int (rf_cG (fb_due M).1))]) fx nd_LW_law_881 (by decide) [1, 2, 3, 4, 5, 0] rfl ?_
  refine vv_aload_n fx nd_LW_law_883 rfl 2 rfl ?_
  refine vv_callVi (C := nr_MO) (T := nt_MO) (N := 10) (ci := 2) fx (cc_MO_due l Y (fb_due M).2.2 U (lw_o (fb_due M).1 (fb_due M).2.1 o) (rf_moB hI)) nm_LW_115 ns_MO_due nv_MO_due nz_MO nc_MO_due ni_MO_due 8 rfl rfl ⟨rfl, rfl, by decide, by decide⟩ ⟨hc, hs⟩ (Nat.le_of_ble_eq_true rfl) nd_LW_law_884 rfl ?_
  refine vv_istore (L' := [(0, .ref b), (1, .ref (Y.2.1 0)), (2, .ref (Y.2.1 8)), (3, .ref (Y.2.1 13)), (4, .int (nI (3 * i))), (5, .int (rf_cG (fb_due M).1)), (6, .int ((mo_due U).1))]) fx nd_LW_law_887 (by decide) [1, 2, 3, 4, 5, 6, 0] rfl ?_
  refine vv_aload_n fx nd_LW_law_889 rfl 2 rfl ?_
  refine vv_callVi (C := nr_MO) (T := nt_MO) (N := 10) (ci := 2) fx (cc_MO_thrown l Y (fb_due M).2.2 (mo_due U).2 (lw_o (fb_due M).1 (fb_due M).2.1 o)) nm_LW_72 ns_MO_thrown nv_MO_thrown nz_MO nc_MO_thrown ni_MO_thrown 8 rfl rfl ⟨rfl, rfl, by decide, by decide⟩ ⟨hc, hs⟩ (Nat.le_of_ble_eq_true rfl) nd_LW_law_890 rfl ?_
  refine vv_iload fx nd_LW_law_893 5 rfl ?_
  refine vv_icmp_eq (tgt := 900) fx nd_LW_law_895 (by decide) (fun _ => ?_) (fun hb => absurd (g1) hb)
  refine vv_iload fx nd_LW_law_900 5 rfl ?_
  rcases hcd with h0 | h1
  · refine vv_if_ne (tgt := 917) fx nd_LW_law_902 (by decide) (fun hb => absurd (by rw [h0]; rfl) hb) (fun _ => ?_)
    refine vv_aload_n fx nd_LW_law_905 rfl 3 rfl ?_
    refine vv_iconst (v := nI 0) fx nd_LW_law_906 (by decide) ?_
    refine vv_lald fx (f := fun _ => lw_o (fb_due M).1 (fb_due M).2.1 o) 13 2 rfl rfl (by decide) (by decide) nd_LW_law_907 ?_
    refine vv_iload fx nd_LW_law_908 6 rfl ?_
    refine vv_i2l fx nd_LW_law_910 ?_
    refine vv_lcmp0 fx (by rw [h0]; exact congrArg Int32.toInt64 (g2 h0)) nd_LW_law_911 ?_
    refine vv_if_eq (tgt := 917) fx nd_LW_law_912 (by decide) (fun _ => ?_) (fun hb => absurd (rfl) hb)
    refine vv_goto (tgt := 984) fx nd_LW_law_917 (by decide) ?_
    refine vv_loc (L' := [(0, .ref b), (1, .ref (Y.2.1 0)), (2, .ref (Y.2.1 8)), (3, .ref (Y.2.1 13)), (4, .int (nI (3 * i)))]) [0, 1, 2, 3, 4] rfl ?_
    exact kk _ _ _ g3
  · refine vv_if_ne (tgt := 917) fx nd_LW_law_902 (by decide) (fun _ => ?_) (fun hb => absurd hb (h1))
    refine vv_goto (tgt := 984) fx nd_LW_law_917 (by decide) ?_
    refine vv_loc (L' := [(0, .ref b), (1, .ref (Y.2.1 0)), (2, .ref (Y.2.1 8)), (3, .ref (Y.2.1 13)), (4, .int (nI (3 * i)))]) [0, 1, 2, 3, 4] rfl ?_
    exact kk _ _ _ g3
set_option maxRecDepth 4000 in
theorem lc_14 (hst : l.stackTraces = false) (fx : vv_fix p s m #[Value.ref b] meth c code 7 ret nr_LW Y) (hX : va_X b L0 xs s s.heap) (hbl : b < s.heap.size) (hbA : ¬ Y.2.2.2 b) (hL : L0 ≤ 1536) (hi : 3 * i + 3 ≤ L0) (hI : rf_I M U (3 * i)) (hc : cells + 1 ≤ room_1.cells) (hs : slots + 6 ≤ room_1.slots) (kk : ∀ (M' U' : me_M) (o' : Int64), rf_I M' U' (3 * i + 3) → vv p l e room_1 s m #[Value.ref b] below meth c (cells + 1) (slots + 6) (lw_Z below #[Value.ref b] s) 7 Y M' U' o' 984 [(0, .ref b), (1, .ref (Y.2.1 0)), (2, .ref (Y.2.1 8)), (3, .ref (Y.2.1 13)), (4, .int (nI (3 * i)))] []) : vv p l e room_1 s m #[Value.ref b] below meth c cells slots (lw_Z below #[Value.ref b] s) 7 Y M U o 920 [(0, .ref b), (1, .ref (Y.2.1 0)), (2, .ref (Y.2.1 8)), (3, .ref (Y.2.1 13)), (4, .int (nI (3 * i)))] [] := by
  obtain ⟨g1, g2, g3⟩ := rp_order hI (by omega) (xs (3 * i + 1))
  have hz : (fb_order M (xs (3 * i + 1))).1 = 0 := by unfold fb_order; split <;> rfl
  refine vv_aload_n fx nd_LW_law_920 rfl 1 rfl ?_
  refine vv_aload_n fx nd_LW_law_921 rfl 0 rfl ?_
  refine vv_iload fx nd_LW_law_922 4 rfl ?_
  refine vv_iconst (v := nI 1) fx nd_LW_law_924 (by decide) ?_
  refine vv_iadd fx nd_LW_law_925 ?_
  refine vv_top (y := nI ((3 * i) + 1)) (nI_add _ _) ?_
  refine vv_sld fx hX hbl hbA (by omega) (by omega) nd_LW_law_926 ?_
  refine vv_callVi (C := nr_FB) (T := nt_FB) (N := 6) (ci := 0) fx (cc_FB_order l Y M U o (xs (3 * i + 1))) nm_LW_116 ns_FB_order nv_FB_order nz_FB nc_FB_order ni_FB_order 0 rfl rfl ⟨rfl, rfl, by decide, by decide⟩ ⟨Nat.le_of_succ_le hc, Nat.le_trans (Nat.le_add_right _ _) hs⟩ (Nat.le_of_ble_eq_true rfl) nd_LW_law_927 rfl ?_
  refine vv_aload_n fx nd_LW_law_930 rfl 2 rfl ?_
  refine vv_aload_n fx nd_LW_law_931 rfl 0 rfl ?_
  refine vv_iload fx nd_LW_law_932 4 rfl ?_
  refine vv_iconst (v := nI 1) fx nd_LW_law_934 (by decide) ?_
  refine vv_iadd fx nd_LW_law_935 ?_
  refine vv_top (y := nI ((3 * i) + 1)) (nI_add _ _) ?_
  refine vv_sld fx hX hbl hbA (by omega) (by omega) nd_LW_law_936 ?_
  refine vv_callVi (C := nr_MO) (T := nt_MO) (N := 10) (ci := 2) fx (cc_MO_order l Y (fb_order M (xs (3 * i + 1))).2.2 U o (xs (3 * i + 1))) nm_LW_120 ns_MO_order nv_MO_order nz_MO nc_MO_order ni_MO_order 8 rfl rfl ⟨rfl, rfl, by decide, by decide⟩ ⟨Nat.le_of_succ_le hc, Nat.le_trans (Nat.le_add_right _ _) hs⟩ (Nat.le_of_ble_eq_true rfl) nd_LW_law_937 rfl ?_
  refine vv_icmp_eq (tgt := 984) fx nd_LW_law_940 (by decide) (fun _ => ?_) (fun hb => absurd (g2 hz) hb)
  refine vv_widen (Nat.le_add_right cells 1) (Nat.le_add_right slots 6) ?_
  exact kk _ _ _ (rf_I_N g3 (by omega))
set_option maxRecDepth 4000 in
theorem lc_15 (hst : l.stackTraces = false) (fx : vv_fix p s m #[Value.ref b] meth c code 7 ret nr_LW Y) (hX : va_X b L0 xs s s.heap) (hbl : b < s.heap.size) (hbA : ¬ Y.2.2.2 b) (hL : L0 ≤ 1536) (hi : 3 * i + 3 ≤ L0) (hI : rf_I M U (3 * i)) (hc : cells + 1 ≤ room_1.cells) (hs : slots + 6 ≤ room_1.slots) (kk : ∀ (M' U' : me_M) (o' : Int64), rf_I M' U' (3 * i + 3) → vv p l e room_1 s m #[Value.ref b] below meth c (cells + 1) (slots + 6) (lw_Z below #[Value.ref b] s) 7 Y M' U' o' 984 [(0, .ref b), (1, .ref (Y.2.1 0)), (2, .ref (Y.2.1 8)), (3, .ref (Y.2.1 13)), (4, .int (nI (3 * i)))] []) : vv p l e room_1 s m #[Value.ref b] below meth c cells slots (lw_Z below #[Value.ref b] s) 7 Y M U o 945 [(0, .ref b), (1, .ref (Y.2.1 0)), (2, .ref (Y.2.1 8)), (3, .ref (Y.2.1 13)), (4, .int (nI (3 * i)))] [] := by
  obtain ⟨g1, g2, g3⟩ := rp_recover hI (by omega)
  have hz : (fb_recover M).1 = 0 := by unfold fb_recover; split <;> rfl
  refine vv_aload_n fx nd_LW_law_945 rfl 1 rfl ?_
  refine vv_callVi (C := nr_FB) (T := nt_FB) (N := 6) (ci := 0) fx (cc_FB_recover l Y M U o) nm_LW_121 ns_FB_recover nv_FB_recover nz_FB nc_FB_recover ni_FB_recover 0 rfl rfl ⟨rfl, rfl, by decide, by decide⟩ ⟨Nat.le_of_succ_le hc, Nat.le_trans (Nat.le_add_right _ _) hs⟩ (Nat.le_of_ble_eq_true rfl) nd_LW_law_946 rfl ?_
  refine vv_aload_n fx nd_LW_law_949 rfl 2 rfl ?_
  refine vv_callVi (C := nr_MO) (T := nt_MO) (N := 10) (ci := 2) fx (cc_MO_recover l Y (fb_recover M).2.2 U o (rf_moB hI)) nm_LW_124 ns_MO_recover nv_MO_recover nz_MO nc_MO_recover ni_MO_recover 8 rfl rfl ⟨rfl, rfl, by decide, by decide⟩ ⟨Nat.le_of_succ_le hc, Nat.le_trans (Nat.le_add_right _ _) hs⟩ (Nat.le_of_ble_eq_true rfl) nd_LW_law_950 rfl ?_
  refine vv_icmp_eq (tgt := 984) fx nd_LW_law_953 (by decide) (fun _ => ?_) (fun hb => absurd (g2 hz) hb)
  refine vv_widen (Nat.le_add_right cells 1) (Nat.le_add_right slots 6) ?_
  exact kk _ _ _ (rf_I_N g3 (by omega))
set_option maxRecDepth 4000 in
theorem lc_16 (hst : l.stackTraces = false) (fx : vv_fix p s m #[Value.ref b] meth c code 7 ret nr_LW Y) (hX : va_X b L0 xs s s.heap) (hbl : b < s.heap.size) (hbA : ¬ Y.2.2.2 b) (hL : L0 ≤ 1536) (hi : 3 * i + 3 ≤ L0) (hI : rf_I M U (3 * i)) (hc : cells + 1 ≤ room_1.cells) (hs : slots + 6 ≤ room_1.slots) (kk : ∀ (M' U' : me_M) (o' : Int64), rf_I M' U' (3 * i + 3) → vv p l e room_1 s m #[Value.ref b] below meth c (cells + 1) (slots + 6) (lw_Z below #[Value.ref b] s) 7 Y M' U' o' 984 [(0, .ref b), (1, .ref (Y.2.1 0)), (2, .ref (Y.2.1 8)), (3, .ref (Y.2.1 13)), (4, .int (nI (3 * i)))] []) : vv p l e room_1 s m #[Value.ref b] below meth c cells slots (lw_Z below #[Value.ref b] s) 7 Y M U o 958 [(0, .ref b), (1, .ref (Y.2.1 0)), (2, .ref (Y.2.1 8)), (3, .ref (Y.2.1 13)), (4, .int (nI (3 * i)))] [] := by
  have hSc := hI.2.2.2.2.2.2.2.2.2.2.2
  refine vv_aload_n fx nd_LW_law_958 rfl 1 rfl ?_
  refine vv_callVi (C := nr_FB) (T := nt_FB) (N := 6) (ci := 0) fx (cc_FB_writes l Y M U o) nm_LW_125 ns_FB_writes nv_FB_writes nz_FB nc_FB_writes ni_FB_writes 0 rfl rfl ⟨rfl, rfl, by decide, by decide⟩ ⟨Nat.le_of_succ_le hc, Nat.le_trans (Nat.le_add_right _ _) hs⟩ (Nat.le_of_ble_eq_true rfl) nd_LW_law_959 rfl ?_
  refine vv_aload_n fx nd_LW_law_962 rfl 2 rfl ?_
  refine vv_callVi (C := nr_MO) (T := nt_MO) (N := 10) (ci := 2) fx (cc_MO_writes l Y M U o) nm_LW_128 ns_MO_writes nv_MO_writes nz_MO nc_MO_writes ni_MO_writes 8 rfl rfl ⟨rfl, rfl, by decide, by decide⟩ ⟨Nat.le_of_succ_le hc, Nat.le_trans (Nat.le_add_right _ _) hs⟩ (Nat.le_of_ble_eq_true rfl) nd_LW_law_963 rfl ?_
  refine vv_icmp_eq (tgt := 984) fx nd_LW_law_966 (by decide) (fun _ => ?_) (fun hb => absurd (hSc.2.2.1) hb)
  refine vv_widen (Nat.le_add_right cells 1) (Nat.le_add_right slots 6) ?_
  exact kk _ _ _ (rf_I_N (rf_I_c hI (by omega) 0) (by omega))
set_option maxRecDepth 4000 in
theorem lc_17 (hst : l.stackTraces = false) (fx : vv_fix p s m #[Value.ref b] meth c code 7 ret nr_LW Y) (hX : va_X b L0 xs s s.heap) (hbl : b < s.heap.size) (hbA : ¬ Y.2.2.2 b) (hL : L0 ≤ 1536) (hi : 3 * i + 3 ≤ L0) (hI : rf_I M U (3 * i)) (hc : cells + 1 ≤ room_1.cells) (hs : slots + 6 ≤ room_1.slots) (kk : ∀ (M' U' : me_M) (o' : Int64), rf_I M' U' (3 * i + 3) → vv p l e room_1 s m #[Value.ref b] below meth c (cells + 1) (slots + 6) (lw_Z below #[Value.ref b] s) 7 Y M' U' o' 984 [(0, .ref b), (1, .ref (Y.2.1 0)), (2, .ref (Y.2.1 8)), (3, .ref (Y.2.1 13)), (4, .int (nI (3 * i)))] []) : vv p l e room_1 s m #[Value.ref b] below meth c cells slots (lw_Z below #[Value.ref b] s) 7 Y M U o 971 [(0, .ref b), (1, .ref (Y.2.1 0)), (2, .ref (Y.2.1 8)), (3, .ref (Y.2.1 13)), (4, .int (nI (3 * i)))] [] := by
  have hSc := hI.2.2.2.2.2.2.2.2.2.2.2
  refine vv_aload_n fx nd_LW_law_971 rfl 1 rfl ?_
  refine vv_callVi (C := nr_FB) (T := nt_FB) (N := 6) (ci := 0) fx (cc_FB_down l Y M U o hSc.2.1) nm_LW_129 ns_FB_down nv_FB_down nz_FB nc_FB_down ni_FB_down 0 rfl rfl ⟨rfl, rfl, by decide, by decide⟩ ⟨Nat.le_of_succ_le hc, Nat.le_trans (Nat.le_add_right _ _) hs⟩ (Nat.le_of_ble_eq_true rfl) nd_LW_law_972 rfl ?_
  refine vv_aload_n fx nd_LW_law_975 rfl 2 rfl ?_
  refine vv_callVi (C := nr_MO) (T := nt_MO) (N := 10) (ci := 2) fx (cc_MO_down l Y M U o (rf_moB hI)) nm_LW_133 ns_MO_down nv_MO_down nz_MO nc_MO_down ni_MO_down 8 rfl rfl ⟨rfl, rfl, by decide, by decide⟩ ⟨Nat.le_of_succ_le hc, Nat.le_trans (Nat.le_add_right _ _) hs⟩ (Nat.le_of_ble_eq_true rfl) nd_LW_law_976 rfl ?_
  refine vv_icmp_eq (tgt := 984) fx nd_LW_law_979 (by decide) (fun _ => ?_) (fun hb => absurd (hSc.1) hb)
  refine vv_widen (Nat.le_add_right cells 1) (Nat.le_add_right slots 6) ?_
  exact kk _ _ _ (rf_I_N (rf_I_c hI (by omega) 0) (by omega))
theorem lw_sub {L0 j : Nat} (hL : L0 ≤ 1536) (hj : j ≤ 3000) (h : ¬ nI L0 - nI 3 < nI j) : j + 3 ≤ L0 := by
  have h1 := Int32.le_iff_toInt_le.mp (Int32.not_lt.mp h)
  rw [pk_sub_toInt (by omega) (by decide), nI_toInt (by omega)] at h1
  omega
theorem lw_exit (fx : vv_fix p s m #[Value.ref b] meth c code 7 ret nr_LW Y) (hY : ∀ q, Y.2.2.2 q → s.heap.size ≤ q) (hc : cells ≤ 601024) (hs : slots ≤ 7293034) : vv p l e room_1 s m #[Value.ref b] below meth c cells slots (lw_Z below #[Value.ref b] s) 7 Y M U o 991 [(0, .ref b), (1, .ref (Y.2.1 0)), (2, .ref (Y.2.1 8)), (3, .ref (Y.2.1 13)), (4, .int (nI (3 * i)))] [.int (nI 1)] := fun H locs ls hP hS hl => by
  have hk := lw_ret (p := p) (l := l) (e := e) (s := s) (m := m) (below := below) (meth := meth) (c := c) (b := b) (H := H) (ls := ls) fx.1 fx.2.1 fx.2.2.2.2.2.2.1 fx.2.2.2.2.2.2.2 nd_LW_law_991
  exact fun T hT X => va_forget (fun q hq => hY _ (hS.2.2 q hq)) hk T hT (stand_widen X hc hs)
set_option maxRecDepth 4000 in
theorem lw_loop (hst : l.stackTraces = false) (fx : vv_fix p s m #[Value.ref b] meth c code 7 ret nr_LW Y) (hX : va_X b L0 xs s s.heap) (hbl : b < s.heap.size) (hY : ∀ q, Y.2.2.2 q → s.heap.size ≤ q) (hL : L0 ≤ 1536) (hc : cells + 600 ≤ room_1.cells) (hs : slots + 6 * 600 ≤ room_1.slots) : ∀ (d i : Nat) (M U : me_M) (o : Int64), 513 ≤ i + d ∧ i ≤ 513 → rf_I M U (3 * i) → vv p l e room_1 s m #[Value.ref b] below meth c (cells + i) (slots + 6 * i) (lw_Z below #[Value.ref b] s) 7 Y M U o 23 [(0, .ref b), (1, .ref (Y.2.1 0)), (2, .ref (Y.2.1 8)), (3, .ref (Y.2.1 13)), (4, .int (nI (3 * i)))] [] := by
  intro d
  induction d with
  | zero =>
    intro i M U o hd hI
    have hbA : ¬ Y.2.2.2 b := fun z => absurd (hY b z) (by omega)
    refine vv_iload fx nd_LW_law_23 4 rfl ?_
    refine vv_aload_n fx nd_LW_law_25 rfl 0 rfl ?_
    refine vv_slen fx hX hbl hbA nd_LW_law_26 ?_
    refine vv_iconst (v := nI 3) fx nd_LW_law_27 (by decide) ?_
    refine vv_isub fx nd_LW_law_28 ?_
    refine vv_icmp_gt (tgt := 990) fx nd_LW_law_29 (by decide) (fun hb29 => ?_) (fun hb29 => ?_)
    · refine vv_iconst (v := nI 1) fx nd_LW_law_990 (by decide) ?_
      exact lw_exit fx hY (by have : cells + 600 ≤ 601024 := hc; omega) (by have : slots + 6 * 600 ≤ 7293034 := hs; omega)
    · exact absurd (lw_sub hL (by omega) hb29) (by omega)
  | succ d ih =>
    intro i M U o hd hI
    have hbA : ¬ Y.2.2.2 b := fun z => absurd (hY b z) (by omega)
    refine vv_iload fx nd_LW_law_23 4 rfl ?_
    refine vv_aload_n fx nd_LW_law_25 rfl 0 rfl ?_
    refine vv_slen fx hX hbl hbA nd_LW_law_26 ?_
    refine vv_iconst (v := nI 3) fx nd_LW_law_27 (by decide) ?_
    refine vv_isub fx nd_LW_law_28 ?_
    refine vv_icmp_gt (tgt := 990) fx nd_LW_law_29 (by decide) (fun hb29 => ?_) (fun hb29 => ?_)
    · refine vv_iconst (v := nI 1) fx nd_LW_law_990 (by decide) ?_
      exact lw_exit fx hY (by have : cells + 600 ≤ 601024 := hc; omega) (by have : slots + 6 * 600 ≤ 7293034 := hs; omega)
    · have hi := lw_sub hL (by omega) hb29
      refine vv_aload_n fx nd_LW_law_32 rfl 0 rfl ?_
      refine vv_iload fx nd_LW_law_33 4 rfl ?_
      refine vv_sld fx hX hbl hbA (by omega) (by omega) nd_LW_law_35 ?_
      refine vv_bipush (v := nI 31) fx nd_LW_law_36 (by decide) ?_
      refine vv_iand fx nd_LW_law_38 ?_
      obtain ⟨j, hj, ej⟩ := pk_andE (xs (3 * i)) 5 (m := nI 31) (by decide)
      refine vv_top (y := nI j) (ej) ?_
      have hcc : cells + i + 1 ≤ room_1.cells := by have : cells + 600 ≤ room_1.cells := hc; omega
      have hss : slots + 6 * i + 6 ≤ room_1.slots := by have : slots + 6 * 600 ≤ room_1.slots := hs; omega
      have kk : ∀ (M' U' : me_M) (o' : Int64), rf_I M' U' (3 * i + 3) → vv p l e room_1 s m #[Value.ref b] below meth c (cells + i + 1) (slots + 6 * i + 6) (lw_Z below #[Value.ref b] s) 7 Y M' U' o' 984 [(0, .ref b), (1, .ref (Y.2.1 0)), (2, .ref (Y.2.1 8)), (3, .ref (Y.2.1 13)), (4, .int (nI (3 * i)))] [] := by
        intro M' U' o' hI'
        refine vv_iinc (v := nI (3 * (i + 1))) (L' := [(0, .ref b), (1, .ref (Y.2.1 0)), (2, .ref (Y.2.1 8)), (3, .ref (Y.2.1 13)), (4, .int (nI (3 * (i + 1))))]) fx nd_LW_law_984 4 rfl (by rw [show 3 * (i + 1) = 3 * i + 3 by omega]; exact nI_add (3 * i) 3) (by decide) [1, 2, 3, 4, 0] rfl ?_
        refine vv_goto (tgt := 23) fx nd_LW_law_987 (by decide) ?_
        have h9 := ih (i + 1) M' U' o' (by omega) (by rw [show 3 * (i + 1) = 3 * i + 3 by omega]; exact hI')
        rw [show cells + (i + 1) = cells + i + 1 by omega, show slots + 6 * (i + 1) = slots + 6 * i + 6 by omega] at h9
        exact h9
      match j, hj with
      | 0, _ => exact vv_tabIn (off := 85) (tgt := 124) fx nd_LW_law_39 (by decide +kernel) (by decide +kernel) (by decide +kernel) (by decide) (lc_0 hst fx hX hbl hbA hL hi hI hcc hss kk)
      | 1, _ => exact vv_tabIn (off := 153) (tgt := 192) fx nd_LW_law_39 (by decide +kernel) (by decide +kernel) (by decide +kernel) (by decide) (lc_1 hst fx hX hbl hbA hL hi hI hcc hss kk)
      | 2, _ => exact vv_tabIn (off := 209) (tgt := 248) fx nd_LW_law_39 (by decide +kernel) (by decide +kernel) (by decide +kernel) (by decide) (lc_2 hst fx hX hbl hbA hL hi hI hcc hss kk)
      | 3, _ => exact vv_tabIn (off := 277) (tgt := 316) fx nd_LW_law_39 (by decide +kernel) (by decide +kernel) (by decide +kernel) (by decide) (lc_3 hst fx hX hbl hbA hL hi hI hcc hss kk)
      | 4, _ => exact vv_tabIn (off := 345) (tgt := 384) fx nd_LW_law_39 (by decide +kernel) (by decide +kernel) (by decide +kernel) (by decide) (lc_4 hst fx hX hbl hbA hL hi hI hcc hss kk)
      | 5, _ => exact vv_tabIn (off := 401) (tgt := 440) fx nd_LW_law_39 (by decide +kernel) (by decide +kernel) (by decide +kernel) (by decide) (lc_5 hst fx hX hbl hbA hL hi hI hcc hss kk)
      | 6, _ => exact vv_tabIn (off := 457) (tgt := 496) fx nd_LW_law_39 (by decide +kernel) (by decide +kernel) (by decide +kernel) (by decide) (lc_6 hst fx hX hbl hbA hL hi hI hcc hss kk)
      | 7, _ => exact vv_tabIn (off := 525) (tgt := 564) fx nd_LW_law_39 (by decide +kernel) (by decide +kernel) (by decide +kernel) (by decide) (lc_7 hst fx hX hbl hbA hL hi hI hcc hss kk)
      | 8, _ => exact vv_tabIn (off := 593) (tgt := 632) fx nd_LW_law_39 (by decide +kernel) (by decide +kernel) (by decide +kernel) (by decide) (lc_8 hst fx hX hbl hbA hL hi hI hcc hss kk)
      | 9, _ => exact vv_tabIn (off := 637) (tgt := 676) fx nd_LW_law_39 (by decide +kernel) (by decide +kernel) (by decide +kernel) (by decide) (lc_9 hst fx hX hbl hbA hL hi hI hcc hss kk)
      | 10, _ => exact vv_tabIn (off := 693) (tgt := 732) fx nd_LW_law_39 (by decide +kernel) (by decide +kernel) (by decide +kernel) (by decide) (lc_10 hst fx hX hbl hbA hL hi hI hcc hss kk)
      | 11, _ => exact vv_tabIn (off := 749) (tgt := 788) fx nd_LW_law_39 (by decide +kernel) (by decide +kernel) (by decide +kernel) (by decide) (lc_11 hst fx hX hbl hbA hL hi hI hcc hss kk)
      | 12, _ => exact vv_tabIn (off := 793) (tgt := 832) fx nd_LW_law_39 (by decide +kernel) (by decide +kernel) (by decide +kernel) (by decide) (lc_12 hst fx hX hbl hbA hL hi hI hcc hss kk)
      | 13, _ => exact vv_tabIn (off := 837) (tgt := 876) fx nd_LW_law_39 (by decide +kernel) (by decide +kernel) (by decide +kernel) (by decide) (lc_13 hst fx hX hbl hbA hL hi hI hcc hss kk)
      | 14, _ => exact vv_tabIn (off := 881) (tgt := 920) fx nd_LW_law_39 (by decide +kernel) (by decide +kernel) (by decide +kernel) (by decide) (lc_14 hst fx hX hbl hbA hL hi hI hcc hss kk)
      | 15, _ => exact vv_tabIn (off := 906) (tgt := 945) fx nd_LW_law_39 (by decide +kernel) (by decide +kernel) (by decide +kernel) (by decide) (lc_15 hst fx hX hbl hbA hL hi hI hcc hss kk)
      | 16, _ => exact vv_tabIn (off := 919) (tgt := 958) fx nd_LW_law_39 (by decide +kernel) (by decide +kernel) (by decide +kernel) (by decide) (lc_16 hst fx hX hbl hbA hL hi hI hcc hss kk)
      | 17, _ => exact vv_tabIn (off := 932) (tgt := 971) fx nd_LW_law_39 (by decide +kernel) (by decide +kernel) (by decide +kernel) (by decide) (lc_17 hst fx hX hbl hbA hL hi hI hcc hss kk)
      | j + 18, hj => exact vv_tabOut (tgt := 984) fx nd_LW_law_39 (Or.inr (by rw [nI_toInt (by omega)]; omega)) (by decide) (vv_widen (Nat.le_add_right _ 1) (Nat.le_add_right _ 6) (kk M U o (rf_I_N hI (by omega))))
end
