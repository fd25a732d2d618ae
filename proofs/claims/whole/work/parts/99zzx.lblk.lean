def R_law : String := "BridgeTollLaw"
def lw_P (b : Addr) (xs : List Int32) (args : Array Value) (s : State) : Prop := args = #[.ref b] ∧ s.IntsAt b xs ∧ xs.length ≤ 3072 ∧ (Jvm.Cond.and given_1 narrow_1).before args s = true
def lw_Q (_ : Array Value) (s : State) (o : Outcome) (t : State) : Prop := o = .returned (some (.int 1)) ∧ Framed s o t [] 601024 7293034
def lw_Z (below : List Frame) (a : Array Value) (s : State) : State → Prop := fun t => ∃ o, t.status = .running ∧ Ended t below o ∧ lw_Q a s o t
/-- the law's own end, with 1 on the stack, nothing written that was there before, its room as the claim has it -/
theorem lw_ret {p : Program} {l : Launch} {e : Env} {s : State} {m : MethodId} {below : List Frame} {meth : Method} {c : Code} {b : Nat} (hx : p.tables.exec = Jvm.exec) (hb : c.code = code) (hr : meth.sig.returnType = ret) (hlocks : meth.locks = false) {pc : Nat} {H : Heap} {ls : Array Slot} (hdg : decode code pc = .ok (.ireturn, 1)) : W p l e room_1 s m #[Value.ref b] below meth c H [] 601024 7293034 (lw_Z below #[Value.ref b] s) (F0 m pc ls [.int 1]) := by
  intro T hT X
  obtain ⟨fs, hret, hrun, hended, hW, hframe⟩ := X.leave (v := some (.int 1)) (hlocks := hlocks) (fun h => by rw [hr] at h; cases h)
  have hmeth' : T.vm.method? m = some meth := X.method'
  refine ⟨T.setFrames fs, ?_, .returned (some (.int 1)), hrun, hended, rfl, ⟨_, rfl⟩, hW, hframe⟩
  jvm_step X.here [X.here.top, hx, hb, hdg, hmeth', hr, ret, narrow_b1]
  (try refine ⟨rfl, ?_⟩); (try refine ⟨rfl, ?_⟩)
  first | (intro acts; rw [hret _ acts rfl rfl rfl]) | rw [hret _ _ rfl rfl rfl]
  exact Steps.refl _
/-- what holds at the law's entry: the machine, the code, the tables' words (any of lw_tbl by 'hts w (by decide +kernel)'), the script of L ints xs at the cell b, what the Statement gives of the start (any of its parts by flat_of_before) -/
def lw_At (p : Program) (s : State) (m : MethodId) (meth : Method) (c : Code) (b L : Nat) (xs : Nat → Int32) : Prop :=
  p.tables.exec = Jvm.exec ∧ c.code = code ∧ meth.sig.returnType = ret ∧ c.maxLocals = 7 ∧ s.vm.findClass R_law = some m.cls ∧ (∀ w ∈ lw_tbl, w.before #[Value.ref b] s = true) ∧ va_X b L xs s s.heap ∧ b < s.heap.size ∧ meth.locks = false ∧ (Jvm.Cond.and given_1 narrow_1).before #[Value.ref b] s = true
/-! ===== the law's judgement: its context, its end, its script ===== -/
abbrev Sc : Type := Nat × Nat × (Nat → Int32)
def ZL : ZT := fun _ below args s => lw_Z below args s
def CL (X : Sc) : CxT := fun _ la _ R s _ args _ _ _ => R = room_1 ∧ args = #[Value.ref X.1] ∧ va_X X.1 X.2.1 X.2.2 s s.heap ∧ X.1 < s.heap.size ∧ la.stackTraces = false ∧ NX s
def tScr (X : Sc) (K : KT) : KT := fun l z h => match z with
  | .int i :: .ref a :: r => a = X.1 ∧ vp_in i X.2.1 ∧ K l (.int (X.2.2 i.toNatClampNeg) :: r) h
  | _ => False
def tScl (X : Sc) (K : KT) : KT := fun l z h => match z with
  | .ref a :: r => a = X.1 ∧ K l (.int (nI X.2.1) :: r) h
  | _ => False
def tFin : KT := fun _ z _ => z = [.int 1]
def CL' (G : Gt) (X : Sc) : CxT := fun p la e R s m args below meth c => CL X p la e R s m args below meth c ∧ G.2.2.1 = s.heap.size
section RulesL
variable {G : Gt} {X : Sc} {d bc bs : Nat} {M : Mth} {pc : Nat} {K : KT} {l : Ls} {z : List Value} {h : Hp}
theorem L_scr (hd : decode M.2.1 pc = .ok (.iaload, 1)) (hK : ∀ l z h, K l z h → TG G (CL' G X) ZL d bc bs M (pc + 1) l z h) (k : tScr X K l z h) : TG G (CL' G X) ZL d bc bs M pc l z h := by
  unfold tScr at k
  split at k
  · rename_i i a r
    obtain ⟨rfl, hin, k⟩ := k
    intro p la e R s m args below meth c H locs cells slots lsA hC h1 h2 h3 h4 hR hS hL
    exact va_sld hC.1.1 hC.1.2.1 hC.2.1.2.2.1 hC.2.1.2.2.2.1 (fun q => absurd hC.2.1.2.2.2.1 (Nat.not_lt.mpr (hC.2.2 ▸ q))) hS hin hd (hK _ _ _ k p la e R s m args below meth c H locs cells slots lsA hC h1 h2 h3 h4 hR hS hL)
  · exact k.elim
theorem L_scl (hd : decode M.2.1 pc = .ok (.arraylength, 1)) (hK : ∀ l z h, K l z h → TG G (CL' G X) ZL d bc bs M (pc + 1) l z h) (k : tScl X K l z h) : TG G (CL' G X) ZL d bc bs M pc l z h := by
  unfold tScl at k
  split at k
  · rename_i a r
    obtain ⟨rfl, k⟩ := k
    intro p la e R s m args below meth c H locs cells slots lsA hC h1 h2 h3 h4 hR hS hL
    exact va_slen hC.1.1 hC.1.2.1 hC.2.1.2.2.1 hC.2.1.2.2.2.1 (fun q => absurd hC.2.1.2.2.2.1 (Nat.not_lt.mpr (hC.2.2 ▸ q))) hS hd (hK _ _ _ k p la e R s m args below meth c H locs cells slots lsA hC h1 h2 h3 h4 hR hS hL)
  · exact k.elim
abbrev mL_law : Mth := (yL_law, cL_law, 7, some .boolean)
theorem L_ret (hd : decode code pc = .ok (.ireturn, 1)) (k : tFin l z h) : TG G (CL' G X) ZL d bc bs mL_law pc l z h := by
  have k : z = [.int 1] := k
  subst k
  intro p la e R s m args below meth c H locs cells slots lsA hC h1 h2 h3 h4 hR hS hL
  obtain ⟨hC, ⟨rfl, rfl, hX, hbl, hl, hN⟩, hg⟩ := hC
  have h3 : cells + bc ≤ 601024 := h3
  have h4 : slots + bs ≤ 7293034 := h4
  refine va_forget (fun q hq => hg ▸ hS.2.2 q hq) ?_
  refine W.widen (k := 601024) (n := 7293034) (by omega) (by omega) ?_
  exact lw_ret hC.1 hC.2.1 hC.2.2.1 hC.2.2.2.2.2.2.1 hd
/-- the call of the law's person -/
theorem L_pers {As rest : List Value} {Q1 : QT} (hd : decode cL_law pc = .ok (.invokestatic 38, 3)) (hz : z = As.reverse ++ rest) (hlen : As.length = 4) (hd1 : 11 ≤ d) (hcat : (rest.map fun v => v.category).sum ≤ 8) (hM : MtP G As h Q1) (k : ∀ v h', Q1 v h' → TG G (CL' G X) ZL d bc bs mL_law (pc + 3) l (v.toList ++ rest) h') : TG G (CL' G X) ZL d (bc + 1) (bs + 6) mL_law pc l z h := by
  intro p la e R s m args below meth co H locs cells slots lsA hC h1 h2 h3 h4 hR hS hL
  have hts := hC.1.2.2.2.2.2.1
  subst hz
  exact G_call_on (M := mL_law) (vx_runSW (Ts := wsA) (own := RL) (nL := 7) (hh := hhL) (bytes := cL_person) (maxL := 5) (ret := some .int) (n := 4) ⟨hC.1.1, hC.1.2.1, hC.1.2.2.2.1, hC.1.2.2.2.2.1, hts⟩ (hM la hC.2.1.2.2.2.2.1) ⟨⟨rfl, rfl, by show 10 + 1 ≤ R.frames; omega, by show 8 + (5 + 11) + 10 * 64 ≤ R.locals; omega, fun w hw a' U hW => by
    rcases List.mem_cons.mp hw with rfl | hw
    · exact word_at hW (wsA_good w_1389) (hts _ w_1389)
    · exact word_at hW (wsA_good hw) (hts _ hw), List.mem_cons_self⟩, hts _ w_1389, hts _ w_129, by decide +kernel, fun sig hs => by
      have h2 : (parseMethodDescriptor yL_person.desc).map (fun d => d.parameters.length) = some 4 := by decide +kernel
      rw [hs] at h2
      exact (Option.some.inj h2).symm, hts _ w_1387, hts _ w_1388⟩ ⟨blindX, fun U hU hW => ⟨Pm.of hU hW hC.1.2.2.2.2.2.2.2.2 hS hR, hC.2.1.2.2.2.2.2.warm hW⟩⟩ rfl hlen hL.1 rfl (lv_room hcat) hd ⟨by omega, by omega⟩) hC h1 h2 h3 h4 hS hL k
end RulesL
/-! ===== the blocks of the law ===== -/
theorem dL_law_0 : decode cL_law 0 = .ok (.new 8, 3) := by decide +kernel
theorem dL_law_3 : decode cL_law 3 = .ok (.dup, 1) := by decide +kernel
theorem dL_law_4 : decode cL_law 4 = .ok (.invokespecial 15, 3) := by decide +kernel
theorem dL_law_7 : decode cL_law 7 = .ok (.astore_n 1, 1) := by decide +kernel
theorem dL_law_8 : decode cL_law 8 = .ok (.new 16, 3) := by decide +kernel
theorem dL_law_11 : decode cL_law 11 = .ok (.dup, 1) := by decide +kernel
theorem dL_law_12 : decode cL_law 12 = .ok (.invokespecial 18, 3) := by decide +kernel
theorem dL_law_15 : decode cL_law 15 = .ok (.astore_n 2, 1) := by decide +kernel
theorem dL_law_16 : decode cL_law 16 = .ok (.iconst 1, 1) := by decide +kernel
theorem dL_law_17 : decode cL_law 17 = .ok (.newarray .long, 2) := by decide +kernel
theorem dL_law_19 : decode cL_law 19 = .ok (.astore_n 3, 1) := by decide +kernel
theorem dL_law_20 : decode cL_law 20 = .ok (.iconst 0, 1) := by decide +kernel
theorem dL_law_21 : decode cL_law 21 = .ok (.istore 4, 2) := by decide +kernel
theorem dL_law_23 : decode cL_law 23 = .ok (.iload 4, 2) := by decide +kernel
theorem dL_law_25 : decode cL_law 25 = .ok (.aload_n 0, 1) := by decide +kernel
theorem dL_law_26 : decode cL_law 26 = .ok (.arraylength, 1) := by decide +kernel
theorem dL_law_27 : decode cL_law 27 = .ok (.bipush 6, 2) := by decide +kernel
theorem dL_law_29 : decode cL_law 29 = .ok (.isub, 1) := by decide +kernel
theorem dL_law_30 : decode cL_law 30 = .ok (.if_icmp .gt 1331, 3) := by decide +kernel
theorem dL_law_33 : decode cL_law 33 = .ok (.aload_n 0, 1) := by decide +kernel
theorem dL_law_34 : decode cL_law 34 = .ok (.iload 4, 2) := by decide +kernel
theorem dL_law_36 : decode cL_law 36 = .ok (.iaload, 1) := by decide +kernel
theorem dL_law_37 : decode cL_law 37 = .ok (.bipush 63, 2) := by decide +kernel
theorem dL_law_39 : decode cL_law 39 = .ok (.iand, 1) := by decide +kernel
theorem dL_law_40 : decode cL_law 40 = .ok (.tableswitch 1315 0 39 #[176, 249, 274, 287, 300, 368, 405, 442, 479, 504, 541, 578, 603, 664, 713, 738, 751, 788, 825, 850, 863, 876, 901, 914, 927, 940, 965, 978, 991, 1016, 1041, 1066, 1103, 1152, 1177, 1202, 1215, 1240, 1265, 1290], 176) := by decide +kernel
theorem dL_law_216 : decode cL_law 216 = .ok (.aload_n 1, 1) := by decide +kernel
theorem dL_law_217 : decode cL_law 217 = .ok (.aload_n 0, 1) := by decide +kernel
theorem dL_law_218 : decode cL_law 218 = .ok (.iload 4, 2) := by decide +kernel
theorem dL_law_220 : decode cL_law 220 = .ok (.iconst 1, 1) := by decide +kernel
theorem dL_law_221 : decode cL_law 221 = .ok (.iadd, 1) := by decide +kernel
theorem dL_law_222 : decode cL_law 222 = .ok (.iaload, 1) := by decide +kernel
theorem dL_law_223 : decode cL_law 223 = .ok (.aload_n 0, 1) := by decide +kernel
theorem dL_law_224 : decode cL_law 224 = .ok (.iload 4, 2) := by decide +kernel
theorem dL_law_226 : decode cL_law 226 = .ok (.iconst 2, 1) := by decide +kernel
theorem dL_law_227 : decode cL_law 227 = .ok (.iadd, 1) := by decide +kernel
theorem dL_law_228 : decode cL_law 228 = .ok (.iaload, 1) := by decide +kernel
theorem dL_law_229 : decode cL_law 229 = .ok (.aload_n 0, 1) := by decide +kernel
theorem dL_law_230 : decode cL_law 230 = .ok (.iload 4, 2) := by decide +kernel
theorem dL_law_232 : decode cL_law 232 = .ok (.iconst 3, 1) := by decide +kernel
theorem dL_law_233 : decode cL_law 233 = .ok (.iadd, 1) := by decide +kernel
theorem dL_law_234 : decode cL_law 234 = .ok (.iaload, 1) := by decide +kernel
theorem dL_law_235 : decode cL_law 235 = .ok (.aload_n 0, 1) := by decide +kernel
theorem dL_law_236 : decode cL_law 236 = .ok (.iload 4, 2) := by decide +kernel
theorem dL_law_238 : decode cL_law 238 = .ok (.iconst 4, 1) := by decide +kernel
theorem dL_law_239 : decode cL_law 239 = .ok (.iadd, 1) := by decide +kernel
theorem dL_law_240 : decode cL_law 240 = .ok (.iaload, 1) := by decide +kernel
theorem dL_law_241 : decode cL_law 241 = .ok (.aload_n 0, 1) := by decide +kernel
theorem dL_law_242 : decode cL_law 242 = .ok (.iload 4, 2) := by decide +kernel
theorem dL_law_244 : decode cL_law 244 = .ok (.iconst 5, 1) := by decide +kernel
theorem dL_law_245 : decode cL_law 245 = .ok (.iadd, 1) := by decide +kernel
theorem dL_law_246 : decode cL_law 246 = .ok (.iaload, 1) := by decide +kernel
theorem dL_law_247 : decode cL_law 247 = .ok (.invokevirtual 19, 3) := by decide +kernel
theorem dL_law_250 : decode cL_law 250 = .ok (.aload_n 2, 1) := by decide +kernel
theorem dL_law_251 : decode cL_law 251 = .ok (.aload_n 0, 1) := by decide +kernel
theorem dL_law_252 : decode cL_law 252 = .ok (.iload 4, 2) := by decide +kernel
theorem dL_law_254 : decode cL_law 254 = .ok (.iconst 1, 1) := by decide +kernel
theorem dL_law_255 : decode cL_law 255 = .ok (.iadd, 1) := by decide +kernel
theorem dL_law_256 : decode cL_law 256 = .ok (.iaload, 1) := by decide +kernel
theorem dL_law_257 : decode cL_law 257 = .ok (.aload_n 0, 1) := by decide +kernel
theorem dL_law_258 : decode cL_law 258 = .ok (.iload 4, 2) := by decide +kernel
theorem dL_law_260 : decode cL_law 260 = .ok (.iconst 2, 1) := by decide +kernel
theorem dL_law_261 : decode cL_law 261 = .ok (.iadd, 1) := by decide +kernel
theorem dL_law_262 : decode cL_law 262 = .ok (.iaload, 1) := by decide +kernel
theorem dL_law_263 : decode cL_law 263 = .ok (.aload_n 0, 1) := by decide +kernel
theorem dL_law_264 : decode cL_law 264 = .ok (.iload 4, 2) := by decide +kernel
theorem dL_law_266 : decode cL_law 266 = .ok (.iconst 3, 1) := by decide +kernel
theorem dL_law_267 : decode cL_law 267 = .ok (.iadd, 1) := by decide +kernel
theorem dL_law_268 : decode cL_law 268 = .ok (.iaload, 1) := by decide +kernel
theorem dL_law_269 : decode cL_law 269 = .ok (.aload_n 0, 1) := by decide +kernel
theorem dL_law_270 : decode cL_law 270 = .ok (.iload 4, 2) := by decide +kernel
theorem dL_law_272 : decode cL_law 272 = .ok (.iconst 4, 1) := by decide +kernel
theorem dL_law_273 : decode cL_law 273 = .ok (.iadd, 1) := by decide +kernel
theorem dL_law_274 : decode cL_law 274 = .ok (.iaload, 1) := by decide +kernel
theorem dL_law_275 : decode cL_law 275 = .ok (.aload_n 0, 1) := by decide +kernel
theorem dL_law_276 : decode cL_law 276 = .ok (.iload 4, 2) := by decide +kernel
theorem dL_law_278 : decode cL_law 278 = .ok (.iconst 5, 1) := by decide +kernel
theorem dL_law_279 : decode cL_law 279 = .ok (.iadd, 1) := by decide +kernel
theorem dL_law_280 : decode cL_law 280 = .ok (.iaload, 1) := by decide +kernel
theorem dL_law_281 : decode cL_law 281 = .ok (.invokevirtual 23, 3) := by decide +kernel
theorem dL_law_284 : decode cL_law 284 = .ok (.if_icmp .eq 1071, 3) := by decide +kernel
theorem dL_law_287 : decode cL_law 287 = .ok (.iconst 0, 1) := by decide +kernel
theorem dL_law_288 : decode cL_law 288 = .ok (.ireturn, 1) := by decide +kernel
theorem dL_law_289 : decode cL_law 289 = .ok (.aload_n 1, 1) := by decide +kernel
theorem dL_law_290 : decode cL_law 290 = .ok (.aload_n 0, 1) := by decide +kernel
theorem dL_law_291 : decode cL_law 291 = .ok (.iload 4, 2) := by decide +kernel
theorem dL_law_293 : decode cL_law 293 = .ok (.iconst 1, 1) := by decide +kernel
theorem dL_law_294 : decode cL_law 294 = .ok (.iadd, 1) := by decide +kernel
theorem dL_law_295 : decode cL_law 295 = .ok (.iaload, 1) := by decide +kernel
theorem dL_law_296 : decode cL_law 296 = .ok (.invokevirtual 24, 3) := by decide +kernel
theorem dL_law_299 : decode cL_law 299 = .ok (.aload_n 2, 1) := by decide +kernel
theorem dL_law_300 : decode cL_law 300 = .ok (.aload_n 0, 1) := by decide +kernel
theorem dL_law_301 : decode cL_law 301 = .ok (.iload 4, 2) := by decide +kernel
theorem dL_law_303 : decode cL_law 303 = .ok (.iconst 1, 1) := by decide +kernel
theorem dL_law_304 : decode cL_law 304 = .ok (.iadd, 1) := by decide +kernel
theorem dL_law_305 : decode cL_law 305 = .ok (.iaload, 1) := by decide +kernel
theorem dL_law_306 : decode cL_law 306 = .ok (.invokevirtual 28, 3) := by decide +kernel
theorem dL_law_309 : decode cL_law 309 = .ok (.if_icmp .eq 1046, 3) := by decide +kernel
theorem dL_law_312 : decode cL_law 312 = .ok (.iconst 0, 1) := by decide +kernel
theorem dL_law_313 : decode cL_law 313 = .ok (.ireturn, 1) := by decide +kernel
theorem dL_law_314 : decode cL_law 314 = .ok (.aload_n 1, 1) := by decide +kernel
theorem dL_law_315 : decode cL_law 315 = .ok (.invokevirtual 29, 3) := by decide +kernel
theorem dL_law_318 : decode cL_law 318 = .ok (.aload_n 2, 1) := by decide +kernel
theorem dL_law_319 : decode cL_law 319 = .ok (.invokevirtual 33, 3) := by decide +kernel
theorem dL_law_322 : decode cL_law 322 = .ok (.if_icmp .eq 1033, 3) := by decide +kernel
theorem dL_law_325 : decode cL_law 325 = .ok (.iconst 0, 1) := by decide +kernel
theorem dL_law_326 : decode cL_law 326 = .ok (.ireturn, 1) := by decide +kernel
theorem dL_law_327 : decode cL_law 327 = .ok (.aload_n 1, 1) := by decide +kernel
theorem dL_law_328 : decode cL_law 328 = .ok (.invokevirtual 34, 3) := by decide +kernel
theorem dL_law_331 : decode cL_law 331 = .ok (.aload_n 2, 1) := by decide +kernel
theorem dL_law_332 : decode cL_law 332 = .ok (.invokevirtual 37, 3) := by decide +kernel
theorem dL_law_335 : decode cL_law 335 = .ok (.if_icmp .eq 1020, 3) := by decide +kernel
theorem dL_law_338 : decode cL_law 338 = .ok (.iconst 0, 1) := by decide +kernel
theorem dL_law_339 : decode cL_law 339 = .ok (.ireturn, 1) := by decide +kernel
theorem dL_law_340 : decode cL_law 340 = .ok (.aload_n 1, 1) := by decide +kernel
theorem dL_law_341 : decode cL_law 341 = .ok (.aload_n 0, 1) := by decide +kernel
theorem dL_law_342 : decode cL_law 342 = .ok (.iload 4, 2) := by decide +kernel
theorem dL_law_344 : decode cL_law 344 = .ok (.iconst 1, 1) := by decide +kernel
theorem dL_law_345 : decode cL_law 345 = .ok (.iadd, 1) := by decide +kernel
theorem dL_law_346 : decode cL_law 346 = .ok (.iaload, 1) := by decide +kernel
theorem dL_law_347 : decode cL_law 347 = .ok (.aload_n 0, 1) := by decide +kernel
theorem dL_law_348 : decode cL_law 348 = .ok (.iload 4, 2) := by decide +kernel
theorem dL_law_350 : decode cL_law 350 = .ok (.iconst 2, 1) := by decide +kernel
theorem dL_law_351 : decode cL_law 351 = .ok (.iadd, 1) := by decide +kernel
theorem dL_law_352 : decode cL_law 352 = .ok (.iaload, 1) := by decide +kernel
theorem dL_law_353 : decode cL_law 353 = .ok (.aload_n 3, 1) := by decide +kernel
theorem dL_law_354 : decode cL_law 354 = .ok (.invokestatic 38, 3) := by decide +kernel
theorem dL_law_357 : decode cL_law 357 = .ok (.istore 5, 2) := by decide +kernel
theorem dL_law_359 : decode cL_law 359 = .ok (.aload_n 2, 1) := by decide +kernel
theorem dL_law_360 : decode cL_law 360 = .ok (.aload_n 0, 1) := by decide +kernel
theorem dL_law_361 : decode cL_law 361 = .ok (.iload 4, 2) := by decide +kernel
theorem dL_law_363 : decode cL_law 363 = .ok (.iconst 1, 1) := by decide +kernel
theorem dL_law_364 : decode cL_law 364 = .ok (.iadd, 1) := by decide +kernel
theorem dL_law_365 : decode cL_law 365 = .ok (.iaload, 1) := by decide +kernel
theorem dL_law_366 : decode cL_law 366 = .ok (.aload_n 0, 1) := by decide +kernel
theorem dL_law_367 : decode cL_law 367 = .ok (.iload 4, 2) := by decide +kernel
theorem dL_law_369 : decode cL_law 369 = .ok (.iconst 2, 1) := by decide +kernel
theorem dL_law_370 : decode cL_law 370 = .ok (.iadd, 1) := by decide +kernel
theorem dL_law_371 : decode cL_law 371 = .ok (.iaload, 1) := by decide +kernel
theorem dL_law_372 : decode cL_law 372 = .ok (.invokevirtual 43, 3) := by decide +kernel
theorem dL_law_375 : decode cL_law 375 = .ok (.istore 6, 2) := by decide +kernel
theorem dL_law_377 : decode cL_law 377 = .ok (.aload_n 2, 1) := by decide +kernel
theorem dL_law_378 : decode cL_law 378 = .ok (.invokevirtual 44, 3) := by decide +kernel
theorem dL_law_381 : decode cL_law 381 = .ok (.iload 5, 2) := by decide +kernel
theorem dL_law_383 : decode cL_law 383 = .ok (.if_icmp .eq 5, 3) := by decide +kernel
theorem dL_law_386 : decode cL_law 386 = .ok (.iconst 0, 1) := by decide +kernel
theorem dL_law_387 : decode cL_law 387 = .ok (.ireturn, 1) := by decide +kernel
theorem dL_law_388 : decode cL_law 388 = .ok (.iload 5, 2) := by decide +kernel
theorem dL_law_390 : decode cL_law 390 = .ok (.ifCond .ne 15, 3) := by decide +kernel
theorem dL_law_393 : decode cL_law 393 = .ok (.aload_n 3, 1) := by decide +kernel
theorem dL_law_394 : decode cL_law 394 = .ok (.iconst 0, 1) := by decide +kernel
theorem dL_law_395 : decode cL_law 395 = .ok (.laload, 1) := by decide +kernel
theorem dL_law_396 : decode cL_law 396 = .ok (.iload 6, 2) := by decide +kernel
theorem dL_law_398 : decode cL_law 398 = .ok (.i2l, 1) := by decide +kernel
theorem dL_law_399 : decode cL_law 399 = .ok (.lcmp, 1) := by decide +kernel
theorem dL_law_400 : decode cL_law 400 = .ok (.ifCond .eq 5, 3) := by decide +kernel
theorem dL_law_403 : decode cL_law 403 = .ok (.iconst 0, 1) := by decide +kernel
theorem dL_law_404 : decode cL_law 404 = .ok (.ireturn, 1) := by decide +kernel
theorem dL_law_405 : decode cL_law 405 = .ok (.goto 950, 3) := by decide +kernel
theorem dL_law_408 : decode cL_law 408 = .ok (.aload_n 1, 1) := by decide +kernel
theorem dL_law_409 : decode cL_law 409 = .ok (.aload_n 0, 1) := by decide +kernel
theorem dL_law_410 : decode cL_law 410 = .ok (.iload 4, 2) := by decide +kernel
theorem dL_law_412 : decode cL_law 412 = .ok (.iconst 1, 1) := by decide +kernel
theorem dL_law_413 : decode cL_law 413 = .ok (.iadd, 1) := by decide +kernel
theorem dL_law_414 : decode cL_law 414 = .ok (.iaload, 1) := by decide +kernel
theorem dL_law_415 : decode cL_law 415 = .ok (.aload_n 0, 1) := by decide +kernel
theorem dL_law_416 : decode cL_law 416 = .ok (.iload 4, 2) := by decide +kernel
theorem dL_law_418 : decode cL_law 418 = .ok (.iconst 2, 1) := by decide +kernel
theorem dL_law_419 : decode cL_law 419 = .ok (.iadd, 1) := by decide +kernel
theorem dL_law_420 : decode cL_law 420 = .ok (.iaload, 1) := by decide +kernel
theorem dL_law_421 : decode cL_law 421 = .ok (.invokevirtual 47, 3) := by decide +kernel
theorem dL_law_424 : decode cL_law 424 = .ok (.aload_n 2, 1) := by decide +kernel
theorem dL_law_425 : decode cL_law 425 = .ok (.aload_n 0, 1) := by decide +kernel
theorem dL_law_426 : decode cL_law 426 = .ok (.iload 4, 2) := by decide +kernel
theorem dL_law_428 : decode cL_law 428 = .ok (.iconst 1, 1) := by decide +kernel
theorem dL_law_429 : decode cL_law 429 = .ok (.iadd, 1) := by decide +kernel
theorem dL_law_430 : decode cL_law 430 = .ok (.iaload, 1) := by decide +kernel
theorem dL_law_431 : decode cL_law 431 = .ok (.aload_n 0, 1) := by decide +kernel
theorem dL_law_432 : decode cL_law 432 = .ok (.iload 4, 2) := by decide +kernel
theorem dL_law_434 : decode cL_law 434 = .ok (.iconst 2, 1) := by decide +kernel
theorem dL_law_435 : decode cL_law 435 = .ok (.iadd, 1) := by decide +kernel
theorem dL_law_436 : decode cL_law 436 = .ok (.iaload, 1) := by decide +kernel
theorem dL_law_437 : decode cL_law 437 = .ok (.invokevirtual 50, 3) := by decide +kernel
theorem dL_law_440 : decode cL_law 440 = .ok (.if_icmp .eq 915, 3) := by decide +kernel
theorem dL_law_443 : decode cL_law 443 = .ok (.iconst 0, 1) := by decide +kernel
theorem dL_law_444 : decode cL_law 444 = .ok (.ireturn, 1) := by decide +kernel
theorem dL_law_445 : decode cL_law 445 = .ok (.aload_n 1, 1) := by decide +kernel
theorem dL_law_446 : decode cL_law 446 = .ok (.aload_n 0, 1) := by decide +kernel
theorem dL_law_447 : decode cL_law 447 = .ok (.iload 4, 2) := by decide +kernel
theorem dL_law_449 : decode cL_law 449 = .ok (.iconst 1, 1) := by decide +kernel
theorem dL_law_450 : decode cL_law 450 = .ok (.iadd, 1) := by decide +kernel
theorem dL_law_451 : decode cL_law 451 = .ok (.iaload, 1) := by decide +kernel
theorem dL_law_452 : decode cL_law 452 = .ok (.aload_n 0, 1) := by decide +kernel
theorem dL_law_453 : decode cL_law 453 = .ok (.iload 4, 2) := by decide +kernel
theorem dL_law_455 : decode cL_law 455 = .ok (.iconst 2, 1) := by decide +kernel
theorem dL_law_456 : decode cL_law 456 = .ok (.iadd, 1) := by decide +kernel
theorem dL_law_457 : decode cL_law 457 = .ok (.iaload, 1) := by decide +kernel
theorem dL_law_458 : decode cL_law 458 = .ok (.invokevirtual 51, 3) := by decide +kernel
theorem dL_law_461 : decode cL_law 461 = .ok (.aload_n 2, 1) := by decide +kernel
theorem dL_law_462 : decode cL_law 462 = .ok (.aload_n 0, 1) := by decide +kernel
theorem dL_law_463 : decode cL_law 463 = .ok (.iload 4, 2) := by decide +kernel
theorem dL_law_465 : decode cL_law 465 = .ok (.iconst 1, 1) := by decide +kernel
theorem dL_law_466 : decode cL_law 466 = .ok (.iadd, 1) := by decide +kernel
theorem dL_law_467 : decode cL_law 467 = .ok (.iaload, 1) := by decide +kernel
theorem dL_law_468 : decode cL_law 468 = .ok (.aload_n 0, 1) := by decide +kernel
theorem dL_law_469 : decode cL_law 469 = .ok (.iload 4, 2) := by decide +kernel
theorem dL_law_471 : decode cL_law 471 = .ok (.iconst 2, 1) := by decide +kernel
theorem dL_law_472 : decode cL_law 472 = .ok (.iadd, 1) := by decide +kernel
theorem dL_law_473 : decode cL_law 473 = .ok (.iaload, 1) := by decide +kernel
theorem dL_law_474 : decode cL_law 474 = .ok (.invokevirtual 54, 3) := by decide +kernel
theorem dL_law_477 : decode cL_law 477 = .ok (.if_icmp .eq 878, 3) := by decide +kernel
theorem dL_law_480 : decode cL_law 480 = .ok (.iconst 0, 1) := by decide +kernel
theorem dL_law_481 : decode cL_law 481 = .ok (.ireturn, 1) := by decide +kernel
theorem dL_law_482 : decode cL_law 482 = .ok (.aload_n 1, 1) := by decide +kernel
theorem dL_law_483 : decode cL_law 483 = .ok (.aload_n 0, 1) := by decide +kernel
theorem dL_law_484 : decode cL_law 484 = .ok (.iload 4, 2) := by decide +kernel
theorem dL_law_486 : decode cL_law 486 = .ok (.iconst 1, 1) := by decide +kernel
theorem dL_law_487 : decode cL_law 487 = .ok (.iadd, 1) := by decide +kernel
theorem dL_law_488 : decode cL_law 488 = .ok (.iaload, 1) := by decide +kernel
theorem dL_law_489 : decode cL_law 489 = .ok (.aload_n 0, 1) := by decide +kernel
theorem dL_law_490 : decode cL_law 490 = .ok (.iload 4, 2) := by decide +kernel
theorem dL_law_492 : decode cL_law 492 = .ok (.iconst 2, 1) := by decide +kernel
theorem dL_law_493 : decode cL_law 493 = .ok (.iadd, 1) := by decide +kernel
theorem dL_law_494 : decode cL_law 494 = .ok (.iaload, 1) := by decide +kernel
theorem dL_law_495 : decode cL_law 495 = .ok (.invokevirtual 55, 3) := by decide +kernel
theorem dL_law_498 : decode cL_law 498 = .ok (.aload_n 2, 1) := by decide +kernel
theorem dL_law_499 : decode cL_law 499 = .ok (.aload_n 0, 1) := by decide +kernel
theorem dL_law_500 : decode cL_law 500 = .ok (.iload 4, 2) := by decide +kernel
theorem dL_law_502 : decode cL_law 502 = .ok (.iconst 1, 1) := by decide +kernel
theorem dL_law_503 : decode cL_law 503 = .ok (.iadd, 1) := by decide +kernel
theorem dL_law_504 : decode cL_law 504 = .ok (.iaload, 1) := by decide +kernel
theorem dL_law_505 : decode cL_law 505 = .ok (.aload_n 0, 1) := by decide +kernel
theorem dL_law_506 : decode cL_law 506 = .ok (.iload 4, 2) := by decide +kernel
theorem dL_law_508 : decode cL_law 508 = .ok (.iconst 2, 1) := by decide +kernel
theorem dL_law_509 : decode cL_law 509 = .ok (.iadd, 1) := by decide +kernel
theorem dL_law_510 : decode cL_law 510 = .ok (.iaload, 1) := by decide +kernel
theorem dL_law_511 : decode cL_law 511 = .ok (.invokevirtual 58, 3) := by decide +kernel
theorem dL_law_514 : decode cL_law 514 = .ok (.if_icmp .eq 841, 3) := by decide +kernel
theorem dL_law_517 : decode cL_law 517 = .ok (.iconst 0, 1) := by decide +kernel
theorem dL_law_518 : decode cL_law 518 = .ok (.ireturn, 1) := by decide +kernel
theorem dL_law_519 : decode cL_law 519 = .ok (.aload_n 1, 1) := by decide +kernel
theorem dL_law_520 : decode cL_law 520 = .ok (.aload_n 0, 1) := by decide +kernel
theorem dL_law_521 : decode cL_law 521 = .ok (.iload 4, 2) := by decide +kernel
theorem dL_law_523 : decode cL_law 523 = .ok (.iconst 1, 1) := by decide +kernel
theorem dL_law_524 : decode cL_law 524 = .ok (.iadd, 1) := by decide +kernel
theorem dL_law_525 : decode cL_law 525 = .ok (.iaload, 1) := by decide +kernel
theorem dL_law_526 : decode cL_law 526 = .ok (.invokevirtual 59, 3) := by decide +kernel
theorem dL_law_529 : decode cL_law 529 = .ok (.aload_n 2, 1) := by decide +kernel
theorem dL_law_530 : decode cL_law 530 = .ok (.aload_n 0, 1) := by decide +kernel
theorem dL_law_531 : decode cL_law 531 = .ok (.iload 4, 2) := by decide +kernel
theorem dL_law_533 : decode cL_law 533 = .ok (.iconst 1, 1) := by decide +kernel
theorem dL_law_534 : decode cL_law 534 = .ok (.iadd, 1) := by decide +kernel
theorem dL_law_535 : decode cL_law 535 = .ok (.iaload, 1) := by decide +kernel
theorem dL_law_536 : decode cL_law 536 = .ok (.invokevirtual 63, 3) := by decide +kernel
theorem dL_law_539 : decode cL_law 539 = .ok (.if_icmp .eq 816, 3) := by decide +kernel
theorem dL_law_542 : decode cL_law 542 = .ok (.iconst 0, 1) := by decide +kernel
theorem dL_law_543 : decode cL_law 543 = .ok (.ireturn, 1) := by decide +kernel
theorem dL_law_544 : decode cL_law 544 = .ok (.aload_n 1, 1) := by decide +kernel
theorem dL_law_545 : decode cL_law 545 = .ok (.aload_n 0, 1) := by decide +kernel
theorem dL_law_546 : decode cL_law 546 = .ok (.iload 4, 2) := by decide +kernel
theorem dL_law_548 : decode cL_law 548 = .ok (.iconst 1, 1) := by decide +kernel
theorem dL_law_549 : decode cL_law 549 = .ok (.iadd, 1) := by decide +kernel
theorem dL_law_550 : decode cL_law 550 = .ok (.iaload, 1) := by decide +kernel
theorem dL_law_551 : decode cL_law 551 = .ok (.aload_n 0, 1) := by decide +kernel
theorem dL_law_552 : decode cL_law 552 = .ok (.iload 4, 2) := by decide +kernel
theorem dL_law_554 : decode cL_law 554 = .ok (.iconst 2, 1) := by decide +kernel
theorem dL_law_555 : decode cL_law 555 = .ok (.iadd, 1) := by decide +kernel
theorem dL_law_556 : decode cL_law 556 = .ok (.iaload, 1) := by decide +kernel
theorem dL_law_557 : decode cL_law 557 = .ok (.invokevirtual 64, 3) := by decide +kernel
theorem dL_law_560 : decode cL_law 560 = .ok (.aload_n 2, 1) := by decide +kernel
theorem dL_law_561 : decode cL_law 561 = .ok (.aload_n 0, 1) := by decide +kernel
theorem dL_law_562 : decode cL_law 562 = .ok (.iload 4, 2) := by decide +kernel
theorem dL_law_564 : decode cL_law 564 = .ok (.iconst 1, 1) := by decide +kernel
theorem dL_law_565 : decode cL_law 565 = .ok (.iadd, 1) := by decide +kernel
theorem dL_law_566 : decode cL_law 566 = .ok (.iaload, 1) := by decide +kernel
theorem dL_law_567 : decode cL_law 567 = .ok (.aload_n 0, 1) := by decide +kernel
theorem dL_law_568 : decode cL_law 568 = .ok (.iload 4, 2) := by decide +kernel
theorem dL_law_570 : decode cL_law 570 = .ok (.iconst 2, 1) := by decide +kernel
theorem dL_law_571 : decode cL_law 571 = .ok (.iadd, 1) := by decide +kernel
theorem dL_law_572 : decode cL_law 572 = .ok (.iaload, 1) := by decide +kernel
theorem dL_law_573 : decode cL_law 573 = .ok (.invokevirtual 67, 3) := by decide +kernel
theorem dL_law_576 : decode cL_law 576 = .ok (.if_icmp .eq 779, 3) := by decide +kernel
theorem dL_law_579 : decode cL_law 579 = .ok (.iconst 0, 1) := by decide +kernel
theorem dL_law_580 : decode cL_law 580 = .ok (.ireturn, 1) := by decide +kernel
theorem dL_law_581 : decode cL_law 581 = .ok (.aload_n 1, 1) := by decide +kernel
theorem dL_law_582 : decode cL_law 582 = .ok (.aload_n 0, 1) := by decide +kernel
theorem dL_law_583 : decode cL_law 583 = .ok (.iload 4, 2) := by decide +kernel
theorem dL_law_585 : decode cL_law 585 = .ok (.iconst 1, 1) := by decide +kernel
theorem dL_law_586 : decode cL_law 586 = .ok (.iadd, 1) := by decide +kernel
theorem dL_law_587 : decode cL_law 587 = .ok (.iaload, 1) := by decide +kernel
theorem dL_law_588 : decode cL_law 588 = .ok (.aload_n 0, 1) := by decide +kernel
theorem dL_law_589 : decode cL_law 589 = .ok (.iload 4, 2) := by decide +kernel
theorem dL_law_591 : decode cL_law 591 = .ok (.iconst 2, 1) := by decide +kernel
theorem dL_law_592 : decode cL_law 592 = .ok (.iadd, 1) := by decide +kernel
theorem dL_law_593 : decode cL_law 593 = .ok (.iaload, 1) := by decide +kernel
theorem dL_law_594 : decode cL_law 594 = .ok (.invokevirtual 68, 3) := by decide +kernel
theorem dL_law_597 : decode cL_law 597 = .ok (.aload_n 2, 1) := by decide +kernel
theorem dL_law_598 : decode cL_law 598 = .ok (.aload_n 0, 1) := by decide +kernel
theorem dL_law_599 : decode cL_law 599 = .ok (.iload 4, 2) := by decide +kernel
theorem dL_law_601 : decode cL_law 601 = .ok (.iconst 1, 1) := by decide +kernel
theorem dL_law_602 : decode cL_law 602 = .ok (.iadd, 1) := by decide +kernel
theorem dL_law_603 : decode cL_law 603 = .ok (.iaload, 1) := by decide +kernel
theorem dL_law_604 : decode cL_law 604 = .ok (.aload_n 0, 1) := by decide +kernel
theorem dL_law_605 : decode cL_law 605 = .ok (.iload 4, 2) := by decide +kernel
theorem dL_law_607 : decode cL_law 607 = .ok (.iconst 2, 1) := by decide +kernel
theorem dL_law_608 : decode cL_law 608 = .ok (.iadd, 1) := by decide +kernel
theorem dL_law_609 : decode cL_law 609 = .ok (.iaload, 1) := by decide +kernel
theorem dL_law_610 : decode cL_law 610 = .ok (.invokevirtual 71, 3) := by decide +kernel
theorem dL_law_613 : decode cL_law 613 = .ok (.if_icmp .eq 742, 3) := by decide +kernel
theorem dL_law_616 : decode cL_law 616 = .ok (.iconst 0, 1) := by decide +kernel
theorem dL_law_617 : decode cL_law 617 = .ok (.ireturn, 1) := by decide +kernel
theorem dL_law_618 : decode cL_law 618 = .ok (.aload_n 1, 1) := by decide +kernel
theorem dL_law_619 : decode cL_law 619 = .ok (.aload_n 0, 1) := by decide +kernel
theorem dL_law_620 : decode cL_law 620 = .ok (.iload 4, 2) := by decide +kernel
theorem dL_law_622 : decode cL_law 622 = .ok (.iconst 1, 1) := by decide +kernel
theorem dL_law_623 : decode cL_law 623 = .ok (.iadd, 1) := by decide +kernel
theorem dL_law_624 : decode cL_law 624 = .ok (.iaload, 1) := by decide +kernel
theorem dL_law_625 : decode cL_law 625 = .ok (.invokevirtual 72, 3) := by decide +kernel
theorem dL_law_628 : decode cL_law 628 = .ok (.aload_n 2, 1) := by decide +kernel
theorem dL_law_629 : decode cL_law 629 = .ok (.aload_n 0, 1) := by decide +kernel
theorem dL_law_630 : decode cL_law 630 = .ok (.iload 4, 2) := by decide +kernel
theorem dL_law_632 : decode cL_law 632 = .ok (.iconst 1, 1) := by decide +kernel
theorem dL_law_633 : decode cL_law 633 = .ok (.iadd, 1) := by decide +kernel
theorem dL_law_634 : decode cL_law 634 = .ok (.iaload, 1) := by decide +kernel
theorem dL_law_635 : decode cL_law 635 = .ok (.invokevirtual 75, 3) := by decide +kernel
theorem dL_law_638 : decode cL_law 638 = .ok (.if_icmp .eq 717, 3) := by decide +kernel
theorem dL_law_641 : decode cL_law 641 = .ok (.iconst 0, 1) := by decide +kernel
theorem dL_law_642 : decode cL_law 642 = .ok (.ireturn, 1) := by decide +kernel
theorem dL_law_643 : decode cL_law 643 = .ok (.aload_n 1, 1) := by decide +kernel
theorem dL_law_644 : decode cL_law 644 = .ok (.aload_n 0, 1) := by decide +kernel
theorem dL_law_645 : decode cL_law 645 = .ok (.iload 4, 2) := by decide +kernel
theorem dL_law_647 : decode cL_law 647 = .ok (.iconst 1, 1) := by decide +kernel
theorem dL_law_648 : decode cL_law 648 = .ok (.iadd, 1) := by decide +kernel
theorem dL_law_649 : decode cL_law 649 = .ok (.iaload, 1) := by decide +kernel
theorem dL_law_650 : decode cL_law 650 = .ok (.aload_n 0, 1) := by decide +kernel
theorem dL_law_651 : decode cL_law 651 = .ok (.iload 4, 2) := by decide +kernel
theorem dL_law_653 : decode cL_law 653 = .ok (.iconst 2, 1) := by decide +kernel
theorem dL_law_654 : decode cL_law 654 = .ok (.iadd, 1) := by decide +kernel
theorem dL_law_655 : decode cL_law 655 = .ok (.iaload, 1) := by decide +kernel
theorem dL_law_656 : decode cL_law 656 = .ok (.aload_n 0, 1) := by decide +kernel
theorem dL_law_657 : decode cL_law 657 = .ok (.iload 4, 2) := by decide +kernel
theorem dL_law_659 : decode cL_law 659 = .ok (.iconst 3, 1) := by decide +kernel
theorem dL_law_660 : decode cL_law 660 = .ok (.iadd, 1) := by decide +kernel
theorem dL_law_661 : decode cL_law 661 = .ok (.iaload, 1) := by decide +kernel
theorem dL_law_662 : decode cL_law 662 = .ok (.aload_n 0, 1) := by decide +kernel
theorem dL_law_663 : decode cL_law 663 = .ok (.iload 4, 2) := by decide +kernel
theorem dL_law_665 : decode cL_law 665 = .ok (.iconst 4, 1) := by decide +kernel
theorem dL_law_666 : decode cL_law 666 = .ok (.iadd, 1) := by decide +kernel
theorem dL_law_667 : decode cL_law 667 = .ok (.iaload, 1) := by decide +kernel
theorem dL_law_668 : decode cL_law 668 = .ok (.invokevirtual 76, 3) := by decide +kernel
theorem dL_law_671 : decode cL_law 671 = .ok (.aload_n 2, 1) := by decide +kernel
theorem dL_law_672 : decode cL_law 672 = .ok (.aload_n 0, 1) := by decide +kernel
theorem dL_law_673 : decode cL_law 673 = .ok (.iload 4, 2) := by decide +kernel
theorem dL_law_675 : decode cL_law 675 = .ok (.iconst 1, 1) := by decide +kernel
theorem dL_law_676 : decode cL_law 676 = .ok (.iadd, 1) := by decide +kernel
theorem dL_law_677 : decode cL_law 677 = .ok (.iaload, 1) := by decide +kernel
theorem dL_law_678 : decode cL_law 678 = .ok (.aload_n 0, 1) := by decide +kernel
theorem dL_law_679 : decode cL_law 679 = .ok (.iload 4, 2) := by decide +kernel
theorem dL_law_681 : decode cL_law 681 = .ok (.iconst 2, 1) := by decide +kernel
theorem dL_law_682 : decode cL_law 682 = .ok (.iadd, 1) := by decide +kernel
theorem dL_law_683 : decode cL_law 683 = .ok (.iaload, 1) := by decide +kernel
theorem dL_law_684 : decode cL_law 684 = .ok (.aload_n 0, 1) := by decide +kernel
theorem dL_law_685 : decode cL_law 685 = .ok (.iload 4, 2) := by decide +kernel
theorem dL_law_687 : decode cL_law 687 = .ok (.iconst 3, 1) := by decide +kernel
theorem dL_law_688 : decode cL_law 688 = .ok (.iadd, 1) := by decide +kernel
theorem dL_law_689 : decode cL_law 689 = .ok (.iaload, 1) := by decide +kernel
theorem dL_law_690 : decode cL_law 690 = .ok (.aload_n 0, 1) := by decide +kernel
theorem dL_law_691 : decode cL_law 691 = .ok (.iload 4, 2) := by decide +kernel
theorem dL_law_693 : decode cL_law 693 = .ok (.iconst 4, 1) := by decide +kernel
theorem dL_law_694 : decode cL_law 694 = .ok (.iadd, 1) := by decide +kernel
theorem dL_law_695 : decode cL_law 695 = .ok (.iaload, 1) := by decide +kernel
theorem dL_law_696 : decode cL_law 696 = .ok (.invokevirtual 80, 3) := by decide +kernel
theorem dL_law_699 : decode cL_law 699 = .ok (.if_icmp .eq 656, 3) := by decide +kernel
theorem dL_law_702 : decode cL_law 702 = .ok (.iconst 0, 1) := by decide +kernel
theorem dL_law_703 : decode cL_law 703 = .ok (.ireturn, 1) := by decide +kernel
theorem dL_law_704 : decode cL_law 704 = .ok (.aload_n 1, 1) := by decide +kernel
theorem dL_law_705 : decode cL_law 705 = .ok (.aload_n 0, 1) := by decide +kernel
theorem dL_law_706 : decode cL_law 706 = .ok (.iload 4, 2) := by decide +kernel
theorem dL_law_708 : decode cL_law 708 = .ok (.iconst 1, 1) := by decide +kernel
theorem dL_law_709 : decode cL_law 709 = .ok (.iadd, 1) := by decide +kernel
theorem dL_law_710 : decode cL_law 710 = .ok (.iaload, 1) := by decide +kernel
theorem dL_law_711 : decode cL_law 711 = .ok (.aload_n 0, 1) := by decide +kernel
theorem dL_law_712 : decode cL_law 712 = .ok (.iload 4, 2) := by decide +kernel
theorem dL_law_714 : decode cL_law 714 = .ok (.iconst 2, 1) := by decide +kernel
theorem dL_law_715 : decode cL_law 715 = .ok (.iadd, 1) := by decide +kernel
theorem dL_law_716 : decode cL_law 716 = .ok (.iaload, 1) := by decide +kernel
theorem dL_law_717 : decode cL_law 717 = .ok (.aload_n 0, 1) := by decide +kernel
theorem dL_law_718 : decode cL_law 718 = .ok (.iload 4, 2) := by decide +kernel
theorem dL_law_720 : decode cL_law 720 = .ok (.iconst 3, 1) := by decide +kernel
theorem dL_law_721 : decode cL_law 721 = .ok (.iadd, 1) := by decide +kernel
theorem dL_law_722 : decode cL_law 722 = .ok (.iaload, 1) := by decide +kernel
theorem dL_law_723 : decode cL_law 723 = .ok (.invokevirtual 81, 3) := by decide +kernel
theorem dL_law_726 : decode cL_law 726 = .ok (.aload_n 2, 1) := by decide +kernel
theorem dL_law_727 : decode cL_law 727 = .ok (.aload_n 0, 1) := by decide +kernel
theorem dL_law_728 : decode cL_law 728 = .ok (.iload 4, 2) := by decide +kernel
theorem dL_law_730 : decode cL_law 730 = .ok (.iconst 1, 1) := by decide +kernel
theorem dL_law_731 : decode cL_law 731 = .ok (.iadd, 1) := by decide +kernel
theorem dL_law_732 : decode cL_law 732 = .ok (.iaload, 1) := by decide +kernel
theorem dL_law_733 : decode cL_law 733 = .ok (.aload_n 0, 1) := by decide +kernel
theorem dL_law_734 : decode cL_law 734 = .ok (.iload 4, 2) := by decide +kernel
theorem dL_law_736 : decode cL_law 736 = .ok (.iconst 2, 1) := by decide +kernel
theorem dL_law_737 : decode cL_law 737 = .ok (.iadd, 1) := by decide +kernel
theorem dL_law_738 : decode cL_law 738 = .ok (.iaload, 1) := by decide +kernel
theorem dL_law_739 : decode cL_law 739 = .ok (.aload_n 0, 1) := by decide +kernel
theorem dL_law_740 : decode cL_law 740 = .ok (.iload 4, 2) := by decide +kernel
theorem dL_law_742 : decode cL_law 742 = .ok (.iconst 3, 1) := by decide +kernel
theorem dL_law_743 : decode cL_law 743 = .ok (.iadd, 1) := by decide +kernel
theorem dL_law_744 : decode cL_law 744 = .ok (.iaload, 1) := by decide +kernel
theorem dL_law_745 : decode cL_law 745 = .ok (.invokevirtual 85, 3) := by decide +kernel
theorem dL_law_748 : decode cL_law 748 = .ok (.if_icmp .eq 607, 3) := by decide +kernel
theorem dL_law_751 : decode cL_law 751 = .ok (.iconst 0, 1) := by decide +kernel
theorem dL_law_752 : decode cL_law 752 = .ok (.ireturn, 1) := by decide +kernel
theorem dL_law_753 : decode cL_law 753 = .ok (.aload_n 1, 1) := by decide +kernel
theorem dL_law_754 : decode cL_law 754 = .ok (.aload_n 0, 1) := by decide +kernel
theorem dL_law_755 : decode cL_law 755 = .ok (.iload 4, 2) := by decide +kernel
theorem dL_law_757 : decode cL_law 757 = .ok (.iconst 1, 1) := by decide +kernel
theorem dL_law_758 : decode cL_law 758 = .ok (.iadd, 1) := by decide +kernel
theorem dL_law_759 : decode cL_law 759 = .ok (.iaload, 1) := by decide +kernel
theorem dL_law_760 : decode cL_law 760 = .ok (.invokevirtual 86, 3) := by decide +kernel
theorem dL_law_763 : decode cL_law 763 = .ok (.aload_n 2, 1) := by decide +kernel
theorem dL_law_764 : decode cL_law 764 = .ok (.aload_n 0, 1) := by decide +kernel
theorem dL_law_765 : decode cL_law 765 = .ok (.iload 4, 2) := by decide +kernel
theorem dL_law_767 : decode cL_law 767 = .ok (.iconst 1, 1) := by decide +kernel
theorem dL_law_768 : decode cL_law 768 = .ok (.iadd, 1) := by decide +kernel
theorem dL_law_769 : decode cL_law 769 = .ok (.iaload, 1) := by decide +kernel
theorem dL_law_770 : decode cL_law 770 = .ok (.invokevirtual 89, 3) := by decide +kernel
theorem dL_law_773 : decode cL_law 773 = .ok (.if_icmp .eq 582, 3) := by decide +kernel
theorem dL_law_776 : decode cL_law 776 = .ok (.iconst 0, 1) := by decide +kernel
theorem dL_law_777 : decode cL_law 777 = .ok (.ireturn, 1) := by decide +kernel
theorem dL_law_778 : decode cL_law 778 = .ok (.aload_n 1, 1) := by decide +kernel
theorem dL_law_779 : decode cL_law 779 = .ok (.invokevirtual 90, 3) := by decide +kernel
theorem dL_law_782 : decode cL_law 782 = .ok (.aload_n 2, 1) := by decide +kernel
theorem dL_law_783 : decode cL_law 783 = .ok (.invokevirtual 93, 3) := by decide +kernel
theorem dL_law_786 : decode cL_law 786 = .ok (.if_icmp .eq 569, 3) := by decide +kernel
theorem dL_law_789 : decode cL_law 789 = .ok (.iconst 0, 1) := by decide +kernel
theorem dL_law_790 : decode cL_law 790 = .ok (.ireturn, 1) := by decide +kernel
theorem dL_law_791 : decode cL_law 791 = .ok (.aload_n 1, 1) := by decide +kernel
theorem dL_law_792 : decode cL_law 792 = .ok (.aload_n 0, 1) := by decide +kernel
theorem dL_law_793 : decode cL_law 793 = .ok (.iload 4, 2) := by decide +kernel
theorem dL_law_795 : decode cL_law 795 = .ok (.iconst 1, 1) := by decide +kernel
theorem dL_law_796 : decode cL_law 796 = .ok (.iadd, 1) := by decide +kernel
theorem dL_law_797 : decode cL_law 797 = .ok (.iaload, 1) := by decide +kernel
theorem dL_law_798 : decode cL_law 798 = .ok (.aload_n 0, 1) := by decide +kernel
theorem dL_law_799 : decode cL_law 799 = .ok (.iload 4, 2) := by decide +kernel
theorem dL_law_801 : decode cL_law 801 = .ok (.iconst 2, 1) := by decide +kernel
theorem dL_law_802 : decode cL_law 802 = .ok (.iadd, 1) := by decide +kernel
theorem dL_law_803 : decode cL_law 803 = .ok (.iaload, 1) := by decide +kernel
theorem dL_law_804 : decode cL_law 804 = .ok (.invokevirtual 94, 3) := by decide +kernel
theorem dL_law_807 : decode cL_law 807 = .ok (.aload_n 2, 1) := by decide +kernel
theorem dL_law_808 : decode cL_law 808 = .ok (.aload_n 0, 1) := by decide +kernel
theorem dL_law_809 : decode cL_law 809 = .ok (.iload 4, 2) := by decide +kernel
theorem dL_law_811 : decode cL_law 811 = .ok (.iconst 1, 1) := by decide +kernel
theorem dL_law_812 : decode cL_law 812 = .ok (.iadd, 1) := by decide +kernel
theorem dL_law_813 : decode cL_law 813 = .ok (.iaload, 1) := by decide +kernel
theorem dL_law_814 : decode cL_law 814 = .ok (.aload_n 0, 1) := by decide +kernel
theorem dL_law_815 : decode cL_law 815 = .ok (.iload 4, 2) := by decide +kernel
theorem dL_law_817 : decode cL_law 817 = .ok (.iconst 2, 1) := by decide +kernel
theorem dL_law_818 : decode cL_law 818 = .ok (.iadd, 1) := by decide +kernel
theorem dL_law_819 : decode cL_law 819 = .ok (.iaload, 1) := by decide +kernel
theorem dL_law_820 : decode cL_law 820 = .ok (.invokevirtual 97, 3) := by decide +kernel
theorem dL_law_823 : decode cL_law 823 = .ok (.if_icmp .eq 532, 3) := by decide +kernel
theorem dL_law_826 : decode cL_law 826 = .ok (.iconst 0, 1) := by decide +kernel
theorem dL_law_827 : decode cL_law 827 = .ok (.ireturn, 1) := by decide +kernel
theorem dL_law_828 : decode cL_law 828 = .ok (.aload_n 1, 1) := by decide +kernel
theorem dL_law_829 : decode cL_law 829 = .ok (.aload_n 0, 1) := by decide +kernel
theorem dL_law_830 : decode cL_law 830 = .ok (.iload 4, 2) := by decide +kernel
theorem dL_law_832 : decode cL_law 832 = .ok (.iconst 1, 1) := by decide +kernel
theorem dL_law_833 : decode cL_law 833 = .ok (.iadd, 1) := by decide +kernel
theorem dL_law_834 : decode cL_law 834 = .ok (.iaload, 1) := by decide +kernel
theorem dL_law_835 : decode cL_law 835 = .ok (.aload_n 0, 1) := by decide +kernel
theorem dL_law_836 : decode cL_law 836 = .ok (.iload 4, 2) := by decide +kernel
theorem dL_law_838 : decode cL_law 838 = .ok (.iconst 2, 1) := by decide +kernel
theorem dL_law_839 : decode cL_law 839 = .ok (.iadd, 1) := by decide +kernel
theorem dL_law_840 : decode cL_law 840 = .ok (.iaload, 1) := by decide +kernel
theorem dL_law_841 : decode cL_law 841 = .ok (.invokevirtual 98, 3) := by decide +kernel
theorem dL_law_844 : decode cL_law 844 = .ok (.aload_n 2, 1) := by decide +kernel
theorem dL_law_845 : decode cL_law 845 = .ok (.aload_n 0, 1) := by decide +kernel
theorem dL_law_846 : decode cL_law 846 = .ok (.iload 4, 2) := by decide +kernel
theorem dL_law_848 : decode cL_law 848 = .ok (.iconst 1, 1) := by decide +kernel
theorem dL_law_849 : decode cL_law 849 = .ok (.iadd, 1) := by decide +kernel
theorem dL_law_850 : decode cL_law 850 = .ok (.iaload, 1) := by decide +kernel
theorem dL_law_851 : decode cL_law 851 = .ok (.aload_n 0, 1) := by decide +kernel
theorem dL_law_852 : decode cL_law 852 = .ok (.iload 4, 2) := by decide +kernel
theorem dL_law_854 : decode cL_law 854 = .ok (.iconst 2, 1) := by decide +kernel
theorem dL_law_855 : decode cL_law 855 = .ok (.iadd, 1) := by decide +kernel
theorem dL_law_856 : decode cL_law 856 = .ok (.iaload, 1) := by decide +kernel
theorem dL_law_857 : decode cL_law 857 = .ok (.invokevirtual 101, 3) := by decide +kernel
theorem dL_law_860 : decode cL_law 860 = .ok (.if_icmp .eq 495, 3) := by decide +kernel
theorem dL_law_863 : decode cL_law 863 = .ok (.iconst 0, 1) := by decide +kernel
theorem dL_law_864 : decode cL_law 864 = .ok (.ireturn, 1) := by decide +kernel
theorem dL_law_865 : decode cL_law 865 = .ok (.aload_n 1, 1) := by decide +kernel
theorem dL_law_866 : decode cL_law 866 = .ok (.aload_n 0, 1) := by decide +kernel
theorem dL_law_867 : decode cL_law 867 = .ok (.iload 4, 2) := by decide +kernel
theorem dL_law_869 : decode cL_law 869 = .ok (.iconst 1, 1) := by decide +kernel
theorem dL_law_870 : decode cL_law 870 = .ok (.iadd, 1) := by decide +kernel
theorem dL_law_871 : decode cL_law 871 = .ok (.iaload, 1) := by decide +kernel
theorem dL_law_872 : decode cL_law 872 = .ok (.invokevirtual 102, 3) := by decide +kernel
theorem dL_law_875 : decode cL_law 875 = .ok (.aload_n 2, 1) := by decide +kernel
theorem dL_law_876 : decode cL_law 876 = .ok (.aload_n 0, 1) := by decide +kernel
theorem dL_law_877 : decode cL_law 877 = .ok (.iload 4, 2) := by decide +kernel
theorem dL_law_879 : decode cL_law 879 = .ok (.iconst 1, 1) := by decide +kernel
theorem dL_law_880 : decode cL_law 880 = .ok (.iadd, 1) := by decide +kernel
theorem dL_law_881 : decode cL_law 881 = .ok (.iaload, 1) := by decide +kernel
theorem dL_law_882 : decode cL_law 882 = .ok (.invokevirtual 105, 3) := by decide +kernel
theorem dL_law_885 : decode cL_law 885 = .ok (.if_icmp .eq 470, 3) := by decide +kernel
theorem dL_law_888 : decode cL_law 888 = .ok (.iconst 0, 1) := by decide +kernel
theorem dL_law_889 : decode cL_law 889 = .ok (.ireturn, 1) := by decide +kernel
theorem dL_law_890 : decode cL_law 890 = .ok (.aload_n 1, 1) := by decide +kernel
theorem dL_law_891 : decode cL_law 891 = .ok (.invokevirtual 106, 3) := by decide +kernel
theorem dL_law_894 : decode cL_law 894 = .ok (.aload_n 2, 1) := by decide +kernel
theorem dL_law_895 : decode cL_law 895 = .ok (.invokevirtual 109, 3) := by decide +kernel
theorem dL_law_898 : decode cL_law 898 = .ok (.if_icmp .eq 457, 3) := by decide +kernel
theorem dL_law_901 : decode cL_law 901 = .ok (.iconst 0, 1) := by decide +kernel
theorem dL_law_902 : decode cL_law 902 = .ok (.ireturn, 1) := by decide +kernel
theorem dL_law_903 : decode cL_law 903 = .ok (.aload_n 1, 1) := by decide +kernel
theorem dL_law_904 : decode cL_law 904 = .ok (.invokevirtual 110, 3) := by decide +kernel
theorem dL_law_907 : decode cL_law 907 = .ok (.aload_n 2, 1) := by decide +kernel
theorem dL_law_908 : decode cL_law 908 = .ok (.invokevirtual 113, 3) := by decide +kernel
theorem dL_law_911 : decode cL_law 911 = .ok (.if_icmp .eq 444, 3) := by decide +kernel
theorem dL_law_914 : decode cL_law 914 = .ok (.iconst 0, 1) := by decide +kernel
theorem dL_law_915 : decode cL_law 915 = .ok (.ireturn, 1) := by decide +kernel
theorem dL_law_916 : decode cL_law 916 = .ok (.aload_n 1, 1) := by decide +kernel
theorem dL_law_917 : decode cL_law 917 = .ok (.aload_n 0, 1) := by decide +kernel
theorem dL_law_918 : decode cL_law 918 = .ok (.iload 4, 2) := by decide +kernel
theorem dL_law_920 : decode cL_law 920 = .ok (.iconst 1, 1) := by decide +kernel
theorem dL_law_921 : decode cL_law 921 = .ok (.iadd, 1) := by decide +kernel
theorem dL_law_922 : decode cL_law 922 = .ok (.iaload, 1) := by decide +kernel
theorem dL_law_923 : decode cL_law 923 = .ok (.invokevirtual 114, 3) := by decide +kernel
theorem dL_law_926 : decode cL_law 926 = .ok (.aload_n 2, 1) := by decide +kernel
theorem dL_law_927 : decode cL_law 927 = .ok (.aload_n 0, 1) := by decide +kernel
theorem dL_law_928 : decode cL_law 928 = .ok (.iload 4, 2) := by decide +kernel
theorem dL_law_930 : decode cL_law 930 = .ok (.iconst 1, 1) := by decide +kernel
theorem dL_law_931 : decode cL_law 931 = .ok (.iadd, 1) := by decide +kernel
theorem dL_law_932 : decode cL_law 932 = .ok (.iaload, 1) := by decide +kernel
theorem dL_law_933 : decode cL_law 933 = .ok (.invokevirtual 117, 3) := by decide +kernel
theorem dL_law_936 : decode cL_law 936 = .ok (.if_icmp .eq 419, 3) := by decide +kernel
theorem dL_law_939 : decode cL_law 939 = .ok (.iconst 0, 1) := by decide +kernel
theorem dL_law_940 : decode cL_law 940 = .ok (.ireturn, 1) := by decide +kernel
theorem dL_law_941 : decode cL_law 941 = .ok (.aload_n 1, 1) := by decide +kernel
theorem dL_law_942 : decode cL_law 942 = .ok (.invokevirtual 118, 3) := by decide +kernel
theorem dL_law_945 : decode cL_law 945 = .ok (.aload_n 2, 1) := by decide +kernel
theorem dL_law_946 : decode cL_law 946 = .ok (.invokevirtual 121, 3) := by decide +kernel
theorem dL_law_949 : decode cL_law 949 = .ok (.if_icmp .eq 406, 3) := by decide +kernel
theorem dL_law_952 : decode cL_law 952 = .ok (.iconst 0, 1) := by decide +kernel
theorem dL_law_953 : decode cL_law 953 = .ok (.ireturn, 1) := by decide +kernel
theorem dL_law_954 : decode cL_law 954 = .ok (.aload_n 1, 1) := by decide +kernel
theorem dL_law_955 : decode cL_law 955 = .ok (.invokevirtual 122, 3) := by decide +kernel
theorem dL_law_958 : decode cL_law 958 = .ok (.aload_n 2, 1) := by decide +kernel
theorem dL_law_959 : decode cL_law 959 = .ok (.invokevirtual 125, 3) := by decide +kernel
theorem dL_law_962 : decode cL_law 962 = .ok (.if_icmp .eq 393, 3) := by decide +kernel
theorem dL_law_965 : decode cL_law 965 = .ok (.iconst 0, 1) := by decide +kernel
theorem dL_law_966 : decode cL_law 966 = .ok (.ireturn, 1) := by decide +kernel
theorem dL_law_967 : decode cL_law 967 = .ok (.aload_n 1, 1) := by decide +kernel
theorem dL_law_968 : decode cL_law 968 = .ok (.invokevirtual 126, 3) := by decide +kernel
theorem dL_law_971 : decode cL_law 971 = .ok (.aload_n 2, 1) := by decide +kernel
theorem dL_law_972 : decode cL_law 972 = .ok (.invokevirtual 129, 3) := by decide +kernel
theorem dL_law_975 : decode cL_law 975 = .ok (.if_icmp .eq 380, 3) := by decide +kernel
theorem dL_law_978 : decode cL_law 978 = .ok (.iconst 0, 1) := by decide +kernel
theorem dL_law_979 : decode cL_law 979 = .ok (.ireturn, 1) := by decide +kernel
theorem dL_law_980 : decode cL_law 980 = .ok (.aload_n 1, 1) := by decide +kernel
theorem dL_law_981 : decode cL_law 981 = .ok (.aload_n 0, 1) := by decide +kernel
theorem dL_law_982 : decode cL_law 982 = .ok (.iload 4, 2) := by decide +kernel
theorem dL_law_984 : decode cL_law 984 = .ok (.iconst 1, 1) := by decide +kernel
theorem dL_law_985 : decode cL_law 985 = .ok (.iadd, 1) := by decide +kernel
theorem dL_law_986 : decode cL_law 986 = .ok (.iaload, 1) := by decide +kernel
theorem dL_law_987 : decode cL_law 987 = .ok (.invokevirtual 130, 3) := by decide +kernel
theorem dL_law_990 : decode cL_law 990 = .ok (.aload_n 2, 1) := by decide +kernel
theorem dL_law_991 : decode cL_law 991 = .ok (.aload_n 0, 1) := by decide +kernel
theorem dL_law_992 : decode cL_law 992 = .ok (.iload 4, 2) := by decide +kernel
theorem dL_law_994 : decode cL_law 994 = .ok (.iconst 1, 1) := by decide +kernel
theorem dL_law_995 : decode cL_law 995 = .ok (.iadd, 1) := by decide +kernel
theorem dL_law_996 : decode cL_law 996 = .ok (.iaload, 1) := by decide +kernel
theorem dL_law_997 : decode cL_law 997 = .ok (.invokevirtual 133, 3) := by decide +kernel
theorem dL_law_1000 : decode cL_law 1000 = .ok (.if_icmp .eq 355, 3) := by decide +kernel
theorem dL_law_1003 : decode cL_law 1003 = .ok (.iconst 0, 1) := by decide +kernel
theorem dL_law_1004 : decode cL_law 1004 = .ok (.ireturn, 1) := by decide +kernel
theorem dL_law_1005 : decode cL_law 1005 = .ok (.aload_n 1, 1) := by decide +kernel
theorem dL_law_1006 : decode cL_law 1006 = .ok (.invokevirtual 134, 3) := by decide +kernel
theorem dL_law_1009 : decode cL_law 1009 = .ok (.aload_n 2, 1) := by decide +kernel
theorem dL_law_1010 : decode cL_law 1010 = .ok (.invokevirtual 137, 3) := by decide +kernel
theorem dL_law_1013 : decode cL_law 1013 = .ok (.if_icmp .eq 342, 3) := by decide +kernel
theorem dL_law_1016 : decode cL_law 1016 = .ok (.iconst 0, 1) := by decide +kernel
theorem dL_law_1017 : decode cL_law 1017 = .ok (.ireturn, 1) := by decide +kernel
theorem dL_law_1018 : decode cL_law 1018 = .ok (.aload_n 1, 1) := by decide +kernel
theorem dL_law_1019 : decode cL_law 1019 = .ok (.invokevirtual 138, 3) := by decide +kernel
theorem dL_law_1022 : decode cL_law 1022 = .ok (.aload_n 2, 1) := by decide +kernel
theorem dL_law_1023 : decode cL_law 1023 = .ok (.invokevirtual 141, 3) := by decide +kernel
theorem dL_law_1026 : decode cL_law 1026 = .ok (.if_icmp .eq 329, 3) := by decide +kernel
theorem dL_law_1029 : decode cL_law 1029 = .ok (.iconst 0, 1) := by decide +kernel
theorem dL_law_1030 : decode cL_law 1030 = .ok (.ireturn, 1) := by decide +kernel
theorem dL_law_1031 : decode cL_law 1031 = .ok (.aload_n 1, 1) := by decide +kernel
theorem dL_law_1032 : decode cL_law 1032 = .ok (.aload_n 0, 1) := by decide +kernel
theorem dL_law_1033 : decode cL_law 1033 = .ok (.iload 4, 2) := by decide +kernel
theorem dL_law_1035 : decode cL_law 1035 = .ok (.iconst 1, 1) := by decide +kernel
theorem dL_law_1036 : decode cL_law 1036 = .ok (.iadd, 1) := by decide +kernel
theorem dL_law_1037 : decode cL_law 1037 = .ok (.iaload, 1) := by decide +kernel
theorem dL_law_1038 : decode cL_law 1038 = .ok (.invokevirtual 142, 3) := by decide +kernel
theorem dL_law_1041 : decode cL_law 1041 = .ok (.aload_n 2, 1) := by decide +kernel
theorem dL_law_1042 : decode cL_law 1042 = .ok (.aload_n 0, 1) := by decide +kernel
theorem dL_law_1043 : decode cL_law 1043 = .ok (.iload 4, 2) := by decide +kernel
theorem dL_law_1045 : decode cL_law 1045 = .ok (.iconst 1, 1) := by decide +kernel
theorem dL_law_1046 : decode cL_law 1046 = .ok (.iadd, 1) := by decide +kernel
theorem dL_law_1047 : decode cL_law 1047 = .ok (.iaload, 1) := by decide +kernel
theorem dL_law_1048 : decode cL_law 1048 = .ok (.invokevirtual 145, 3) := by decide +kernel
theorem dL_law_1051 : decode cL_law 1051 = .ok (.if_icmp .eq 304, 3) := by decide +kernel
theorem dL_law_1054 : decode cL_law 1054 = .ok (.iconst 0, 1) := by decide +kernel
theorem dL_law_1055 : decode cL_law 1055 = .ok (.ireturn, 1) := by decide +kernel
theorem dL_law_1056 : decode cL_law 1056 = .ok (.aload_n 1, 1) := by decide +kernel
theorem dL_law_1057 : decode cL_law 1057 = .ok (.aload_n 0, 1) := by decide +kernel
theorem dL_law_1058 : decode cL_law 1058 = .ok (.iload 4, 2) := by decide +kernel
theorem dL_law_1060 : decode cL_law 1060 = .ok (.iconst 1, 1) := by decide +kernel
theorem dL_law_1061 : decode cL_law 1061 = .ok (.iadd, 1) := by decide +kernel
theorem dL_law_1062 : decode cL_law 1062 = .ok (.iaload, 1) := by decide +kernel
theorem dL_law_1063 : decode cL_law 1063 = .ok (.invokevirtual 146, 3) := by decide +kernel
theorem dL_law_1066 : decode cL_law 1066 = .ok (.aload_n 2, 1) := by decide +kernel
theorem dL_law_1067 : decode cL_law 1067 = .ok (.aload_n 0, 1) := by decide +kernel
theorem dL_law_1068 : decode cL_law 1068 = .ok (.iload 4, 2) := by decide +kernel
theorem dL_law_1070 : decode cL_law 1070 = .ok (.iconst 1, 1) := by decide +kernel
theorem dL_law_1071 : decode cL_law 1071 = .ok (.iadd, 1) := by decide +kernel
theorem dL_law_1072 : decode cL_law 1072 = .ok (.iaload, 1) := by decide +kernel
theorem dL_law_1073 : decode cL_law 1073 = .ok (.invokevirtual 149, 3) := by decide +kernel
theorem dL_law_1076 : decode cL_law 1076 = .ok (.if_icmp .eq 279, 3) := by decide +kernel
theorem dL_law_1079 : decode cL_law 1079 = .ok (.iconst 0, 1) := by decide +kernel
theorem dL_law_1080 : decode cL_law 1080 = .ok (.ireturn, 1) := by decide +kernel
theorem dL_law_1081 : decode cL_law 1081 = .ok (.aload_n 1, 1) := by decide +kernel
theorem dL_law_1082 : decode cL_law 1082 = .ok (.aload_n 0, 1) := by decide +kernel
theorem dL_law_1083 : decode cL_law 1083 = .ok (.iload 4, 2) := by decide +kernel
theorem dL_law_1085 : decode cL_law 1085 = .ok (.iconst 1, 1) := by decide +kernel
theorem dL_law_1086 : decode cL_law 1086 = .ok (.iadd, 1) := by decide +kernel
theorem dL_law_1087 : decode cL_law 1087 = .ok (.iaload, 1) := by decide +kernel
theorem dL_law_1088 : decode cL_law 1088 = .ok (.invokevirtual 150, 3) := by decide +kernel
theorem dL_law_1091 : decode cL_law 1091 = .ok (.aload_n 2, 1) := by decide +kernel
theorem dL_law_1092 : decode cL_law 1092 = .ok (.aload_n 0, 1) := by decide +kernel
theorem dL_law_1093 : decode cL_law 1093 = .ok (.iload 4, 2) := by decide +kernel
theorem dL_law_1095 : decode cL_law 1095 = .ok (.iconst 1, 1) := by decide +kernel
theorem dL_law_1096 : decode cL_law 1096 = .ok (.iadd, 1) := by decide +kernel
theorem dL_law_1097 : decode cL_law 1097 = .ok (.iaload, 1) := by decide +kernel
theorem dL_law_1098 : decode cL_law 1098 = .ok (.invokevirtual 153, 3) := by decide +kernel
theorem dL_law_1101 : decode cL_law 1101 = .ok (.if_icmp .eq 254, 3) := by decide +kernel
theorem dL_law_1104 : decode cL_law 1104 = .ok (.iconst 0, 1) := by decide +kernel
theorem dL_law_1105 : decode cL_law 1105 = .ok (.ireturn, 1) := by decide +kernel
theorem dL_law_1106 : decode cL_law 1106 = .ok (.aload_n 1, 1) := by decide +kernel
theorem dL_law_1107 : decode cL_law 1107 = .ok (.aload_n 0, 1) := by decide +kernel
theorem dL_law_1108 : decode cL_law 1108 = .ok (.iload 4, 2) := by decide +kernel
theorem dL_law_1110 : decode cL_law 1110 = .ok (.iconst 1, 1) := by decide +kernel
theorem dL_law_1111 : decode cL_law 1111 = .ok (.iadd, 1) := by decide +kernel
theorem dL_law_1112 : decode cL_law 1112 = .ok (.iaload, 1) := by decide +kernel
theorem dL_law_1113 : decode cL_law 1113 = .ok (.aload_n 0, 1) := by decide +kernel
theorem dL_law_1114 : decode cL_law 1114 = .ok (.iload 4, 2) := by decide +kernel
theorem dL_law_1116 : decode cL_law 1116 = .ok (.iconst 2, 1) := by decide +kernel
theorem dL_law_1117 : decode cL_law 1117 = .ok (.iadd, 1) := by decide +kernel
theorem dL_law_1118 : decode cL_law 1118 = .ok (.iaload, 1) := by decide +kernel
theorem dL_law_1119 : decode cL_law 1119 = .ok (.invokevirtual 154, 3) := by decide +kernel
theorem dL_law_1122 : decode cL_law 1122 = .ok (.aload_n 2, 1) := by decide +kernel
theorem dL_law_1123 : decode cL_law 1123 = .ok (.aload_n 0, 1) := by decide +kernel
theorem dL_law_1124 : decode cL_law 1124 = .ok (.iload 4, 2) := by decide +kernel
theorem dL_law_1126 : decode cL_law 1126 = .ok (.iconst 1, 1) := by decide +kernel
theorem dL_law_1127 : decode cL_law 1127 = .ok (.iadd, 1) := by decide +kernel
theorem dL_law_1128 : decode cL_law 1128 = .ok (.iaload, 1) := by decide +kernel
theorem dL_law_1129 : decode cL_law 1129 = .ok (.aload_n 0, 1) := by decide +kernel
theorem dL_law_1130 : decode cL_law 1130 = .ok (.iload 4, 2) := by decide +kernel
theorem dL_law_1132 : decode cL_law 1132 = .ok (.iconst 2, 1) := by decide +kernel
theorem dL_law_1133 : decode cL_law 1133 = .ok (.iadd, 1) := by decide +kernel
theorem dL_law_1134 : decode cL_law 1134 = .ok (.iaload, 1) := by decide +kernel
theorem dL_law_1135 : decode cL_law 1135 = .ok (.invokevirtual 157, 3) := by decide +kernel
theorem dL_law_1138 : decode cL_law 1138 = .ok (.if_icmp .eq 217, 3) := by decide +kernel
theorem dL_law_1141 : decode cL_law 1141 = .ok (.iconst 0, 1) := by decide +kernel
theorem dL_law_1142 : decode cL_law 1142 = .ok (.ireturn, 1) := by decide +kernel
theorem dL_law_1143 : decode cL_law 1143 = .ok (.aload_n 1, 1) := by decide +kernel
theorem dL_law_1144 : decode cL_law 1144 = .ok (.aload_n 0, 1) := by decide +kernel
theorem dL_law_1145 : decode cL_law 1145 = .ok (.iload 4, 2) := by decide +kernel
theorem dL_law_1147 : decode cL_law 1147 = .ok (.iconst 1, 1) := by decide +kernel
theorem dL_law_1148 : decode cL_law 1148 = .ok (.iadd, 1) := by decide +kernel
theorem dL_law_1149 : decode cL_law 1149 = .ok (.iaload, 1) := by decide +kernel
theorem dL_law_1150 : decode cL_law 1150 = .ok (.aload_n 0, 1) := by decide +kernel
theorem dL_law_1151 : decode cL_law 1151 = .ok (.iload 4, 2) := by decide +kernel
theorem dL_law_1153 : decode cL_law 1153 = .ok (.iconst 2, 1) := by decide +kernel
theorem dL_law_1154 : decode cL_law 1154 = .ok (.iadd, 1) := by decide +kernel
theorem dL_law_1155 : decode cL_law 1155 = .ok (.iaload, 1) := by decide +kernel
theorem dL_law_1156 : decode cL_law 1156 = .ok (.aload_n 0, 1) := by decide +kernel
theorem dL_law_1157 : decode cL_law 1157 = .ok (.iload 4, 2) := by decide +kernel
theorem dL_law_1159 : decode cL_law 1159 = .ok (.iconst 3, 1) := by decide +kernel
theorem dL_law_1160 : decode cL_law 1160 = .ok (.iadd, 1) := by decide +kernel
theorem dL_law_1161 : decode cL_law 1161 = .ok (.iaload, 1) := by decide +kernel
theorem dL_law_1162 : decode cL_law 1162 = .ok (.invokevirtual 158, 3) := by decide +kernel
theorem dL_law_1165 : decode cL_law 1165 = .ok (.aload_n 2, 1) := by decide +kernel
theorem dL_law_1166 : decode cL_law 1166 = .ok (.aload_n 0, 1) := by decide +kernel
theorem dL_law_1167 : decode cL_law 1167 = .ok (.iload 4, 2) := by decide +kernel
theorem dL_law_1169 : decode cL_law 1169 = .ok (.iconst 1, 1) := by decide +kernel
theorem dL_law_1170 : decode cL_law 1170 = .ok (.iadd, 1) := by decide +kernel
theorem dL_law_1171 : decode cL_law 1171 = .ok (.iaload, 1) := by decide +kernel
theorem dL_law_1172 : decode cL_law 1172 = .ok (.aload_n 0, 1) := by decide +kernel
theorem dL_law_1173 : decode cL_law 1173 = .ok (.iload 4, 2) := by decide +kernel
theorem dL_law_1175 : decode cL_law 1175 = .ok (.iconst 2, 1) := by decide +kernel
theorem dL_law_1176 : decode cL_law 1176 = .ok (.iadd, 1) := by decide +kernel
theorem dL_law_1177 : decode cL_law 1177 = .ok (.iaload, 1) := by decide +kernel
theorem dL_law_1178 : decode cL_law 1178 = .ok (.aload_n 0, 1) := by decide +kernel
theorem dL_law_1179 : decode cL_law 1179 = .ok (.iload 4, 2) := by decide +kernel
theorem dL_law_1181 : decode cL_law 1181 = .ok (.iconst 3, 1) := by decide +kernel
theorem dL_law_1182 : decode cL_law 1182 = .ok (.iadd, 1) := by decide +kernel
theorem dL_law_1183 : decode cL_law 1183 = .ok (.iaload, 1) := by decide +kernel
theorem dL_law_1184 : decode cL_law 1184 = .ok (.invokevirtual 161, 3) := by decide +kernel
theorem dL_law_1187 : decode cL_law 1187 = .ok (.if_icmp .eq 168, 3) := by decide +kernel
theorem dL_law_1190 : decode cL_law 1190 = .ok (.iconst 0, 1) := by decide +kernel
theorem dL_law_1191 : decode cL_law 1191 = .ok (.ireturn, 1) := by decide +kernel
theorem dL_law_1192 : decode cL_law 1192 = .ok (.aload_n 1, 1) := by decide +kernel
theorem dL_law_1193 : decode cL_law 1193 = .ok (.aload_n 0, 1) := by decide +kernel
theorem dL_law_1194 : decode cL_law 1194 = .ok (.iload 4, 2) := by decide +kernel
theorem dL_law_1196 : decode cL_law 1196 = .ok (.iconst 1, 1) := by decide +kernel
theorem dL_law_1197 : decode cL_law 1197 = .ok (.iadd, 1) := by decide +kernel
theorem dL_law_1198 : decode cL_law 1198 = .ok (.iaload, 1) := by decide +kernel
theorem dL_law_1199 : decode cL_law 1199 = .ok (.invokevirtual 162, 3) := by decide +kernel
theorem dL_law_1202 : decode cL_law 1202 = .ok (.aload_n 2, 1) := by decide +kernel
theorem dL_law_1203 : decode cL_law 1203 = .ok (.aload_n 0, 1) := by decide +kernel
theorem dL_law_1204 : decode cL_law 1204 = .ok (.iload 4, 2) := by decide +kernel
theorem dL_law_1206 : decode cL_law 1206 = .ok (.iconst 1, 1) := by decide +kernel
theorem dL_law_1207 : decode cL_law 1207 = .ok (.iadd, 1) := by decide +kernel
theorem dL_law_1208 : decode cL_law 1208 = .ok (.iaload, 1) := by decide +kernel
theorem dL_law_1209 : decode cL_law 1209 = .ok (.invokevirtual 165, 3) := by decide +kernel
theorem dL_law_1212 : decode cL_law 1212 = .ok (.if_icmp .eq 143, 3) := by decide +kernel
theorem dL_law_1215 : decode cL_law 1215 = .ok (.iconst 0, 1) := by decide +kernel
theorem dL_law_1216 : decode cL_law 1216 = .ok (.ireturn, 1) := by decide +kernel
theorem dL_law_1217 : decode cL_law 1217 = .ok (.aload_n 1, 1) := by decide +kernel
theorem dL_law_1218 : decode cL_law 1218 = .ok (.aload_n 0, 1) := by decide +kernel
theorem dL_law_1219 : decode cL_law 1219 = .ok (.iload 4, 2) := by decide +kernel
theorem dL_law_1221 : decode cL_law 1221 = .ok (.iconst 1, 1) := by decide +kernel
theorem dL_law_1222 : decode cL_law 1222 = .ok (.iadd, 1) := by decide +kernel
theorem dL_law_1223 : decode cL_law 1223 = .ok (.iaload, 1) := by decide +kernel
theorem dL_law_1224 : decode cL_law 1224 = .ok (.invokevirtual 166, 3) := by decide +kernel
theorem dL_law_1227 : decode cL_law 1227 = .ok (.aload_n 2, 1) := by decide +kernel
theorem dL_law_1228 : decode cL_law 1228 = .ok (.aload_n 0, 1) := by decide +kernel
theorem dL_law_1229 : decode cL_law 1229 = .ok (.iload 4, 2) := by decide +kernel
theorem dL_law_1231 : decode cL_law 1231 = .ok (.iconst 1, 1) := by decide +kernel
theorem dL_law_1232 : decode cL_law 1232 = .ok (.iadd, 1) := by decide +kernel
theorem dL_law_1233 : decode cL_law 1233 = .ok (.iaload, 1) := by decide +kernel
theorem dL_law_1234 : decode cL_law 1234 = .ok (.invokevirtual 169, 3) := by decide +kernel
theorem dL_law_1237 : decode cL_law 1237 = .ok (.if_icmp .eq 118, 3) := by decide +kernel
theorem dL_law_1240 : decode cL_law 1240 = .ok (.iconst 0, 1) := by decide +kernel
theorem dL_law_1241 : decode cL_law 1241 = .ok (.ireturn, 1) := by decide +kernel
theorem dL_law_1242 : decode cL_law 1242 = .ok (.aload_n 1, 1) := by decide +kernel
theorem dL_law_1243 : decode cL_law 1243 = .ok (.invokevirtual 170, 3) := by decide +kernel
theorem dL_law_1246 : decode cL_law 1246 = .ok (.aload_n 2, 1) := by decide +kernel
theorem dL_law_1247 : decode cL_law 1247 = .ok (.invokevirtual 173, 3) := by decide +kernel
theorem dL_law_1250 : decode cL_law 1250 = .ok (.if_icmp .eq 105, 3) := by decide +kernel
theorem dL_law_1253 : decode cL_law 1253 = .ok (.iconst 0, 1) := by decide +kernel
theorem dL_law_1254 : decode cL_law 1254 = .ok (.ireturn, 1) := by decide +kernel
theorem dL_law_1255 : decode cL_law 1255 = .ok (.aload_n 1, 1) := by decide +kernel
theorem dL_law_1256 : decode cL_law 1256 = .ok (.aload_n 0, 1) := by decide +kernel
theorem dL_law_1257 : decode cL_law 1257 = .ok (.iload 4, 2) := by decide +kernel
theorem dL_law_1259 : decode cL_law 1259 = .ok (.iconst 1, 1) := by decide +kernel
theorem dL_law_1260 : decode cL_law 1260 = .ok (.iadd, 1) := by decide +kernel
theorem dL_law_1261 : decode cL_law 1261 = .ok (.iaload, 1) := by decide +kernel
theorem dL_law_1262 : decode cL_law 1262 = .ok (.invokevirtual 174, 3) := by decide +kernel
theorem dL_law_1265 : decode cL_law 1265 = .ok (.aload_n 2, 1) := by decide +kernel
theorem dL_law_1266 : decode cL_law 1266 = .ok (.aload_n 0, 1) := by decide +kernel
theorem dL_law_1267 : decode cL_law 1267 = .ok (.iload 4, 2) := by decide +kernel
theorem dL_law_1269 : decode cL_law 1269 = .ok (.iconst 1, 1) := by decide +kernel
theorem dL_law_1270 : decode cL_law 1270 = .ok (.iadd, 1) := by decide +kernel
theorem dL_law_1271 : decode cL_law 1271 = .ok (.iaload, 1) := by decide +kernel
theorem dL_law_1272 : decode cL_law 1272 = .ok (.invokevirtual 177, 3) := by decide +kernel
theorem dL_law_1275 : decode cL_law 1275 = .ok (.if_icmp .eq 80, 3) := by decide +kernel
theorem dL_law_1278 : decode cL_law 1278 = .ok (.iconst 0, 1) := by decide +kernel
theorem dL_law_1279 : decode cL_law 1279 = .ok (.ireturn, 1) := by decide +kernel
theorem dL_law_1280 : decode cL_law 1280 = .ok (.aload_n 1, 1) := by decide +kernel
theorem dL_law_1281 : decode cL_law 1281 = .ok (.aload_n 0, 1) := by decide +kernel
theorem dL_law_1282 : decode cL_law 1282 = .ok (.iload 4, 2) := by decide +kernel
theorem dL_law_1284 : decode cL_law 1284 = .ok (.iconst 1, 1) := by decide +kernel
theorem dL_law_1285 : decode cL_law 1285 = .ok (.iadd, 1) := by decide +kernel
theorem dL_law_1286 : decode cL_law 1286 = .ok (.iaload, 1) := by decide +kernel
theorem dL_law_1287 : decode cL_law 1287 = .ok (.invokevirtual 178, 3) := by decide +kernel
theorem dL_law_1290 : decode cL_law 1290 = .ok (.aload_n 2, 1) := by decide +kernel
theorem dL_law_1291 : decode cL_law 1291 = .ok (.aload_n 0, 1) := by decide +kernel
theorem dL_law_1292 : decode cL_law 1292 = .ok (.iload 4, 2) := by decide +kernel
theorem dL_law_1294 : decode cL_law 1294 = .ok (.iconst 1, 1) := by decide +kernel
theorem dL_law_1295 : decode cL_law 1295 = .ok (.iadd, 1) := by decide +kernel
theorem dL_law_1296 : decode cL_law 1296 = .ok (.iaload, 1) := by decide +kernel
theorem dL_law_1297 : decode cL_law 1297 = .ok (.invokevirtual 181, 3) := by decide +kernel
theorem dL_law_1300 : decode cL_law 1300 = .ok (.if_icmp .eq 55, 3) := by decide +kernel
theorem dL_law_1303 : decode cL_law 1303 = .ok (.iconst 0, 1) := by decide +kernel
theorem dL_law_1304 : decode cL_law 1304 = .ok (.ireturn, 1) := by decide +kernel
theorem dL_law_1305 : decode cL_law 1305 = .ok (.aload_n 1, 1) := by decide +kernel
theorem dL_law_1306 : decode cL_law 1306 = .ok (.aload_n 0, 1) := by decide +kernel
theorem dL_law_1307 : decode cL_law 1307 = .ok (.iload 4, 2) := by decide +kernel
theorem dL_law_1309 : decode cL_law 1309 = .ok (.iconst 1, 1) := by decide +kernel
theorem dL_law_1310 : decode cL_law 1310 = .ok (.iadd, 1) := by decide +kernel
theorem dL_law_1311 : decode cL_law 1311 = .ok (.iaload, 1) := by decide +kernel
theorem dL_law_1312 : decode cL_law 1312 = .ok (.invokevirtual 182, 3) := by decide +kernel
theorem dL_law_1315 : decode cL_law 1315 = .ok (.aload_n 2, 1) := by decide +kernel
theorem dL_law_1316 : decode cL_law 1316 = .ok (.aload_n 0, 1) := by decide +kernel
theorem dL_law_1317 : decode cL_law 1317 = .ok (.iload 4, 2) := by decide +kernel
theorem dL_law_1319 : decode cL_law 1319 = .ok (.iconst 1, 1) := by decide +kernel
theorem dL_law_1320 : decode cL_law 1320 = .ok (.iadd, 1) := by decide +kernel
theorem dL_law_1321 : decode cL_law 1321 = .ok (.iaload, 1) := by decide +kernel
theorem dL_law_1322 : decode cL_law 1322 = .ok (.invokevirtual 185, 3) := by decide +kernel
theorem dL_law_1325 : decode cL_law 1325 = .ok (.if_icmp .eq 30, 3) := by decide +kernel
theorem dL_law_1328 : decode cL_law 1328 = .ok (.iconst 0, 1) := by decide +kernel
theorem dL_law_1329 : decode cL_law 1329 = .ok (.ireturn, 1) := by decide +kernel
theorem dL_law_1330 : decode cL_law 1330 = .ok (.aload_n 1, 1) := by decide +kernel
theorem dL_law_1331 : decode cL_law 1331 = .ok (.aload_n 0, 1) := by decide +kernel
theorem dL_law_1332 : decode cL_law 1332 = .ok (.iload 4, 2) := by decide +kernel
theorem dL_law_1334 : decode cL_law 1334 = .ok (.iconst 1, 1) := by decide +kernel
theorem dL_law_1335 : decode cL_law 1335 = .ok (.iadd, 1) := by decide +kernel
theorem dL_law_1336 : decode cL_law 1336 = .ok (.iaload, 1) := by decide +kernel
theorem dL_law_1337 : decode cL_law 1337 = .ok (.invokevirtual 186, 3) := by decide +kernel
theorem dL_law_1340 : decode cL_law 1340 = .ok (.aload_n 2, 1) := by decide +kernel
theorem dL_law_1341 : decode cL_law 1341 = .ok (.aload_n 0, 1) := by decide +kernel
theorem dL_law_1342 : decode cL_law 1342 = .ok (.iload 4, 2) := by decide +kernel
theorem dL_law_1344 : decode cL_law 1344 = .ok (.iconst 1, 1) := by decide +kernel
theorem dL_law_1345 : decode cL_law 1345 = .ok (.iadd, 1) := by decide +kernel
theorem dL_law_1346 : decode cL_law 1346 = .ok (.iaload, 1) := by decide +kernel
theorem dL_law_1347 : decode cL_law 1347 = .ok (.invokevirtual 189, 3) := by decide +kernel
theorem dL_law_1350 : decode cL_law 1350 = .ok (.if_icmp .eq 5, 3) := by decide +kernel
theorem dL_law_1353 : decode cL_law 1353 = .ok (.iconst 0, 1) := by decide +kernel
theorem dL_law_1354 : decode cL_law 1354 = .ok (.ireturn, 1) := by decide +kernel
theorem dL_law_1355 : decode cL_law 1355 = .ok (.iinc 4 6, 3) := by decide +kernel
theorem dL_law_1358 : decode cL_law 1358 = .ok (.goto (-1335), 3) := by decide +kernel
theorem dL_law_1361 : decode cL_law 1361 = .ok (.iconst 1, 1) := by decide +kernel
theorem dL_law_1362 : decode cL_law 1362 = .ok (.ireturn, 1) := by decide +kernel
theorem bL_law_0 {G : Gt} {X : Nat × Nat × (Nat → Int32)} {d bc bs : Nat} {l : Ls} {z : List Value} {h : Hp} (k : (tNew 10 [.null, .null, .null, .null, .null, .null, .null, .null, .null, .null, .null, .null, .null, .null, .int 0, .int 0] (tDup (tCI0 G d 239 7336 mX12_init (fun l z h => TG G (CL' G X) ZL d bc bs mL_law 7 l z h)))) l z h) : TG G (CL' G X) ZL d (bc + 239 + 1) (bs + 7336 + 16) mL_law 0 l z h := by
  refine G_new (ci := 10) (C := RX12) (N := 16) (Tt := TX12) (fs := [.null, .null, .null, .null, .null, .null, .null, .null, .null, .null, .null, .null, .null, .null, .int 0, .int 0]) tyX12 tyX12_ok dL_law_0 rfl i_X12 w_157 w_158 w_130 rfl (fun j hj => by rcases (show j = 0 ∨ j = 1 ∨ j = 2 ∨ j = 3 ∨ j = 4 ∨ j = 5 ∨ j = 6 ∨ j = 7 ∨ j = 8 ∨ j = 9 ∨ j = 10 ∨ j = 11 ∨ j = 12 ∨ j = 13 ∨ j = 14 ∨ j = 15 by omega) with rfl | rfl | rfl | rfl | rfl | rfl | rfl | rfl | rfl | rfl | rfl | rfl | rfl | rfl | rfl | rfl <;> rfl) (fun l z h k => ?_) k
  refine G_dup dL_law_3 (fun l z h k => ?_) k
  exact G_ci0 (M := mL_law) (pc := 4) (bc := bc) (bs := bs) (cb := 239) (cs := 7336) (M' := mX12_init) dL_law_4 (by decide) rfl w_161 w_130 w_159 w_160 rfl (by decide +kernel) (fun _ _ _ k => k) k
theorem bL_law_7 {G : Gt} {X : Nat × Nat × (Nat → Int32)} {d bc bs : Nat} {l : Ls} {z : List Value} {h : Hp} (k : (tAst 1 (tNew 11 [.int 0, .null, .int 0, .int 0, .int 0, .int 0, .int 0, .int 0, .int 0, .int 0, .int 0, .int 0, .long 0, .int 0, .null, .null, .null, .null, .null, .null, .null, .null, .null, .null, .null, .null, .int 0, .int 0, .null, .null, .int 0, .int 0, .int 0, .null, .int 0, .int 0, .int 0, .null, .int 0, .int 0, .null, .null, .int 0, .int 0, .null, .int 0, .int 0, .int 0, .int 0] (tDup (tCI0 G d 20 3973 mX13_init (fun l z h => TG G (CL' G X) ZL d bc bs mL_law 15 l z h))))) l z h) : TG G (CL' G X) ZL d (bc + 20 + 1) (bs + 3973 + 49) mL_law 7 l z h := by
  refine G_astore_n dL_law_7 rfl (by decide) (fun l z h k => ?_) k
  refine G_new (ci := 11) (C := RX13) (N := 49) (Tt := TX13) (fs := [.int 0, .null, .int 0, .int 0, .int 0, .int 0, .int 0, .int 0, .int 0, .int 0, .int 0, .int 0, .long 0, .int 0, .null, .null, .null, .null, .null, .null, .null, .null, .null, .null, .null, .null, .int 0, .int 0, .null, .null, .int 0, .int 0, .int 0, .null, .int 0, .int 0, .int 0, .null, .int 0, .int 0, .null, .null, .int 0, .int 0, .null, .int 0, .int 0, .int 0, .int 0]) tyX13 tyX13_ok dL_law_8 rfl i_X13 w_1461 w_1462 w_144 rfl (fun j hj => by rcases (show j = 0 ∨ j = 1 ∨ j = 2 ∨ j = 3 ∨ j = 4 ∨ j = 5 ∨ j = 6 ∨ j = 7 ∨ j = 8 ∨ j = 9 ∨ j = 10 ∨ j = 11 ∨ j = 12 ∨ j = 13 ∨ j = 14 ∨ j = 15 ∨ j = 16 ∨ j = 17 ∨ j = 18 ∨ j = 19 ∨ j = 20 ∨ j = 21 ∨ j = 22 ∨ j = 23 ∨ j = 24 ∨ j = 25 ∨ j = 26 ∨ j = 27 ∨ j = 28 ∨ j = 29 ∨ j = 30 ∨ j = 31 ∨ j = 32 ∨ j = 33 ∨ j = 34 ∨ j = 35 ∨ j = 36 ∨ j = 37 ∨ j = 38 ∨ j = 39 ∨ j = 40 ∨ j = 41 ∨ j = 42 ∨ j = 43 ∨ j = 44 ∨ j = 45 ∨ j = 46 ∨ j = 47 ∨ j = 48 by omega) with rfl | rfl | rfl | rfl | rfl | rfl | rfl | rfl | rfl | rfl | rfl | rfl | rfl | rfl | rfl | rfl | rfl | rfl | rfl | rfl | rfl | rfl | rfl | rfl | rfl | rfl | rfl | rfl | rfl | rfl | rfl | rfl | rfl | rfl | rfl | rfl | rfl | rfl | rfl | rfl | rfl | rfl | rfl | rfl | rfl | rfl | rfl | rfl | rfl <;> rfl) (fun l z h k => ?_) k
  refine G_dup dL_law_11 (fun l z h k => ?_) k
  exact G_ci0 (M := mL_law) (pc := 12) (bc := bc) (bs := bs) (cb := 20) (cs := 3973) (M' := mX13_init) dL_law_12 (by decide) rfl w_1465 w_144 w_1463 w_1464 rfl (by decide +kernel) (fun _ _ _ k => k) k
theorem bL_law_15 {G : Gt} {X : Nat × Nat × (Nat → Int32)} {d bc bs : Nat} {l : Ls} {z : List Value} {h : Hp} (k : (tAst 2 (tPush (.int 1) (tNewJ 1 (tAst 3 (tPush (.int 0) (tIst 4 ((fun l z h => TG G (CL' G X) ZL d bc bs mL_law 23 l z h)))))))) l z h) : TG G (CL' G X) ZL d (bc + 1) (bs + 1) mL_law 15 l z h := by
  refine G_astore_n dL_law_15 rfl (by decide) (fun l z h k => ?_) k
  refine G_iconst dL_law_16 (by decide) (fun l z h k => ?_) k
  refine G_newJ dL_law_17 w_235 (by decide) (fun l z h k => ?_) k
  refine G_astore_n dL_law_19 rfl (by decide) (fun l z h k => ?_) k
  refine G_iconst dL_law_20 (by decide) (fun l z h k => ?_) k
  refine G_istore dL_law_21 (by decide) (fun l z h k => ?_) k
  exact k
theorem bL_law_23 {G : Gt} {X : Nat × Nat × (Nat → Int32)} {d bc bs : Nat} {l : Ls} {z : List Value} {h : Hp} (k : (tIld 4 (tAld 0 (tScl X (tPush (.int 6) (tB (fun x y => x - y) (tIf2 (fun x y => y < x) (fun l z h => TG G (CL' G X) ZL d bc bs mL_law 1361 l z h) (fun l z h => TG G (CL' G X) ZL d bc bs mL_law 33 l z h))))))) l z h) : TG G (CL' G X) ZL d bc bs mL_law 23 l z h := by
  refine G_iload dL_law_23 (fun l z h k => ?_) k
  refine G_aload_n dL_law_25 rfl (fun l z h k => ?_) k
  refine L_scl dL_law_26 (fun l z h k => ?_) k
  refine G_bipush dL_law_27 (by decide) (fun l z h k => ?_) k
  refine G_isub dL_law_29 (fun l z h k => ?_) k
  exact G_icmp_gt dL_law_30 (by decide) (fun _ _ _ k => k) (fun _ _ _ k => k) k
theorem bL_law_33 {G : Gt} {X : Nat × Nat × (Nat → Int32)} {d bc bs : Nat} {l : Ls} {z : List Value} {h : Hp} (k : (tAld 0 (tIld 4 (tScr X (tPush (.int 63) (tB (fun x y => x &&& y) (tSw 0 [216, 289, 314, 327, 340, 408, 445, 482, 519, 544, 581, 618, 643, 704, 753, 778, 791, 828, 865, 890, 903, 916, 941, 954, 967, 980, 1005, 1018, 1031, 1056, 1081, 1106, 1143, 1192, 1217, 1242, 1255, 1280, 1305, 1330] 1355 (fun t l z h => TG G (CL' G X) ZL d bc bs mL_law t l z h))))))) l z h) : TG G (CL' G X) ZL d bc bs mL_law 33 l z h := by
  refine G_aload_n dL_law_33 rfl (fun l z h k => ?_) k
  refine G_iload dL_law_34 (fun l z h k => ?_) k
  refine L_scr dL_law_36 (fun l z h k => ?_) k
  refine G_bipush dL_law_37 (by decide) (fun l z h k => ?_) k
  refine G_iand dL_law_39 (fun l z h k => ?_) k
  exact G_table dL_law_40 (by decide) (by decide) (by decide) (by decide) (by decide) (fun _ _ _ _ k => k) k
theorem bL_law_216 {G : Gt} {X : Nat × Nat × (Nat → Int32)} {d bc bs : Nat} {l : Ls} {z : List Value} {h : Hp} (k : (tAld 1 (tAld 0 (tIld 4 (tPush (.int 1) (tB (fun x y => x + y) (tScr X (tAld 0 (tIld 4 (tPush (.int 2) (tB (fun x y => x + y) (tScr X (tAld 0 (tIld 4 (tPush (.int 3) (tB (fun x y => x + y) (tScr X (tAld 0 (tIld 4 (tPush (.int 4) (tB (fun x y => x + y) (tScr X (tAld 0 (tIld 4 (tPush (.int 5) (tB (fun x y => x + y) (tScr X (tCV5 G d 0 0 10 mX12_feed (fun l z h => TG G (CL' G X) ZL d bc bs mL_law 250 l z h)))))))))))))))))))))))))))) l z h) : TG G (CL' G X) ZL d bc bs mL_law 216 l z h := by
  refine G_aload_n dL_law_216 rfl (fun l z h k => ?_) k
  refine G_aload_n dL_law_217 rfl (fun l z h k => ?_) k
  refine G_iload dL_law_218 (fun l z h k => ?_) k
  refine G_iconst dL_law_220 (by decide) (fun l z h k => ?_) k
  refine G_iadd dL_law_221 (fun l z h k => ?_) k
  refine L_scr dL_law_222 (fun l z h k => ?_) k
  refine G_aload_n dL_law_223 rfl (fun l z h k => ?_) k
  refine G_iload dL_law_224 (fun l z h k => ?_) k
  refine G_iconst dL_law_226 (by decide) (fun l z h k => ?_) k
  refine G_iadd dL_law_227 (fun l z h k => ?_) k
  refine L_scr dL_law_228 (fun l z h k => ?_) k
  refine G_aload_n dL_law_229 rfl (fun l z h k => ?_) k
  refine G_iload dL_law_230 (fun l z h k => ?_) k
  refine G_iconst dL_law_232 (by decide) (fun l z h k => ?_) k
  refine G_iadd dL_law_233 (fun l z h k => ?_) k
  refine L_scr dL_law_234 (fun l z h k => ?_) k
  refine G_aload_n dL_law_235 rfl (fun l z h k => ?_) k
  refine G_iload dL_law_236 (fun l z h k => ?_) k
  refine G_iconst dL_law_238 (by decide) (fun l z h k => ?_) k
  refine G_iadd dL_law_239 (fun l z h k => ?_) k
  refine L_scr dL_law_240 (fun l z h k => ?_) k
  refine G_aload_n dL_law_241 rfl (fun l z h k => ?_) k
  refine G_iload dL_law_242 (fun l z h k => ?_) k
  refine G_iconst dL_law_244 (by decide) (fun l z h k => ?_) k
  refine G_iadd dL_law_245 (fun l z h k => ?_) k
  refine L_scr dL_law_246 (fun l z h k => ?_) k
  exact G_cv5 (M := mL_law) (pc := 247) (bc := bc) (bs := bs) (cb := 0) (cs := 0) (M' := mX12_feed) dL_law_247 rfl (by decide) w_537 w_130 w_534 w_535 w_536 (by decide +kernel) (fun _ _ _ k => k) k
theorem bL_law_250 {G : Gt} {X : Nat × Nat × (Nat → Int32)} {d bc bs : Nat} {l : Ls} {z : List Value} {h : Hp} (k : (tAld 2 (tAld 0 (tIld 4 (tPush (.int 1) (tB (fun x y => x + y) (tScr X (tAld 0 (tIld 4 (tPush (.int 2) (tB (fun x y => x + y) (tScr X (tAld 0 (tIld 4 (tPush (.int 3) (tB (fun x y => x + y) (tScr X (tAld 0 (tIld 4 (tPush (.int 4) (tB (fun x y => x + y) (tScr X (tAld 0 (tIld 4 (tPush (.int 5) (tB (fun x y => x + y) (tScr X (tCV5 G d 0 0 11 mX13_feed (fun l z h => TG G (CL' G X) ZL d bc bs mL_law 284 l z h)))))))))))))))))))))))))))) l z h) : TG G (CL' G X) ZL d bc bs mL_law 250 l z h := by
  refine G_aload_n dL_law_250 rfl (fun l z h k => ?_) k
  refine G_aload_n dL_law_251 rfl (fun l z h k => ?_) k
  refine G_iload dL_law_252 (fun l z h k => ?_) k
  refine G_iconst dL_law_254 (by decide) (fun l z h k => ?_) k
  refine G_iadd dL_law_255 (fun l z h k => ?_) k
  refine L_scr dL_law_256 (fun l z h k => ?_) k
  refine G_aload_n dL_law_257 rfl (fun l z h k => ?_) k
  refine G_iload dL_law_258 (fun l z h k => ?_) k
  refine G_iconst dL_law_260 (by decide) (fun l z h k => ?_) k
  refine G_iadd dL_law_261 (fun l z h k => ?_) k
  refine L_scr dL_law_262 (fun l z h k => ?_) k
  refine G_aload_n dL_law_263 rfl (fun l z h k => ?_) k
  refine G_iload dL_law_264 (fun l z h k => ?_) k
  refine G_iconst dL_law_266 (by decide) (fun l z h k => ?_) k
  refine G_iadd dL_law_267 (fun l z h k => ?_) k
  refine L_scr dL_law_268 (fun l z h k => ?_) k
  refine G_aload_n dL_law_269 rfl (fun l z h k => ?_) k
  refine G_iload dL_law_270 (fun l z h k => ?_) k
  refine G_iconst dL_law_272 (by decide) (fun l z h k => ?_) k
  refine G_iadd dL_law_273 (fun l z h k => ?_) k
  refine L_scr dL_law_274 (fun l z h k => ?_) k
  refine G_aload_n dL_law_275 rfl (fun l z h k => ?_) k
  refine G_iload dL_law_276 (fun l z h k => ?_) k
  refine G_iconst dL_law_278 (by decide) (fun l z h k => ?_) k
  refine G_iadd dL_law_279 (fun l z h k => ?_) k
  refine L_scr dL_law_280 (fun l z h k => ?_) k
  exact G_cv5 (M := mL_law) (pc := 281) (bc := bc) (bs := bs) (cb := 0) (cs := 0) (M' := mX13_feed) dL_law_281 rfl (by decide) w_1623 w_144 w_1620 w_1621 w_1622 (by decide +kernel) (fun _ _ _ k => k) k
theorem bL_law_284 {G : Gt} {X : Nat × Nat × (Nat → Int32)} {d bc bs : Nat} {l : Ls} {z : List Value} {h : Hp} (k : (tIf2 (fun x y => x = y) (fun l z h => TG G (CL' G X) ZL d bc bs mL_law 1355 l z h) (fun l z h => TG G (CL' G X) ZL d bc bs mL_law 287 l z h)) l z h) : TG G (CL' G X) ZL d bc bs mL_law 284 l z h := by
  exact G_icmp_eq dL_law_284 (by decide) (fun _ _ _ k => k) (fun _ _ _ k => k) k
theorem bL_law_287 {G : Gt} {X : Nat × Nat × (Nat → Int32)} {d bc bs : Nat} {l : Ls} {z : List Value} {h : Hp} (k : (tPush (.int 0) tFin) l z h) : TG G (CL' G X) ZL d bc bs mL_law 287 l z h := by
  refine G_iconst dL_law_287 (by decide) (fun l z h k => ?_) k
  exact L_ret dL_law_288 k
theorem bL_law_289 {G : Gt} {X : Nat × Nat × (Nat → Int32)} {d bc bs : Nat} {l : Ls} {z : List Value} {h : Hp} (k : (tAld 1 (tAld 0 (tIld 4 (tPush (.int 1) (tB (fun x y => x + y) (tScr X (tCV1 G d 0 0 10 mX12_end (fun l z h => TG G (CL' G X) ZL d bc bs mL_law 299 l z h)))))))) l z h) : TG G (CL' G X) ZL d bc bs mL_law 289 l z h := by
  refine G_aload_n dL_law_289 rfl (fun l z h k => ?_) k
  refine G_aload_n dL_law_290 rfl (fun l z h k => ?_) k
  refine G_iload dL_law_291 (fun l z h k => ?_) k
  refine G_iconst dL_law_293 (by decide) (fun l z h k => ?_) k
  refine G_iadd dL_law_294 (fun l z h k => ?_) k
  refine L_scr dL_law_295 (fun l z h k => ?_) k
  exact G_cv1 (M := mL_law) (pc := 296) (bc := bc) (bs := bs) (cb := 0) (cs := 0) (M' := mX12_end) dL_law_296 rfl (by decide) w_549 w_130 w_546 w_547 w_548 (by decide +kernel) (fun _ _ _ k => k) k
theorem bL_law_299 {G : Gt} {X : Nat × Nat × (Nat → Int32)} {d bc bs : Nat} {l : Ls} {z : List Value} {h : Hp} (k : (tAld 2 (tAld 0 (tIld 4 (tPush (.int 1) (tB (fun x y => x + y) (tScr X (tCV1 G d 0 0 11 mX13_end (fun l z h => TG G (CL' G X) ZL d bc bs mL_law 309 l z h)))))))) l z h) : TG G (CL' G X) ZL d bc bs mL_law 299 l z h := by
  refine G_aload_n dL_law_299 rfl (fun l z h k => ?_) k
  refine G_aload_n dL_law_300 rfl (fun l z h k => ?_) k
  refine G_iload dL_law_301 (fun l z h k => ?_) k
  refine G_iconst dL_law_303 (by decide) (fun l z h k => ?_) k
  refine G_iadd dL_law_304 (fun l z h k => ?_) k
  refine L_scr dL_law_305 (fun l z h k => ?_) k
  exact G_cv1 (M := mL_law) (pc := 306) (bc := bc) (bs := bs) (cb := 0) (cs := 0) (M' := mX13_end) dL_law_306 rfl (by decide) w_1631 w_144 w_1628 w_1629 w_1630 (by decide +kernel) (fun _ _ _ k => k) k
theorem bL_law_309 {G : Gt} {X : Nat × Nat × (Nat → Int32)} {d bc bs : Nat} {l : Ls} {z : List Value} {h : Hp} (k : (tIf2 (fun x y => x = y) (fun l z h => TG G (CL' G X) ZL d bc bs mL_law 1355 l z h) (fun l z h => TG G (CL' G X) ZL d bc bs mL_law 312 l z h)) l z h) : TG G (CL' G X) ZL d bc bs mL_law 309 l z h := by
  exact G_icmp_eq dL_law_309 (by decide) (fun _ _ _ k => k) (fun _ _ _ k => k) k
theorem bL_law_312 {G : Gt} {X : Nat × Nat × (Nat → Int32)} {d bc bs : Nat} {l : Ls} {z : List Value} {h : Hp} (k : (tPush (.int 0) tFin) l z h) : TG G (CL' G X) ZL d bc bs mL_law 312 l z h := by
  refine G_iconst dL_law_312 (by decide) (fun l z h k => ?_) k
  exact L_ret dL_law_313 k
theorem bL_law_314 {G : Gt} {X : Nat × Nat × (Nat → Int32)} {d bc bs : Nat} {l : Ls} {z : List Value} {h : Hp} (k : (tAld 1 (tCV0 G d 0 0 10 mX12_bridge (fun l z h => TG G (CL' G X) ZL d bc bs mL_law 318 l z h))) l z h) : TG G (CL' G X) ZL d bc bs mL_law 314 l z h := by
  refine G_aload_n dL_law_314 rfl (fun l z h k => ?_) k
  exact G_cv0 (M := mL_law) (pc := 315) (bc := bc) (bs := bs) (cb := 0) (cs := 0) (M' := mX12_bridge) dL_law_315 rfl (by decide) w_553 w_130 w_550 w_551 w_552 (by decide +kernel) (fun _ _ _ k => k) k
theorem bL_law_318 {G : Gt} {X : Nat × Nat × (Nat → Int32)} {d bc bs : Nat} {l : Ls} {z : List Value} {h : Hp} (k : (tAld 2 (tCV0 G d 0 0 11 mX13_bridge (fun l z h => TG G (CL' G X) ZL d bc bs mL_law 322 l z h))) l z h) : TG G (CL' G X) ZL d bc bs mL_law 318 l z h := by
  refine G_aload_n dL_law_318 rfl (fun l z h k => ?_) k
  exact G_cv0 (M := mL_law) (pc := 319) (bc := bc) (bs := bs) (cb := 0) (cs := 0) (M' := mX13_bridge) dL_law_319 rfl (by decide) w_1635 w_144 w_1632 w_1633 w_1634 (by decide +kernel) (fun _ _ _ k => k) k
theorem bL_law_322 {G : Gt} {X : Nat × Nat × (Nat → Int32)} {d bc bs : Nat} {l : Ls} {z : List Value} {h : Hp} (k : (tIf2 (fun x y => x = y) (fun l z h => TG G (CL' G X) ZL d bc bs mL_law 1355 l z h) (fun l z h => TG G (CL' G X) ZL d bc bs mL_law 325 l z h)) l z h) : TG G (CL' G X) ZL d bc bs mL_law 322 l z h := by
  exact G_icmp_eq dL_law_322 (by decide) (fun _ _ _ k => k) (fun _ _ _ k => k) k
theorem bL_law_325 {G : Gt} {X : Nat × Nat × (Nat → Int32)} {d bc bs : Nat} {l : Ls} {z : List Value} {h : Hp} (k : (tPush (.int 0) tFin) l z h) : TG G (CL' G X) ZL d bc bs mL_law 325 l z h := by
  refine G_iconst dL_law_325 (by decide) (fun l z h k => ?_) k
  exact L_ret dL_law_326 k
theorem bL_law_327 {G : Gt} {X : Nat × Nat × (Nat → Int32)} {d bc bs : Nat} {l : Ls} {z : List Value} {h : Hp} (k : (tAld 1 (tCV0 G d 0 0 10 mX12_fault (fun l z h => TG G (CL' G X) ZL d bc bs mL_law 331 l z h))) l z h) : TG G (CL' G X) ZL d bc bs mL_law 327 l z h := by
  refine G_aload_n dL_law_327 rfl (fun l z h k => ?_) k
  exact G_cv0 (M := mL_law) (pc := 328) (bc := bc) (bs := bs) (cb := 0) (cs := 0) (M' := mX12_fault) dL_law_328 rfl (by decide) w_802 w_130 w_799 w_800 w_801 (by decide +kernel) (fun _ _ _ k => k) k
theorem bL_law_331 {G : Gt} {X : Nat × Nat × (Nat → Int32)} {d bc bs : Nat} {l : Ls} {z : List Value} {h : Hp} (k : (tAld 2 (tCV0 G d 0 0 11 mX13_fault (fun l z h => TG G (CL' G X) ZL d bc bs mL_law 335 l z h))) l z h) : TG G (CL' G X) ZL d bc bs mL_law 331 l z h := by
  refine G_aload_n dL_law_331 rfl (fun l z h k => ?_) k
  exact G_cv0 (M := mL_law) (pc := 332) (bc := bc) (bs := bs) (cb := 0) (cs := 0) (M' := mX13_fault) dL_law_332 rfl (by decide) w_1759 w_144 w_1756 w_1757 w_1758 (by decide +kernel) (fun _ _ _ k => k) k
theorem bL_law_335 {G : Gt} {X : Nat × Nat × (Nat → Int32)} {d bc bs : Nat} {l : Ls} {z : List Value} {h : Hp} (k : (tIf2 (fun x y => x = y) (fun l z h => TG G (CL' G X) ZL d bc bs mL_law 1355 l z h) (fun l z h => TG G (CL' G X) ZL d bc bs mL_law 338 l z h)) l z h) : TG G (CL' G X) ZL d bc bs mL_law 335 l z h := by
  exact G_icmp_eq dL_law_335 (by decide) (fun _ _ _ k => k) (fun _ _ _ k => k) k
theorem bL_law_338 {G : Gt} {X : Nat × Nat × (Nat → Int32)} {d bc bs : Nat} {l : Ls} {z : List Value} {h : Hp} (k : (tPush (.int 0) tFin) l z h) : TG G (CL' G X) ZL d bc bs mL_law 338 l z h := by
  refine G_iconst dL_law_338 (by decide) (fun l z h k => ?_) k
  exact L_ret dL_law_339 k
theorem bL_law_357 {G : Gt} {X : Nat × Nat × (Nat → Int32)} {d bc bs : Nat} {l : Ls} {z : List Value} {h : Hp} (k : (tIst 5 (tAld 2 (tAld 0 (tIld 4 (tPush (.int 1) (tB (fun x y => x + y) (tScr X (tAld 0 (tIld 4 (tPush (.int 2) (tB (fun x y => x + y) (tScr X (tCV2 G d 0 0 11 mX13_person (fun l z h => TG G (CL' G X) ZL d bc bs mL_law 375 l z h)))))))))))))) l z h) : TG G (CL' G X) ZL d bc bs mL_law 357 l z h := by
  refine G_istore dL_law_357 (by decide) (fun l z h k => ?_) k
  refine G_aload_n dL_law_359 rfl (fun l z h k => ?_) k
  refine G_aload_n dL_law_360 rfl (fun l z h k => ?_) k
  refine G_iload dL_law_361 (fun l z h k => ?_) k
  refine G_iconst dL_law_363 (by decide) (fun l z h k => ?_) k
  refine G_iadd dL_law_364 (fun l z h k => ?_) k
  refine L_scr dL_law_365 (fun l z h k => ?_) k
  refine G_aload_n dL_law_366 rfl (fun l z h k => ?_) k
  refine G_iload dL_law_367 (fun l z h k => ?_) k
  refine G_iconst dL_law_369 (by decide) (fun l z h k => ?_) k
  refine G_iadd dL_law_370 (fun l z h k => ?_) k
  refine L_scr dL_law_371 (fun l z h k => ?_) k
  exact G_cv2 (M := mL_law) (pc := 372) (bc := bc) (bs := bs) (cb := 0) (cs := 0) (M' := mX13_person) dL_law_372 rfl (by decide) w_1763 w_144 w_1760 w_1761 w_1762 (by decide +kernel) (fun _ _ _ k => k) k
theorem bL_law_375 {G : Gt} {X : Nat × Nat × (Nat → Int32)} {d bc bs : Nat} {l : Ls} {z : List Value} {h : Hp} (k : (tIst 6 (tAld 2 (tCV0 G d 0 0 11 mX13_thrown (fun l z h => TG G (CL' G X) ZL d bc bs mL_law 381 l z h)))) l z h) : TG G (CL' G X) ZL d bc bs mL_law 375 l z h := by
  refine G_istore dL_law_375 (by decide) (fun l z h k => ?_) k
  refine G_aload_n dL_law_377 rfl (fun l z h k => ?_) k
  exact G_cv0 (M := mL_law) (pc := 378) (bc := bc) (bs := bs) (cb := 0) (cs := 0) (M' := mX13_thrown) dL_law_378 rfl (by decide) w_1619 w_144 w_1616 w_1617 w_1618 (by decide +kernel) (fun _ _ _ k => k) k
theorem bL_law_381 {G : Gt} {X : Nat × Nat × (Nat → Int32)} {d bc bs : Nat} {l : Ls} {z : List Value} {h : Hp} (k : (tIld 5 (tIf2 (fun x y => x = y) (fun l z h => TG G (CL' G X) ZL d bc bs mL_law 388 l z h) (fun l z h => TG G (CL' G X) ZL d bc bs mL_law 386 l z h))) l z h) : TG G (CL' G X) ZL d bc bs mL_law 381 l z h := by
  refine G_iload dL_law_381 (fun l z h k => ?_) k
  exact G_icmp_eq dL_law_383 (by decide) (fun _ _ _ k => k) (fun _ _ _ k => k) k
theorem bL_law_386 {G : Gt} {X : Nat × Nat × (Nat → Int32)} {d bc bs : Nat} {l : Ls} {z : List Value} {h : Hp} (k : (tPush (.int 0) tFin) l z h) : TG G (CL' G X) ZL d bc bs mL_law 386 l z h := by
  refine G_iconst dL_law_386 (by decide) (fun l z h k => ?_) k
  exact L_ret dL_law_387 k
theorem bL_law_388 {G : Gt} {X : Nat × Nat × (Nat → Int32)} {d bc bs : Nat} {l : Ls} {z : List Value} {h : Hp} (k : (tIld 5 (tIf (fun x => x = 0) (fun l z h => TG G (CL' G X) ZL d bc bs mL_law 393 l z h) (fun l z h => TG G (CL' G X) ZL d bc bs mL_law 405 l z h))) l z h) : TG G (CL' G X) ZL d bc bs mL_law 388 l z h := by
  refine G_iload dL_law_388 (fun l z h k => ?_) k
  exact G_if_ne dL_law_390 (by decide) (fun _ _ _ k => k) (fun _ _ _ k => k) k
theorem bL_law_393 {G : Gt} {X : Nat × Nat × (Nat → Int32)} {d bc bs : Nat} {l : Ls} {z : List Value} {h : Hp} (k : (tAld 3 (tPush (.int 0) (tJald (tIld 6 (tI2l (tLcmp (tIf (fun x => x = 0) (fun l z h => TG G (CL' G X) ZL d bc bs mL_law 405 l z h) (fun l z h => TG G (CL' G X) ZL d bc bs mL_law 403 l z h)))))))) l z h) : TG G (CL' G X) ZL d bc bs mL_law 393 l z h := by
  refine G_aload_n dL_law_393 rfl (fun l z h k => ?_) k
  refine G_iconst dL_law_394 (by decide) (fun l z h k => ?_) k
  refine G_laload dL_law_395 (fun l z h k => ?_) k
  refine G_iload dL_law_396 (fun l z h k => ?_) k
  refine G_i2l dL_law_398 (fun l z h k => ?_) k
  refine G_lcmp dL_law_399 (fun l z h k => ?_) k
  exact G_if_eq dL_law_400 (by decide) (fun _ _ _ k => k) (fun _ _ _ k => k) k
theorem bL_law_403 {G : Gt} {X : Nat × Nat × (Nat → Int32)} {d bc bs : Nat} {l : Ls} {z : List Value} {h : Hp} (k : (tPush (.int 0) tFin) l z h) : TG G (CL' G X) ZL d bc bs mL_law 403 l z h := by
  refine G_iconst dL_law_403 (by decide) (fun l z h k => ?_) k
  exact L_ret dL_law_404 k
theorem bL_law_405 {G : Gt} {X : Nat × Nat × (Nat → Int32)} {d bc bs : Nat} {l : Ls} {z : List Value} {h : Hp} (k : (fun l z h => TG G (CL' G X) ZL d bc bs mL_law 1355 l z h) l z h) : TG G (CL' G X) ZL d bc bs mL_law 405 l z h := by
  exact G_goto dL_law_405 (by decide) (fun _ _ _ k => k) k
theorem bL_law_408 {G : Gt} {X : Nat × Nat × (Nat → Int32)} {d bc bs : Nat} {l : Ls} {z : List Value} {h : Hp} (k : (tAld 1 (tAld 0 (tIld 4 (tPush (.int 1) (tB (fun x y => x + y) (tScr X (tAld 0 (tIld 4 (tPush (.int 2) (tB (fun x y => x + y) (tScr X (tCV2 G d 0 0 10 mX12_have (fun l z h => TG G (CL' G X) ZL d bc bs mL_law 424 l z h))))))))))))) l z h) : TG G (CL' G X) ZL d bc bs mL_law 408 l z h := by
  refine G_aload_n dL_law_408 rfl (fun l z h k => ?_) k
  refine G_aload_n dL_law_409 rfl (fun l z h k => ?_) k
  refine G_iload dL_law_410 (fun l z h k => ?_) k
  refine G_iconst dL_law_412 (by decide) (fun l z h k => ?_) k
  refine G_iadd dL_law_413 (fun l z h k => ?_) k
  refine L_scr dL_law_414 (fun l z h k => ?_) k
  refine G_aload_n dL_law_415 rfl (fun l z h k => ?_) k
  refine G_iload dL_law_416 (fun l z h k => ?_) k
  refine G_iconst dL_law_418 (by decide) (fun l z h k => ?_) k
  refine G_iadd dL_law_419 (fun l z h k => ?_) k
  refine L_scr dL_law_420 (fun l z h k => ?_) k
  exact G_cv2 (M := mL_law) (pc := 421) (bc := bc) (bs := bs) (cb := 0) (cs := 0) (M' := mX12_have) dL_law_421 rfl (by decide) w_806 w_130 w_803 w_804 w_805 (by decide +kernel) (fun _ _ _ k => k) k
theorem bL_law_424 {G : Gt} {X : Nat × Nat × (Nat → Int32)} {d bc bs : Nat} {l : Ls} {z : List Value} {h : Hp} (k : (tAld 2 (tAld 0 (tIld 4 (tPush (.int 1) (tB (fun x y => x + y) (tScr X (tAld 0 (tIld 4 (tPush (.int 2) (tB (fun x y => x + y) (tScr X (tCV2 G d 0 0 11 mX13_have (fun l z h => TG G (CL' G X) ZL d bc bs mL_law 440 l z h))))))))))))) l z h) : TG G (CL' G X) ZL d bc bs mL_law 424 l z h := by
  refine G_aload_n dL_law_424 rfl (fun l z h k => ?_) k
  refine G_aload_n dL_law_425 rfl (fun l z h k => ?_) k
  refine G_iload dL_law_426 (fun l z h k => ?_) k
  refine G_iconst dL_law_428 (by decide) (fun l z h k => ?_) k
  refine G_iadd dL_law_429 (fun l z h k => ?_) k
  refine L_scr dL_law_430 (fun l z h k => ?_) k
  refine G_aload_n dL_law_431 rfl (fun l z h k => ?_) k
  refine G_iload dL_law_432 (fun l z h k => ?_) k
  refine G_iconst dL_law_434 (by decide) (fun l z h k => ?_) k
  refine G_iadd dL_law_435 (fun l z h k => ?_) k
  refine L_scr dL_law_436 (fun l z h k => ?_) k
  exact G_cv2 (M := mL_law) (pc := 437) (bc := bc) (bs := bs) (cb := 0) (cs := 0) (M' := mX13_have) dL_law_437 rfl (by decide) w_1783 w_144 w_1780 w_1781 w_1782 (by decide +kernel) (fun _ _ _ k => k) k
theorem bL_law_440 {G : Gt} {X : Nat × Nat × (Nat → Int32)} {d bc bs : Nat} {l : Ls} {z : List Value} {h : Hp} (k : (tIf2 (fun x y => x = y) (fun l z h => TG G (CL' G X) ZL d bc bs mL_law 1355 l z h) (fun l z h => TG G (CL' G X) ZL d bc bs mL_law 443 l z h)) l z h) : TG G (CL' G X) ZL d bc bs mL_law 440 l z h := by
  exact G_icmp_eq dL_law_440 (by decide) (fun _ _ _ k => k) (fun _ _ _ k => k) k
theorem bL_law_443 {G : Gt} {X : Nat × Nat × (Nat → Int32)} {d bc bs : Nat} {l : Ls} {z : List Value} {h : Hp} (k : (tPush (.int 0) tFin) l z h) : TG G (CL' G X) ZL d bc bs mL_law 443 l z h := by
  refine G_iconst dL_law_443 (by decide) (fun l z h k => ?_) k
  exact L_ret dL_law_444 k
theorem bL_law_445 {G : Gt} {X : Nat × Nat × (Nat → Int32)} {d bc bs : Nat} {l : Ls} {z : List Value} {h : Hp} (k : (tAld 1 (tAld 0 (tIld 4 (tPush (.int 1) (tB (fun x y => x + y) (tScr X (tAld 0 (tIld 4 (tPush (.int 2) (tB (fun x y => x + y) (tScr X (tCV2 G d 0 0 10 mX12_thing (fun l z h => TG G (CL' G X) ZL d bc bs mL_law 461 l z h))))))))))))) l z h) : TG G (CL' G X) ZL d bc bs mL_law 445 l z h := by
  refine G_aload_n dL_law_445 rfl (fun l z h k => ?_) k
  refine G_aload_n dL_law_446 rfl (fun l z h k => ?_) k
  refine G_iload dL_law_447 (fun l z h k => ?_) k
  refine G_iconst dL_law_449 (by decide) (fun l z h k => ?_) k
  refine G_iadd dL_law_450 (fun l z h k => ?_) k
  refine L_scr dL_law_451 (fun l z h k => ?_) k
  refine G_aload_n dL_law_452 rfl (fun l z h k => ?_) k
  refine G_iload dL_law_453 (fun l z h k => ?_) k
  refine G_iconst dL_law_455 (by decide) (fun l z h k => ?_) k
  refine G_iadd dL_law_456 (fun l z h k => ?_) k
  refine L_scr dL_law_457 (fun l z h k => ?_) k
  exact G_cv2 (M := mL_law) (pc := 458) (bc := bc) (bs := bs) (cb := 0) (cs := 0) (M' := mX12_thing) dL_law_458 rfl (by decide) w_819 w_130 w_816 w_817 w_818 (by decide +kernel) (fun _ _ _ k => k) k
theorem bL_law_461 {G : Gt} {X : Nat × Nat × (Nat → Int32)} {d bc bs : Nat} {l : Ls} {z : List Value} {h : Hp} (k : (tAld 2 (tAld 0 (tIld 4 (tPush (.int 1) (tB (fun x y => x + y) (tScr X (tAld 0 (tIld 4 (tPush (.int 2) (tB (fun x y => x + y) (tScr X (tCV2 G d 0 0 11 mX13_thing (fun l z h => TG G (CL' G X) ZL d bc bs mL_law 477 l z h))))))))))))) l z h) : TG G (CL' G X) ZL d bc bs mL_law 461 l z h := by
  refine G_aload_n dL_law_461 rfl (fun l z h k => ?_) k
  refine G_aload_n dL_law_462 rfl (fun l z h k => ?_) k
  refine G_iload dL_law_463 (fun l z h k => ?_) k
  refine G_iconst dL_law_465 (by decide) (fun l z h k => ?_) k
  refine G_iadd dL_law_466 (fun l z h k => ?_) k
  refine L_scr dL_law_467 (fun l z h k => ?_) k
  refine G_aload_n dL_law_468 rfl (fun l z h k => ?_) k
  refine G_iload dL_law_469 (fun l z h k => ?_) k
  refine G_iconst dL_law_471 (by decide) (fun l z h k => ?_) k
  refine G_iadd dL_law_472 (fun l z h k => ?_) k
  refine L_scr dL_law_473 (fun l z h k => ?_) k
  exact G_cv2 (M := mL_law) (pc := 474) (bc := bc) (bs := bs) (cb := 0) (cs := 0) (M' := mX13_thing) dL_law_474 rfl (by decide) w_1791 w_144 w_1788 w_1789 w_1790 (by decide +kernel) (fun _ _ _ k => k) k
theorem bL_law_477 {G : Gt} {X : Nat × Nat × (Nat → Int32)} {d bc bs : Nat} {l : Ls} {z : List Value} {h : Hp} (k : (tIf2 (fun x y => x = y) (fun l z h => TG G (CL' G X) ZL d bc bs mL_law 1355 l z h) (fun l z h => TG G (CL' G X) ZL d bc bs mL_law 480 l z h)) l z h) : TG G (CL' G X) ZL d bc bs mL_law 477 l z h := by
  exact G_icmp_eq dL_law_477 (by decide) (fun _ _ _ k => k) (fun _ _ _ k => k) k
theorem bL_law_480 {G : Gt} {X : Nat × Nat × (Nat → Int32)} {d bc bs : Nat} {l : Ls} {z : List Value} {h : Hp} (k : (tPush (.int 0) tFin) l z h) : TG G (CL' G X) ZL d bc bs mL_law 480 l z h := by
  refine G_iconst dL_law_480 (by decide) (fun l z h k => ?_) k
  exact L_ret dL_law_481 k
theorem bL_law_482 {G : Gt} {X : Nat × Nat × (Nat → Int32)} {d bc bs : Nat} {l : Ls} {z : List Value} {h : Hp} (k : (tAld 1 (tAld 0 (tIld 4 (tPush (.int 1) (tB (fun x y => x + y) (tScr X (tAld 0 (tIld 4 (tPush (.int 2) (tB (fun x y => x + y) (tScr X (tCV2 G d 0 0 10 mX12_asks (fun l z h => TG G (CL' G X) ZL d bc bs mL_law 498 l z h))))))))))))) l z h) : TG G (CL' G X) ZL d bc bs mL_law 482 l z h := by
  refine G_aload_n dL_law_482 rfl (fun l z h k => ?_) k
  refine G_aload_n dL_law_483 rfl (fun l z h k => ?_) k
  refine G_iload dL_law_484 (fun l z h k => ?_) k
  refine G_iconst dL_law_486 (by decide) (fun l z h k => ?_) k
  refine G_iadd dL_law_487 (fun l z h k => ?_) k
  refine L_scr dL_law_488 (fun l z h k => ?_) k
  refine G_aload_n dL_law_489 rfl (fun l z h k => ?_) k
  refine G_iload dL_law_490 (fun l z h k => ?_) k
  refine G_iconst dL_law_492 (by decide) (fun l z h k => ?_) k
  refine G_iadd dL_law_493 (fun l z h k => ?_) k
  refine L_scr dL_law_494 (fun l z h k => ?_) k
  exact G_cv2 (M := mL_law) (pc := 495) (bc := bc) (bs := bs) (cb := 0) (cs := 0) (M' := mX12_asks) dL_law_495 rfl (by decide) w_828 w_130 w_825 w_826 w_827 (by decide +kernel) (fun _ _ _ k => k) k
theorem bL_law_498 {G : Gt} {X : Nat × Nat × (Nat → Int32)} {d bc bs : Nat} {l : Ls} {z : List Value} {h : Hp} (k : (tAld 2 (tAld 0 (tIld 4 (tPush (.int 1) (tB (fun x y => x + y) (tScr X (tAld 0 (tIld 4 (tPush (.int 2) (tB (fun x y => x + y) (tScr X (tCV2 G d 0 0 11 mX13_asks (fun l z h => TG G (CL' G X) ZL d bc bs mL_law 514 l z h))))))))))))) l z h) : TG G (CL' G X) ZL d bc bs mL_law 498 l z h := by
  refine G_aload_n dL_law_498 rfl (fun l z h k => ?_) k
  refine G_aload_n dL_law_499 rfl (fun l z h k => ?_) k
  refine G_iload dL_law_500 (fun l z h k => ?_) k
  refine G_iconst dL_law_502 (by decide) (fun l z h k => ?_) k
  refine G_iadd dL_law_503 (fun l z h k => ?_) k
  refine L_scr dL_law_504 (fun l z h k => ?_) k
  refine G_aload_n dL_law_505 rfl (fun l z h k => ?_) k
  refine G_iload dL_law_506 (fun l z h k => ?_) k
  refine G_iconst dL_law_508 (by decide) (fun l z h k => ?_) k
  refine G_iadd dL_law_509 (fun l z h k => ?_) k
  refine L_scr dL_law_510 (fun l z h k => ?_) k
  exact G_cv2 (M := mL_law) (pc := 511) (bc := bc) (bs := bs) (cb := 0) (cs := 0) (M' := mX13_asks) dL_law_511 rfl (by decide) w_1795 w_144 w_1792 w_1793 w_1794 (by decide +kernel) (fun _ _ _ k => k) k
theorem bL_law_514 {G : Gt} {X : Nat × Nat × (Nat → Int32)} {d bc bs : Nat} {l : Ls} {z : List Value} {h : Hp} (k : (tIf2 (fun x y => x = y) (fun l z h => TG G (CL' G X) ZL d bc bs mL_law 1355 l z h) (fun l z h => TG G (CL' G X) ZL d bc bs mL_law 517 l z h)) l z h) : TG G (CL' G X) ZL d bc bs mL_law 514 l z h := by
  exact G_icmp_eq dL_law_514 (by decide) (fun _ _ _ k => k) (fun _ _ _ k => k) k
theorem bL_law_517 {G : Gt} {X : Nat × Nat × (Nat → Int32)} {d bc bs : Nat} {l : Ls} {z : List Value} {h : Hp} (k : (tPush (.int 0) tFin) l z h) : TG G (CL' G X) ZL d bc bs mL_law 517 l z h := by
  refine G_iconst dL_law_517 (by decide) (fun l z h k => ?_) k
  exact L_ret dL_law_518 k
theorem bL_law_519 {G : Gt} {X : Nat × Nat × (Nat → Int32)} {d bc bs : Nat} {l : Ls} {z : List Value} {h : Hp} (k : (tAld 1 (tAld 0 (tIld 4 (tPush (.int 1) (tB (fun x y => x + y) (tScr X (tCV1 G d 0 0 10 mX12_now (fun l z h => TG G (CL' G X) ZL d bc bs mL_law 529 l z h)))))))) l z h) : TG G (CL' G X) ZL d bc bs mL_law 519 l z h := by
  refine G_aload_n dL_law_519 rfl (fun l z h k => ?_) k
  refine G_aload_n dL_law_520 rfl (fun l z h k => ?_) k
  refine G_iload dL_law_521 (fun l z h k => ?_) k
  refine G_iconst dL_law_523 (by decide) (fun l z h k => ?_) k
  refine G_iadd dL_law_524 (fun l z h k => ?_) k
  refine L_scr dL_law_525 (fun l z h k => ?_) k
  exact G_cv1 (M := mL_law) (pc := 526) (bc := bc) (bs := bs) (cb := 0) (cs := 0) (M' := mX12_now) dL_law_526 rfl (by decide) w_836 w_130 w_833 w_834 w_835 (by decide +kernel) (fun _ _ _ k => k) k
theorem bL_law_529 {G : Gt} {X : Nat × Nat × (Nat → Int32)} {d bc bs : Nat} {l : Ls} {z : List Value} {h : Hp} (k : (tAld 2 (tAld 0 (tIld 4 (tPush (.int 1) (tB (fun x y => x + y) (tScr X (tCV1 G d 0 0 11 mX13_now (fun l z h => TG G (CL' G X) ZL d bc bs mL_law 539 l z h)))))))) l z h) : TG G (CL' G X) ZL d bc bs mL_law 529 l z h := by
  refine G_aload_n dL_law_529 rfl (fun l z h k => ?_) k
  refine G_aload_n dL_law_530 rfl (fun l z h k => ?_) k
  refine G_iload dL_law_531 (fun l z h k => ?_) k
  refine G_iconst dL_law_533 (by decide) (fun l z h k => ?_) k
  refine G_iadd dL_law_534 (fun l z h k => ?_) k
  refine L_scr dL_law_535 (fun l z h k => ?_) k
  exact G_cv1 (M := mL_law) (pc := 536) (bc := bc) (bs := bs) (cb := 0) (cs := 0) (M' := mX13_now) dL_law_536 rfl (by decide) w_1803 w_144 w_1800 w_1801 w_1802 (by decide +kernel) (fun _ _ _ k => k) k
theorem bL_law_539 {G : Gt} {X : Nat × Nat × (Nat → Int32)} {d bc bs : Nat} {l : Ls} {z : List Value} {h : Hp} (k : (tIf2 (fun x y => x = y) (fun l z h => TG G (CL' G X) ZL d bc bs mL_law 1355 l z h) (fun l z h => TG G (CL' G X) ZL d bc bs mL_law 542 l z h)) l z h) : TG G (CL' G X) ZL d bc bs mL_law 539 l z h := by
  exact G_icmp_eq dL_law_539 (by decide) (fun _ _ _ k => k) (fun _ _ _ k => k) k
theorem bL_law_542 {G : Gt} {X : Nat × Nat × (Nat → Int32)} {d bc bs : Nat} {l : Ls} {z : List Value} {h : Hp} (k : (tPush (.int 0) tFin) l z h) : TG G (CL' G X) ZL d bc bs mL_law 542 l z h := by
  refine G_iconst dL_law_542 (by decide) (fun l z h k => ?_) k
  exact L_ret dL_law_543 k
theorem bL_law_544 {G : Gt} {X : Nat × Nat × (Nat → Int32)} {d bc bs : Nat} {l : Ls} {z : List Value} {h : Hp} (k : (tAld 1 (tAld 0 (tIld 4 (tPush (.int 1) (tB (fun x y => x + y) (tScr X (tAld 0 (tIld 4 (tPush (.int 2) (tB (fun x y => x + y) (tScr X (tCV2 G d 0 0 10 mX12_go (fun l z h => TG G (CL' G X) ZL d bc bs mL_law 560 l z h))))))))))))) l z h) : TG G (CL' G X) ZL d bc bs mL_law 544 l z h := by
  refine G_aload_n dL_law_544 rfl (fun l z h k => ?_) k
  refine G_aload_n dL_law_545 rfl (fun l z h k => ?_) k
  refine G_iload dL_law_546 (fun l z h k => ?_) k
  refine G_iconst dL_law_548 (by decide) (fun l z h k => ?_) k
  refine G_iadd dL_law_549 (fun l z h k => ?_) k
  refine L_scr dL_law_550 (fun l z h k => ?_) k
  refine G_aload_n dL_law_551 rfl (fun l z h k => ?_) k
  refine G_iload dL_law_552 (fun l z h k => ?_) k
  refine G_iconst dL_law_554 (by decide) (fun l z h k => ?_) k
  refine G_iadd dL_law_555 (fun l z h k => ?_) k
  refine L_scr dL_law_556 (fun l z h k => ?_) k
  exact G_cv2 (M := mL_law) (pc := 557) (bc := bc) (bs := bs) (cb := 0) (cs := 0) (M' := mX12_go) dL_law_557 rfl (by decide) w_873 w_130 w_870 w_871 w_872 (by decide +kernel) (fun _ _ _ k => k) k
theorem bL_law_560 {G : Gt} {X : Nat × Nat × (Nat → Int32)} {d bc bs : Nat} {l : Ls} {z : List Value} {h : Hp} (k : (tAld 2 (tAld 0 (tIld 4 (tPush (.int 1) (tB (fun x y => x + y) (tScr X (tAld 0 (tIld 4 (tPush (.int 2) (tB (fun x y => x + y) (tScr X (tCV2 G d 0 0 11 mX13_go_ (fun l z h => TG G (CL' G X) ZL d bc bs mL_law 576 l z h))))))))))))) l z h) : TG G (CL' G X) ZL d bc bs mL_law 560 l z h := by
  refine G_aload_n dL_law_560 rfl (fun l z h k => ?_) k
  refine G_aload_n dL_law_561 rfl (fun l z h k => ?_) k
  refine G_iload dL_law_562 (fun l z h k => ?_) k
  refine G_iconst dL_law_564 (by decide) (fun l z h k => ?_) k
  refine G_iadd dL_law_565 (fun l z h k => ?_) k
  refine L_scr dL_law_566 (fun l z h k => ?_) k
  refine G_aload_n dL_law_567 rfl (fun l z h k => ?_) k
  refine G_iload dL_law_568 (fun l z h k => ?_) k
  refine G_iconst dL_law_570 (by decide) (fun l z h k => ?_) k
  refine G_iadd dL_law_571 (fun l z h k => ?_) k
  refine L_scr dL_law_572 (fun l z h k => ?_) k
  exact G_cv2 (M := mL_law) (pc := 573) (bc := bc) (bs := bs) (cb := 0) (cs := 0) (M' := mX13_go_) dL_law_573 rfl (by decide) w_1827 w_144 w_1824 w_1825 w_1826 (by decide +kernel) (fun _ _ _ k => k) k
theorem bL_law_576 {G : Gt} {X : Nat × Nat × (Nat → Int32)} {d bc bs : Nat} {l : Ls} {z : List Value} {h : Hp} (k : (tIf2 (fun x y => x = y) (fun l z h => TG G (CL' G X) ZL d bc bs mL_law 1355 l z h) (fun l z h => TG G (CL' G X) ZL d bc bs mL_law 579 l z h)) l z h) : TG G (CL' G X) ZL d bc bs mL_law 576 l z h := by
  exact G_icmp_eq dL_law_576 (by decide) (fun _ _ _ k => k) (fun _ _ _ k => k) k
theorem bL_law_579 {G : Gt} {X : Nat × Nat × (Nat → Int32)} {d bc bs : Nat} {l : Ls} {z : List Value} {h : Hp} (k : (tPush (.int 0) tFin) l z h) : TG G (CL' G X) ZL d bc bs mL_law 579 l z h := by
  refine G_iconst dL_law_579 (by decide) (fun l z h k => ?_) k
  exact L_ret dL_law_580 k
theorem bL_law_581 {G : Gt} {X : Nat × Nat × (Nat → Int32)} {d bc bs : Nat} {l : Ls} {z : List Value} {h : Hp} (k : (tAld 1 (tAld 0 (tIld 4 (tPush (.int 1) (tB (fun x y => x + y) (tScr X (tAld 0 (tIld 4 (tPush (.int 2) (tB (fun x y => x + y) (tScr X (tCV2 G d 0 0 10 mX12_join (fun l z h => TG G (CL' G X) ZL d bc bs mL_law 597 l z h))))))))))))) l z h) : TG G (CL' G X) ZL d bc bs mL_law 581 l z h := by
  refine G_aload_n dL_law_581 rfl (fun l z h k => ?_) k
  refine G_aload_n dL_law_582 rfl (fun l z h k => ?_) k
  refine G_iload dL_law_583 (fun l z h k => ?_) k
  refine G_iconst dL_law_585 (by decide) (fun l z h k => ?_) k
  refine G_iadd dL_law_586 (fun l z h k => ?_) k
  refine L_scr dL_law_587 (fun l z h k => ?_) k
  refine G_aload_n dL_law_588 rfl (fun l z h k => ?_) k
  refine G_iload dL_law_589 (fun l z h k => ?_) k
  refine G_iconst dL_law_591 (by decide) (fun l z h k => ?_) k
  refine G_iadd dL_law_592 (fun l z h k => ?_) k
  refine L_scr dL_law_593 (fun l z h k => ?_) k
  exact G_cv2 (M := mL_law) (pc := 594) (bc := bc) (bs := bs) (cb := 0) (cs := 0) (M' := mX12_join) dL_law_594 rfl (by decide) w_903 w_130 w_900 w_901 w_902 (by decide +kernel) (fun _ _ _ k => k) k
theorem bL_law_597 {G : Gt} {X : Nat × Nat × (Nat → Int32)} {d bc bs : Nat} {l : Ls} {z : List Value} {h : Hp} (k : (tAld 2 (tAld 0 (tIld 4 (tPush (.int 1) (tB (fun x y => x + y) (tScr X (tAld 0 (tIld 4 (tPush (.int 2) (tB (fun x y => x + y) (tScr X (tCV2 G d 0 0 11 mX13_join (fun l z h => TG G (CL' G X) ZL d bc bs mL_law 613 l z h))))))))))))) l z h) : TG G (CL' G X) ZL d bc bs mL_law 597 l z h := by
  refine G_aload_n dL_law_597 rfl (fun l z h k => ?_) k
  refine G_aload_n dL_law_598 rfl (fun l z h k => ?_) k
  refine G_iload dL_law_599 (fun l z h k => ?_) k
  refine G_iconst dL_law_601 (by decide) (fun l z h k => ?_) k
  refine G_iadd dL_law_602 (fun l z h k => ?_) k
  refine L_scr dL_law_603 (fun l z h k => ?_) k
  refine G_aload_n dL_law_604 rfl (fun l z h k => ?_) k
  refine G_iload dL_law_605 (fun l z h k => ?_) k
  refine G_iconst dL_law_607 (by decide) (fun l z h k => ?_) k
  refine G_iadd dL_law_608 (fun l z h k => ?_) k
  refine L_scr dL_law_609 (fun l z h k => ?_) k
  exact G_cv2 (M := mL_law) (pc := 610) (bc := bc) (bs := bs) (cb := 0) (cs := 0) (M' := mX13_join) dL_law_610 rfl (by decide) w_1873 w_144 w_1870 w_1871 w_1872 (by decide +kernel) (fun _ _ _ k => k) k
theorem bL_law_613 {G : Gt} {X : Nat × Nat × (Nat → Int32)} {d bc bs : Nat} {l : Ls} {z : List Value} {h : Hp} (k : (tIf2 (fun x y => x = y) (fun l z h => TG G (CL' G X) ZL d bc bs mL_law 1355 l z h) (fun l z h => TG G (CL' G X) ZL d bc bs mL_law 616 l z h)) l z h) : TG G (CL' G X) ZL d bc bs mL_law 613 l z h := by
  exact G_icmp_eq dL_law_613 (by decide) (fun _ _ _ k => k) (fun _ _ _ k => k) k
theorem bL_law_616 {G : Gt} {X : Nat × Nat × (Nat → Int32)} {d bc bs : Nat} {l : Ls} {z : List Value} {h : Hp} (k : (tPush (.int 0) tFin) l z h) : TG G (CL' G X) ZL d bc bs mL_law 616 l z h := by
  refine G_iconst dL_law_616 (by decide) (fun l z h k => ?_) k
  exact L_ret dL_law_617 k
theorem bL_law_618 {G : Gt} {X : Nat × Nat × (Nat → Int32)} {d bc bs : Nat} {l : Ls} {z : List Value} {h : Hp} (k : (tAld 1 (tAld 0 (tIld 4 (tPush (.int 1) (tB (fun x y => x + y) (tScr X (tCV1 G d 0 0 10 mX12_part (fun l z h => TG G (CL' G X) ZL d bc bs mL_law 628 l z h)))))))) l z h) : TG G (CL' G X) ZL d bc bs mL_law 618 l z h := by
  refine G_aload_n dL_law_618 rfl (fun l z h k => ?_) k
  refine G_aload_n dL_law_619 rfl (fun l z h k => ?_) k
  refine G_iload dL_law_620 (fun l z h k => ?_) k
  refine G_iconst dL_law_622 (by decide) (fun l z h k => ?_) k
  refine G_iadd dL_law_623 (fun l z h k => ?_) k
  refine L_scr dL_law_624 (fun l z h k => ?_) k
  exact G_cv1 (M := mL_law) (pc := 625) (bc := bc) (bs := bs) (cb := 0) (cs := 0) (M' := mX12_part) dL_law_625 rfl (by decide) w_908 w_130 w_905 w_906 w_907 (by decide +kernel) (fun _ _ _ k => k) k
theorem bL_law_628 {G : Gt} {X : Nat × Nat × (Nat → Int32)} {d bc bs : Nat} {l : Ls} {z : List Value} {h : Hp} (k : (tAld 2 (tAld 0 (tIld 4 (tPush (.int 1) (tB (fun x y => x + y) (tScr X (tCV1 G d 0 0 11 mX13_part (fun l z h => TG G (CL' G X) ZL d bc bs mL_law 638 l z h)))))))) l z h) : TG G (CL' G X) ZL d bc bs mL_law 628 l z h := by
  refine G_aload_n dL_law_628 rfl (fun l z h k => ?_) k
  refine G_aload_n dL_law_629 rfl (fun l z h k => ?_) k
  refine G_iload dL_law_630 (fun l z h k => ?_) k
  refine G_iconst dL_law_632 (by decide) (fun l z h k => ?_) k
  refine G_iadd dL_law_633 (fun l z h k => ?_) k
  refine L_scr dL_law_634 (fun l z h k => ?_) k
  exact G_cv1 (M := mL_law) (pc := 635) (bc := bc) (bs := bs) (cb := 0) (cs := 0) (M' := mX13_part) dL_law_635 rfl (by decide) w_1877 w_144 w_1874 w_1875 w_1876 (by decide +kernel) (fun _ _ _ k => k) k
theorem bL_law_638 {G : Gt} {X : Nat × Nat × (Nat → Int32)} {d bc bs : Nat} {l : Ls} {z : List Value} {h : Hp} (k : (tIf2 (fun x y => x = y) (fun l z h => TG G (CL' G X) ZL d bc bs mL_law 1355 l z h) (fun l z h => TG G (CL' G X) ZL d bc bs mL_law 641 l z h)) l z h) : TG G (CL' G X) ZL d bc bs mL_law 638 l z h := by
  exact G_icmp_eq dL_law_638 (by decide) (fun _ _ _ k => k) (fun _ _ _ k => k) k
theorem bL_law_641 {G : Gt} {X : Nat × Nat × (Nat → Int32)} {d bc bs : Nat} {l : Ls} {z : List Value} {h : Hp} (k : (tPush (.int 0) tFin) l z h) : TG G (CL' G X) ZL d bc bs mL_law 641 l z h := by
  refine G_iconst dL_law_641 (by decide) (fun l z h k => ?_) k
  exact L_ret dL_law_642 k
theorem bL_law_643 {G : Gt} {X : Nat × Nat × (Nat → Int32)} {d bc bs : Nat} {l : Ls} {z : List Value} {h : Hp} (k : (tAld 1 (tAld 0 (tIld 4 (tPush (.int 1) (tB (fun x y => x + y) (tScr X (tAld 0 (tIld 4 (tPush (.int 2) (tB (fun x y => x + y) (tScr X (tAld 0 (tIld 4 (tPush (.int 3) (tB (fun x y => x + y) (tScr X (tAld 0 (tIld 4 (tPush (.int 4) (tB (fun x y => x + y) (tScr X (tCV4 G d 0 0 10 mX12_trade (fun l z h => TG G (CL' G X) ZL d bc bs mL_law 671 l z h))))))))))))))))))))))) l z h) : TG G (CL' G X) ZL d bc bs mL_law 643 l z h := by
  refine G_aload_n dL_law_643 rfl (fun l z h k => ?_) k
  refine G_aload_n dL_law_644 rfl (fun l z h k => ?_) k
  refine G_iload dL_law_645 (fun l z h k => ?_) k
  refine G_iconst dL_law_647 (by decide) (fun l z h k => ?_) k
  refine G_iadd dL_law_648 (fun l z h k => ?_) k
  refine L_scr dL_law_649 (fun l z h k => ?_) k
  refine G_aload_n dL_law_650 rfl (fun l z h k => ?_) k
  refine G_iload dL_law_651 (fun l z h k => ?_) k
  refine G_iconst dL_law_653 (by decide) (fun l z h k => ?_) k
  refine G_iadd dL_law_654 (fun l z h k => ?_) k
  refine L_scr dL_law_655 (fun l z h k => ?_) k
  refine G_aload_n dL_law_656 rfl (fun l z h k => ?_) k
  refine G_iload dL_law_657 (fun l z h k => ?_) k
  refine G_iconst dL_law_659 (by decide) (fun l z h k => ?_) k
  refine G_iadd dL_law_660 (fun l z h k => ?_) k
  refine L_scr dL_law_661 (fun l z h k => ?_) k
  refine G_aload_n dL_law_662 rfl (fun l z h k => ?_) k
  refine G_iload dL_law_663 (fun l z h k => ?_) k
  refine G_iconst dL_law_665 (by decide) (fun l z h k => ?_) k
  refine G_iadd dL_law_666 (fun l z h k => ?_) k
  refine L_scr dL_law_667 (fun l z h k => ?_) k
  exact G_cv4 (M := mL_law) (pc := 668) (bc := bc) (bs := bs) (cb := 0) (cs := 0) (M' := mX12_trade) dL_law_668 rfl (by decide) w_917 w_130 w_914 w_915 w_916 (by decide +kernel) (fun _ _ _ k => k) k
theorem bL_law_671 {G : Gt} {X : Nat × Nat × (Nat → Int32)} {d bc bs : Nat} {l : Ls} {z : List Value} {h : Hp} (k : (tAld 2 (tAld 0 (tIld 4 (tPush (.int 1) (tB (fun x y => x + y) (tScr X (tAld 0 (tIld 4 (tPush (.int 2) (tB (fun x y => x + y) (tScr X (tAld 0 (tIld 4 (tPush (.int 3) (tB (fun x y => x + y) (tScr X (tAld 0 (tIld 4 (tPush (.int 4) (tB (fun x y => x + y) (tScr X (tCV4 G d 0 0 11 mX13_trade (fun l z h => TG G (CL' G X) ZL d bc bs mL_law 699 l z h))))))))))))))))))))))) l z h) : TG G (CL' G X) ZL d bc bs mL_law 671 l z h := by
  refine G_aload_n dL_law_671 rfl (fun l z h k => ?_) k
  refine G_aload_n dL_law_672 rfl (fun l z h k => ?_) k
  refine G_iload dL_law_673 (fun l z h k => ?_) k
  refine G_iconst dL_law_675 (by decide) (fun l z h k => ?_) k
  refine G_iadd dL_law_676 (fun l z h k => ?_) k
  refine L_scr dL_law_677 (fun l z h k => ?_) k
  refine G_aload_n dL_law_678 rfl (fun l z h k => ?_) k
  refine G_iload dL_law_679 (fun l z h k => ?_) k
  refine G_iconst dL_law_681 (by decide) (fun l z h k => ?_) k
  refine G_iadd dL_law_682 (fun l z h k => ?_) k
  refine L_scr dL_law_683 (fun l z h k => ?_) k
  refine G_aload_n dL_law_684 rfl (fun l z h k => ?_) k
  refine G_iload dL_law_685 (fun l z h k => ?_) k
  refine G_iconst dL_law_687 (by decide) (fun l z h k => ?_) k
  refine G_iadd dL_law_688 (fun l z h k => ?_) k
  refine L_scr dL_law_689 (fun l z h k => ?_) k
  refine G_aload_n dL_law_690 rfl (fun l z h k => ?_) k
  refine G_iload dL_law_691 (fun l z h k => ?_) k
  refine G_iconst dL_law_693 (by decide) (fun l z h k => ?_) k
  refine G_iadd dL_law_694 (fun l z h k => ?_) k
  refine L_scr dL_law_695 (fun l z h k => ?_) k
  exact G_cv4 (M := mL_law) (pc := 696) (bc := bc) (bs := bs) (cb := 0) (cs := 0) (M' := mX13_trade) dL_law_696 rfl (by decide) w_1881 w_144 w_1878 w_1879 w_1880 (by decide +kernel) (fun _ _ _ k => k) k
theorem bL_law_699 {G : Gt} {X : Nat × Nat × (Nat → Int32)} {d bc bs : Nat} {l : Ls} {z : List Value} {h : Hp} (k : (tIf2 (fun x y => x = y) (fun l z h => TG G (CL' G X) ZL d bc bs mL_law 1355 l z h) (fun l z h => TG G (CL' G X) ZL d bc bs mL_law 702 l z h)) l z h) : TG G (CL' G X) ZL d bc bs mL_law 699 l z h := by
  exact G_icmp_eq dL_law_699 (by decide) (fun _ _ _ k => k) (fun _ _ _ k => k) k
theorem bL_law_702 {G : Gt} {X : Nat × Nat × (Nat → Int32)} {d bc bs : Nat} {l : Ls} {z : List Value} {h : Hp} (k : (tPush (.int 0) tFin) l z h) : TG G (CL' G X) ZL d bc bs mL_law 702 l z h := by
  refine G_iconst dL_law_702 (by decide) (fun l z h k => ?_) k
  exact L_ret dL_law_703 k
theorem bL_law_704 {G : Gt} {X : Nat × Nat × (Nat → Int32)} {d bc bs : Nat} {l : Ls} {z : List Value} {h : Hp} (k : (tAld 1 (tAld 0 (tIld 4 (tPush (.int 1) (tB (fun x y => x + y) (tScr X (tAld 0 (tIld 4 (tPush (.int 2) (tB (fun x y => x + y) (tScr X (tAld 0 (tIld 4 (tPush (.int 3) (tB (fun x y => x + y) (tScr X (tCV3 G d 0 0 10 mX12_ask (fun l z h => TG G (CL' G X) ZL d bc bs mL_law 726 l z h)))))))))))))))))) l z h) : TG G (CL' G X) ZL d bc bs mL_law 704 l z h := by
  refine G_aload_n dL_law_704 rfl (fun l z h k => ?_) k
  refine G_aload_n dL_law_705 rfl (fun l z h k => ?_) k
  refine G_iload dL_law_706 (fun l z h k => ?_) k
  refine G_iconst dL_law_708 (by decide) (fun l z h k => ?_) k
  refine G_iadd dL_law_709 (fun l z h k => ?_) k
  refine L_scr dL_law_710 (fun l z h k => ?_) k
  refine G_aload_n dL_law_711 rfl (fun l z h k => ?_) k
  refine G_iload dL_law_712 (fun l z h k => ?_) k
  refine G_iconst dL_law_714 (by decide) (fun l z h k => ?_) k
  refine G_iadd dL_law_715 (fun l z h k => ?_) k
  refine L_scr dL_law_716 (fun l z h k => ?_) k
  refine G_aload_n dL_law_717 rfl (fun l z h k => ?_) k
  refine G_iload dL_law_718 (fun l z h k => ?_) k
  refine G_iconst dL_law_720 (by decide) (fun l z h k => ?_) k
  refine G_iadd dL_law_721 (fun l z h k => ?_) k
  refine L_scr dL_law_722 (fun l z h k => ?_) k
  exact G_cv3 (M := mL_law) (pc := 723) (bc := bc) (bs := bs) (cb := 0) (cs := 0) (M' := mX12_ask) dL_law_723 rfl (by decide) w_926 w_130 w_923 w_924 w_925 (by decide +kernel) (fun _ _ _ k => k) k
theorem bL_law_726 {G : Gt} {X : Nat × Nat × (Nat → Int32)} {d bc bs : Nat} {l : Ls} {z : List Value} {h : Hp} (k : (tAld 2 (tAld 0 (tIld 4 (tPush (.int 1) (tB (fun x y => x + y) (tScr X (tAld 0 (tIld 4 (tPush (.int 2) (tB (fun x y => x + y) (tScr X (tAld 0 (tIld 4 (tPush (.int 3) (tB (fun x y => x + y) (tScr X (tCV3 G d 0 0 11 mX13_ask (fun l z h => TG G (CL' G X) ZL d bc bs mL_law 748 l z h)))))))))))))))))) l z h) : TG G (CL' G X) ZL d bc bs mL_law 726 l z h := by
  refine G_aload_n dL_law_726 rfl (fun l z h k => ?_) k
  refine G_aload_n dL_law_727 rfl (fun l z h k => ?_) k
  refine G_iload dL_law_728 (fun l z h k => ?_) k
  refine G_iconst dL_law_730 (by decide) (fun l z h k => ?_) k
  refine G_iadd dL_law_731 (fun l z h k => ?_) k
  refine L_scr dL_law_732 (fun l z h k => ?_) k
  refine G_aload_n dL_law_733 rfl (fun l z h k => ?_) k
  refine G_iload dL_law_734 (fun l z h k => ?_) k
  refine G_iconst dL_law_736 (by decide) (fun l z h k => ?_) k
  refine G_iadd dL_law_737 (fun l z h k => ?_) k
  refine L_scr dL_law_738 (fun l z h k => ?_) k
  refine G_aload_n dL_law_739 rfl (fun l z h k => ?_) k
  refine G_iload dL_law_740 (fun l z h k => ?_) k
  refine G_iconst dL_law_742 (by decide) (fun l z h k => ?_) k
  refine G_iadd dL_law_743 (fun l z h k => ?_) k
  refine L_scr dL_law_744 (fun l z h k => ?_) k
  exact G_cv3 (M := mL_law) (pc := 745) (bc := bc) (bs := bs) (cb := 0) (cs := 0) (M' := mX13_ask) dL_law_745 rfl (by decide) w_1885 w_144 w_1882 w_1883 w_1884 (by decide +kernel) (fun _ _ _ k => k) k
theorem bL_law_748 {G : Gt} {X : Nat × Nat × (Nat → Int32)} {d bc bs : Nat} {l : Ls} {z : List Value} {h : Hp} (k : (tIf2 (fun x y => x = y) (fun l z h => TG G (CL' G X) ZL d bc bs mL_law 1355 l z h) (fun l z h => TG G (CL' G X) ZL d bc bs mL_law 751 l z h)) l z h) : TG G (CL' G X) ZL d bc bs mL_law 748 l z h := by
  exact G_icmp_eq dL_law_748 (by decide) (fun _ _ _ k => k) (fun _ _ _ k => k) k
theorem bL_law_751 {G : Gt} {X : Nat × Nat × (Nat → Int32)} {d bc bs : Nat} {l : Ls} {z : List Value} {h : Hp} (k : (tPush (.int 0) tFin) l z h) : TG G (CL' G X) ZL d bc bs mL_law 751 l z h := by
  refine G_iconst dL_law_751 (by decide) (fun l z h k => ?_) k
  exact L_ret dL_law_752 k
theorem bL_law_753 {G : Gt} {X : Nat × Nat × (Nat → Int32)} {d bc bs : Nat} {l : Ls} {z : List Value} {h : Hp} (k : (tAld 1 (tAld 0 (tIld 4 (tPush (.int 1) (tB (fun x y => x + y) (tScr X (tCV1 G d 0 0 10 mX12_days (fun l z h => TG G (CL' G X) ZL d bc bs mL_law 763 l z h)))))))) l z h) : TG G (CL' G X) ZL d bc bs mL_law 753 l z h := by
  refine G_aload_n dL_law_753 rfl (fun l z h k => ?_) k
  refine G_aload_n dL_law_754 rfl (fun l z h k => ?_) k
  refine G_iload dL_law_755 (fun l z h k => ?_) k
  refine G_iconst dL_law_757 (by decide) (fun l z h k => ?_) k
  refine G_iadd dL_law_758 (fun l z h k => ?_) k
  refine L_scr dL_law_759 (fun l z h k => ?_) k
  exact G_cv1 (M := mL_law) (pc := 760) (bc := bc) (bs := bs) (cb := 0) (cs := 0) (M' := mX12_days) dL_law_760 rfl (by decide) w_935 w_130 w_932 w_933 w_934 (by decide +kernel) (fun _ _ _ k => k) k
theorem bL_law_763 {G : Gt} {X : Nat × Nat × (Nat → Int32)} {d bc bs : Nat} {l : Ls} {z : List Value} {h : Hp} (k : (tAld 2 (tAld 0 (tIld 4 (tPush (.int 1) (tB (fun x y => x + y) (tScr X (tCV1 G d 0 0 11 mX13_days (fun l z h => TG G (CL' G X) ZL d bc bs mL_law 773 l z h)))))))) l z h) : TG G (CL' G X) ZL d bc bs mL_law 763 l z h := by
  refine G_aload_n dL_law_763 rfl (fun l z h k => ?_) k
  refine G_aload_n dL_law_764 rfl (fun l z h k => ?_) k
  refine G_iload dL_law_765 (fun l z h k => ?_) k
  refine G_iconst dL_law_767 (by decide) (fun l z h k => ?_) k
  refine G_iadd dL_law_768 (fun l z h k => ?_) k
  refine L_scr dL_law_769 (fun l z h k => ?_) k
  exact G_cv1 (M := mL_law) (pc := 770) (bc := bc) (bs := bs) (cb := 0) (cs := 0) (M' := mX13_days) dL_law_770 rfl (by decide) w_1893 w_144 w_1890 w_1891 w_1892 (by decide +kernel) (fun _ _ _ k => k) k
theorem bL_law_773 {G : Gt} {X : Nat × Nat × (Nat → Int32)} {d bc bs : Nat} {l : Ls} {z : List Value} {h : Hp} (k : (tIf2 (fun x y => x = y) (fun l z h => TG G (CL' G X) ZL d bc bs mL_law 1355 l z h) (fun l z h => TG G (CL' G X) ZL d bc bs mL_law 776 l z h)) l z h) : TG G (CL' G X) ZL d bc bs mL_law 773 l z h := by
  exact G_icmp_eq dL_law_773 (by decide) (fun _ _ _ k => k) (fun _ _ _ k => k) k
theorem bL_law_776 {G : Gt} {X : Nat × Nat × (Nat → Int32)} {d bc bs : Nat} {l : Ls} {z : List Value} {h : Hp} (k : (tPush (.int 0) tFin) l z h) : TG G (CL' G X) ZL d bc bs mL_law 776 l z h := by
  refine G_iconst dL_law_776 (by decide) (fun l z h k => ?_) k
  exact L_ret dL_law_777 k
theorem bL_law_778 {G : Gt} {X : Nat × Nat × (Nat → Int32)} {d bc bs : Nat} {l : Ls} {z : List Value} {h : Hp} (k : (tAld 1 (tCV0 G d 0 0 10 mX12_undo (fun l z h => TG G (CL' G X) ZL d bc bs mL_law 782 l z h))) l z h) : TG G (CL' G X) ZL d bc bs mL_law 778 l z h := by
  refine G_aload_n dL_law_778 rfl (fun l z h k => ?_) k
  exact G_cv0 (M := mL_law) (pc := 779) (bc := bc) (bs := bs) (cb := 0) (cs := 0) (M' := mX12_undo) dL_law_779 rfl (by decide) w_1004 w_130 w_1001 w_1002 w_1003 (by decide +kernel) (fun _ _ _ k => k) k
theorem bL_law_782 {G : Gt} {X : Nat × Nat × (Nat → Int32)} {d bc bs : Nat} {l : Ls} {z : List Value} {h : Hp} (k : (tAld 2 (tCV0 G d 0 0 11 mX13_undo (fun l z h => TG G (CL' G X) ZL d bc bs mL_law 786 l z h))) l z h) : TG G (CL' G X) ZL d bc bs mL_law 782 l z h := by
  refine G_aload_n dL_law_782 rfl (fun l z h k => ?_) k
  exact G_cv0 (M := mL_law) (pc := 783) (bc := bc) (bs := bs) (cb := 0) (cs := 0) (M' := mX13_undo) dL_law_783 rfl (by decide) w_1889 w_144 w_1886 w_1887 w_1888 (by decide +kernel) (fun _ _ _ k => k) k
theorem bL_law_786 {G : Gt} {X : Nat × Nat × (Nat → Int32)} {d bc bs : Nat} {l : Ls} {z : List Value} {h : Hp} (k : (tIf2 (fun x y => x = y) (fun l z h => TG G (CL' G X) ZL d bc bs mL_law 1355 l z h) (fun l z h => TG G (CL' G X) ZL d bc bs mL_law 789 l z h)) l z h) : TG G (CL' G X) ZL d bc bs mL_law 786 l z h := by
  exact G_icmp_eq dL_law_786 (by decide) (fun _ _ _ k => k) (fun _ _ _ k => k) k
theorem bL_law_789 {G : Gt} {X : Nat × Nat × (Nat → Int32)} {d bc bs : Nat} {l : Ls} {z : List Value} {h : Hp} (k : (tPush (.int 0) tFin) l z h) : TG G (CL' G X) ZL d bc bs mL_law 789 l z h := by
  refine G_iconst dL_law_789 (by decide) (fun l z h k => ?_) k
  exact L_ret dL_law_790 k
theorem bL_law_791 {G : Gt} {X : Nat × Nat × (Nat → Int32)} {d bc bs : Nat} {l : Ls} {z : List Value} {h : Hp} (k : (tAld 1 (tAld 0 (tIld 4 (tPush (.int 1) (tB (fun x y => x + y) (tScr X (tAld 0 (tIld 4 (tPush (.int 2) (tB (fun x y => x + y) (tScr X (tCV2 G d 0 0 10 mX12_lacks (fun l z h => TG G (CL' G X) ZL d bc bs mL_law 807 l z h))))))))))))) l z h) : TG G (CL' G X) ZL d bc bs mL_law 791 l z h := by
  refine G_aload_n dL_law_791 rfl (fun l z h k => ?_) k
  refine G_aload_n dL_law_792 rfl (fun l z h k => ?_) k
  refine G_iload dL_law_793 (fun l z h k => ?_) k
  refine G_iconst dL_law_795 (by decide) (fun l z h k => ?_) k
  refine G_iadd dL_law_796 (fun l z h k => ?_) k
  refine L_scr dL_law_797 (fun l z h k => ?_) k
  refine G_aload_n dL_law_798 rfl (fun l z h k => ?_) k
  refine G_iload dL_law_799 (fun l z h k => ?_) k
  refine G_iconst dL_law_801 (by decide) (fun l z h k => ?_) k
  refine G_iadd dL_law_802 (fun l z h k => ?_) k
  refine L_scr dL_law_803 (fun l z h k => ?_) k
  exact G_cv2 (M := mL_law) (pc := 804) (bc := bc) (bs := bs) (cb := 0) (cs := 0) (M' := mX12_lacks) dL_law_804 rfl (by decide) w_1012 w_130 w_1009 w_1010 w_1011 (by decide +kernel) (fun _ _ _ k => k) k
theorem bL_law_807 {G : Gt} {X : Nat × Nat × (Nat → Int32)} {d bc bs : Nat} {l : Ls} {z : List Value} {h : Hp} (k : (tAld 2 (tAld 0 (tIld 4 (tPush (.int 1) (tB (fun x y => x + y) (tScr X (tAld 0 (tIld 4 (tPush (.int 2) (tB (fun x y => x + y) (tScr X (tCV2 G d 0 0 11 mX13_lacks (fun l z h => TG G (CL' G X) ZL d bc bs mL_law 823 l z h))))))))))))) l z h) : TG G (CL' G X) ZL d bc bs mL_law 807 l z h := by
  refine G_aload_n dL_law_807 rfl (fun l z h k => ?_) k
  refine G_aload_n dL_law_808 rfl (fun l z h k => ?_) k
  refine G_iload dL_law_809 (fun l z h k => ?_) k
  refine G_iconst dL_law_811 (by decide) (fun l z h k => ?_) k
  refine G_iadd dL_law_812 (fun l z h k => ?_) k
  refine L_scr dL_law_813 (fun l z h k => ?_) k
  refine G_aload_n dL_law_814 rfl (fun l z h k => ?_) k
  refine G_iload dL_law_815 (fun l z h k => ?_) k
  refine G_iconst dL_law_817 (by decide) (fun l z h k => ?_) k
  refine G_iadd dL_law_818 (fun l z h k => ?_) k
  refine L_scr dL_law_819 (fun l z h k => ?_) k
  exact G_cv2 (M := mL_law) (pc := 820) (bc := bc) (bs := bs) (cb := 0) (cs := 0) (M' := mX13_lacks) dL_law_820 rfl (by decide) w_1913 w_144 w_1910 w_1911 w_1912 (by decide +kernel) (fun _ _ _ k => k) k
theorem bL_law_823 {G : Gt} {X : Nat × Nat × (Nat → Int32)} {d bc bs : Nat} {l : Ls} {z : List Value} {h : Hp} (k : (tIf2 (fun x y => x = y) (fun l z h => TG G (CL' G X) ZL d bc bs mL_law 1355 l z h) (fun l z h => TG G (CL' G X) ZL d bc bs mL_law 826 l z h)) l z h) : TG G (CL' G X) ZL d bc bs mL_law 823 l z h := by
  exact G_icmp_eq dL_law_823 (by decide) (fun _ _ _ k => k) (fun _ _ _ k => k) k
theorem bL_law_826 {G : Gt} {X : Nat × Nat × (Nat → Int32)} {d bc bs : Nat} {l : Ls} {z : List Value} {h : Hp} (k : (tPush (.int 0) tFin) l z h) : TG G (CL' G X) ZL d bc bs mL_law 826 l z h := by
  refine G_iconst dL_law_826 (by decide) (fun l z h k => ?_) k
  exact L_ret dL_law_827 k
theorem bL_law_828 {G : Gt} {X : Nat × Nat × (Nat → Int32)} {d bc bs : Nat} {l : Ls} {z : List Value} {h : Hp} (k : (tAld 1 (tAld 0 (tIld 4 (tPush (.int 1) (tB (fun x y => x + y) (tScr X (tAld 0 (tIld 4 (tPush (.int 2) (tB (fun x y => x + y) (tScr X (tCV2 G d 0 0 10 mX12_when (fun l z h => TG G (CL' G X) ZL d bc bs mL_law 844 l z h))))))))))))) l z h) : TG G (CL' G X) ZL d bc bs mL_law 828 l z h := by
  refine G_aload_n dL_law_828 rfl (fun l z h k => ?_) k
  refine G_aload_n dL_law_829 rfl (fun l z h k => ?_) k
  refine G_iload dL_law_830 (fun l z h k => ?_) k
  refine G_iconst dL_law_832 (by decide) (fun l z h k => ?_) k
  refine G_iadd dL_law_833 (fun l z h k => ?_) k
  refine L_scr dL_law_834 (fun l z h k => ?_) k
  refine G_aload_n dL_law_835 rfl (fun l z h k => ?_) k
  refine G_iload dL_law_836 (fun l z h k => ?_) k
  refine G_iconst dL_law_838 (by decide) (fun l z h k => ?_) k
  refine G_iadd dL_law_839 (fun l z h k => ?_) k
  refine L_scr dL_law_840 (fun l z h k => ?_) k
  exact G_cv2 (M := mL_law) (pc := 841) (bc := bc) (bs := bs) (cb := 0) (cs := 0) (M' := mX12_when) dL_law_841 rfl (by decide) w_1017 w_130 w_1014 w_1015 w_1016 (by decide +kernel) (fun _ _ _ k => k) k
theorem bL_law_844 {G : Gt} {X : Nat × Nat × (Nat → Int32)} {d bc bs : Nat} {l : Ls} {z : List Value} {h : Hp} (k : (tAld 2 (tAld 0 (tIld 4 (tPush (.int 1) (tB (fun x y => x + y) (tScr X (tAld 0 (tIld 4 (tPush (.int 2) (tB (fun x y => x + y) (tScr X (tCV2 G d 0 0 11 mX13_when (fun l z h => TG G (CL' G X) ZL d bc bs mL_law 860 l z h))))))))))))) l z h) : TG G (CL' G X) ZL d bc bs mL_law 844 l z h := by
  refine G_aload_n dL_law_844 rfl (fun l z h k => ?_) k
  refine G_aload_n dL_law_845 rfl (fun l z h k => ?_) k
  refine G_iload dL_law_846 (fun l z h k => ?_) k
  refine G_iconst dL_law_848 (by decide) (fun l z h k => ?_) k
  refine G_iadd dL_law_849 (fun l z h k => ?_) k
  refine L_scr dL_law_850 (fun l z h k => ?_) k
  refine G_aload_n dL_law_851 rfl (fun l z h k => ?_) k
  refine G_iload dL_law_852 (fun l z h k => ?_) k
  refine G_iconst dL_law_854 (by decide) (fun l z h k => ?_) k
  refine G_iadd dL_law_855 (fun l z h k => ?_) k
  refine L_scr dL_law_856 (fun l z h k => ?_) k
  exact G_cv2 (M := mL_law) (pc := 857) (bc := bc) (bs := bs) (cb := 0) (cs := 0) (M' := mX13_when) dL_law_857 rfl (by decide) w_1917 w_144 w_1914 w_1915 w_1916 (by decide +kernel) (fun _ _ _ k => k) k
theorem bL_law_860 {G : Gt} {X : Nat × Nat × (Nat → Int32)} {d bc bs : Nat} {l : Ls} {z : List Value} {h : Hp} (k : (tIf2 (fun x y => x = y) (fun l z h => TG G (CL' G X) ZL d bc bs mL_law 1355 l z h) (fun l z h => TG G (CL' G X) ZL d bc bs mL_law 863 l z h)) l z h) : TG G (CL' G X) ZL d bc bs mL_law 860 l z h := by
  exact G_icmp_eq dL_law_860 (by decide) (fun _ _ _ k => k) (fun _ _ _ k => k) k
theorem bL_law_863 {G : Gt} {X : Nat × Nat × (Nat → Int32)} {d bc bs : Nat} {l : Ls} {z : List Value} {h : Hp} (k : (tPush (.int 0) tFin) l z h) : TG G (CL' G X) ZL d bc bs mL_law 863 l z h := by
  refine G_iconst dL_law_863 (by decide) (fun l z h k => ?_) k
  exact L_ret dL_law_864 k
theorem bL_law_865 {G : Gt} {X : Nat × Nat × (Nat → Int32)} {d bc bs : Nat} {l : Ls} {z : List Value} {h : Hp} (k : (tAld 1 (tAld 0 (tIld 4 (tPush (.int 1) (tB (fun x y => x + y) (tScr X (tCV1 G d 0 0 10 mX12_teacher (fun l z h => TG G (CL' G X) ZL d bc bs mL_law 875 l z h)))))))) l z h) : TG G (CL' G X) ZL d bc bs mL_law 865 l z h := by
  refine G_aload_n dL_law_865 rfl (fun l z h k => ?_) k
  refine G_aload_n dL_law_866 rfl (fun l z h k => ?_) k
  refine G_iload dL_law_867 (fun l z h k => ?_) k
  refine G_iconst dL_law_869 (by decide) (fun l z h k => ?_) k
  refine G_iadd dL_law_870 (fun l z h k => ?_) k
  refine L_scr dL_law_871 (fun l z h k => ?_) k
  exact G_cv1 (M := mL_law) (pc := 872) (bc := bc) (bs := bs) (cb := 0) (cs := 0) (M' := mX12_teacher) dL_law_872 rfl (by decide) w_1032 w_130 w_1029 w_1030 w_1031 (by decide +kernel) (fun _ _ _ k => k) k
theorem bL_law_875 {G : Gt} {X : Nat × Nat × (Nat → Int32)} {d bc bs : Nat} {l : Ls} {z : List Value} {h : Hp} (k : (tAld 2 (tAld 0 (tIld 4 (tPush (.int 1) (tB (fun x y => x + y) (tScr X (tCV1 G d 0 0 11 mX13_teacher (fun l z h => TG G (CL' G X) ZL d bc bs mL_law 885 l z h)))))))) l z h) : TG G (CL' G X) ZL d bc bs mL_law 875 l z h := by
  refine G_aload_n dL_law_875 rfl (fun l z h k => ?_) k
  refine G_aload_n dL_law_876 rfl (fun l z h k => ?_) k
  refine G_iload dL_law_877 (fun l z h k => ?_) k
  refine G_iconst dL_law_879 (by decide) (fun l z h k => ?_) k
  refine G_iadd dL_law_880 (fun l z h k => ?_) k
  refine L_scr dL_law_881 (fun l z h k => ?_) k
  exact G_cv1 (M := mL_law) (pc := 882) (bc := bc) (bs := bs) (cb := 0) (cs := 0) (M' := mX13_teacher) dL_law_882 rfl (by decide) w_1933 w_144 w_1930 w_1931 w_1932 (by decide +kernel) (fun _ _ _ k => k) k
theorem bL_law_885 {G : Gt} {X : Nat × Nat × (Nat → Int32)} {d bc bs : Nat} {l : Ls} {z : List Value} {h : Hp} (k : (tIf2 (fun x y => x = y) (fun l z h => TG G (CL' G X) ZL d bc bs mL_law 1355 l z h) (fun l z h => TG G (CL' G X) ZL d bc bs mL_law 888 l z h)) l z h) : TG G (CL' G X) ZL d bc bs mL_law 885 l z h := by
  exact G_icmp_eq dL_law_885 (by decide) (fun _ _ _ k => k) (fun _ _ _ k => k) k
theorem bL_law_888 {G : Gt} {X : Nat × Nat × (Nat → Int32)} {d bc bs : Nat} {l : Ls} {z : List Value} {h : Hp} (k : (tPush (.int 0) tFin) l z h) : TG G (CL' G X) ZL d bc bs mL_law 888 l z h := by
  refine G_iconst dL_law_888 (by decide) (fun l z h k => ?_) k
  exact L_ret dL_law_889 k
theorem bL_law_890 {G : Gt} {X : Nat × Nat × (Nat → Int32)} {d bc bs : Nat} {l : Ls} {z : List Value} {h : Hp} (k : (tAld 1 (tCV0 G d 0 0 10 mX12_taught (fun l z h => TG G (CL' G X) ZL d bc bs mL_law 894 l z h))) l z h) : TG G (CL' G X) ZL d bc bs mL_law 890 l z h := by
  refine G_aload_n dL_law_890 rfl (fun l z h k => ?_) k
  exact G_cv0 (M := mL_law) (pc := 891) (bc := bc) (bs := bs) (cb := 0) (cs := 0) (M' := mX12_taught) dL_law_891 rfl (by decide) w_1041 w_130 w_1038 w_1039 w_1040 (by decide +kernel) (fun _ _ _ k => k) k
theorem bL_law_894 {G : Gt} {X : Nat × Nat × (Nat → Int32)} {d bc bs : Nat} {l : Ls} {z : List Value} {h : Hp} (k : (tAld 2 (tCV0 G d 0 0 11 mX13_taught (fun l z h => TG G (CL' G X) ZL d bc bs mL_law 898 l z h))) l z h) : TG G (CL' G X) ZL d bc bs mL_law 894 l z h := by
  refine G_aload_n dL_law_894 rfl (fun l z h k => ?_) k
  exact G_cv0 (M := mL_law) (pc := 895) (bc := bc) (bs := bs) (cb := 0) (cs := 0) (M' := mX13_taught) dL_law_895 rfl (by decide) w_1945 w_144 w_1942 w_1943 w_1944 (by decide +kernel) (fun _ _ _ k => k) k
theorem bL_law_898 {G : Gt} {X : Nat × Nat × (Nat → Int32)} {d bc bs : Nat} {l : Ls} {z : List Value} {h : Hp} (k : (tIf2 (fun x y => x = y) (fun l z h => TG G (CL' G X) ZL d bc bs mL_law 1355 l z h) (fun l z h => TG G (CL' G X) ZL d bc bs mL_law 901 l z h)) l z h) : TG G (CL' G X) ZL d bc bs mL_law 898 l z h := by
  exact G_icmp_eq dL_law_898 (by decide) (fun _ _ _ k => k) (fun _ _ _ k => k) k
theorem bL_law_901 {G : Gt} {X : Nat × Nat × (Nat → Int32)} {d bc bs : Nat} {l : Ls} {z : List Value} {h : Hp} (k : (tPush (.int 0) tFin) l z h) : TG G (CL' G X) ZL d bc bs mL_law 901 l z h := by
  refine G_iconst dL_law_901 (by decide) (fun l z h k => ?_) k
  exact L_ret dL_law_902 k
theorem bL_law_903 {G : Gt} {X : Nat × Nat × (Nat → Int32)} {d bc bs : Nat} {l : Ls} {z : List Value} {h : Hp} (k : (tAld 1 (tCV0 G d 0 0 10 mX12_school (fun l z h => TG G (CL' G X) ZL d bc bs mL_law 907 l z h))) l z h) : TG G (CL' G X) ZL d bc bs mL_law 903 l z h := by
  refine G_aload_n dL_law_903 rfl (fun l z h k => ?_) k
  exact G_cv0 (M := mL_law) (pc := 904) (bc := bc) (bs := bs) (cb := 0) (cs := 0) (M' := mX12_school) dL_law_904 rfl (by decide) w_1045 w_130 w_1042 w_1043 w_1044 (by decide +kernel) (fun _ _ _ k => k) k
theorem bL_law_907 {G : Gt} {X : Nat × Nat × (Nat → Int32)} {d bc bs : Nat} {l : Ls} {z : List Value} {h : Hp} (k : (tAld 2 (tCV0 G d 0 0 11 mX13_school (fun l z h => TG G (CL' G X) ZL d bc bs mL_law 911 l z h))) l z h) : TG G (CL' G X) ZL d bc bs mL_law 907 l z h := by
  refine G_aload_n dL_law_907 rfl (fun l z h k => ?_) k
  exact G_cv0 (M := mL_law) (pc := 908) (bc := bc) (bs := bs) (cb := 0) (cs := 0) (M' := mX13_school) dL_law_908 rfl (by decide) w_1949 w_144 w_1946 w_1947 w_1948 (by decide +kernel) (fun _ _ _ k => k) k
theorem bL_law_911 {G : Gt} {X : Nat × Nat × (Nat → Int32)} {d bc bs : Nat} {l : Ls} {z : List Value} {h : Hp} (k : (tIf2 (fun x y => x = y) (fun l z h => TG G (CL' G X) ZL d bc bs mL_law 1355 l z h) (fun l z h => TG G (CL' G X) ZL d bc bs mL_law 914 l z h)) l z h) : TG G (CL' G X) ZL d bc bs mL_law 911 l z h := by
  exact G_icmp_eq dL_law_911 (by decide) (fun _ _ _ k => k) (fun _ _ _ k => k) k
theorem bL_law_914 {G : Gt} {X : Nat × Nat × (Nat → Int32)} {d bc bs : Nat} {l : Ls} {z : List Value} {h : Hp} (k : (tPush (.int 0) tFin) l z h) : TG G (CL' G X) ZL d bc bs mL_law 914 l z h := by
  refine G_iconst dL_law_914 (by decide) (fun l z h k => ?_) k
  exact L_ret dL_law_915 k
theorem bL_law_916 {G : Gt} {X : Nat × Nat × (Nat → Int32)} {d bc bs : Nat} {l : Ls} {z : List Value} {h : Hp} (k : (tAld 1 (tAld 0 (tIld 4 (tPush (.int 1) (tB (fun x y => x + y) (tScr X (tCV1 G d 0 0 10 mX12_schooled (fun l z h => TG G (CL' G X) ZL d bc bs mL_law 926 l z h)))))))) l z h) : TG G (CL' G X) ZL d bc bs mL_law 916 l z h := by
  refine G_aload_n dL_law_916 rfl (fun l z h k => ?_) k
  refine G_aload_n dL_law_917 rfl (fun l z h k => ?_) k
  refine G_iload dL_law_918 (fun l z h k => ?_) k
  refine G_iconst dL_law_920 (by decide) (fun l z h k => ?_) k
  refine G_iadd dL_law_921 (fun l z h k => ?_) k
  refine L_scr dL_law_922 (fun l z h k => ?_) k
  exact G_cv1 (M := mL_law) (pc := 923) (bc := bc) (bs := bs) (cb := 0) (cs := 0) (M' := mX12_schooled) dL_law_923 rfl (by decide) w_1064 w_130 w_1061 w_1062 w_1063 (by decide +kernel) (fun _ _ _ k => k) k
theorem bL_law_926 {G : Gt} {X : Nat × Nat × (Nat → Int32)} {d bc bs : Nat} {l : Ls} {z : List Value} {h : Hp} (k : (tAld 2 (tAld 0 (tIld 4 (tPush (.int 1) (tB (fun x y => x + y) (tScr X (tCV1 G d 0 0 11 mX13_schooled (fun l z h => TG G (CL' G X) ZL d bc bs mL_law 936 l z h)))))))) l z h) : TG G (CL' G X) ZL d bc bs mL_law 926 l z h := by
  refine G_aload_n dL_law_926 rfl (fun l z h k => ?_) k
  refine G_aload_n dL_law_927 rfl (fun l z h k => ?_) k
  refine G_iload dL_law_928 (fun l z h k => ?_) k
  refine G_iconst dL_law_930 (by decide) (fun l z h k => ?_) k
  refine G_iadd dL_law_931 (fun l z h k => ?_) k
  refine L_scr dL_law_932 (fun l z h k => ?_) k
  exact G_cv1 (M := mL_law) (pc := 933) (bc := bc) (bs := bs) (cb := 0) (cs := 0) (M' := mX13_schooled) dL_law_933 rfl (by decide) w_1960 w_144 w_1957 w_1958 w_1959 (by decide +kernel) (fun _ _ _ k => k) k
theorem bL_law_936 {G : Gt} {X : Nat × Nat × (Nat → Int32)} {d bc bs : Nat} {l : Ls} {z : List Value} {h : Hp} (k : (tIf2 (fun x y => x = y) (fun l z h => TG G (CL' G X) ZL d bc bs mL_law 1355 l z h) (fun l z h => TG G (CL' G X) ZL d bc bs mL_law 939 l z h)) l z h) : TG G (CL' G X) ZL d bc bs mL_law 936 l z h := by
  exact G_icmp_eq dL_law_936 (by decide) (fun _ _ _ k => k) (fun _ _ _ k => k) k
theorem bL_law_939 {G : Gt} {X : Nat × Nat × (Nat → Int32)} {d bc bs : Nat} {l : Ls} {z : List Value} {h : Hp} (k : (tPush (.int 0) tFin) l z h) : TG G (CL' G X) ZL d bc bs mL_law 939 l z h := by
  refine G_iconst dL_law_939 (by decide) (fun l z h k => ?_) k
  exact L_ret dL_law_940 k
theorem bL_law_941 {G : Gt} {X : Nat × Nat × (Nat → Int32)} {d bc bs : Nat} {l : Ls} {z : List Value} {h : Hp} (k : (tAld 1 (tCV0 G d 0 0 10 mX12_laws (fun l z h => TG G (CL' G X) ZL d bc bs mL_law 945 l z h))) l z h) : TG G (CL' G X) ZL d bc bs mL_law 941 l z h := by
  refine G_aload_n dL_law_941 rfl (fun l z h k => ?_) k
  exact G_cv0 (M := mL_law) (pc := 942) (bc := bc) (bs := bs) (cb := 0) (cs := 0) (M' := mX12_laws) dL_law_942 rfl (by decide) w_1072 w_130 w_1069 w_1070 w_1071 (by decide +kernel) (fun _ _ _ k => k) k
theorem bL_law_945 {G : Gt} {X : Nat × Nat × (Nat → Int32)} {d bc bs : Nat} {l : Ls} {z : List Value} {h : Hp} (k : (tAld 2 (tCV0 G d 0 0 11 mX13_laws (fun l z h => TG G (CL' G X) ZL d bc bs mL_law 949 l z h))) l z h) : TG G (CL' G X) ZL d bc bs mL_law 945 l z h := by
  refine G_aload_n dL_law_945 rfl (fun l z h k => ?_) k
  exact G_cv0 (M := mL_law) (pc := 946) (bc := bc) (bs := bs) (cb := 0) (cs := 0) (M' := mX13_laws) dL_law_946 rfl (by decide) w_1964 w_144 w_1961 w_1962 w_1963 (by decide +kernel) (fun _ _ _ k => k) k
theorem bL_law_949 {G : Gt} {X : Nat × Nat × (Nat → Int32)} {d bc bs : Nat} {l : Ls} {z : List Value} {h : Hp} (k : (tIf2 (fun x y => x = y) (fun l z h => TG G (CL' G X) ZL d bc bs mL_law 1355 l z h) (fun l z h => TG G (CL' G X) ZL d bc bs mL_law 952 l z h)) l z h) : TG G (CL' G X) ZL d bc bs mL_law 949 l z h := by
  exact G_icmp_eq dL_law_949 (by decide) (fun _ _ _ k => k) (fun _ _ _ k => k) k
theorem bL_law_952 {G : Gt} {X : Nat × Nat × (Nat → Int32)} {d bc bs : Nat} {l : Ls} {z : List Value} {h : Hp} (k : (tPush (.int 0) tFin) l z h) : TG G (CL' G X) ZL d bc bs mL_law 952 l z h := by
  refine G_iconst dL_law_952 (by decide) (fun l z h k => ?_) k
  exact L_ret dL_law_953 k
theorem bL_law_954 {G : Gt} {X : Nat × Nat × (Nat → Int32)} {d bc bs : Nat} {l : Ls} {z : List Value} {h : Hp} (k : (tAld 1 (tCV0 G d 0 0 10 mX12_smallest (fun l z h => TG G (CL' G X) ZL d bc bs mL_law 958 l z h))) l z h) : TG G (CL' G X) ZL d bc bs mL_law 954 l z h := by
  refine G_aload_n dL_law_954 rfl (fun l z h k => ?_) k
  exact G_cv0 (M := mL_law) (pc := 955) (bc := bc) (bs := bs) (cb := 0) (cs := 0) (M' := mX12_smallest) dL_law_955 rfl (by decide) w_1111 w_130 w_1108 w_1109 w_1110 (by decide +kernel) (fun _ _ _ k => k) k
theorem bL_law_958 {G : Gt} {X : Nat × Nat × (Nat → Int32)} {d bc bs : Nat} {l : Ls} {z : List Value} {h : Hp} (k : (tAld 2 (tCV0 G d 0 0 11 mX13_smallest (fun l z h => TG G (CL' G X) ZL d bc bs mL_law 962 l z h))) l z h) : TG G (CL' G X) ZL d bc bs mL_law 958 l z h := by
  refine G_aload_n dL_law_958 rfl (fun l z h k => ?_) k
  exact G_cv0 (M := mL_law) (pc := 959) (bc := bc) (bs := bs) (cb := 0) (cs := 0) (M' := mX13_smallest) dL_law_959 rfl (by decide) w_1979 w_144 w_1976 w_1977 w_1978 (by decide +kernel) (fun _ _ _ k => k) k
theorem bL_law_962 {G : Gt} {X : Nat × Nat × (Nat → Int32)} {d bc bs : Nat} {l : Ls} {z : List Value} {h : Hp} (k : (tIf2 (fun x y => x = y) (fun l z h => TG G (CL' G X) ZL d bc bs mL_law 1355 l z h) (fun l z h => TG G (CL' G X) ZL d bc bs mL_law 965 l z h)) l z h) : TG G (CL' G X) ZL d bc bs mL_law 962 l z h := by
  exact G_icmp_eq dL_law_962 (by decide) (fun _ _ _ k => k) (fun _ _ _ k => k) k
theorem bL_law_965 {G : Gt} {X : Nat × Nat × (Nat → Int32)} {d bc bs : Nat} {l : Ls} {z : List Value} {h : Hp} (k : (tPush (.int 0) tFin) l z h) : TG G (CL' G X) ZL d bc bs mL_law 965 l z h := by
  refine G_iconst dL_law_965 (by decide) (fun l z h k => ?_) k
  exact L_ret dL_law_966 k
theorem bL_law_967 {G : Gt} {X : Nat × Nat × (Nat → Int32)} {d bc bs : Nat} {l : Ls} {z : List Value} {h : Hp} (k : (tAld 1 (tCV0 G d 0 0 10 mX12_offer (fun l z h => TG G (CL' G X) ZL d bc bs mL_law 971 l z h))) l z h) : TG G (CL' G X) ZL d bc bs mL_law 967 l z h := by
  refine G_aload_n dL_law_967 rfl (fun l z h k => ?_) k
  exact G_cv0 (M := mL_law) (pc := 968) (bc := bc) (bs := bs) (cb := 0) (cs := 0) (M' := mX12_offer) dL_law_968 rfl (by decide) w_1115 w_130 w_1112 w_1113 w_1114 (by decide +kernel) (fun _ _ _ k => k) k
theorem bL_law_971 {G : Gt} {X : Nat × Nat × (Nat → Int32)} {d bc bs : Nat} {l : Ls} {z : List Value} {h : Hp} (k : (tAld 2 (tCV0 G d 0 0 11 mX13_offer (fun l z h => TG G (CL' G X) ZL d bc bs mL_law 975 l z h))) l z h) : TG G (CL' G X) ZL d bc bs mL_law 971 l z h := by
  refine G_aload_n dL_law_971 rfl (fun l z h k => ?_) k
  exact G_cv0 (M := mL_law) (pc := 972) (bc := bc) (bs := bs) (cb := 0) (cs := 0) (M' := mX13_offer) dL_law_972 rfl (by decide) w_1983 w_144 w_1980 w_1981 w_1982 (by decide +kernel) (fun _ _ _ k => k) k
theorem bL_law_975 {G : Gt} {X : Nat × Nat × (Nat → Int32)} {d bc bs : Nat} {l : Ls} {z : List Value} {h : Hp} (k : (tIf2 (fun x y => x = y) (fun l z h => TG G (CL' G X) ZL d bc bs mL_law 1355 l z h) (fun l z h => TG G (CL' G X) ZL d bc bs mL_law 978 l z h)) l z h) : TG G (CL' G X) ZL d bc bs mL_law 975 l z h := by
  exact G_icmp_eq dL_law_975 (by decide) (fun _ _ _ k => k) (fun _ _ _ k => k) k
theorem bL_law_978 {G : Gt} {X : Nat × Nat × (Nat → Int32)} {d bc bs : Nat} {l : Ls} {z : List Value} {h : Hp} (k : (tPush (.int 0) tFin) l z h) : TG G (CL' G X) ZL d bc bs mL_law 978 l z h := by
  refine G_iconst dL_law_978 (by decide) (fun l z h k => ?_) k
  exact L_ret dL_law_979 k
theorem bL_law_980 {G : Gt} {X : Nat × Nat × (Nat → Int32)} {d bc bs : Nat} {l : Ls} {z : List Value} {h : Hp} (k : (tAld 1 (tAld 0 (tIld 4 (tPush (.int 1) (tB (fun x y => x + y) (tScr X (tCV1 G d 0 0 10 mX12_sham (fun l z h => TG G (CL' G X) ZL d bc bs mL_law 990 l z h)))))))) l z h) : TG G (CL' G X) ZL d bc bs mL_law 980 l z h := by
  refine G_aload_n dL_law_980 rfl (fun l z h k => ?_) k
  refine G_aload_n dL_law_981 rfl (fun l z h k => ?_) k
  refine G_iload dL_law_982 (fun l z h k => ?_) k
  refine G_iconst dL_law_984 (by decide) (fun l z h k => ?_) k
  refine G_iadd dL_law_985 (fun l z h k => ?_) k
  refine L_scr dL_law_986 (fun l z h k => ?_) k
  exact G_cv1 (M := mL_law) (pc := 987) (bc := bc) (bs := bs) (cb := 0) (cs := 0) (M' := mX12_sham) dL_law_987 rfl (by decide) w_1119 w_130 w_1116 w_1117 w_1118 (by decide +kernel) (fun _ _ _ k => k) k
theorem bL_law_990 {G : Gt} {X : Nat × Nat × (Nat → Int32)} {d bc bs : Nat} {l : Ls} {z : List Value} {h : Hp} (k : (tAld 2 (tAld 0 (tIld 4 (tPush (.int 1) (tB (fun x y => x + y) (tScr X (tCV1 G d 0 0 11 mX13_sham (fun l z h => TG G (CL' G X) ZL d bc bs mL_law 1000 l z h)))))))) l z h) : TG G (CL' G X) ZL d bc bs mL_law 990 l z h := by
  refine G_aload_n dL_law_990 rfl (fun l z h k => ?_) k
  refine G_aload_n dL_law_991 rfl (fun l z h k => ?_) k
  refine G_iload dL_law_992 (fun l z h k => ?_) k
  refine G_iconst dL_law_994 (by decide) (fun l z h k => ?_) k
  refine G_iadd dL_law_995 (fun l z h k => ?_) k
  refine L_scr dL_law_996 (fun l z h k => ?_) k
  exact G_cv1 (M := mL_law) (pc := 997) (bc := bc) (bs := bs) (cb := 0) (cs := 0) (M' := mX13_sham) dL_law_997 rfl (by decide) w_1987 w_144 w_1984 w_1985 w_1986 (by decide +kernel) (fun _ _ _ k => k) k
theorem bL_law_1000 {G : Gt} {X : Nat × Nat × (Nat → Int32)} {d bc bs : Nat} {l : Ls} {z : List Value} {h : Hp} (k : (tIf2 (fun x y => x = y) (fun l z h => TG G (CL' G X) ZL d bc bs mL_law 1355 l z h) (fun l z h => TG G (CL' G X) ZL d bc bs mL_law 1003 l z h)) l z h) : TG G (CL' G X) ZL d bc bs mL_law 1000 l z h := by
  exact G_icmp_eq dL_law_1000 (by decide) (fun _ _ _ k => k) (fun _ _ _ k => k) k
theorem bL_law_1003 {G : Gt} {X : Nat × Nat × (Nat → Int32)} {d bc bs : Nat} {l : Ls} {z : List Value} {h : Hp} (k : (tPush (.int 0) tFin) l z h) : TG G (CL' G X) ZL d bc bs mL_law 1003 l z h := by
  refine G_iconst dL_law_1003 (by decide) (fun l z h k => ?_) k
  exact L_ret dL_law_1004 k
theorem bL_law_1005 {G : Gt} {X : Nat × Nat × (Nat → Int32)} {d bc bs : Nat} {l : Ls} {z : List Value} {h : Hp} (k : (tAld 1 (tCV0 G d 0 0 10 mX12_rush (fun l z h => TG G (CL' G X) ZL d bc bs mL_law 1009 l z h))) l z h) : TG G (CL' G X) ZL d bc bs mL_law 1005 l z h := by
  refine G_aload_n dL_law_1005 rfl (fun l z h k => ?_) k
  exact G_cv0 (M := mL_law) (pc := 1006) (bc := bc) (bs := bs) (cb := 0) (cs := 0) (M' := mX12_rush) dL_law_1006 rfl (by decide) w_1131 w_130 w_1128 w_1129 w_1130 (by decide +kernel) (fun _ _ _ k => k) k
theorem bL_law_1009 {G : Gt} {X : Nat × Nat × (Nat → Int32)} {d bc bs : Nat} {l : Ls} {z : List Value} {h : Hp} (k : (tAld 2 (tCV0 G d 0 0 11 mX13_rush (fun l z h => TG G (CL' G X) ZL d bc bs mL_law 1013 l z h))) l z h) : TG G (CL' G X) ZL d bc bs mL_law 1009 l z h := by
  refine G_aload_n dL_law_1009 rfl (fun l z h k => ?_) k
  exact G_cv0 (M := mL_law) (pc := 1010) (bc := bc) (bs := bs) (cb := 0) (cs := 0) (M' := mX13_rush) dL_law_1010 rfl (by decide) w_1991 w_144 w_1988 w_1989 w_1990 (by decide +kernel) (fun _ _ _ k => k) k
theorem bL_law_1013 {G : Gt} {X : Nat × Nat × (Nat → Int32)} {d bc bs : Nat} {l : Ls} {z : List Value} {h : Hp} (k : (tIf2 (fun x y => x = y) (fun l z h => TG G (CL' G X) ZL d bc bs mL_law 1355 l z h) (fun l z h => TG G (CL' G X) ZL d bc bs mL_law 1016 l z h)) l z h) : TG G (CL' G X) ZL d bc bs mL_law 1013 l z h := by
  exact G_icmp_eq dL_law_1013 (by decide) (fun _ _ _ k => k) (fun _ _ _ k => k) k
theorem bL_law_1016 {G : Gt} {X : Nat × Nat × (Nat → Int32)} {d bc bs : Nat} {l : Ls} {z : List Value} {h : Hp} (k : (tPush (.int 0) tFin) l z h) : TG G (CL' G X) ZL d bc bs mL_law 1016 l z h := by
  refine G_iconst dL_law_1016 (by decide) (fun l z h k => ?_) k
  exact L_ret dL_law_1017 k
theorem bL_law_1018 {G : Gt} {X : Nat × Nat × (Nat → Int32)} {d bc bs : Nat} {l : Ls} {z : List Value} {h : Hp} (k : (tAld 1 (tCV0 G d 0 0 10 mX12_crowd (fun l z h => TG G (CL' G X) ZL d bc bs mL_law 1022 l z h))) l z h) : TG G (CL' G X) ZL d bc bs mL_law 1018 l z h := by
  refine G_aload_n dL_law_1018 rfl (fun l z h k => ?_) k
  exact G_cv0 (M := mL_law) (pc := 1019) (bc := bc) (bs := bs) (cb := 0) (cs := 0) (M' := mX12_crowd) dL_law_1019 rfl (by decide) w_1150 w_130 w_1147 w_1148 w_1149 (by decide +kernel) (fun _ _ _ k => k) k
theorem bL_law_1022 {G : Gt} {X : Nat × Nat × (Nat → Int32)} {d bc bs : Nat} {l : Ls} {z : List Value} {h : Hp} (k : (tAld 2 (tCV0 G d 0 0 11 mX13_crowd (fun l z h => TG G (CL' G X) ZL d bc bs mL_law 1026 l z h))) l z h) : TG G (CL' G X) ZL d bc bs mL_law 1022 l z h := by
  refine G_aload_n dL_law_1022 rfl (fun l z h k => ?_) k
  exact G_cv0 (M := mL_law) (pc := 1023) (bc := bc) (bs := bs) (cb := 0) (cs := 0) (M' := mX13_crowd) dL_law_1023 rfl (by decide) w_2007 w_144 w_2004 w_2005 w_2006 (by decide +kernel) (fun _ _ _ k => k) k
theorem bL_law_1026 {G : Gt} {X : Nat × Nat × (Nat → Int32)} {d bc bs : Nat} {l : Ls} {z : List Value} {h : Hp} (k : (tIf2 (fun x y => x = y) (fun l z h => TG G (CL' G X) ZL d bc bs mL_law 1355 l z h) (fun l z h => TG G (CL' G X) ZL d bc bs mL_law 1029 l z h)) l z h) : TG G (CL' G X) ZL d bc bs mL_law 1026 l z h := by
  exact G_icmp_eq dL_law_1026 (by decide) (fun _ _ _ k => k) (fun _ _ _ k => k) k
theorem bL_law_1029 {G : Gt} {X : Nat × Nat × (Nat → Int32)} {d bc bs : Nat} {l : Ls} {z : List Value} {h : Hp} (k : (tPush (.int 0) tFin) l z h) : TG G (CL' G X) ZL d bc bs mL_law 1029 l z h := by
  refine G_iconst dL_law_1029 (by decide) (fun l z h k => ?_) k
  exact L_ret dL_law_1030 k
theorem bL_law_1031 {G : Gt} {X : Nat × Nat × (Nat → Int32)} {d bc bs : Nat} {l : Ls} {z : List Value} {h : Hp} (k : (tAld 1 (tAld 0 (tIld 4 (tPush (.int 1) (tB (fun x y => x + y) (tScr X (tCV1 G d 0 0 10 mX12_eased (fun l z h => TG G (CL' G X) ZL d bc bs mL_law 1041 l z h)))))))) l z h) : TG G (CL' G X) ZL d bc bs mL_law 1031 l z h := by
  refine G_aload_n dL_law_1031 rfl (fun l z h k => ?_) k
  refine G_aload_n dL_law_1032 rfl (fun l z h k => ?_) k
  refine G_iload dL_law_1033 (fun l z h k => ?_) k
  refine G_iconst dL_law_1035 (by decide) (fun l z h k => ?_) k
  refine G_iadd dL_law_1036 (fun l z h k => ?_) k
  refine L_scr dL_law_1037 (fun l z h k => ?_) k
  exact G_cv1 (M := mL_law) (pc := 1038) (bc := bc) (bs := bs) (cb := 0) (cs := 0) (M' := mX12_eased) dL_law_1038 rfl (by decide) w_1154 w_130 w_1151 w_1152 w_1153 (by decide +kernel) (fun _ _ _ k => k) k
theorem bL_law_1041 {G : Gt} {X : Nat × Nat × (Nat → Int32)} {d bc bs : Nat} {l : Ls} {z : List Value} {h : Hp} (k : (tAld 2 (tAld 0 (tIld 4 (tPush (.int 1) (tB (fun x y => x + y) (tScr X (tCV1 G d 0 0 11 mX13_eased (fun l z h => TG G (CL' G X) ZL d bc bs mL_law 1051 l z h)))))))) l z h) : TG G (CL' G X) ZL d bc bs mL_law 1041 l z h := by
  refine G_aload_n dL_law_1041 rfl (fun l z h k => ?_) k
  refine G_aload_n dL_law_1042 rfl (fun l z h k => ?_) k
  refine G_iload dL_law_1043 (fun l z h k => ?_) k
  refine G_iconst dL_law_1045 (by decide) (fun l z h k => ?_) k
  refine G_iadd dL_law_1046 (fun l z h k => ?_) k
  refine L_scr dL_law_1047 (fun l z h k => ?_) k
  exact G_cv1 (M := mL_law) (pc := 1048) (bc := bc) (bs := bs) (cb := 0) (cs := 0) (M' := mX13_eased) dL_law_1048 rfl (by decide) w_2011 w_144 w_2008 w_2009 w_2010 (by decide +kernel) (fun _ _ _ k => k) k
theorem bL_law_1051 {G : Gt} {X : Nat × Nat × (Nat → Int32)} {d bc bs : Nat} {l : Ls} {z : List Value} {h : Hp} (k : (tIf2 (fun x y => x = y) (fun l z h => TG G (CL' G X) ZL d bc bs mL_law 1355 l z h) (fun l z h => TG G (CL' G X) ZL d bc bs mL_law 1054 l z h)) l z h) : TG G (CL' G X) ZL d bc bs mL_law 1051 l z h := by
  exact G_icmp_eq dL_law_1051 (by decide) (fun _ _ _ k => k) (fun _ _ _ k => k) k
theorem bL_law_1054 {G : Gt} {X : Nat × Nat × (Nat → Int32)} {d bc bs : Nat} {l : Ls} {z : List Value} {h : Hp} (k : (tPush (.int 0) tFin) l z h) : TG G (CL' G X) ZL d bc bs mL_law 1054 l z h := by
  refine G_iconst dL_law_1054 (by decide) (fun l z h k => ?_) k
  exact L_ret dL_law_1055 k
theorem bL_law_1056 {G : Gt} {X : Nat × Nat × (Nat → Int32)} {d bc bs : Nat} {l : Ls} {z : List Value} {h : Hp} (k : (tAld 1 (tAld 0 (tIld 4 (tPush (.int 1) (tB (fun x y => x + y) (tScr X (tCV1 G d 0 0 10 mX12_pass (fun l z h => TG G (CL' G X) ZL d bc bs mL_law 1066 l z h)))))))) l z h) : TG G (CL' G X) ZL d bc bs mL_law 1056 l z h := by
  refine G_aload_n dL_law_1056 rfl (fun l z h k => ?_) k
  refine G_aload_n dL_law_1057 rfl (fun l z h k => ?_) k
  refine G_iload dL_law_1058 (fun l z h k => ?_) k
  refine G_iconst dL_law_1060 (by decide) (fun l z h k => ?_) k
  refine G_iadd dL_law_1061 (fun l z h k => ?_) k
  refine L_scr dL_law_1062 (fun l z h k => ?_) k
  exact G_cv1 (M := mL_law) (pc := 1063) (bc := bc) (bs := bs) (cb := 0) (cs := 0) (M' := mX12_pass) dL_law_1063 rfl (by decide) w_1172 w_130 w_1169 w_1170 w_1171 (by decide +kernel) (fun _ _ _ k => k) k
theorem bL_law_1066 {G : Gt} {X : Nat × Nat × (Nat → Int32)} {d bc bs : Nat} {l : Ls} {z : List Value} {h : Hp} (k : (tAld 2 (tAld 0 (tIld 4 (tPush (.int 1) (tB (fun x y => x + y) (tScr X (tCV1 G d 0 0 11 mX13_pass (fun l z h => TG G (CL' G X) ZL d bc bs mL_law 1076 l z h)))))))) l z h) : TG G (CL' G X) ZL d bc bs mL_law 1066 l z h := by
  refine G_aload_n dL_law_1066 rfl (fun l z h k => ?_) k
  refine G_aload_n dL_law_1067 rfl (fun l z h k => ?_) k
  refine G_iload dL_law_1068 (fun l z h k => ?_) k
  refine G_iconst dL_law_1070 (by decide) (fun l z h k => ?_) k
  refine G_iadd dL_law_1071 (fun l z h k => ?_) k
  refine L_scr dL_law_1072 (fun l z h k => ?_) k
  exact G_cv1 (M := mL_law) (pc := 1073) (bc := bc) (bs := bs) (cb := 0) (cs := 0) (M' := mX13_pass) dL_law_1073 rfl (by decide) w_2015 w_144 w_2012 w_2013 w_2014 (by decide +kernel) (fun _ _ _ k => k) k
theorem bL_law_1076 {G : Gt} {X : Nat × Nat × (Nat → Int32)} {d bc bs : Nat} {l : Ls} {z : List Value} {h : Hp} (k : (tIf2 (fun x y => x = y) (fun l z h => TG G (CL' G X) ZL d bc bs mL_law 1355 l z h) (fun l z h => TG G (CL' G X) ZL d bc bs mL_law 1079 l z h)) l z h) : TG G (CL' G X) ZL d bc bs mL_law 1076 l z h := by
  exact G_icmp_eq dL_law_1076 (by decide) (fun _ _ _ k => k) (fun _ _ _ k => k) k
theorem bL_law_1079 {G : Gt} {X : Nat × Nat × (Nat → Int32)} {d bc bs : Nat} {l : Ls} {z : List Value} {h : Hp} (k : (tPush (.int 0) tFin) l z h) : TG G (CL' G X) ZL d bc bs mL_law 1079 l z h := by
  refine G_iconst dL_law_1079 (by decide) (fun l z h k => ?_) k
  exact L_ret dL_law_1080 k
theorem bL_law_1081 {G : Gt} {X : Nat × Nat × (Nat → Int32)} {d bc bs : Nat} {l : Ls} {z : List Value} {h : Hp} (k : (tAld 1 (tAld 0 (tIld 4 (tPush (.int 1) (tB (fun x y => x + y) (tScr X (tCV1 G d 0 0 10 mX12_byteAt (fun l z h => TG G (CL' G X) ZL d bc bs mL_law 1091 l z h)))))))) l z h) : TG G (CL' G X) ZL d bc bs mL_law 1081 l z h := by
  refine G_aload_n dL_law_1081 rfl (fun l z h k => ?_) k
  refine G_aload_n dL_law_1082 rfl (fun l z h k => ?_) k
  refine G_iload dL_law_1083 (fun l z h k => ?_) k
  refine G_iconst dL_law_1085 (by decide) (fun l z h k => ?_) k
  refine G_iadd dL_law_1086 (fun l z h k => ?_) k
  refine L_scr dL_law_1087 (fun l z h k => ?_) k
  exact G_cv1 (M := mL_law) (pc := 1088) (bc := bc) (bs := bs) (cb := 0) (cs := 0) (M' := mX12_byteAt) dL_law_1088 rfl (by decide) w_1198 w_130 w_1195 w_1196 w_1197 (by decide +kernel) (fun _ _ _ k => k) k
theorem bL_law_1091 {G : Gt} {X : Nat × Nat × (Nat → Int32)} {d bc bs : Nat} {l : Ls} {z : List Value} {h : Hp} (k : (tAld 2 (tAld 0 (tIld 4 (tPush (.int 1) (tB (fun x y => x + y) (tScr X (tCV1 G d 0 0 11 mX13_byteAt (fun l z h => TG G (CL' G X) ZL d bc bs mL_law 1101 l z h)))))))) l z h) : TG G (CL' G X) ZL d bc bs mL_law 1091 l z h := by
  refine G_aload_n dL_law_1091 rfl (fun l z h k => ?_) k
  refine G_aload_n dL_law_1092 rfl (fun l z h k => ?_) k
  refine G_iload dL_law_1093 (fun l z h k => ?_) k
  refine G_iconst dL_law_1095 (by decide) (fun l z h k => ?_) k
  refine G_iadd dL_law_1096 (fun l z h k => ?_) k
  refine L_scr dL_law_1097 (fun l z h k => ?_) k
  exact G_cv1 (M := mL_law) (pc := 1098) (bc := bc) (bs := bs) (cb := 0) (cs := 0) (M' := mX13_byteAt) dL_law_1098 rfl (by decide) w_2035 w_144 w_2032 w_2033 w_2034 (by decide +kernel) (fun _ _ _ k => k) k
theorem bL_law_1101 {G : Gt} {X : Nat × Nat × (Nat → Int32)} {d bc bs : Nat} {l : Ls} {z : List Value} {h : Hp} (k : (tIf2 (fun x y => x = y) (fun l z h => TG G (CL' G X) ZL d bc bs mL_law 1355 l z h) (fun l z h => TG G (CL' G X) ZL d bc bs mL_law 1104 l z h)) l z h) : TG G (CL' G X) ZL d bc bs mL_law 1101 l z h := by
  exact G_icmp_eq dL_law_1101 (by decide) (fun _ _ _ k => k) (fun _ _ _ k => k) k
theorem bL_law_1104 {G : Gt} {X : Nat × Nat × (Nat → Int32)} {d bc bs : Nat} {l : Ls} {z : List Value} {h : Hp} (k : (tPush (.int 0) tFin) l z h) : TG G (CL' G X) ZL d bc bs mL_law 1104 l z h := by
  refine G_iconst dL_law_1104 (by decide) (fun l z h k => ?_) k
  exact L_ret dL_law_1105 k
theorem bL_law_1106 {G : Gt} {X : Nat × Nat × (Nat → Int32)} {d bc bs : Nat} {l : Ls} {z : List Value} {h : Hp} (k : (tAld 1 (tAld 0 (tIld 4 (tPush (.int 1) (tB (fun x y => x + y) (tScr X (tAld 0 (tIld 4 (tPush (.int 2) (tB (fun x y => x + y) (tScr X (tCV2 G d 0 0 10 mX12_drawn (fun l z h => TG G (CL' G X) ZL d bc bs mL_law 1122 l z h))))))))))))) l z h) : TG G (CL' G X) ZL d bc bs mL_law 1106 l z h := by
  refine G_aload_n dL_law_1106 rfl (fun l z h k => ?_) k
  refine G_aload_n dL_law_1107 rfl (fun l z h k => ?_) k
  refine G_iload dL_law_1108 (fun l z h k => ?_) k
  refine G_iconst dL_law_1110 (by decide) (fun l z h k => ?_) k
  refine G_iadd dL_law_1111 (fun l z h k => ?_) k
  refine L_scr dL_law_1112 (fun l z h k => ?_) k
  refine G_aload_n dL_law_1113 rfl (fun l z h k => ?_) k
  refine G_iload dL_law_1114 (fun l z h k => ?_) k
  refine G_iconst dL_law_1116 (by decide) (fun l z h k => ?_) k
  refine G_iadd dL_law_1117 (fun l z h k => ?_) k
  refine L_scr dL_law_1118 (fun l z h k => ?_) k
  exact G_cv2 (M := mL_law) (pc := 1119) (bc := bc) (bs := bs) (cb := 0) (cs := 0) (M' := mX12_drawn) dL_law_1119 rfl (by decide) w_968 w_130 w_965 w_966 w_967 (by decide +kernel) (fun _ _ _ k => k) k
theorem bL_law_1122 {G : Gt} {X : Nat × Nat × (Nat → Int32)} {d bc bs : Nat} {l : Ls} {z : List Value} {h : Hp} (k : (tAld 2 (tAld 0 (tIld 4 (tPush (.int 1) (tB (fun x y => x + y) (tScr X (tAld 0 (tIld 4 (tPush (.int 2) (tB (fun x y => x + y) (tScr X (tCV2 G d 0 0 11 mX13_drawn (fun l z h => TG G (CL' G X) ZL d bc bs mL_law 1138 l z h))))))))))))) l z h) : TG G (CL' G X) ZL d bc bs mL_law 1122 l z h := by
  refine G_aload_n dL_law_1122 rfl (fun l z h k => ?_) k
  refine G_aload_n dL_law_1123 rfl (fun l z h k => ?_) k
  refine G_iload dL_law_1124 (fun l z h k => ?_) k
  refine G_iconst dL_law_1126 (by decide) (fun l z h k => ?_) k
  refine G_iadd dL_law_1127 (fun l z h k => ?_) k
  refine L_scr dL_law_1128 (fun l z h k => ?_) k
  refine G_aload_n dL_law_1129 rfl (fun l z h k => ?_) k
  refine G_iload dL_law_1130 (fun l z h k => ?_) k
  refine G_iconst dL_law_1132 (by decide) (fun l z h k => ?_) k
  refine G_iadd dL_law_1133 (fun l z h k => ?_) k
  refine L_scr dL_law_1134 (fun l z h k => ?_) k
  exact G_cv2 (M := mL_law) (pc := 1135) (bc := bc) (bs := bs) (cb := 0) (cs := 0) (M' := mX13_drawn) dL_law_1135 rfl (by decide) w_2039 w_144 w_2036 w_2037 w_2038 (by decide +kernel) (fun _ _ _ k => k) k
theorem bL_law_1138 {G : Gt} {X : Nat × Nat × (Nat → Int32)} {d bc bs : Nat} {l : Ls} {z : List Value} {h : Hp} (k : (tIf2 (fun x y => x = y) (fun l z h => TG G (CL' G X) ZL d bc bs mL_law 1355 l z h) (fun l z h => TG G (CL' G X) ZL d bc bs mL_law 1141 l z h)) l z h) : TG G (CL' G X) ZL d bc bs mL_law 1138 l z h := by
  exact G_icmp_eq dL_law_1138 (by decide) (fun _ _ _ k => k) (fun _ _ _ k => k) k
theorem bL_law_1141 {G : Gt} {X : Nat × Nat × (Nat → Int32)} {d bc bs : Nat} {l : Ls} {z : List Value} {h : Hp} (k : (tPush (.int 0) tFin) l z h) : TG G (CL' G X) ZL d bc bs mL_law 1141 l z h := by
  refine G_iconst dL_law_1141 (by decide) (fun l z h k => ?_) k
  exact L_ret dL_law_1142 k
theorem bL_law_1143 {G : Gt} {X : Nat × Nat × (Nat → Int32)} {d bc bs : Nat} {l : Ls} {z : List Value} {h : Hp} (k : (tAld 1 (tAld 0 (tIld 4 (tPush (.int 1) (tB (fun x y => x + y) (tScr X (tAld 0 (tIld 4 (tPush (.int 2) (tB (fun x y => x + y) (tScr X (tAld 0 (tIld 4 (tPush (.int 3) (tB (fun x y => x + y) (tScr X (tCV3 G d 0 0 10 mX12_odds (fun l z h => TG G (CL' G X) ZL d bc bs mL_law 1165 l z h)))))))))))))))))) l z h) : TG G (CL' G X) ZL d bc bs mL_law 1143 l z h := by
  refine G_aload_n dL_law_1143 rfl (fun l z h k => ?_) k
  refine G_aload_n dL_law_1144 rfl (fun l z h k => ?_) k
  refine G_iload dL_law_1145 (fun l z h k => ?_) k
  refine G_iconst dL_law_1147 (by decide) (fun l z h k => ?_) k
  refine G_iadd dL_law_1148 (fun l z h k => ?_) k
  refine L_scr dL_law_1149 (fun l z h k => ?_) k
  refine G_aload_n dL_law_1150 rfl (fun l z h k => ?_) k
  refine G_iload dL_law_1151 (fun l z h k => ?_) k
  refine G_iconst dL_law_1153 (by decide) (fun l z h k => ?_) k
  refine G_iadd dL_law_1154 (fun l z h k => ?_) k
  refine L_scr dL_law_1155 (fun l z h k => ?_) k
  refine G_aload_n dL_law_1156 rfl (fun l z h k => ?_) k
  refine G_iload dL_law_1157 (fun l z h k => ?_) k
  refine G_iconst dL_law_1159 (by decide) (fun l z h k => ?_) k
  refine G_iadd dL_law_1160 (fun l z h k => ?_) k
  refine L_scr dL_law_1161 (fun l z h k => ?_) k
  exact G_cv3 (M := mL_law) (pc := 1162) (bc := bc) (bs := bs) (cb := 0) (cs := 0) (M' := mX12_odds) dL_law_1162 rfl (by decide) w_1162 w_130 w_1159 w_1160 w_1161 (by decide +kernel) (fun _ _ _ k => k) k
theorem bL_law_1165 {G : Gt} {X : Nat × Nat × (Nat → Int32)} {d bc bs : Nat} {l : Ls} {z : List Value} {h : Hp} (k : (tAld 2 (tAld 0 (tIld 4 (tPush (.int 1) (tB (fun x y => x + y) (tScr X (tAld 0 (tIld 4 (tPush (.int 2) (tB (fun x y => x + y) (tScr X (tAld 0 (tIld 4 (tPush (.int 3) (tB (fun x y => x + y) (tScr X (tCV3 G d 0 0 11 mX13_odds (fun l z h => TG G (CL' G X) ZL d bc bs mL_law 1187 l z h)))))))))))))))))) l z h) : TG G (CL' G X) ZL d bc bs mL_law 1165 l z h := by
  refine G_aload_n dL_law_1165 rfl (fun l z h k => ?_) k
  refine G_aload_n dL_law_1166 rfl (fun l z h k => ?_) k
  refine G_iload dL_law_1167 (fun l z h k => ?_) k
  refine G_iconst dL_law_1169 (by decide) (fun l z h k => ?_) k
  refine G_iadd dL_law_1170 (fun l z h k => ?_) k
  refine L_scr dL_law_1171 (fun l z h k => ?_) k
  refine G_aload_n dL_law_1172 rfl (fun l z h k => ?_) k
  refine G_iload dL_law_1173 (fun l z h k => ?_) k
  refine G_iconst dL_law_1175 (by decide) (fun l z h k => ?_) k
  refine G_iadd dL_law_1176 (fun l z h k => ?_) k
  refine L_scr dL_law_1177 (fun l z h k => ?_) k
  refine G_aload_n dL_law_1178 rfl (fun l z h k => ?_) k
  refine G_iload dL_law_1179 (fun l z h k => ?_) k
  refine G_iconst dL_law_1181 (by decide) (fun l z h k => ?_) k
  refine G_iadd dL_law_1182 (fun l z h k => ?_) k
  refine L_scr dL_law_1183 (fun l z h k => ?_) k
  exact G_cv3 (M := mL_law) (pc := 1184) (bc := bc) (bs := bs) (cb := 0) (cs := 0) (M' := mX13_odds) dL_law_1184 rfl (by decide) w_2056 w_144 w_2053 w_2054 w_2055 (by decide +kernel) (fun _ _ _ k => k) k
theorem bL_law_1187 {G : Gt} {X : Nat × Nat × (Nat → Int32)} {d bc bs : Nat} {l : Ls} {z : List Value} {h : Hp} (k : (tIf2 (fun x y => x = y) (fun l z h => TG G (CL' G X) ZL d bc bs mL_law 1355 l z h) (fun l z h => TG G (CL' G X) ZL d bc bs mL_law 1190 l z h)) l z h) : TG G (CL' G X) ZL d bc bs mL_law 1187 l z h := by
  exact G_icmp_eq dL_law_1187 (by decide) (fun _ _ _ k => k) (fun _ _ _ k => k) k
theorem bL_law_1190 {G : Gt} {X : Nat × Nat × (Nat → Int32)} {d bc bs : Nat} {l : Ls} {z : List Value} {h : Hp} (k : (tPush (.int 0) tFin) l z h) : TG G (CL' G X) ZL d bc bs mL_law 1190 l z h := by
  refine G_iconst dL_law_1190 (by decide) (fun l z h k => ?_) k
  exact L_ret dL_law_1191 k
theorem bL_law_1192 {G : Gt} {X : Nat × Nat × (Nat → Int32)} {d bc bs : Nat} {l : Ls} {z : List Value} {h : Hp} (k : (tAld 1 (tAld 0 (tIld 4 (tPush (.int 1) (tB (fun x y => x + y) (tScr X (tCV1 G d 0 0 10 mX12_book (fun l z h => TG G (CL' G X) ZL d bc bs mL_law 1202 l z h)))))))) l z h) : TG G (CL' G X) ZL d bc bs mL_law 1192 l z h := by
  refine G_aload_n dL_law_1192 rfl (fun l z h k => ?_) k
  refine G_aload_n dL_law_1193 rfl (fun l z h k => ?_) k
  refine G_iload dL_law_1194 (fun l z h k => ?_) k
  refine G_iconst dL_law_1196 (by decide) (fun l z h k => ?_) k
  refine G_iadd dL_law_1197 (fun l z h k => ?_) k
  refine L_scr dL_law_1198 (fun l z h k => ?_) k
  exact G_cv1 (M := mL_law) (pc := 1199) (bc := bc) (bs := bs) (cb := 0) (cs := 0) (M' := mX12_book) dL_law_1199 rfl (by decide) w_1202 w_130 w_1199 w_1200 w_1201 (by decide +kernel) (fun _ _ _ k => k) k
theorem bL_law_1202 {G : Gt} {X : Nat × Nat × (Nat → Int32)} {d bc bs : Nat} {l : Ls} {z : List Value} {h : Hp} (k : (tAld 2 (tAld 0 (tIld 4 (tPush (.int 1) (tB (fun x y => x + y) (tScr X (tCV1 G d 0 0 11 mX13_book (fun l z h => TG G (CL' G X) ZL d bc bs mL_law 1212 l z h)))))))) l z h) : TG G (CL' G X) ZL d bc bs mL_law 1202 l z h := by
  refine G_aload_n dL_law_1202 rfl (fun l z h k => ?_) k
  refine G_aload_n dL_law_1203 rfl (fun l z h k => ?_) k
  refine G_iload dL_law_1204 (fun l z h k => ?_) k
  refine G_iconst dL_law_1206 (by decide) (fun l z h k => ?_) k
  refine G_iadd dL_law_1207 (fun l z h k => ?_) k
  refine L_scr dL_law_1208 (fun l z h k => ?_) k
  exact G_cv1 (M := mL_law) (pc := 1209) (bc := bc) (bs := bs) (cb := 0) (cs := 0) (M' := mX13_book) dL_law_1209 rfl (by decide) w_2060 w_144 w_2057 w_2058 w_2059 (by decide +kernel) (fun _ _ _ k => k) k
theorem bL_law_1212 {G : Gt} {X : Nat × Nat × (Nat → Int32)} {d bc bs : Nat} {l : Ls} {z : List Value} {h : Hp} (k : (tIf2 (fun x y => x = y) (fun l z h => TG G (CL' G X) ZL d bc bs mL_law 1355 l z h) (fun l z h => TG G (CL' G X) ZL d bc bs mL_law 1215 l z h)) l z h) : TG G (CL' G X) ZL d bc bs mL_law 1212 l z h := by
  exact G_icmp_eq dL_law_1212 (by decide) (fun _ _ _ k => k) (fun _ _ _ k => k) k
theorem bL_law_1215 {G : Gt} {X : Nat × Nat × (Nat → Int32)} {d bc bs : Nat} {l : Ls} {z : List Value} {h : Hp} (k : (tPush (.int 0) tFin) l z h) : TG G (CL' G X) ZL d bc bs mL_law 1215 l z h := by
  refine G_iconst dL_law_1215 (by decide) (fun l z h k => ?_) k
  exact L_ret dL_law_1216 k
theorem bL_law_1217 {G : Gt} {X : Nat × Nat × (Nat → Int32)} {d bc bs : Nat} {l : Ls} {z : List Value} {h : Hp} (k : (tAld 1 (tAld 0 (tIld 4 (tPush (.int 1) (tB (fun x y => x + y) (tScr X (tCV1 G d 0 0 10 mX12_told (fun l z h => TG G (CL' G X) ZL d bc bs mL_law 1227 l z h)))))))) l z h) : TG G (CL' G X) ZL d bc bs mL_law 1217 l z h := by
  refine G_aload_n dL_law_1217 rfl (fun l z h k => ?_) k
  refine G_aload_n dL_law_1218 rfl (fun l z h k => ?_) k
  refine G_iload dL_law_1219 (fun l z h k => ?_) k
  refine G_iconst dL_law_1221 (by decide) (fun l z h k => ?_) k
  refine G_iadd dL_law_1222 (fun l z h k => ?_) k
  refine L_scr dL_law_1223 (fun l z h k => ?_) k
  exact G_cv1 (M := mL_law) (pc := 1224) (bc := bc) (bs := bs) (cb := 0) (cs := 0) (M' := mX12_told) dL_law_1224 rfl (by decide) w_1285 w_130 w_1282 w_1283 w_1284 (by decide +kernel) (fun _ _ _ k => k) k
theorem bL_law_1227 {G : Gt} {X : Nat × Nat × (Nat → Int32)} {d bc bs : Nat} {l : Ls} {z : List Value} {h : Hp} (k : (tAld 2 (tAld 0 (tIld 4 (tPush (.int 1) (tB (fun x y => x + y) (tScr X (tCV1 G d 0 0 11 mX13_told (fun l z h => TG G (CL' G X) ZL d bc bs mL_law 1237 l z h)))))))) l z h) : TG G (CL' G X) ZL d bc bs mL_law 1227 l z h := by
  refine G_aload_n dL_law_1227 rfl (fun l z h k => ?_) k
  refine G_aload_n dL_law_1228 rfl (fun l z h k => ?_) k
  refine G_iload dL_law_1229 (fun l z h k => ?_) k
  refine G_iconst dL_law_1231 (by decide) (fun l z h k => ?_) k
  refine G_iadd dL_law_1232 (fun l z h k => ?_) k
  refine L_scr dL_law_1233 (fun l z h k => ?_) k
  exact G_cv1 (M := mL_law) (pc := 1234) (bc := bc) (bs := bs) (cb := 0) (cs := 0) (M' := mX13_told) dL_law_1234 rfl (by decide) w_2096 w_144 w_2093 w_2094 w_2095 (by decide +kernel) (fun _ _ _ k => k) k
theorem bL_law_1237 {G : Gt} {X : Nat × Nat × (Nat → Int32)} {d bc bs : Nat} {l : Ls} {z : List Value} {h : Hp} (k : (tIf2 (fun x y => x = y) (fun l z h => TG G (CL' G X) ZL d bc bs mL_law 1355 l z h) (fun l z h => TG G (CL' G X) ZL d bc bs mL_law 1240 l z h)) l z h) : TG G (CL' G X) ZL d bc bs mL_law 1237 l z h := by
  exact G_icmp_eq dL_law_1237 (by decide) (fun _ _ _ k => k) (fun _ _ _ k => k) k
theorem bL_law_1240 {G : Gt} {X : Nat × Nat × (Nat → Int32)} {d bc bs : Nat} {l : Ls} {z : List Value} {h : Hp} (k : (tPush (.int 0) tFin) l z h) : TG G (CL' G X) ZL d bc bs mL_law 1240 l z h := by
  refine G_iconst dL_law_1240 (by decide) (fun l z h k => ?_) k
  exact L_ret dL_law_1241 k
theorem bL_law_1242 {G : Gt} {X : Nat × Nat × (Nat → Int32)} {d bc bs : Nat} {l : Ls} {z : List Value} {h : Hp} (k : (tAld 1 (tCV0 G d 0 0 10 mX12_sentence (fun l z h => TG G (CL' G X) ZL d bc bs mL_law 1246 l z h))) l z h) : TG G (CL' G X) ZL d bc bs mL_law 1242 l z h := by
  refine G_aload_n dL_law_1242 rfl (fun l z h k => ?_) k
  exact G_cv0 (M := mL_law) (pc := 1243) (bc := bc) (bs := bs) (cb := 0) (cs := 0) (M' := mX12_sentence) dL_law_1243 rfl (by decide) w_1289 w_130 w_1286 w_1287 w_1288 (by decide +kernel) (fun _ _ _ k => k) k
theorem bL_law_1246 {G : Gt} {X : Nat × Nat × (Nat → Int32)} {d bc bs : Nat} {l : Ls} {z : List Value} {h : Hp} (k : (tAld 2 (tCV0 G d 0 0 11 mX13_sentence (fun l z h => TG G (CL' G X) ZL d bc bs mL_law 1250 l z h))) l z h) : TG G (CL' G X) ZL d bc bs mL_law 1246 l z h := by
  refine G_aload_n dL_law_1246 rfl (fun l z h k => ?_) k
  exact G_cv0 (M := mL_law) (pc := 1247) (bc := bc) (bs := bs) (cb := 0) (cs := 0) (M' := mX13_sentence) dL_law_1247 rfl (by decide) w_2100 w_144 w_2097 w_2098 w_2099 (by decide +kernel) (fun _ _ _ k => k) k
theorem bL_law_1250 {G : Gt} {X : Nat × Nat × (Nat → Int32)} {d bc bs : Nat} {l : Ls} {z : List Value} {h : Hp} (k : (tIf2 (fun x y => x = y) (fun l z h => TG G (CL' G X) ZL d bc bs mL_law 1355 l z h) (fun l z h => TG G (CL' G X) ZL d bc bs mL_law 1253 l z h)) l z h) : TG G (CL' G X) ZL d bc bs mL_law 1250 l z h := by
  exact G_icmp_eq dL_law_1250 (by decide) (fun _ _ _ k => k) (fun _ _ _ k => k) k
theorem bL_law_1253 {G : Gt} {X : Nat × Nat × (Nat → Int32)} {d bc bs : Nat} {l : Ls} {z : List Value} {h : Hp} (k : (tPush (.int 0) tFin) l z h) : TG G (CL' G X) ZL d bc bs mL_law 1253 l z h := by
  refine G_iconst dL_law_1253 (by decide) (fun l z h k => ?_) k
  exact L_ret dL_law_1254 k
theorem bL_law_1255 {G : Gt} {X : Nat × Nat × (Nat → Int32)} {d bc bs : Nat} {l : Ls} {z : List Value} {h : Hp} (k : (tAld 1 (tAld 0 (tIld 4 (tPush (.int 1) (tB (fun x y => x + y) (tScr X (tCV1 G d 0 0 10 mX12_said (fun l z h => TG G (CL' G X) ZL d bc bs mL_law 1265 l z h)))))))) l z h) : TG G (CL' G X) ZL d bc bs mL_law 1255 l z h := by
  refine G_aload_n dL_law_1255 rfl (fun l z h k => ?_) k
  refine G_aload_n dL_law_1256 rfl (fun l z h k => ?_) k
  refine G_iload dL_law_1257 (fun l z h k => ?_) k
  refine G_iconst dL_law_1259 (by decide) (fun l z h k => ?_) k
  refine G_iadd dL_law_1260 (fun l z h k => ?_) k
  refine L_scr dL_law_1261 (fun l z h k => ?_) k
  exact G_cv1 (M := mL_law) (pc := 1262) (bc := bc) (bs := bs) (cb := 0) (cs := 0) (M' := mX12_said) dL_law_1262 rfl (by decide) w_1347 w_130 w_1344 w_1345 w_1346 (by decide +kernel) (fun _ _ _ k => k) k
theorem bL_law_1265 {G : Gt} {X : Nat × Nat × (Nat → Int32)} {d bc bs : Nat} {l : Ls} {z : List Value} {h : Hp} (k : (tAld 2 (tAld 0 (tIld 4 (tPush (.int 1) (tB (fun x y => x + y) (tScr X (tCV1 G d 0 0 11 mX13_said (fun l z h => TG G (CL' G X) ZL d bc bs mL_law 1275 l z h)))))))) l z h) : TG G (CL' G X) ZL d bc bs mL_law 1265 l z h := by
  refine G_aload_n dL_law_1265 rfl (fun l z h k => ?_) k
  refine G_aload_n dL_law_1266 rfl (fun l z h k => ?_) k
  refine G_iload dL_law_1267 (fun l z h k => ?_) k
  refine G_iconst dL_law_1269 (by decide) (fun l z h k => ?_) k
  refine G_iadd dL_law_1270 (fun l z h k => ?_) k
  refine L_scr dL_law_1271 (fun l z h k => ?_) k
  exact G_cv1 (M := mL_law) (pc := 1272) (bc := bc) (bs := bs) (cb := 0) (cs := 0) (M' := mX13_said) dL_law_1272 rfl (by decide) w_2136 w_144 w_2133 w_2134 w_2135 (by decide +kernel) (fun _ _ _ k => k) k
theorem bL_law_1275 {G : Gt} {X : Nat × Nat × (Nat → Int32)} {d bc bs : Nat} {l : Ls} {z : List Value} {h : Hp} (k : (tIf2 (fun x y => x = y) (fun l z h => TG G (CL' G X) ZL d bc bs mL_law 1355 l z h) (fun l z h => TG G (CL' G X) ZL d bc bs mL_law 1278 l z h)) l z h) : TG G (CL' G X) ZL d bc bs mL_law 1275 l z h := by
  exact G_icmp_eq dL_law_1275 (by decide) (fun _ _ _ k => k) (fun _ _ _ k => k) k
theorem bL_law_1278 {G : Gt} {X : Nat × Nat × (Nat → Int32)} {d bc bs : Nat} {l : Ls} {z : List Value} {h : Hp} (k : (tPush (.int 0) tFin) l z h) : TG G (CL' G X) ZL d bc bs mL_law 1278 l z h := by
  refine G_iconst dL_law_1278 (by decide) (fun l z h k => ?_) k
  exact L_ret dL_law_1279 k
theorem bL_law_1280 {G : Gt} {X : Nat × Nat × (Nat → Int32)} {d bc bs : Nat} {l : Ls} {z : List Value} {h : Hp} (k : (tAld 1 (tAld 0 (tIld 4 (tPush (.int 1) (tB (fun x y => x + y) (tScr X (tCV1 G d 17 307 10 mX12_image (fun l z h => TG G (CL' G X) ZL d bc bs mL_law 1290 l z h)))))))) l z h) : TG G (CL' G X) ZL d (bc + 17) (bs + 307) mL_law 1280 l z h := by
  refine G_aload_n dL_law_1280 rfl (fun l z h k => ?_) k
  refine G_aload_n dL_law_1281 rfl (fun l z h k => ?_) k
  refine G_iload dL_law_1282 (fun l z h k => ?_) k
  refine G_iconst dL_law_1284 (by decide) (fun l z h k => ?_) k
  refine G_iadd dL_law_1285 (fun l z h k => ?_) k
  refine L_scr dL_law_1286 (fun l z h k => ?_) k
  exact G_cv1 (M := mL_law) (pc := 1287) (bc := bc) (bs := bs) (cb := 17) (cs := 307) (M' := mX12_image) dL_law_1287 rfl (by decide) w_1382 w_130 w_1379 w_1380 w_1381 (by decide +kernel) (fun _ _ _ k => k) k
theorem bL_law_1290 {G : Gt} {X : Nat × Nat × (Nat → Int32)} {d bc bs : Nat} {l : Ls} {z : List Value} {h : Hp} (k : (tAld 2 (tAld 0 (tIld 4 (tPush (.int 1) (tB (fun x y => x + y) (tScr X (tCV1 G d 0 0 11 mX13_image (fun l z h => TG G (CL' G X) ZL d bc bs mL_law 1300 l z h)))))))) l z h) : TG G (CL' G X) ZL d bc bs mL_law 1290 l z h := by
  refine G_aload_n dL_law_1290 rfl (fun l z h k => ?_) k
  refine G_aload_n dL_law_1291 rfl (fun l z h k => ?_) k
  refine G_iload dL_law_1292 (fun l z h k => ?_) k
  refine G_iconst dL_law_1294 (by decide) (fun l z h k => ?_) k
  refine G_iadd dL_law_1295 (fun l z h k => ?_) k
  refine L_scr dL_law_1296 (fun l z h k => ?_) k
  exact G_cv1 (M := mL_law) (pc := 1297) (bc := bc) (bs := bs) (cb := 0) (cs := 0) (M' := mX13_image) dL_law_1297 rfl (by decide) w_2144 w_144 w_2141 w_2142 w_2143 (by decide +kernel) (fun _ _ _ k => k) k
theorem bL_law_1300 {G : Gt} {X : Nat × Nat × (Nat → Int32)} {d bc bs : Nat} {l : Ls} {z : List Value} {h : Hp} (k : (tIf2 (fun x y => x = y) (fun l z h => TG G (CL' G X) ZL d bc bs mL_law 1355 l z h) (fun l z h => TG G (CL' G X) ZL d bc bs mL_law 1303 l z h)) l z h) : TG G (CL' G X) ZL d bc bs mL_law 1300 l z h := by
  exact G_icmp_eq dL_law_1300 (by decide) (fun _ _ _ k => k) (fun _ _ _ k => k) k
theorem bL_law_1303 {G : Gt} {X : Nat × Nat × (Nat → Int32)} {d bc bs : Nat} {l : Ls} {z : List Value} {h : Hp} (k : (tPush (.int 0) tFin) l z h) : TG G (CL' G X) ZL d bc bs mL_law 1303 l z h := by
  refine G_iconst dL_law_1303 (by decide) (fun l z h k => ?_) k
  exact L_ret dL_law_1304 k
theorem bL_law_1305 {G : Gt} {X : Nat × Nat × (Nat → Int32)} {d bc bs : Nat} {l : Ls} {z : List Value} {h : Hp} (k : (tAld 1 (tAld 0 (tIld 4 (tPush (.int 1) (tB (fun x y => x + y) (tScr X (tCV1 G d 0 0 10 mX12_restore (fun l z h => TG G (CL' G X) ZL d bc bs mL_law 1315 l z h)))))))) l z h) : TG G (CL' G X) ZL d bc bs mL_law 1305 l z h := by
  refine G_aload_n dL_law_1305 rfl (fun l z h k => ?_) k
  refine G_aload_n dL_law_1306 rfl (fun l z h k => ?_) k
  refine G_iload dL_law_1307 (fun l z h k => ?_) k
  refine G_iconst dL_law_1309 (by decide) (fun l z h k => ?_) k
  refine G_iadd dL_law_1310 (fun l z h k => ?_) k
  refine L_scr dL_law_1311 (fun l z h k => ?_) k
  exact G_cv1 (M := mL_law) (pc := 1312) (bc := bc) (bs := bs) (cb := 0) (cs := 0) (M' := mX12_restore) dL_law_1312 rfl (by decide) w_1386 w_130 w_1383 w_1384 w_1385 (by decide +kernel) (fun _ _ _ k => k) k
theorem bL_law_1315 {G : Gt} {X : Nat × Nat × (Nat → Int32)} {d bc bs : Nat} {l : Ls} {z : List Value} {h : Hp} (k : (tAld 2 (tAld 0 (tIld 4 (tPush (.int 1) (tB (fun x y => x + y) (tScr X (tCV1 G d 0 0 11 mX13_restore (fun l z h => TG G (CL' G X) ZL d bc bs mL_law 1325 l z h)))))))) l z h) : TG G (CL' G X) ZL d bc bs mL_law 1315 l z h := by
  refine G_aload_n dL_law_1315 rfl (fun l z h k => ?_) k
  refine G_aload_n dL_law_1316 rfl (fun l z h k => ?_) k
  refine G_iload dL_law_1317 (fun l z h k => ?_) k
  refine G_iconst dL_law_1319 (by decide) (fun l z h k => ?_) k
  refine G_iadd dL_law_1320 (fun l z h k => ?_) k
  refine L_scr dL_law_1321 (fun l z h k => ?_) k
  exact G_cv1 (M := mL_law) (pc := 1322) (bc := bc) (bs := bs) (cb := 0) (cs := 0) (M' := mX13_restore) dL_law_1322 rfl (by decide) w_2148 w_144 w_2145 w_2146 w_2147 (by decide +kernel) (fun _ _ _ k => k) k
theorem bL_law_1325 {G : Gt} {X : Nat × Nat × (Nat → Int32)} {d bc bs : Nat} {l : Ls} {z : List Value} {h : Hp} (k : (tIf2 (fun x y => x = y) (fun l z h => TG G (CL' G X) ZL d bc bs mL_law 1355 l z h) (fun l z h => TG G (CL' G X) ZL d bc bs mL_law 1328 l z h)) l z h) : TG G (CL' G X) ZL d bc bs mL_law 1325 l z h := by
  exact G_icmp_eq dL_law_1325 (by decide) (fun _ _ _ k => k) (fun _ _ _ k => k) k
theorem bL_law_1328 {G : Gt} {X : Nat × Nat × (Nat → Int32)} {d bc bs : Nat} {l : Ls} {z : List Value} {h : Hp} (k : (tPush (.int 0) tFin) l z h) : TG G (CL' G X) ZL d bc bs mL_law 1328 l z h := by
  refine G_iconst dL_law_1328 (by decide) (fun l z h k => ?_) k
  exact L_ret dL_law_1329 k
theorem bL_law_1330 {G : Gt} {X : Nat × Nat × (Nat → Int32)} {d bc bs : Nat} {l : Ls} {z : List Value} {h : Hp} (k : (tAld 1 (tAld 0 (tIld 4 (tPush (.int 1) (tB (fun x y => x + y) (tScr X (tCV1 G d 0 0 10 mX12_count (fun l z h => TG G (CL' G X) ZL d bc bs mL_law 1340 l z h)))))))) l z h) : TG G (CL' G X) ZL d bc bs mL_law 1330 l z h := by
  refine G_aload_n dL_law_1330 rfl (fun l z h k => ?_) k
  refine G_aload_n dL_law_1331 rfl (fun l z h k => ?_) k
  refine G_iload dL_law_1332 (fun l z h k => ?_) k
  refine G_iconst dL_law_1334 (by decide) (fun l z h k => ?_) k
  refine G_iadd dL_law_1335 (fun l z h k => ?_) k
  refine L_scr dL_law_1336 (fun l z h k => ?_) k
  exact G_cv1 (M := mL_law) (pc := 1337) (bc := bc) (bs := bs) (cb := 0) (cs := 0) (M' := mX12_count) dL_law_1337 rfl (by decide) w_869 w_130 w_866 w_867 w_868 (by decide +kernel) (fun _ _ _ k => k) k
theorem bL_law_1340 {G : Gt} {X : Nat × Nat × (Nat → Int32)} {d bc bs : Nat} {l : Ls} {z : List Value} {h : Hp} (k : (tAld 2 (tAld 0 (tIld 4 (tPush (.int 1) (tB (fun x y => x + y) (tScr X (tCV1 G d 0 0 11 mX13_count (fun l z h => TG G (CL' G X) ZL d bc bs mL_law 1350 l z h)))))))) l z h) : TG G (CL' G X) ZL d bc bs mL_law 1340 l z h := by
  refine G_aload_n dL_law_1340 rfl (fun l z h k => ?_) k
  refine G_aload_n dL_law_1341 rfl (fun l z h k => ?_) k
  refine G_iload dL_law_1342 (fun l z h k => ?_) k
  refine G_iconst dL_law_1344 (by decide) (fun l z h k => ?_) k
  refine G_iadd dL_law_1345 (fun l z h k => ?_) k
  refine L_scr dL_law_1346 (fun l z h k => ?_) k
  exact G_cv1 (M := mL_law) (pc := 1347) (bc := bc) (bs := bs) (cb := 0) (cs := 0) (M' := mX13_count) dL_law_1347 rfl (by decide) w_2152 w_144 w_2149 w_2150 w_2151 (by decide +kernel) (fun _ _ _ k => k) k
theorem bL_law_1350 {G : Gt} {X : Nat × Nat × (Nat → Int32)} {d bc bs : Nat} {l : Ls} {z : List Value} {h : Hp} (k : (tIf2 (fun x y => x = y) (fun l z h => TG G (CL' G X) ZL d bc bs mL_law 1355 l z h) (fun l z h => TG G (CL' G X) ZL d bc bs mL_law 1353 l z h)) l z h) : TG G (CL' G X) ZL d bc bs mL_law 1350 l z h := by
  exact G_icmp_eq dL_law_1350 (by decide) (fun _ _ _ k => k) (fun _ _ _ k => k) k
theorem bL_law_1353 {G : Gt} {X : Nat × Nat × (Nat → Int32)} {d bc bs : Nat} {l : Ls} {z : List Value} {h : Hp} (k : (tPush (.int 0) tFin) l z h) : TG G (CL' G X) ZL d bc bs mL_law 1353 l z h := by
  refine G_iconst dL_law_1353 (by decide) (fun l z h k => ?_) k
  exact L_ret dL_law_1354 k
theorem bL_law_1355 {G : Gt} {X : Nat × Nat × (Nat → Int32)} {d bc bs : Nat} {l : Ls} {z : List Value} {h : Hp} (k : (tInc 4 6 ((fun l z h => TG G (CL' G X) ZL d bc bs mL_law 23 l z h))) l z h) : TG G (CL' G X) ZL d bc bs mL_law 1355 l z h := by
  refine G_iinc dL_law_1355 (by decide) (by decide) (fun l z h k => ?_) k
  exact G_goto dL_law_1358 (by decide) (fun _ _ _ k => k) k
theorem bL_law_1361 {G : Gt} {X : Nat × Nat × (Nat → Int32)} {d bc bs : Nat} {l : Ls} {z : List Value} {h : Hp} (k : (tPush (.int 1) tFin) l z h) : TG G (CL' G X) ZL d bc bs mL_law 1361 l z h := by
  refine G_iconst dL_law_1361 (by decide) (fun l z h k => ?_) k
  exact L_ret dL_law_1362 k
theorem bL_law_340 {G : Gt} {X : Sc} {d bc bs : Nat} {l : Ls} {z : List Value} {h : Hp} (k : (tAld 1 (tAld 0 (tIld 4 (tPush (.int 1) (tB (fun x y => x + y) (tScr X (tAld 0 (tIld 4 (tPush (.int 2) (tB (fun x y => x + y) (tScr X (tAld 3 (fun l z h => TG G (CL' G X) ZL d bc bs mL_law 354 l z h))))))))))))) l z h) : TG G (CL' G X) ZL d bc bs mL_law 340 l z h := by
  refine G_aload_n dL_law_340 rfl (fun l z h k => ?_) k
  refine G_aload_n dL_law_341 rfl (fun l z h k => ?_) k
  refine G_iload dL_law_342 (fun l z h k => ?_) k
  refine G_iconst dL_law_344 (by decide) (fun l z h k => ?_) k
  refine G_iadd dL_law_345 (fun l z h k => ?_) k
  refine L_scr dL_law_346 (fun l z h k => ?_) k
  refine G_aload_n dL_law_347 rfl (fun l z h k => ?_) k
  refine G_iload dL_law_348 (fun l z h k => ?_) k
  refine G_iconst dL_law_350 (by decide) (fun l z h k => ?_) k
  refine G_iadd dL_law_351 (fun l z h k => ?_) k
  refine L_scr dL_law_352 (fun l z h k => ?_) k
  refine G_aload_n dL_law_353 rfl (fun l z h k => ?_) k
  exact k

