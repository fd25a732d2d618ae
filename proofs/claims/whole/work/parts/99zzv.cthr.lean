/-! ===== a throw whose constructor is linked by an index of its own ===== -/
section XC
variable {p : Program} {l : Launch} {e : Env} {R : Room} {s : State} {m : MethodId} {args : Array Value} {below : List Frame} {meth : Method} {c : Code} {H : Heap} {locs : List Loc} {cells slots : Nat} {free : Addr → Prop} {ls : Array Slot} {rest : List Value} {Qc : Array Value → State → Outcome → State → Prop} {XC : String → State → State → Prop}
/-- the fields that a Throwable's constructor of a text writes or asks for, with their descriptors -/
def xoF : List (String × String) := [("detailMessage", "Ljava/lang/String;"), ("cause", "Ljava/lang/Throwable;"), ("stackTrace", Bundle.steD), ("suppressedExceptions", Bundle.listD), ("backtrace", "Ljava/lang/Object;")]
/-- what is asked of the class X alone, of the link to its constructor, and of the two statics -/
def xoW (own : String) (ic : Nat) (X : String) : List Cond :=
  [.instantiable X 6, .methodLink own ic (Bundle.initS X)] ++ [Bundle.tFill, Bundle.tFill0].map (fun y => .selects X y y) ++ xoF.map (fun f => .lays X Bundle.tN f.1 f.2) ++
  [("UNASSIGNED_STACK", Bundle.steD), ("SUPPRESSED_SENTINEL", Bundle.listD)].map (fun f => .isRef (.static Bundle.tN f.1 f.2)) ++ [.lays Bundle.tN Bundle.tN "backtrace" "Ljava/lang/Object;", .fieldLink Bundle.tN 198 Bundle.tN "backtrace" "Ljava/lang/Object;"]
/-- .. and of Throwable and of the constructors between: the first one's link, by ix in rx, is its own -/
def xcAt (own : String) (ic : Nat) (X : String) (ix : Nat) (rx : ByteArray) (Y : String) (r : List String) : List Cond :=
  Bundle.throwableAtoms ++ Bundle.throwableSAtoms ++ (Bundle.passSAtoms X Y ix rx ++ Bundle.chainSAtoms Y r) ++ xoW own ic X
/-- the constructors between, as a chain: the first by its own link, the others as the library has them -/
theorem xc_chain {pl : Platform} (hpl : pl.magicAccessors = ({} : Platform).magicAccessors) {top : MethodId} (htop : s.methodNamed? (Bundle.initS Bundle.tN) = some top) {X Y : String} {r : List String} {ix : Nat} {rx : ByteArray} (x0 : decode rx 0 = .ok (.aload_n 0, 1)) (x1 : decode rx 1 = .ok (.aload_n 1, 1)) (x2 : decode rx 2 = .ok (.invokespecial ix, 3)) (x5 : decode rx 5 = .ok (.return_, 1))
    (hX : Bundle.fit X = true) (hn : ∀ n ∈ Y :: r, Bundle.fit n = true) (h : ∀ c ∈ Bundle.passSAtoms X Y ix rx ++ Bundle.chainSAtoms Y r, c.before args s = true) :
    ∃ Ps : List PassC, Ps.length = r.length + 2 ∧ (∀ P ∈ Ps, P.LinksS pl s) ∧ s.methodNamed? (Bundle.initS X) = some (firstOf top (Ps.map (·.toPassT))) ∧ PassesOn top (Ps.map (·.toPassT)) := by
  obtain ⟨P, L, hm, hs⟩ := PassC.ofS_atoms (args := args) (s := s) hpl (X := X) (Y := Y) (Bundle.fit_spec hX).1 (Bundle.fit_spec (hn Y List.mem_cons_self)).2 x0 x1 x2 x5 (fun c hc => h c (List.mem_append_left _ hc))
  obtain ⟨P', Ps, hlen, L', hL, hm', hsup, hpass⟩ := Bundle.chainS (args := args) hpl htop r Y (hn Y List.mem_cons_self) (fun n hn' => hn n (List.mem_cons_of_mem _ hn')) (fun c hc => h c (List.mem_append_right _ hc))
  refine ⟨P :: P' :: Ps, by simp only [List.length_cons, hlen], List.forall_mem_cons.mpr ⟨L, List.forall_mem_cons.mpr ⟨L', hL⟩⟩, hm, ⟨?_, hsup, hpass⟩⟩
  exact Option.some.inj (hs.symm.trans hm')
/-- a field as new objects of the class c have it: its type, and that who declares its slot gives it its name -/
def xoL (s : State) (c : ClassId) (k : Class) (f : Field) : Prop := k.instanceTypes[f.slot]? = some f.type ∧ ∃ d, Jmm.declares? s.vm f.slot (c + 1) c = some d ∧ d.2.name = f.name
theorem xoL.ne {c : ClassId} {k : Class} {f f' : Field} (h : xoL s c k f) (h' : xoL s c k f') (hn : f.name ≠ f'.name) : f.slot ≠ f'.slot :=
  h.2.elim fun _ q => h'.2.elim fun _ q' => Cond.laysApart q.1 q'.1 q.2 q'.2 hn
theorem xo_slot (x : Cell) {i j : Nat} (v : Value) (h : i ≠ j) : (x.setSlot i v).slots[j]? = x.slots[j]? := Array.getElem?_setIfInBounds_ne h
/-- of a class that selects a method by its own name, that one is called -/
theorem xo_sel (hA : l.admits e) {X : String} {y : MethodName} {t : MethodId} {c : ClassId} (hc : s.vm.findClass X = some c) (ht : s.methodNamed? y = some t) (hy : y.cls ≠ "java/lang/invoke/MethodHandle" ∧ y.cls ≠ "java/lang/invoke/VarHandle") (w : (Cond.selects X y y).before args s = true) : selectMethod e.platform s.vm c t = .method t := by
  obtain ⟨c', r, t', f1, f2, f3, f4, -⟩ := Cond.selects_spec w
  have z1 : c' = c := Option.some.inj (f1.symm.trans hc)
  have z2 : r = t := Option.some.inj (f2.symm.trans (State.methodFound?_of_named ht hy))
  have z3 : t' = t := Option.some.inj (f3.symm.trans ht)
  rw [z1, z2, z3] at f4
  exact (Launch.admits_selectMethod hA _ _ _).trans f4
/-- Throwable's two statics, as they lie where nothing old was changed -/
theorem xo_stat {T : ThrowableC} {Z : Init0T} {pl : Platform} {V : State} {a : Addr} (L : T.Links pl s) (Y : Bundle.Ties T Z s) (hV : s.sameButNew V [] cells slots) (ha : s.heap.size ≤ a) (wU : (Cond.isRef (.static Bundle.tN "UNASSIGNED_STACK" Bundle.steD)).before args s = true) (wN : (Cond.isRef (.static Bundle.tN "SUPPRESSED_SENTINEL" Bundle.listD)).before args s = true) :
    ∃ (u n : RefV) (x : Cell), V.heap[T.aS]? = some x ∧ T.aS ≠ a ∧ x.vm ≠ .unknown ∧ x.slots[T.fUnassigned.slot]? = some u.v ∧ x.slots[T.fSentinel.slot]? = some n.v := by
  obtain ⟨y, y1, y2⟩ := Y.statics
  obtain ⟨u, e1⟩ := Cond.staticRefV Y.unassigned L.unassignedStatic L.statics y1 y2 wU
  obtain ⟨n, e2⟩ := Cond.staticRefV Y.sentinel L.sentinelStatic L.statics y1 y2 wN
  obtain ⟨x, x1, x2, -, x3⟩ := hV.2.2.2.2.2 _ y y1
  have hv : x.vm = y.vm := by rw [x2]
  have hl : T.aS < s.heap.size := (Array.getElem?_eq_some_iff.mp y1).1
  refine ⟨u, n, x, x1, fun q => Nat.not_lt.mpr ha (q ▸ hl), fun q => ?_, (x3 _ List.not_mem_nil).trans e1, (x3 _ List.not_mem_nil).trans e2⟩
  rw [← hv, q] at y2
  exact absurd y2 (by decide)
/-- no trace lies in the object that the constructor has prepared: the native is passed by -/
theorem xo_skip {T : ThrowableC} {Z : Init0T} {pl : Platform} (hpl : pl.magicAccessors = ({} : Platform).magicAccessors) (L : T.Links pl s) (Y : Bundle.Ties T Z s) {X : String} {c : ClassId} {k : Class} (hc : s.vm.findClass X = some c) (hk : s.vm.classes[c]? = some k)
    (w1 : (Cond.fieldLink Bundle.tN 198 Bundle.tN "backtrace" "Ljava/lang/Object;").before args s = true) (w2 : (Cond.lays Bundle.tN Bundle.tN "backtrace" "Ljava/lang/Object;").before args s = true) (w3 : (Cond.lays X Bundle.tN "backtrace" "Ljava/lang/Object;").before args s = true)
    (fC : xoL s c k T.fCause) (fS : xoL s c k T.fStack) (fP : xoL s c k T.fSupp) (a : Addr) (u n : RefV) (t : ThreadId) : SkipFacts T pl s (fun z => z) u ((preparedCellV T.toThrowableT (freshCell c k) a u n).withEntry t) := by
  obtain ⟨ci, i, f, l1, l2, l3, l4, -, nm, ty, ff⟩ := Cond.ownField (t := .object "java/lang/Object") Y.found L.cls (by decide +kernel) w1 w2 pl hpl
  have fB : xoL s c k f := Cond.laysAt hc hk ff w3
  have h0 : (freshCell c k).slots[f.slot]? = some .null := by rw [fresh_default fB.1, ty]; rfl
  have nC : T.fCause.slot ≠ f.slot := fC.ne fB (by rw [nm, Y.causeName]; decide)
  have nS : T.fStack.slot ≠ f.slot := fS.ne fB (by rw [nm, Y.stackName]; decide)
  have nP : T.fSupp.slot ≠ f.slot := fP.ne fB (by rw [nm, Y.suppName]; decide)
  exact ⟨⟨ci, i, f⟩, ⟨l1, l2, l3, l4⟩, (xo_slot _ _ nP).trans ((xo_slot _ _ nS).trans ((xo_slot _ _ nC).trans h0)), fun _ _ => rfl⟩
/-- the constructor's call, to behind it: the object is there, nothing that was there before is changed -/
theorem xo_made {V : State} (S : Stand p l e R s m args below meth c V [] cells slots) (hexec : p.tables.exec = Jvm.exec) (htr : e.platform.stackTraces = false) {own cls Y9 : String} {r9 : List String} {ic ix : Nat} {rx : ByteArray}
    (x0 : decode rx 0 = .ok (.aload_n 0, 1)) (x1 : decode rx 1 = .ok (.aload_n 1, 1)) (x2 : decode rx 2 = .ok (.invokespecial ix, 3)) (x5 : decode rx 5 = .ok (.return_, 1))
    (hown : s.vm.findClass own = some m.cls) (hcls : Bundle.fit cls = true) (hnames : ∀ n ∈ Y9 :: r9, Bundle.fit n = true) (h : ∀ w ∈ xcAt own ic cls ix rx Y9 r9, w.before args s = true)
    {a : Addr} {cX : ClassId} {kX : Class} (hcX : s.vm.findClass cls = some cX) (hkX : s.vm.classes[cX]? = some kX) (hcell : V.heap[a]? = some (freshCell cX kX)) (ha : s.heap.size ≤ a)
    {msg : Value} (hmsg : msg.isRef = true) {g : JFrame} (hg : g.method = m) (hsize : g.locals.size = c.maxLocals) {rest : List Value} (hst : g.stack = msg :: .ref a :: .ref a :: rest) (hd : decode c.code g.pc = .ok (.invokespecial ic, 3))
    (hfr : r9.length + 4 < R.frames) (hlo : 2 * g.monitorRoom + ((Value.ref a :: rest).map fun v => v.category).sum + (13 * (r9.length + 2) + 42) ≤ R.locals) :
    ∃ (U : State) (K : List Loc) (ce : Cell), Stand p l e R s m args below meth c U K cells slots ∧ (∀ x ∈ K, x.base = a) ∧ U.heap[a]? = some ce ∧ ce.cls = cX ∧ ce.vm = .none ∧
      ∀ t, Steps p.tables e below (U.setTop { g with stack := .ref a :: rest, pc := g.pc + 3 }) t → Steps p.tables e below (V.setTop g) t := by
  have hpl : e.platform.magicAccessors = ({} : Platform).magicAccessors := by rw [S.admits.platform]
  have own' : ∀ w ∈ xoW own ic cls, w.before args s = true := fun w q => h w (List.mem_append_right _ q)
  have lay : ∀ f ∈ xoF, (Cond.lays cls Bundle.tN f.1 f.2).before args s = true := fun f q => own' _ (by unfold xoW; simp only [List.mem_append, List.mem_map]; exact Or.inl (Or.inl (Or.inr ⟨f, q, rfl⟩)))
  obtain ⟨T, Z0, L, -, Y⟩ := ThrowableC.of_atoms (args := args) (by rw [S.admits.platform]) (by rw [S.admits.platform]) hpl (fun w q => h w (by simp only [xcAt, List.mem_append]; exact Or.inl (Or.inl (Or.inl q))))
  obtain ⟨Z, M, LZ, LM, hZ⟩ := Init0T.ofS_atoms (args := args) hpl L Y (fun w q => h w (by simp only [xcAt, List.mem_append]; exact Or.inl (Or.inl (Or.inr q))))
  obtain ⟨Ps, hlen, hPs, hfirst, hpass⟩ := xc_chain (args := args) hpl hZ x0 x1 x2 x5 hcls hnames (fun w q => h w (by simp only [xcAt, List.mem_append] at q ⊢; exact Or.inl (Or.inr q)))
  have hord : kX.kind = .ordinary := by
    obtain ⟨c1, k1, i1, i2, i3, -⟩ := Cond.instantiable_spec (own' (.instantiable cls 6) (by simp [xoW]))
    have z1 : c1 = cX := Option.some.inj (i1.symm.trans hcX)
    rw [z1] at i2
    rw [Option.some.inj (hkX.symm.trans i2)]
    exact i3
  obtain ⟨iM, hM⟩ := Y.msg
  have fC : xoL s cX kX T.fCause := Cond.laysAt hcX hkX Y.cause (lay ("cause", _) (by simp [xoF]))
  have fS : xoL s cX kX T.fStack := Cond.laysAt hcX hkX Y.stack (lay ("stackTrace", Bundle.steD) (by simp [xoF]))
  have fP : xoL s cX kX T.fSupp := Cond.laysAt hcX hkX Y.supp (lay ("suppressedExceptions", Bundle.listD) (by simp [xoF]))
  have fM : xoL s cX kX T.fMsg := Cond.laysAt hcX hkX hM (lay ("detailMessage", _) (by simp [xoF]))
  obtain ⟨u, n, x, v1, v2, v3, v4, v5⟩ := xo_stat (args := args) L Y S.same ha (own' _ (by simp [xoW])) (own' _ (by simp [xoW]))
  obtain ⟨tm, -, -, -, V1, ht, -, -, -, -, -, -, -, hW, go1⟩ := Steps.initColdS (args := args) S.here hexec S.warmed hpl hown (t := Bundle.initS cls) rfl rfl (Bundle.fit_spec hcls).2 (own' (.methodLink own ic (Bundle.initS cls)) (by simp [xoW])) (bytes := rx) (maxL := 2)
    (h _ (by simp [xcAt, Bundle.passSAtoms])) (h _ (by simp [xcAt, Bundle.passSAtoms])) hg hst hd
  have etm : tm = firstOf (Z.m T.toThrowableT) (Ps.map (·.toPassT)) := Option.some.inj (ht.symm.trans hfirst)
  obtain ⟨V2, S2, go2⟩ := (S.noted hW).ctorMessageOffV hexec (g := { g with stack := .ref a :: rest }) hg hsize T L Z LZ M LM Ps hPs hpass (u0 := u) (sen := n) (self := a) hmsg (cell := freshCell cX kX) (cellS := x) hcell
    (fun k q => by cases q) (fun q => by cases q) rfl rfl (xo_sel S.admits hcX Y.fill0 (by decide) (own' _ (by simp [xoW]))) (xo_sel S.admits hcX Y.fill (by decide) (own' _ (by simp [xoW]))) v1 v2 v3 v4 v5
    (Takes.of_laid hkX hord fC.1 (by rw [Y.causeType]; exact fits_refV_object _ ⟨.ref a, rfl⟩)) (Takes.of_laid hkX hord fS.1 (by rw [Y.stackType]; exact fits_refV_array _ u)) (Takes.of_laid hkX hord fP.1 (by rw [Y.suppType]; exact fits_refV_object _ n)) (Takes.of_laid hkX hord fM.1 (by rw [Y.msgType]; exact fits_refV_object _ ⟨msg, hmsg⟩))
    Y.objLocals (xo_skip (args := args) hpl L Y hcX hkX (own' _ (by simp [xoW])) (own' _ (by simp [xoW])) (lay ("backtrace", _) (by simp [xoF])) fC fS fP a u n _) htr [] hd (by omega) (by rw [hlen]; exact hlo)
  have hlt : a < V.heap.size := (Array.getElem?_eq_some_iff.mp hcell).1
  refine ⟨_, _, _, S2, fun y q => ?_, heapAt_setCell_self _ hlt, rfl, rfl, fun t q => go1 t fun acts => ?_⟩
  · simp only [List.nil_append, List.mem_cons, List.not_mem_nil, or_false] at q
    rcases q with q | q | q | q | q <;> rw [q]
  · rw [doInvoke_state, etm]
    exact go2 t q
/-- .. and thrown: the method is left with it -/
theorem xc_ctor {V : State} (S : Stand p l e R s m args below meth c V [] cells slots) (hexec : p.tables.exec = Jvm.exec) (htr : e.platform.stackTraces = false) {own cls Y9 : String} {r9 : List String} {ic ix : Nat} {rx : ByteArray}
    (x0 : decode rx 0 = .ok (.aload_n 0, 1)) (x1 : decode rx 1 = .ok (.aload_n 1, 1)) (x2 : decode rx 2 = .ok (.invokespecial ix, 3)) (x5 : decode rx 5 = .ok (.return_, 1))
    (hown : s.vm.findClass own = some m.cls) (hcls : Bundle.fit cls = true) (hnames : ∀ n ∈ Y9 :: r9, Bundle.fit n = true) (h : ∀ w ∈ xcAt own ic cls ix rx Y9 r9, w.before args s = true)
    {a : Addr} {cX : ClassId} {kX : Class} (hcX : s.vm.findClass cls = some cX) (hkX : s.vm.classes[cX]? = some kX) (hcell : V.heap[a]? = some (freshCell cX kX)) (ha : s.heap.size ≤ a)
    {msg : Value} (hmsg : msg.isRef = true) {g : JFrame} (hg : g.method = m) (hsize : g.locals.size = c.maxLocals) (hl1 : g.locked = none) (hl2 : g.entered = []) {rest : List Value} (hst : g.stack = msg :: .ref a :: .ref a :: rest) (hd : decode c.code g.pc = .ok (.invokespecial ic, 3)) (hd' : decode c.code (g.pc + 3) = .ok (.athrow, 1))
    (hout : ∀ x ∈ c.exceptionTable.toList, covers x (g.pc + 3) = false) (hfr : r9.length + 4 < R.frames) (hlo : 2 * g.monitorRoom + ((Value.ref a :: rest).map fun v => v.category).sum + (13 * (r9.length + 2) + 42) ≤ R.locals) (hlk : meth.locks = false) :
    ∃ U : State, Steps p.tables e below (V.setTop g) U ∧ U.status = .running ∧ Ended U below (.threw a) ∧ s.WarmedH U.vm ∧ s.sameButNew ({ U with vm := s.vm } : State) [] cells slots ∧ ∃ ce, U.heap[a]? = some ce ∧ s.vm.findClass cls = some ce.cls ∧ ce.vm = .none := by
  obtain ⟨U, K, ce, S1, hK, hU, e1, e2, go⟩ := xo_made S hexec htr x0 x1 x2 x5 hown hcls hnames h hcX hkX hcell ha hmsg hg hsize hst hd hfr hlo
  obtain ⟨t1, t2, t3, t4, t5⟩ := S1.athrowLeaves hexec (g := { g with stack := .ref a :: rest, pc := g.pc + 3 }) hg hl1 hl2 hout rfl hd' hlk
  refine ⟨_, go _ t1, t2, t3, t4, t5.weaken (fun y q hy => ?_) (Nat.le_refl _) (Nat.le_refl _), ce, hU, by rw [e1]; exact hcX, e2⟩
  rw [hK y q] at hy
  exact absurd hy (Nat.not_lt.mpr ha)
theorem xc_throw {cc : ByteArray} {pc : Nat} (hexec : p.tables.exec = Jvm.exec) (hb : c.code = cc) (hl : l.stackTraces = false) {own cls text : String} {Y9 : String} {r9 : List String} {ik is ic mc ms sa ix : Nat} {rx : ByteArray} (x0 : decode rx 0 = .ok (.aload_n 0, 1)) (x1 : decode rx 1 = .ok (.aload_n 1, 1)) (x2 : decode rx 2 = .ok (.invokespecial ix, 3)) (x5 : decode rx 5 = .ok (.return_, 1)) {A : Nat → Prop}
    (hown : s.vm.findClass own = some m.cls) (hcls : Bundle.fit cls = true) (hnames : ∀ n ∈ Y9 :: r9, Bundle.fit n = true)
    (hk : (Cond.classLink own ik cls).before args s = true) (hini : (Cond.initialized cls).before args s = true) (hstr : vk_R own is text sa s) (hat : ∀ w ∈ (xcAt own ic cls ix rx Y9 r9).filter vx_no, w.before args s = true)
    (hgood : ∀ w ∈ Cond.classLink own ik cls :: Cond.initialized cls :: (xcAt own ic cls ix rx Y9 r9).filter vx_no, vx_ot w = true)
    (hU : vx_Zq Bundle.tN "UNASSIGNED_STACK" Bundle.steD A s s.heap) (hN : vx_Zq Bundle.tN "SUPPRESSED_SENTINEL" Bundle.listD A s s.heap) (hS : va_S A s.heap H locs) (hsize : ls.size = c.maxLocals)
    (d0 : decode cc pc = .ok (.new ik, 3)) (d3 : decode cc (pc + 3) = .ok (.dup, 1)) (d4 : decode cc (pc + 4) = .ok (.ldc is, 2)) (d6 : decode cc (pc + 6) = .ok (.invokespecial ic, 3)) (d9 : decode cc (pc + 9) = .ok (.athrow, 1))
    (hout : ∀ x ∈ c.exceptionTable.toList, covers x (pc + 9) = false)
    (hRframes : (Y9 :: r9).length + 3 < R.frames) (hRlocals : (rest.map fun v => v.category).sum + (13 * ((Y9 :: r9).length + 1) + 43) ≤ R.locals) (hRcells : cells + 1 ≤ R.cells) (hRslots : slots + 6 ≤ R.slots) (hlocks : meth.locks = false)
    (hx : ∀ t : State, s.vm.Alike t.vm → H.size ≤ t.heap.size → (∀ q : Nat, q < H.size → t.heap[q]? = H[q]?) → XC cls s t)
    (hf : ∀ z ∈ locs, free z.base) (hc : cells + 1 ≤ mc) (hs : slots + 6 ≤ ms) :
    W p l e R s m args below meth c H locs cells slots (vx_MQ below Qc XC args s mc ms free) (F0 m pc ls rest) := by
  intro T hT X
  have htr : e.platform.stackTraces = false := (show e.platform.stackTraces = l.stackTraces by rw [X.admits.platform]).trans hl
  have Y := vx_rebase X (R' := { frames := R.frames, locals := R.locals, cells := 1, slots := 6 }) (Nat.le_refl _) (Nat.le_refl _) hRcells hRslots
  obtain ⟨s', hA⟩ : ∃ z, z = (T.setVm s.vm).setFrames (.invoking m args :: below) := ⟨_, rfl⟩
  rw [← hA] at Y
  have hvm : s'.vm = s.vm := by rw [hA]; rfl
  have hhp : s'.heap = H := by rw [hA]; exact hT
  have hW0 : s.WarmedH s'.vm := by rw [hvm]; exact State.WarmedH.refl s
  have hat' : ∀ w ∈ (xcAt own ic cls ix rx Y9 r9).filter vx_no, w.before args s' = true := fun w hw => vx_ot_at hW0 hvm.symm (hgood w (List.mem_cons_of_mem _ (List.mem_cons_of_mem _ hw))) (hat w hw)
  have hk' : (Cond.classLink own ik cls).before args s' = true := vx_ot_at hW0 hvm.symm (hgood _ List.mem_cons_self) hk
  have hini' : (Cond.initialized cls).before args s' = true := vx_ot_at hW0 hvm.symm (hgood _ (List.mem_cons_of_mem _ List.mem_cons_self)) hini
  have hU' : vx_Zq Bundle.tN "UNASSIGNED_STACK" Bundle.steD A s' s'.heap := by rw [hhp]; exact vx_Zq.moved hW0.alike (hU.kept hS.2.1)
  have hN' : vx_Zq Bundle.tN "SUPPRESSED_SENTINEL" Bundle.listD A s' s'.heap := by rw [hhp]; exact vx_Zq.moved hW0.alike (hN.kept hS.2.1)
  have h : ∀ w ∈ xcAt own ic cls ix rx Y9 r9, w.before args s' = true := vx_own hat' (vx_isRefq hU'.1) (vx_isRefq hN'.1) hU'.2.word hN'.2.word
  have hown' : s'.vm.findClass own = some m.cls := by rw [hvm]; exact hown
  have hins : (Cond.instantiable cls 6).before args s' = true := h _ (by simp [xcAt, xoW])
  obtain ⟨vm₁, cX, kX, hfX, hkX, -, -, X₁, st1⟩ := Y.newCold hexec (own := own) (C := cls) (index := ik) (n := 6) hown' hk' hins hini'
    (g := F0 m pc ls rest) rfl (by rw [hb]; exact d0) (Nat.le_refl _) (Nat.le_refl _)
  generalize hT1 : (T.setVm vm₁).pushCell { cls := cX, slots := kX.instanceTypes.map defaultValue, vm := .none } = T1 at X₁ st1
  have hcat : (Value.ref T.heap.size).category = 1 := rfl
  have hcellA : T1.heap[T.heap.size]? = some (freshCell cX kX) := by rw [← hT1]; exact State.heap_pushCell_size _ _
  have d3' : decode c.code (pc + 3) = .ok (.dup, 1) := by rw [hb]; exact d3
  have d4' : decode c.code (pc + 4) = .ok (.ldc is, 2) := by rw [hb]; exact d4
  have hstr' : vk_R own is text sa s' := vk_R.warm hW0 hstr
  obtain ⟨U, hsteps, hrun, hend, hW, hsame, ce, hce, hO⟩ := xc_ctor X₁ hexec htr x0 x1 x2 x5 (own := own) (cls := cls) (Y9 := Y9) (r9 := r9) (ic := ic) hown' hcls hnames h hfX hkX hcellA (by rw [hhp, hT]; exact Nat.le_refl _) (msg := .ref sa) rfl
    (g := { method := m, pc := pc + 6, locals := ls, stack := .ref sa :: .ref T.heap.size :: .ref T.heap.size :: rest, locked := none }) rfl hsize rfl rfl (rest := rest) rfl
    (by rw [hb]; exact d6) (by rw [hb]; exact d9) hout (by simp only [List.length_cons] at hRframes; omega) (by simp only [List.length_cons] at hRlocals; simp only [List.map_cons, List.sum_cons, hcat]; omega) hlocks
  obtain ⟨f1, f2⟩ := vx_frame hsame
  rw [hhp] at f1 f2
  have hWs : s.WarmedH U.vm := State.WarmedH.trans hW0 hW
  have hcl : s.vm.findClass cls = some ce.cls := by
    have h9 := hO.1
    rw [hvm] at h9
    exact h9
  have hall : s.sameButNew ({ U with vm := s.vm } : State) locs mc ms := by
    subst hA
    obtain ⟨e1, e2⟩ := hsame
    rw [State.setFrames_setFrames] at e1
    have h2 : (T.setVm s.vm).sameButNew ({ U with vm := s.vm } : State) [] (0 + 1) (0 + 6) := ⟨e1, e2⟩
    have h3 := X.same.trans h2
    rw [List.append_nil] at h3
    exact h3.mono hc hs
  refine ⟨U, ?_, .threw T.heap.size, hrun, hend, Or.inr ⟨T.heap.size, rfl, cls, ce, locs, hx U hWs.alike f1 (fun q hq => f2 q hq (fun z hz => nomatch hz)), hce, hO.2, hcl, hWs, hall, hf⟩⟩
  refine st1 _ ?_
  show Steps p.tables e below (T1.setTop { method := m, pc := pc + 3, locals := ls, stack := .ref T.heap.size :: rest, locked := none }) _
  jvm_step X₁.here [X₁.here.top, hexec, d3', Value.category]
  exact X₁.ldcString hexec (own := own) (text := text) (index := is) (a := sa) hown' hstr'.1 hstr'.2
    (g := { method := m, pc := pc + 4, locals := ls, stack := .ref T.heap.size :: .ref T.heap.size :: rest, locked := none }) rfl d4' _ hsteps
end XC

