/-! ===== makings, calls, switches ===== -/
section RulesC
variable {G : Gt} {d bc bs : Nat} {M : Mth} {pc : Nat} {K : KT} {Q : QT} {l : Ls} {z : List Value} {h : Hp}
theorem va_S.psh {A : Nat → Prop} {H0 H H1 : Heap} {locs : List Loc} (h : va_S A H0 H locs) (z1 : H1.size = H.size + 1) (o1 : ∀ q, q < H.size → H1[q]? = H[q]?) : va_S A H0 H1 locs := ⟨Nat.le_trans h.1 (by omega), fun x h1 h2 => (o1 x (Nat.lt_of_lt_of_le h1 h.1)).trans (h.2.1 x h1 h2), h.2.2⟩
def tNew (ci : Nat) (fs : List Value) (K : KT) : KT := fun l z h => K l (.ref h.1 :: z) (hNew h (.inl (ci, fs)))
theorem R_new {ci idx N : Nat} {C : String} {Tt : u_T} {fs : List Value} (ty : Nat → FieldType) (hty : ∀ k, k < N → parseFieldDescriptor (Tt k).2.2.1 = some (ty k)) (hd : decode M.2.1 pc = .ok (.new idx, 3)) (hc : clsA[ci]? = some (C, Tt, N)) (hin : ∀ w ∈ u_ws C Tt N, w ∈ wsA) (hw1 : Cond.classLink M.1.cls idx C ∈ wsA) (hw2 : Cond.instantiable C N ∈ wsA) (hw3 : Cond.initialized C ∈ wsA) (hl : fs.length = N) (hfs : ∀ j, j < N → defaultValue (ty j) = vp_V fs j)
    (hK : ∀ l z h, K l z h → T G d bc bs M (pc + 3) l z h Q) (k : tNew ci fs K l z h) : T G d (bc + 1) (bs + N) M pc l z h Q := by
  intro p la e R s m args below meth co H locs cells slots lsA hC h1 h2 h3 h4 hR hS hL
  have hts := hC.2.2.2.2.2.1
  have hKn := hC.2.2.2.2.2.2.2.2.1.1 ci _ hc
  refine W.newcK hC.1 hC.2.1 hC.2.2.2.2.1 (hts _ hw1) (hts _ hw2) (hts _ hw3) rfl hd (by omega) (by omega) hKn.2.1 rfl fun H1 kC hkC e1 z1 o1 => ?_
  have hb : G.2.2.1 ≤ H.size := Nat.le_trans hC.2.2.2.2.2.2.2.2.2.1 hS.1
  have hR1 : Rl G (hNew h (.inl (ci, fs))) H1 := Rl_new hR hb ⟨(C, Tt, N), hc, hl, (u_born ty hts hin hKn hkC e1 hty).to hfs⟩ z1 o1
  have k2 := hK _ _ _ k p la e R s m args below meth co H1 locs (cells + 1) (slots + N) lsA hC h1 h2 (by omega) (by omega) hR1 (hS.psh z1 o1) hL
  rw [show cells + 1 + bc = cells + (bc + 1) by omega, show slots + N + bs = slots + (bs + N) by omega, ← hR.1] at k2
  exact k2
def tNewI (kd N : Nat) (K : KT) : KT := fun l z h => match z with
  | .int x :: r => x.toNatClampNeg = N ∧ ¬ x < 0 ∧ K l (.ref h.1 :: r) (hNew h (.inr (.inl (kd, N, fun _ => 0))))
  | _ => False
def tNewJ (N : Nat) (K : KT) : KT := fun l z h => match z with
  | .int x :: r => x.toNatClampNeg = N ∧ ¬ x < 0 ∧ K l (.ref h.1 :: r) (hNew h (.inr (.inr (.inl (N, fun _ => 0)))))
  | _ => False
def tNewR (kd N : Nat) (K : KT) : KT := fun l z h => match z with
  | .int x :: r => x.toNatClampNeg = N ∧ ¬ x < 0 ∧ K l (.ref h.1 :: r) (hNew h (.inr (.inr (.inr (kd, N, fun _ => none)))))
  | _ => False
theorem RA_at {s : State} {kd : Nat} {ty : FieldType} (hK : va_K G.1 clsA (tysG G) s) (hk : kd < 8) (ht : tyA.getD kd .int = ty) (hp : va_RA s = va_RA s) : ArrOfT s (G.2.1 kd) ty ∧ va_RA s (G.2.1 kd) ty := by
  subst ht
  exact hK.2 kd _ (tysG_at hk)
theorem R_newI {kd N : Nat} {at' : ArrayType} {ty : FieldType} (hd : decode M.2.1 pc = .ok (.newarray at', 2)) (hkd : kd < 3) (hty : newarray.typeOf at' = ty) (ht : tyA.getD kd .int = ty) (hpr : ∀ (U : State) (cA : ClassId), va_RA U cA ty = (U.vm.findClass ("[" ++ ty.toString) = some cA)) (hdf : defaultValue ty = .int 0) (hw : Cond.arrayClass ty ∈ wsA) (hb : N * componentBytes ty ≤ 536870912)
    (hK : ∀ l z h, K l z h → T G d bc bs M (pc + 2) l z h Q) (k : tNewI kd N K l z h) : T G d (bc + 1) (bs + N) M pc l z h Q := by
  unfold tNewI at k
  split at k
  · rename_i x r
    obtain ⟨hN, hn, k⟩ := k
    intro p la e R s m args below meth co H locs cells slots lsA hC h1 h2 h3 h4 hR hS hL
    subst hty
    refine va_newaK hC.1 hC.2.1 (hC.2.2.2.2.2.1 _ hw) rfl hd rfl hn hN hb (by omega) (by omega) rfl fun H1 cA e1 z1 o1 hAr hNm => ?_
    have hra := (RA_at (G := G) (s := s) hC.2.2.2.2.2.2.2.2.1 (show kd < 8 by omega) ht rfl).2
    rw [hpr] at hra
    have hcA : cA = G.2.1 kd := Option.some.inj (hNm.symm.trans hra)
    have hbb : G.2.2.1 ≤ H.size := Nat.le_trans hC.2.2.2.2.2.2.2.2.2.1 hS.1
    have hR1 : Rl G (hNew h (.inr (.inl (kd, N, fun _ => 0)))) H1 := Rl_new hR hbb ⟨hkd, by rw [e1, hcA, hdf]⟩ z1 o1
    have k2 := hK _ _ _ k p la e R s m args below meth co H1 locs (cells + 1) (slots + N) lsA hC h1 h2 (by omega) (by omega) hR1 (hS.psh z1 o1) hL
    rw [show cells + 1 + bc = cells + (bc + 1) by omega, show slots + N + bs = slots + (bs + N) by omega, ← hR.1] at k2
    exact k2
  · exact k.elim
theorem R_newJ {N : Nat} (hd : decode M.2.1 pc = .ok (.newarray .long, 2)) (hw : Cond.arrayClass .long ∈ wsA) (hb : N * 8 ≤ 536870912)
    (hK : ∀ l z h, K l z h → T G d bc bs M (pc + 2) l z h Q) (k : tNewJ N K l z h) : T G d (bc + 1) (bs + N) M pc l z h Q := by
  unfold tNewJ at k
  split at k
  · rename_i x r
    obtain ⟨hN, hn, k⟩ := k
    intro p la e R s m args below meth co H locs cells slots lsA hC h1 h2 h3 h4 hR hS hL
    refine va_newaK (atype := .long) hC.1 hC.2.1 (hC.2.2.2.2.2.1 _ hw) rfl hd rfl hn hN hb (by omega) (by omega) rfl fun H1 cA e1 z1 o1 hAr hNm => ?_
    have hra : s.vm.findClass ("[" ++ (FieldType.long).toString) = some (G.2.1 3) := (hC.2.2.2.2.2.2.2.2.1.2 3 _ (tysG_at (by decide))).2
    have hcA : cA = G.2.1 3 := Option.some.inj (hNm.symm.trans hra)
    have hbb : G.2.2.1 ≤ H.size := Nat.le_trans hC.2.2.2.2.2.2.2.2.2.1 hS.1
    have hR1 : Rl G (hNew h (.inr (.inr (.inl (N, fun _ => 0))))) H1 := Rl_new hR hbb (by show H1[H.size]? = _; rw [e1, hcA]; rfl) z1 o1
    have k2 := hK _ _ _ k p la e R s m args below meth co H1 locs (cells + 1) (slots + N) lsA hC h1 h2 (by omega) (by omega) hR1 (hS.psh z1 o1) hL
    rw [show cells + 1 + bc = cells + (bc + 1) by omega, show slots + N + bs = slots + (bs + N) by omega, ← hR.1] at k2
    exact k2
  · exact k.elim
/-- what a call leaves to be shown -/
def Cal (G : Gt) (d cb cs : Nat) (M' : Mth) (As r : List Value) (l : Ls) (h : Hp) (K : KT) : Prop :=
  (r.map (fun v => v.category)).sum ≤ 8 ∧ ∃ (d' : Nat) (Q1 : QT), d' < d ∧ Mt G d' cb cs M' As h Q1 ∧ ∀ (v : Option Value) (h' : Hp), Q1 v h' → K l (v.toList ++ r) h'
theorem Pm.of {s U : State} {H : Heap} {locs : List Loc} {As : List Value} (hU : U.heap = H) (hW : s.WarmedH U.vm) (hG : Gd G s s.heap) (hS : va_S (Fr G) s.heap H locs) (hR : Rl G h H) : Pm G As h As.toArray U := by
  refine ⟨rfl, by rw [hU]; exact hR, ?_⟩
  rw [hU]
  exact (hG.kept hS).moved hW
theorem call_on {p : Program} {la : Launch} {e : Env} {R : Room} {s : State} {m : MethodId} {args : Array Value} {below : List Frame} {meth : Method} {c : Code} {H : Heap} {locs : List Loc} {cells slots cb cs : Nat} {lsA : Array Slot} {st0 rest : List Value} {a : Array Value} {Q1 : QT}
    (hr : va_Run p la e R s m args below meth c H locs cells slots cb cs (F0 m pc lsA st0) rest (Qm G Q1 a) (Fr G)) (hC : Cx G M p s m args meth c) (h1 : d ≤ R.frames) (h2 : d * 64 ≤ R.locals) (h3 : cells + (bc + cb) ≤ R.cells) (h4 : slots + (bs + cs) ≤ R.slots) (hS : va_S (Fr G) s.heap H locs) (hL : lv_has lsA M.2.2.1 l)
    (hK : ∀ (v : Option Value) (h' : Hp), Q1 v h' → T G d bc bs M (pc + 3) l (v.toList ++ rest) h' Q) : W p la e R s m args below meth c H locs cells slots (MQ below (Qm G Q) args s (cells + (bc + cb)) (slots + (bs + cs)) (Fr G)) (F0 m pc lsA st0) := by
  intro X hX hst
  obtain ⟨v, st₀, t, X', L, e0, X1, hLs, e1, e2, ⟨⟨w, h', hv, hq, hRl⟩, hz, hk⟩, go⟩ := hr X hX hst
  cases hv
  rw [e0] at hz hk
  have hS1 : va_S (Fr G) s.heap X'.heap (locs ++ L) := ⟨Nat.le_trans hS.1 (by rw [e1]; exact hz), fun q q1 q2 => by rw [e1, hk q (Nat.lt_of_lt_of_le q1 hS.1) q2]; exact hS.2.1 q q1 q2, fun q hq => by
    rcases List.mem_append.mp hq with h | h
    · exact hS.2.2 q h
    · exact hLs q h⟩
  have k2 := hK v h' hq p la e R s m args below meth c X'.heap (locs ++ L) (cells + cb) (slots + cs) lsA hC h1 h2 (by omega) (by omega) (by rw [e1]; exact hRl) hS1 hL
  rw [show cells + cb + bc = cells + (bc + cb) by omega, show slots + cs + bs = slots + (bs + cs) by omega] at k2
  obtain ⟨t2, a1, b1⟩ := k2 X' rfl X1
  exact ⟨t2, go t2 a1, b1⟩
theorem callB_T {R : Room} {s : State} {args : Array Value} {own : String} {idx n d' cb cs : Nat} {M' : Mth} (hts : ∀ w ∈ wsA, w.before args s = true) (hdd : d' < d) (h1 : d ≤ R.frames) (h2 : d * 64 ≤ R.locals) (hnl : M'.2.2.1 ≤ 45) (hcode : Cond.code M'.1 M'.2.1 M'.2.2.1 M'.2.2.2 ∈ wsA) (hini : Cond.initialized M'.1.cls ∈ wsA) (hlink : Cond.methodLink own idx M'.1 ∈ wsA) (hd : M'.1.cls ≠ "java/lang/invoke/MethodHandle" ∧ M'.1.cls ≠ "java/lang/invoke/VarHandle" ∧ (parseMethodDescriptor M'.1.desc).map (fun d => d.parameters.length) = some n) :
    CallB R s args own idx M'.1 M'.2.1 M'.2.2.1 M'.2.2.2 (Cond.code M'.1 M'.2.1 M'.2.2.1 M'.2.2.2 :: wsA) (roomT d' cb cs) cb cs n := by
  refine ⟨rfl, rfl, ?_, ?_, ?_, List.mem_cons_self, hts _ hcode, hts _ hini, ⟨hd.1, hd.2.1⟩, ?_, hts _ hlink⟩
  · show d' + 1 ≤ R.frames
    omega
  · show 8 + (M'.2.2.1 + 11) + d' * 64 ≤ R.locals
    omega
  · intro w hw a' U hW
    rcases List.mem_cons.mp hw with rfl | hw
    · exact word_at hW (wsA_good hcode) (hts _ hcode)
    · exact word_at hW (wsA_good hw) (hts _ hw)
  · intro sig hs
    have h2 := hd.2.2
    rw [hs] at h2
    exact (Option.some.inj h2).symm
theorem recv_T {s : State} {H : Heap} {b ci : Nat} {fs : List Value} {r : vw_C} (hKK : va_K G.1 clsA (tysG G) s) (hR : Rl G h H) (ha : h.2 b = some (.inl (ci, fs))) (hc : clsA[ci]? = some r) : ∃ cell : Cell, H[b]? = some cell ∧ cell.vm.isStatics = false ∧ s.vm.findClass r.1 = some cell.cls := va_recv hKK (hR.one ha) hc (q0 := 0) rfl
/-- a call of a method of an object: n arguments beside it -/
theorem R_callV {idx n cb cs ci : Nat} {M' : Mth} {r : vw_C} {As rest : List Value} {b : Nat} {fs : List Value} (hd : decode M.2.1 pc = .ok (.invokevirtual idx, 3)) (hc : clsA[ci]? = some r) (hnl : M'.2.2.1 ≤ 45) (hcode : Cond.code M'.1 M'.2.1 M'.2.2.1 M'.2.2.2 ∈ wsA) (hini : Cond.initialized M'.1.cls ∈ wsA) (hlink : Cond.methodLink M.1.cls idx M'.1 ∈ wsA) (hinst : Cond.instanceMethod M'.1 ∈ wsA) (hsel : Cond.selects r.1 M'.1 M'.1 ∈ wsA)
    (hy : M'.1.cls ≠ "java/lang/invoke/MethodHandle" ∧ M'.1.cls ≠ "java/lang/invoke/VarHandle" ∧ (parseMethodDescriptor M'.1.desc).map (fun d => d.parameters.length) = some n) (hz : z = As.reverse ++ .ref b :: rest) (hlen : As.length = n) (ha : h.2 b = some (.inl (ci, fs)))
    (hK : ∀ l z h, K l z h → T G d bc bs M (pc + 3) l z h Q) (k : Cal G d cb cs M' (.ref b :: As) rest l h K) : T G d (bc + cb) (bs + cs) M pc l z h Q := by
  obtain ⟨hcat, d', Q1, hdd, hM, k⟩ := k
  intro p la e R s m args below meth co H locs cells slots lsA hC h1 h2 h3 h4 hR hS hL
  have hts := hC.2.2.2.2.2.1
  subst hz
  exact call_on (va_runV (Ts := wsA) (own := M.1.cls) (C := r.1) (nL := M.2.2.1) ⟨hC.1, hC.2.1, hC.2.2.2.1, hC.2.2.2.2.1, hts⟩ (hM la) ⟨callB_T hts hdd h1 h2 hnl hcode hini hlink hy, hts _ hinst, hts _ hsel⟩ ⟨blindT, recv_T hC.2.2.2.2.2.2.2.2.1 hR ha hc, fun U hU hW => Pm.of hU hW hC.2.2.2.2.2.2.2.2 hS hR⟩ rfl hlen hL.1 rfl (lv_room hcat) hd ⟨by omega, by omega⟩) hC h1 h2 h3 h4 hS hL (fun v h' hq => hK _ _ _ (k v h' hq))
theorem R_callS {idx n cb cs : Nat} {M' : Mth} {As rest : List Value} (hd : decode M.2.1 pc = .ok (.invokestatic idx, 3)) (hnl : M'.2.2.1 ≤ 45) (hcode : Cond.code M'.1 M'.2.1 M'.2.2.1 M'.2.2.2 ∈ wsA) (hini : Cond.initialized M'.1.cls ∈ wsA) (hlink : Cond.methodLink M.1.cls idx M'.1 ∈ wsA) (hst : Cond.static M'.1 ∈ wsA)
    (hy : M'.1.cls ≠ "java/lang/invoke/MethodHandle" ∧ M'.1.cls ≠ "java/lang/invoke/VarHandle" ∧ (parseMethodDescriptor M'.1.desc).map (fun d => d.parameters.length) = some n) (hz : z = As.reverse ++ rest) (hlen : As.length = n)
    (hK : ∀ l z h, K l z h → T G d bc bs M (pc + 3) l z h Q) (k : Cal G d cb cs M' As rest l h K) : T G d (bc + cb) (bs + cs) M pc l z h Q := by
  obtain ⟨hcat, d', Q1, hdd, hM, k⟩ := k
  intro p la e R s m args below meth co H locs cells slots lsA hC h1 h2 h3 h4 hR hS hL
  have hts := hC.2.2.2.2.2.1
  subst hz
  exact call_on (va_runS (Ts := wsA) (own := M.1.cls) (nL := M.2.2.1) ⟨hC.1, hC.2.1, hC.2.2.2.1, hC.2.2.2.2.1, hts⟩ (hM la) ⟨callB_T hts hdd h1 h2 hnl hcode hini hlink hy, hts _ hst⟩ ⟨blindT, fun U hU hW => Pm.of hU hW hC.2.2.2.2.2.2.2.2 hS hR⟩ rfl hlen hL.1 rfl (lv_room hcat) hd ⟨by omega, by omega⟩) hC h1 h2 h3 h4 hS hL (fun v h' hq => hK _ _ _ (k v h' hq))
theorem R_callI {idx n cb cs : Nat} {M' : Mth} {As rest : List Value} {b : Nat} (hd : decode M.2.1 pc = .ok (.invokespecial idx, 3)) (hnl : M'.2.2.1 ≤ 45) (hr : M'.2.2.2 = none) (hcode : Cond.code M'.1 M'.2.1 M'.2.2.1 M'.2.2.2 ∈ wsA) (hini : Cond.initialized M'.1.cls ∈ wsA) (hlink : Cond.methodLink M.1.cls idx M'.1 ∈ wsA) (hinst : Cond.instanceMethod M'.1 ∈ wsA) (hnm : M'.1.name = "<init>")
    (hy : M'.1.cls ≠ "java/lang/invoke/MethodHandle" ∧ M'.1.cls ≠ "java/lang/invoke/VarHandle" ∧ (parseMethodDescriptor M'.1.desc).map (fun d => d.parameters.length) = some n) (hz : z = As.reverse ++ .ref b :: rest) (hlen : As.length = n)
    (hK : ∀ l z h, K l z h → T G d bc bs M (pc + 3) l z h Q) (k : Cal G d cb cs M' (.ref b :: As) rest l h K) : T G d (bc + cb) (bs + cs) M pc l z h Q := by
  obtain ⟨y, cc, nl, rt⟩ := M'
  have hr : rt = none := hr
  subst hr
  obtain ⟨hcat, d', Q1, hdd, hM, k⟩ := k
  intro p la e R s m args below meth co H locs cells slots lsA hC h1 h2 h3 h4 hR hS hL
  have hts := hC.2.2.2.2.2.1
  subst hz
  exact call_on (va_runI (Ts := wsA) (own := M.1.cls) (nL := M.2.2.1) ⟨hC.1, hC.2.1, hC.2.2.2.1, hC.2.2.2.2.1, hts⟩ (hM la) ⟨callB_T hts hdd h1 h2 hnl hcode hini hlink hy, hnm, hts _ hinst⟩ ⟨blindT, fun U hU hW => Pm.of hU hW hC.2.2.2.2.2.2.2.2 hS hR⟩ rfl hlen hL.1 rfl (lv_room hcat) hd ⟨by omega, by omega⟩) hC h1 h2 h3 h4 hS hL (fun v h' hq => hK _ _ _ (k v h' hq))
theorem callN_T {R : Room} {s : State} {args : Array Value} {own host : String} {idx n d' cb cs : Nat} {M' : Mth} (hts : ∀ w ∈ wsA, w.before args s = true) (hdd : d' < d) (h1 : d ≤ R.frames) (h2 : d * 64 ≤ R.locals) (hnl : M'.2.2.1 ≤ 45) (hcode : Cond.code M'.1 M'.2.1 M'.2.2.1 M'.2.2.2 ∈ wsA) (hini : Cond.initialized M'.1.cls ∈ wsA) (hlink : va_Nw (.methodLinkNest own idx M'.1 host) s) (hd : M'.1.cls ≠ "java/lang/invoke/MethodHandle" ∧ M'.1.cls ≠ "java/lang/invoke/VarHandle" ∧ (parseMethodDescriptor M'.1.desc).map (fun d => d.parameters.length) = some n) :
    va_CN R s args own idx M'.1 host M'.2.1 M'.2.2.1 M'.2.2.2 (Cond.code M'.1 M'.2.1 M'.2.2.1 M'.2.2.2 :: wsA) (roomT d' cb cs) cb cs n := by
  refine ⟨⟨rfl, rfl, ?_, ?_, ?_, List.mem_cons_self⟩, hts _ hcode, hts _ hini, ⟨hd.1, hd.2.1⟩, ?_, va_Nw.use rfl hlink⟩
  · show d' + 1 ≤ R.frames
    omega
  · show 8 + (M'.2.2.1 + 11) + d' * 64 ≤ R.locals
    omega
  · intro w hw a' U hW
    rcases List.mem_cons.mp hw with rfl | hw
    · exact word_at hW (wsA_good hcode) (hts _ hcode)
    · exact word_at hW (wsA_good hw) (hts _ hw)
  · intro sig hs
    have h2 := hd.2.2
    rw [hs] at h2
    exact (Option.some.inj h2).symm
theorem R_callSN {idx n cb cs : Nat} {host : String} {M' : Mth} {As rest : List Value} (hd : decode M.2.1 pc = .ok (.invokestatic idx, 3)) (hnl : M'.2.2.1 ≤ 45) (hcode : Cond.code M'.1 M'.2.1 M'.2.2.1 M'.2.2.2 ∈ wsA) (hini : Cond.initialized M'.1.cls ∈ wsA) (hlink : Cond.methodLinkNest M.1.cls idx M'.1 host ∈ lw_tbl) (hst : Cond.static M'.1 ∈ wsA)
    (hy : M'.1.cls ≠ "java/lang/invoke/MethodHandle" ∧ M'.1.cls ≠ "java/lang/invoke/VarHandle" ∧ (parseMethodDescriptor M'.1.desc).map (fun d => d.parameters.length) = some n) (hz : z = As.reverse ++ rest) (hlen : As.length = n)
    (hK : ∀ l z h, K l z h → T G d bc bs M (pc + 3) l z h Q) (k : Cal G d cb cs M' As rest l h K) : T G d (bc + cb) (bs + cs) M pc l z h Q := by
  obtain ⟨hcat, d', Q1, hdd, hM, k⟩ := k
  intro p la e R s m args below meth co H locs cells slots lsA hC h1 h2 h3 h4 hR hS hL
  have hts := hC.2.2.2.2.2.1
  subst hz
  exact call_on (va_runSN (Ts := wsA) (own := M.1.cls) (nL := M.2.2.1) ⟨hC.1, hC.2.1, hC.2.2.2.1, hC.2.2.2.2.1, hts⟩ (hM la) ⟨callN_T hts hdd h1 h2 hnl hcode hini (hC.2.2.2.2.2.2.2.2.2.2.1 _ hlink rfl) hy, hts _ hst, trivial⟩ ⟨blindT, fun U hU hW => Pm.of hU hW hC.2.2.2.2.2.2.2.2 hS hR⟩ rfl hlen hL.1 rfl (lv_room hcat) hd ⟨by omega, by omega⟩) hC h1 h2 h3 h4 hS hL (fun v h' hq => hK _ _ _ (k v h' hq))
theorem R_callIN {idx n cb cs : Nat} {host : String} {M' : Mth} {As rest : List Value} {b : Nat} (hd : decode M.2.1 pc = .ok (.invokespecial idx, 3)) (hnl : M'.2.2.1 ≤ 45) (hr : M'.2.2.2 = none) (hcode : Cond.code M'.1 M'.2.1 M'.2.2.1 M'.2.2.2 ∈ wsA) (hini : Cond.initialized M'.1.cls ∈ wsA) (hlink : Cond.methodLinkNest M.1.cls idx M'.1 host ∈ lw_tbl) (hinst : Cond.instanceMethod M'.1 ∈ wsA) (hnm : M'.1.name = "<init>")
    (hy : M'.1.cls ≠ "java/lang/invoke/MethodHandle" ∧ M'.1.cls ≠ "java/lang/invoke/VarHandle" ∧ (parseMethodDescriptor M'.1.desc).map (fun d => d.parameters.length) = some n) (hz : z = As.reverse ++ .ref b :: rest) (hlen : As.length = n)
    (hK : ∀ l z h, K l z h → T G d bc bs M (pc + 3) l z h Q) (k : Cal G d cb cs M' (.ref b :: As) rest l h K) : T G d (bc + cb) (bs + cs) M pc l z h Q := by
  obtain ⟨y, cc, nl, rt⟩ := M'
  have hr : rt = none := hr
  subst hr
  obtain ⟨hcat, d', Q1, hdd, hM, k⟩ := k
  intro p la e R s m args below meth co H locs cells slots lsA hC h1 h2 h3 h4 hR hS hL
  have hts := hC.2.2.2.2.2.1
  subst hz
  exact call_on (va_runIN (Ts := wsA) (own := M.1.cls) (nL := M.2.2.1) ⟨hC.1, hC.2.1, hC.2.2.2.1, hC.2.2.2.2.1, hts⟩ (hM la) ⟨callN_T hts hdd h1 h2 hnl hcode hini (hC.2.2.2.2.2.2.2.2.2.2.1 _ hlink rfl) hy, hnm, hts _ hinst⟩ ⟨blindT, fun U hU hW => Pm.of hU hW hC.2.2.2.2.2.2.2.2 hS hR⟩ rfl hlen hL.1 rfl (lv_room hcat) hd ⟨by omega, by omega⟩) hC h1 h2 h3 h4 hS hL (fun v h' hq => hK _ _ _ (k v h' hq))
end RulesC
