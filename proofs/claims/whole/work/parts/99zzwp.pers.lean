/-! ===== person throws; the law's person catches ===== -/
abbrev nsE : String := "java/util/NoSuchElementException"
abbrev nsD (c : String) : MethodName := ⟨c, "<init>", "(Ljava/lang/String;)V"⟩
/-- what no table's word keeps -/
def NX (U : State) : Prop := va_Nw (.castable nsE nsE) U ∧ va_Nw (.declares (nsD "java/lang/RuntimeException")) U ∧ va_Nw (.declares (nsD "java/lang/Exception")) U ∧ va_Nw (.declares (nsD "java/lang/Throwable")) U
theorem NX.warm {s U : State} (hW : s.WarmedH U.vm) (h : NX s) : NX U := ⟨va_Nw.warmC hW h.1, va_Nw.warmD hW h.2.1, va_Nw.warmD hW h.2.2.1, va_Nw.warmD hW h.2.2.2⟩
def PmX (G : Gt) (av : List Value) (h : Hp) : Array Value → State → Prop := fun v U => Pm G av h v U ∧ NX U
theorem blindX {G : Gt} {av : List Value} {h : Hp} : FrameBlind (PmX G av h) := by
  intro a U g mk q
  obtain ⟨q1, q2, q3, q4, q5⟩ := q
  exact ⟨blindT a U g mk q1, va_Nw.same rfl rfl q2, va_Nw.same rfl rfl q3, va_Nw.same rfl rfl q4, va_Nw.same rfl rfl q5⟩
def XCh (G : Gt) (h : Hp) : String → State → State → Prop := fun E st t => E = nsE ∧ ∃ N, h.1 ≤ N ∧ Rl G (N, h.2) t.heap ∧ va_F (Fr G) st t
def CP : CxT := fun _ la _ R s _ _ _ _ c => la.stackTraces = false ∧ NX s ∧ (∀ x ∈ c.exceptionTable.toList, False) ∧ R.cells = 1 ∧ R.slots = 6
def ZP (G : Gt) (h : Hp) : ZT := fun _ below args s => vx_MQ below (fun _ _ _ _ => False) (XCh G h) args s 1 6 (Fr G)
abbrev nsL : List Cond := (xcAt RX12 147 nsE 13 prog_32_method_4_code "java/lang/RuntimeException" ["java/lang/Exception"]).filter vx_no
theorem ns_good : ∀ w ∈ nsL.filter goodWord, w ∈ wsA := sub_wsA [151, 1417, 1426, 1428, 1431, 1433, 1418, 1419, 163, 164, 1420, 1425, 1429, 1449, 1407, 1450, 1409, 1451, 1411, 1421, 1423, 1413, 1445, 1446, 1448, 1413, 1436, 1437, 1438, 1439, 1439, 1440, 1441, 1442, 1442, 1443, 1444, 1445, 1396, 1435, 1405, 1404, 1412, 1406, 1408, 1410, 1414, 1415, 1416] (by decide +kernel) (by decide +kernel)
theorem ns_bad : ∀ w ∈ nsL.filter (fun w => !goodWord w), w ∈ [Cond.castable nsE nsE, .declares (nsD "java/lang/RuntimeException"), .declares (nsD "java/lang/Exception"), .declares (nsD "java/lang/Throwable")] := by decide +kernel
theorem ns_ot : ∀ w ∈ Cond.classLink RX12 143 nsE :: Cond.initialized nsE :: nsL, vx_ot w = true := by decide +kernel
theorem P_throw {G : Gt} {d : Nat} {l : Ls} {h : Hp} (hd : 8 ≤ d) : TG G CP (ZP G h) d 1 6 mX12_person 20 l [] h := by
  intro p la e R s m args below meth c H locs cells slots lsA hC h1 h2 h3 h4 hR hS hL
  obtain ⟨hC, hl, hN, htab, hr1, hr2⟩ := hC
  have hts := hC.2.2.2.2.2.1
  have hG := hC.2.2.2.2.2.2.2.2
  have hZ := hG.2.2.2.2.2.2.2.1
  have hRr := hG.2.2.2.2.2.2.2.2
  refine xc_throw (rx := prog_32_method_4_code) (ix := 13) (cc := cX12_person) (own := RX12) (cls := nsE) (Y9 := "java/lang/RuntimeException") (r9 := ["java/lang/Exception"]) (ik := 143) (is := 145) (ic := 147) (A := Fr G) (text := "no such person or what") (sa := sK G 28)
    hC.1 hC.2.1 hl (by decide +kernel) (by decide +kernel) (by decide +kernel) (by decide +kernel) hC.2.2.2.2.1 (by decide +kernel) (by decide +kernel) (hts _ w_1395) (hts _ w_154) hRr.2.2.2 (vx_hat (fun w hw => hts w (ns_good w hw)) ns_bad (vx_c (va_Nw.use rfl hN.1) (vx_c (va_Nw.use rfl hN.2.1) (vx_c (va_Nw.use rfl hN.2.2.1) (vx_c (va_Nw.use rfl hN.2.2.2) vx_n))))) ns_ot hZ.2.2.2.2.2.2.2.2.1 hZ.2.2.2.2.2.2.2.2.2.1 hS (hL.1.trans hC.2.2.2.1.symm)
    dX12_person_20 dX12_person_23 dX12_person_24 dX12_person_26 dX12_person_29 (fun x hx => (htab x hx).elim) ?_ ?_ (by omega) (by omega) hC.2.2.2.2.2.2.1 (fun t _ z1 z2 => ⟨rfl, t.heap.size, by rw [← hR.1]; exact z1, ⟨rfl, fun a e he => ⟨(hR.2 a e he).1, (hR.2 a e he).2.kept (z2 a (hR.2 a e he).2.lt)⟩⟩, Nat.le_trans hS.1 z1, fun q q1 q2 => by rw [z2 q (Nat.lt_of_lt_of_le q1 hS.1)]; exact hS.2.1 q q1 q2⟩) hS.2.2 (by omega) (by omega)
  · show 2 + 3 < R.frames
    omega
  · show 0 + (13 * (2 + 1) + 43) ≤ R.locals
    omega
section Prs
variable {G : Gt} {h : Hp} {B : Nat} {pl ft : Int32} {w : Wd}
theorem pm_walk {x y : Int32} (h0 : h.2 B = some (oB B pl ft)) (hW : HasW h (B + 77) w) (hno : ¬ (vI (wPe w) x ∧ vI 6 y)) : TG G CP (ZP G h) 8 1 6 mX12_person 0 (lv_args 0 [.ref B, .int x, .int y]) [] h := by
  have o1 := oB_e h0
  have o2 := hW.1
  refine gX12_person_0 ?_
  simp +decide (disch := omega) only [lv_args, Value.category, sto2, List.filter_cons, List.filter_nil, if_true, if_false, tPush, tIld, tLld, tAld, tIst, tAst, tLst, tInc, tB, tBn, tU, tLB, tLBn, tLS, tI2l, tL2i, tLcmp, tDup, tPop, tDup2, tDupx1, tIf, tIf2, tNul, tAcm, tRetI, tRetZ, tRetC, tRetL, tRetV, tRetA, tGetf, tPutf, isI, isL, isA, isZ, tXald, tXast, tZast, tJald, tJast, tRald, tLen, tCV0, tCV1, tCV2, tCV3, tCV4, tCV5, tCS1, tCS2, tCS3, tCS4, tCS5, tCS6, tCS7, tCpyI, tCpyJ, tMax, tMin, tAbs, tSw, tTab, tLook, tLk, Int32.reduceAdd, List.map_cons, List.map_nil, List.sum_cons, List.sum_nil, List.getElem?_cons_succ, List.getElem?_cons_zero, List.set_cons_succ, List.set_cons_zero, true_and, and_true, Option.some.injEq, Sum.inl.injEq, Sum.inr.injEq, Prod.mk.injEq, Value.int.injEq, Value.ref.injEq, Value.long.injEq, exists_eq', Option.toList_some, Option.toList_none, List.cons_append, List.nil_append, Bool.not_false, Bool.not_true, Bool.and_true, Bool.and_false, Bool.true_and, Bool.false_and, hS_s, hS_n, ne_eq, not_false_eq_true, Classical.not_not, Nat.reduceAdd, eq_self, forall_const, false_implies, true_implies, not_true_eq_false, implies_true, lkk_s, lkk_n, sto1_e, sto1_s, sto1_i, sto1_r, sto1_l, stf_e, stf_i, stf_r, stf_l, o1, o2, b2i_0]
  refine calp (Nat.le_of_ble_eq_true rfl) (by decide) (ct_isPerson hW) ?_
  refine gX12_person_8 ?_
  simp +decide (disch := omega) only [lv_args, Value.category, sto2, List.filter_cons, List.filter_nil, if_true, if_false, tPush, tIld, tLld, tAld, tIst, tAst, tLst, tInc, tB, tBn, tU, tLB, tLBn, tLS, tI2l, tL2i, tLcmp, tDup, tPop, tDup2, tDupx1, tIf, tIf2, tNul, tAcm, tRetI, tRetZ, tRetC, tRetL, tRetV, tRetA, tGetf, tPutf, isI, isL, isA, isZ, tXald, tXast, tZast, tJald, tJast, tRald, tLen, tCV0, tCV1, tCV2, tCV3, tCV4, tCV5, tCS1, tCS2, tCS3, tCS4, tCS5, tCS6, tCS7, tCpyI, tCpyJ, tMax, tMin, tAbs, tSw, tTab, tLook, tLk, Int32.reduceAdd, List.map_cons, List.map_nil, List.sum_cons, List.sum_nil, List.getElem?_cons_succ, List.getElem?_cons_zero, List.set_cons_succ, List.set_cons_zero, true_and, and_true, Option.some.injEq, Sum.inl.injEq, Sum.inr.injEq, Prod.mk.injEq, Value.int.injEq, Value.ref.injEq, Value.long.injEq, exists_eq', Option.toList_some, Option.toList_none, List.cons_append, List.nil_append, Bool.not_false, Bool.not_true, Bool.and_true, Bool.and_false, Bool.true_and, Bool.false_and, hS_s, hS_n, ne_eq, not_false_eq_true, Classical.not_not, Nat.reduceAdd, eq_self, forall_const, false_implies, true_implies, not_true_eq_false, implies_true, lkk_s, lkk_n, sto1_e, sto1_s, sto1_i, sto1_r, sto1_l, stf_e, stf_i, stf_r, stf_l, o1, o2, b2i_0]
  refine ⟨fun c8 => P_throw (by decide), fun c8 => ?_⟩
  refine gX12_person_11 ?_
  simp +decide (disch := omega) only [lv_args, Value.category, sto2, List.filter_cons, List.filter_nil, if_true, if_false, tPush, tIld, tLld, tAld, tIst, tAst, tLst, tInc, tB, tBn, tU, tLB, tLBn, tLS, tI2l, tL2i, tLcmp, tDup, tPop, tDup2, tDupx1, tIf, tIf2, tNul, tAcm, tRetI, tRetZ, tRetC, tRetL, tRetV, tRetA, tGetf, tPutf, isI, isL, isA, isZ, tXald, tXast, tZast, tJald, tJast, tRald, tLen, tCV0, tCV1, tCV2, tCV3, tCV4, tCV5, tCS1, tCS2, tCS3, tCS4, tCS5, tCS6, tCS7, tCpyI, tCpyJ, tMax, tMin, tAbs, tSw, tTab, tLook, tLk, Int32.reduceAdd, List.map_cons, List.map_nil, List.sum_cons, List.sum_nil, List.getElem?_cons_succ, List.getElem?_cons_zero, List.set_cons_succ, List.set_cons_zero, true_and, and_true, Option.some.injEq, Sum.inl.injEq, Sum.inr.injEq, Prod.mk.injEq, Value.int.injEq, Value.ref.injEq, Value.long.injEq, exists_eq', Option.toList_some, Option.toList_none, List.cons_append, List.nil_append, Bool.not_false, Bool.not_true, Bool.and_true, Bool.and_false, Bool.true_and, Bool.false_and, hS_s, hS_n, ne_eq, not_false_eq_true, Classical.not_not, Nat.reduceAdd, eq_self, forall_const, false_implies, true_implies, not_true_eq_false, implies_true, lkk_s, lkk_n, sto1_e, sto1_s, sto1_i, sto1_r, sto1_l, stf_e, stf_i, stf_r, stf_l, o1, o2, b2i_0]
  refine ⟨fun c11 => P_throw (by decide), fun c11 => ?_⟩
  refine gX12_person_15 ?_
  simp +decide (disch := omega) only [lv_args, Value.category, sto2, List.filter_cons, List.filter_nil, if_true, if_false, tPush, tIld, tLld, tAld, tIst, tAst, tLst, tInc, tB, tBn, tU, tLB, tLBn, tLS, tI2l, tL2i, tLcmp, tDup, tPop, tDup2, tDupx1, tIf, tIf2, tNul, tAcm, tRetI, tRetZ, tRetC, tRetL, tRetV, tRetA, tGetf, tPutf, isI, isL, isA, isZ, tXald, tXast, tZast, tJald, tJast, tRald, tLen, tCV0, tCV1, tCV2, tCV3, tCV4, tCV5, tCS1, tCS2, tCS3, tCS4, tCS5, tCS6, tCS7, tCpyI, tCpyJ, tMax, tMin, tAbs, tSw, tTab, tLook, tLk, Int32.reduceAdd, List.map_cons, List.map_nil, List.sum_cons, List.sum_nil, List.getElem?_cons_succ, List.getElem?_cons_zero, List.set_cons_succ, List.set_cons_zero, true_and, and_true, Option.some.injEq, Sum.inl.injEq, Sum.inr.injEq, Prod.mk.injEq, Value.int.injEq, Value.ref.injEq, Value.long.injEq, exists_eq', Option.toList_some, Option.toList_none, List.cons_append, List.nil_append, Bool.not_false, Bool.not_true, Bool.and_true, Bool.and_false, Bool.true_and, Bool.false_and, hS_s, hS_n, ne_eq, not_false_eq_true, Classical.not_not, Nat.reduceAdd, eq_self, forall_const, false_implies, true_implies, not_true_eq_false, implies_true, lkk_s, lkk_n, sto1_e, sto1_s, sto1_i, sto1_r, sto1_l, stf_e, stf_i, stf_r, stf_l, o1, o2, b2i_0]
  refine ⟨fun c15 => ?_, fun c15 => P_throw (by decide)⟩
  exfalso
  refine hno ⟨?_, c11, fun c => ?_⟩
  · by_cases z : vI (wPe w) x
    · exact z
    · simp_all [b2i]
  · have c := Int32.le_iff_toInt_le.mp c
    have c15 := Int32.le_iff_toInt_le.mp c15
    have e6 : (nI 6).toInt = 6 := by decide
    have e5 : (5 : Int32).toInt = 5 := by decide
    omega
theorem pm_throw {la : Launch} (hl : la.stackTraces = false) {x y : Int32} (h0 : h.2 B = some (oB B pl ft)) (hW : HasW h (B + 77) w) (hno : ¬ (vI (wPe w) x ∧ vI 6 y)) :
    vx_Met la mX12_person.1 (Cond.code mX12_person.1 mX12_person.2.1 mX12_person.2.2.1 mX12_person.2.2.2 :: wsA) (roomT 8 1 6) (PmX G [.ref B, .int x, .int y] h) (fun _ _ _ _ => False) (XCh G h) 1 6 (Fr G) := by
  refine vx_ofW (cc := cX12_person) (maxL := 3) (ret := some .int) (by decide +kernel) rfl ?_
  intro p e s m args below meth c s₁ Bd hml htab hv
  obtain ⟨⟨rfl, hR, hG⟩, hN⟩ := hv
  have hts := atoms_spec (ws := Cond.code mX12_person.1 mX12_person.2.1 mX12_person.2.2.1 mX12_person.2.2.2 :: wsA) Bd.pre
  rw [lg_entry_eq]
  exact pm_walk h0 hW hno p la e (roomT 8 1 6) s m _ below meth c s.heap [] 0 0 _ ⟨⟨Bd.exec, Bd.bytes, Bd.returns, hml, findClass_of_methodNamed Bd.named, fun w hw => hts w (List.mem_cons_of_mem _ hw), Bd.notSynchronized, (name_of_methodNamed Bd.named Bd.method).1, hG⟩, hl, hN, htab, rfl, rfl⟩ (Nat.le_refl _) (Nat.le_refl _) (Nat.le_refl _) (Nat.le_refl _) hR va_S.rf (lv_entry _ (Nat.le_of_ble_eq_true rfl))
end Prs
/-! the law's person -/
abbrev hhL : List (Nat × Nat × Nat × Nat) := [(0, 10, 13, 13)]
def CQ : CxT := fun _ la _ R s _ _ _ _ c => la.stackTraces = false ∧ NX s ∧ c.exceptionTable.toList = tableOf hhL ∧ R.cells = 1 ∧ R.slots = 6
theorem P_call {G : Gt} {h : Hp} {B o : Nat} {pl ft x y : Int32} {w : Wd} {ZZ : ZT} {l : Ls} (h0 : h.2 B = some (oB B pl ft)) (hW : HasW h (B + 77) w) (hno : ¬ (vI (wPe w) x ∧ vI 6 y)) (k : ∀ N q, h.1 ≤ N → TG G CQ ZZ 10 0 0 mL_person 13 l [.ref q] (N, h.2)) : TG G CQ ZZ 10 1 6 mL_person 5 l [.int y, .int x, .ref B, .int 0, .ref o] h := by
  intro p la e R s m args below meth c H locs cells slots lsA hC h1 h2 h3 h4 hR hS hL
  have hC0 := hC
  obtain ⟨hC, hl, hN, htab, hr1, hr2⟩ := hC
  have hts := hC.2.2.2.2.2.1
  have o1 := oB_e h0
  intro X hX hst
  have hrun := vx_runV (Ts := wsA) (own := RL) (C := RX12) (nL := 5) (cc := cL_person) (g := F0 m 5 lsA [.int y, .int x, .ref B, .int 0, .ref o]) (As := [.int x, .int y]) (rest := [.int 0, .ref o]) (b := B) (index := 7) (n := 2) (below := below) (e := e) (R := R) (meth := meth) (locs := locs) (cells := cells) (slots := slots) ⟨hC.1, hC.2.1, hC.2.2.2.1, hC.2.2.2.2.1, hts⟩ (pm_throw (G := G) hl h0 hW hno) ⟨callB_T (d := 10) (d' := 8) (cb := 1) (cs := 6) (M' := mX12_person) hts (by decide) h1 h2 (by decide) w_1394 w_130 w_1391 (by decide +kernel), hts _ w_1392, hts _ w_1393⟩ ⟨blindX, recv_T hC.2.2.2.2.2.2.2.2.1 hR h0 (r := (RX12, TX12, 16)) rfl, fun U hU hW => ⟨Pm.of hU hW hC.2.2.2.2.2.2.2.2 hS hR, hN.warm hW⟩⟩ rfl rfl hL.1 rfl (lv_room (Nat.le_of_ble_eq_true rfl)) dL_person_5 ⟨by omega, by omega⟩
  rcases hrun X hX hst with ⟨v, st₀, t, T', L, e0, X', hLf, e1, e2, hq, go⟩ | ⟨q, st₀, t, T', L, E, ce, e0, X', hLf, e1, e2, hx, hce, hcv, hcl, st⟩
  · exact hq.elim
  · obtain ⟨rfl, N, hN', hRl, hF⟩ := hx
    obtain ⟨k1, k2, k3⟩ := vx_keep e0 e1 hS (fun q _ h => h) (fun q h => h) hLf hF
    have kk := k N q hN' p la e R s m args below meth c T'.heap (locs ++ L) (cells + 1) (slots + 6) lsA hC0 h1 h2 (by omega) (by omega) (by rw [e1]; exact hRl) k3 hL
    have kx := vx_catch (own := RL) (name := nsE) (pc := 5) (rest := [.int 0, .ref o]) (E := nsE) (q := q) (ce := ce) hC.2.2.2.2.1 [] ⟨0, 10, 13, 13⟩ [] htab (fun z hz => nomatch hz) (by decide) (by decide) (hts _ w_1390) (va_Nw.use rfl hN.1) (by rw [e1]; exact hce) hcv hcl kk
    obtain ⟨t2, a1, b1⟩ := kx T' rfl X'
    exact ⟨t2, st.trans a1, b1⟩
/-- a contract of the law's person -/
def MtP (G : Gt) (av : List Value) (h : Hp) (Q : QT) : Prop := ∀ la : Launch, la.stackTraces = false → Met la yL_person (Cond.codeWith yL_person cL_person 5 (some .int) hhL :: wsA) (roomT 10 1 6) (PmX G av h) (Qm G Q) 1 6 (Fr G)
theorem MtP.of {G : Gt} {av : List Value} {h : Hp} {Q : QT} (hn : (lg_sl av).length ≤ 5) (k : TG G CQ (ZQ G Q) 10 1 6 mL_person 0 (lv_args 0 av) [] h) : MtP G av h Q := by
  intro la hl
  refine MetFree.of_bodyS (code := cL_person) (maxLocals := 5) (ret := some .int) (by decide +kernel) ?_ ?_
  · intro args s m h hn
    obtain ⟨m9, meth, c, hn9, h1, h2, h3, h4, -, h5, h6, -⟩ := Cond.codeWith_spec (atoms_spec (ws := Cond.codeWith yL_person cL_person 5 (some .int) hhL :: wsA) h _ List.mem_cons_self)
    cases hn.symm.trans hn9
    exact ⟨meth, c, h1, h2, h3, h4, h5, h6⟩
  · intro p e s m args below meth c s₁ Bd hml hv _
    have hh0 : s₁.heap = s.heap := by rw [Bd.state]; rfl
    have hts := atoms_spec (ws := Cond.codeWith yL_person cL_person 5 (some .int) hhL :: wsA) Bd.pre
    have htab := vx_table (x := yL_person) Bd (hts _ List.mem_cons_self)
    obtain ⟨⟨rfl, hR, hG⟩, hN⟩ := hv
    have k2 := k p la e (roomT 10 1 6) s m _ below meth c s.heap [] 0 0 _ ⟨⟨Bd.exec, Bd.bytes, Bd.returns, hml, findClass_of_methodNamed Bd.named, fun w hw => hts w (List.mem_cons_of_mem _ hw), Bd.notSynchronized, (name_of_methodNamed Bd.named Bd.method).1, hG⟩, hl, hN, htab, rfl, rfl⟩ (Nat.le_refl _) (Nat.le_refl _) (Nat.le_refl _) (Nat.le_refl _) hR va_S.rf (lv_entry av hn)
    rw [← lg_entry_eq] at k2
    obtain ⟨t, a1, o, b1, b2, b3⟩ := k2 s₁ hh0 (Stand.of_body Bd)
    exact ⟨t, o, a1, b1, b2, ⟨b3.1, b3.2⟩⟩

