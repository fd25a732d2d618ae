/-! ===== the law: person ===== -/
theorem lcmp_self (x : Int64) : lg_cmp x x = 0 := by
  unfold lg_cmp
  simp [Int64.lt_irrefl]
section Hco
variable {G : Gt} {h h' : Hp} {B : Nat} {c : Cs}
theorem HC.out {g : Nat → Int64} (hc : HC G h B c) (y : h'.2 (B + 261) = some (.inr (.inr (.inl (1, g))))) (f1 : h'.1 = h.1) (fr : ∀ q : Nat, (q ≠ B + 261) → h'.2 q = h.2 q) : HC G h' B c :=
  ⟨hc.pB.on (fun q a b => fr q (by omega)) (fun q a b => fr q (by omega)),
    hc.pT.on (fun q a b => fr q (by omega)),
    hc.pK.on (fun q a b => fr q (by omega)),
    (fr _ (by omega)).trans hc.pR,
    (let ⟨u, hu⟩ := hc.pU; ⟨u, hu.on (fun q a b => fr q (by omega))⟩),
    hc.pQ.on (fun q a b => fr q (by omega)),
    (let ⟨u, hu⟩ := hc.pO; ⟨u, hu.on (fun q a b => fr q (by omega))⟩),
    (fr _ (by omega)).trans hc.pD,
    hc.pW.on (fun q a b => fr q (by omega)),
    hc.pP.on (fun q a b => fr q (by omega)),
    hc.pS.on (fun q a b => fr q (by omega)),
    hc.pZ.on (fun q a b => fr q (by omega)),
    (fr _ (by omega)).trans hc.pI,
    (fr _ (by omega)).trans hc.pJ,
    (let ⟨u, hu⟩ := hc.pX; ⟨u, hu.on (fun q a b => fr q (by omega))⟩),
    (let ⟨u1, u2, u3, u4, hu⟩ := hc.pY; ⟨u1, u2, u3, u4, hu.ont (fun q a => fr q (by omega))⟩),
    (let ⟨u, hu⟩ := hc.pV; ⟨u, hu.on (fun q a b => fr q (by omega))⟩),
    (let ⟨u1, u2, hu⟩ := hc.pL; ⟨u1, u2, hu.on (fun q a b => fr q (by omega))⟩),
    ⟨g, y⟩,
    fun k hk => (hc.pM k hk).imp id (fun ⟨N, a1, a2, a3, a4, a5, a6⟩ => ⟨N, a1, a2, a3.on (fun q a b => fr q (by omega)), a4.on (fun q a b => fr q (by omega)), a5, by rw [f1]; exact a6⟩),
    hc.pN,
    by rw [f1]; exact hc.pH⟩
theorem HC.grow {N : Nat} (hc : HC G h B c) (hN : h.1 ≤ N) : HC G (N, h.2) B c := by
  have hH := hc.pH
  have fr : ∀ q : Nat, True → ((N, h.2) : Hp).2 q = h.2 q := fun _ _ => rfl
  exact ⟨hc.pB.on (fun q a b => fr q trivial) (fun q a b => fr q trivial),
    hc.pT.on (fun q a b => fr q trivial),
    hc.pK.on (fun q a b => fr q trivial),
    (fr _ trivial).trans hc.pR,
    (let ⟨u, hu⟩ := hc.pU; ⟨u, hu.on (fun q a b => fr q trivial)⟩),
    hc.pQ.on (fun q a b => fr q trivial),
    (let ⟨u, hu⟩ := hc.pO; ⟨u, hu.on (fun q a b => fr q trivial)⟩),
    (fr _ trivial).trans hc.pD,
    hc.pW.on (fun q a b => fr q trivial),
    hc.pP.on (fun q a b => fr q trivial),
    hc.pS.on (fun q a b => fr q trivial),
    hc.pZ.on (fun q a b => fr q trivial),
    (fr _ trivial).trans hc.pI,
    (fr _ trivial).trans hc.pJ,
    (let ⟨u, hu⟩ := hc.pX; ⟨u, hu.on (fun q a b => fr q trivial)⟩),
    (let ⟨u1, u2, u3, u4, hu⟩ := hc.pY; ⟨u1, u2, u3, u4, hu.ont (fun q a => fr q trivial)⟩),
    (let ⟨u, hu⟩ := hc.pV; ⟨u, hu.on (fun q a b => fr q trivial)⟩),
    (let ⟨u1, u2, hu⟩ := hc.pL; ⟨u1, u2, hu.on (fun q a b => fr q trivial)⟩),
    (let ⟨u, hu⟩ := hc.pG; ⟨u, (fr _ trivial).trans hu⟩),
    fun k hk => (hc.pM k hk).imp id (fun ⟨M, a1, a2, a3, a4, a5, a6⟩ => ⟨M, a1, a2, a3.on (fun q a b => rfl), a4.on (fun q a b => rfl), a5, Nat.le_trans a6 hN⟩),
    hc.pN,
    Nat.le_trans hH hN⟩
end Hco
section Lwp
variable {G : Gt} {X : Sc} {B i bc bs : Nat} {h : Hp}
theorem lc_person (hL : X.2.1 ≤ 3072) (hi : i + 6 ≤ X.2.1) (hI : Inv G h B) (k : ∀ h', Inv G h' B → TG G (CL' G X) ZL 100 bc bs mL_law 1355 [(0, .ref X.1), (1, .ref B), (2, .ref (B + 240)), (3, .ref (B + 261)), (4, .int (nI i))] [] h') : TG G (CL' G X) ZL 100 (bc + 1) (bs + 6) mL_law 340 [(0, .ref X.1), (1, .ref B), (2, .ref (B + 240)), (3, .ref (B + 261)), (4, .int (nI i))] [] h := by
  have hv1 : vp_in (nI i + 1) X.2.1 := scv (k := 1) (by omega) hL
  have hv2 : vp_in (nI i + 2) X.2.1 := scv (k := 2) (by omega) hL
  have hz : vp_in 0 1 := vp_in_nI (n := 0) (N := 1) (by decide) (by decide)
  obtain ⟨c, s, hc, hr, hm⟩ := hI
  have hw := hr.rw
  have h8 := hw.2.1
  obtain ⟨g, hg⟩ := hc.pG
  refine bL_law_340 ?_
  simp +decide (disch := omega) only [lv_args, Value.category, sto2, List.filter_cons, List.filter_nil, if_true, if_false, tPush, tIld, tLld, tAld, tIst, tAst, tLst, tInc, tB, tBn, tU, tLB, tLBn, tLS, tI2l, tL2i, tLcmp, tDup, tPop, tDup2, tDupx1, tIf, tIf2, tNul, tAcm, tRetI, tRetZ, tRetC, tRetL, tRetV, tRetA, tGetf, tPutf, isI, isL, isA, isZ, tXald, tXast, tZast, tJald, tJast, tRald, tLen, tCV0, tCV1, tCV2, tCV3, tCV4, tCV5, tCS1, tCS2, tCS3, tCS4, tCS5, tCS6, tCS7, tCpyI, tCpyJ, tMax, tMin, tAbs, tSw, tTab, tLook, tLk, Int32.reduceAdd, List.map_cons, List.map_nil, List.sum_cons, List.sum_nil, List.getElem?_cons_succ, List.getElem?_cons_zero, List.set_cons_succ, List.set_cons_zero, true_and, and_true, Option.some.injEq, Sum.inl.injEq, Sum.inr.injEq, Prod.mk.injEq, Value.int.injEq, Value.ref.injEq, Value.long.injEq, exists_eq', Option.toList_some, Option.toList_none, List.cons_append, List.nil_append, Bool.not_false, Bool.not_true, Bool.and_true, Bool.and_false, Bool.true_and, Bool.false_and, hS_s, hS_n, ne_eq, not_false_eq_true, Classical.not_not, Nat.reduceAdd, eq_self, forall_const, false_implies, true_implies, not_true_eq_false, implies_true, lkk_s, lkk_n, sto1_e, sto1_s, sto1_i, sto1_r, sto1_l, stf_e, stf_i, stf_r, stf_l, tScr, tScl, tFin, hv1, hv2, hz]
  generalize e1 : X.2.2 (nI i + 1).toNatClampNeg = a1
  generalize e2 : X.2.2 (nI i + 2).toNatClampNeg = a2
  by_cases hv : vI (wPe c.2.2.1) a1 ∧ vI 6 a2
  · obtain ⟨p, hp, rfl⟩ := vI_of (by omega) hv.1
    refine L_pers (As := [.ref B, .int (nI p), .int a2, .ref (B + 261)]) (rest := []) dL_law_354 rfl rfl (by decide) (Nat.le_of_ble_eq_true rfl) (cl_person hc.o hc.pW hw hp hv.2 hg) (fun v h1 hq => ?_)
    obtain ⟨rfl, g', eg, e3⟩ := hq
    have hcell : h1.2 (B + 261) = some (.inr (.inr (.inl (1, g')))) := by rw [e3]; exact if_pos rfl
    have hc1 : HC G h1 B c := hc.out hcell (by rw [e3]; rfl) (fun q a => by rw [e3]; exact if_neg a)
    have hm1 : hM h1 (B + 240) s = h1 := hM_keep hm (fun q a b => by rw [e3]; exact if_neg (by omega))
    have km := cm_person (G := G) (h := h1) (m := B + 240) hr.rv hw hp hv.2
    have ho : ∃ fs, h1.2 (B + 240) = some (.inl (11, fs)) := ⟨_, by rw [← hm1]; exact hM_0⟩
    have hcell2 : (hM h1 (B + 240) (sF s 0 0)).2 (B + 261) = some (.inr (.inr (.inl (1, g')))) := (hM_out (by omega)).trans hcell
    rw [hm1] at km
    refine bL_law_357 ?_
    simp +decide (disch := omega) only [lv_args, Value.category, sto2, List.filter_cons, List.filter_nil, if_true, if_false, tPush, tIld, tLld, tAld, tIst, tAst, tLst, tInc, tB, tBn, tU, tLB, tLBn, tLS, tI2l, tL2i, tLcmp, tDup, tPop, tDup2, tDupx1, tIf, tIf2, tNul, tAcm, tRetI, tRetZ, tRetC, tRetL, tRetV, tRetA, tGetf, tPutf, isI, isL, isA, isZ, tXald, tXast, tZast, tJald, tJast, tRald, tLen, tCV0, tCV1, tCV2, tCV3, tCV4, tCV5, tCS1, tCS2, tCS3, tCS4, tCS5, tCS6, tCS7, tCpyI, tCpyJ, tMax, tMin, tAbs, tSw, tTab, tLook, tLk, Int32.reduceAdd, List.map_cons, List.map_nil, List.sum_cons, List.sum_nil, List.getElem?_cons_succ, List.getElem?_cons_zero, List.set_cons_succ, List.set_cons_zero, true_and, and_true, Option.some.injEq, Sum.inl.injEq, Sum.inr.injEq, Prod.mk.injEq, Value.int.injEq, Value.ref.injEq, Value.long.injEq, exists_eq', Option.toList_some, Option.toList_none, List.cons_append, List.nil_append, Bool.not_false, Bool.not_true, Bool.and_true, Bool.and_false, Bool.true_and, Bool.false_and, hS_s, hS_n, ne_eq, not_false_eq_true, Classical.not_not, Nat.reduceAdd, eq_self, forall_const, false_implies, true_implies, not_true_eq_false, implies_true, lkk_s, lkk_n, sto1_e, sto1_s, sto1_i, sto1_r, sto1_l, stf_e, stf_i, stf_r, stf_l, tScr, tScl, tFin, hv1, hv2, hz, e1, e2, hcell2, eg, lcmp_self, mF_s]
    refine ⟨ho, ?_⟩
    refine calq (Nat.le_of_ble_eq_true rfl) (by decide) km (fun v2 h2 hq2 => ?_)
    obtain ⟨rfl, rfl⟩ := hq2
    refine bL_law_375 ?_
    simp +decide (disch := omega) only [lv_args, Value.category, sto2, List.filter_cons, List.filter_nil, if_true, if_false, tPush, tIld, tLld, tAld, tIst, tAst, tLst, tInc, tB, tBn, tU, tLB, tLBn, tLS, tI2l, tL2i, tLcmp, tDup, tPop, tDup2, tDupx1, tIf, tIf2, tNul, tAcm, tRetI, tRetZ, tRetC, tRetL, tRetV, tRetA, tGetf, tPutf, isI, isL, isA, isZ, tXald, tXast, tZast, tJald, tJast, tRald, tLen, tCV0, tCV1, tCV2, tCV3, tCV4, tCV5, tCS1, tCS2, tCS3, tCS4, tCS5, tCS6, tCS7, tCpyI, tCpyJ, tMax, tMin, tAbs, tSw, tTab, tLook, tLk, Int32.reduceAdd, List.map_cons, List.map_nil, List.sum_cons, List.sum_nil, List.getElem?_cons_succ, List.getElem?_cons_zero, List.set_cons_succ, List.set_cons_zero, true_and, and_true, Option.some.injEq, Sum.inl.injEq, Sum.inr.injEq, Prod.mk.injEq, Value.int.injEq, Value.ref.injEq, Value.long.injEq, exists_eq', Option.toList_some, Option.toList_none, List.cons_append, List.nil_append, Bool.not_false, Bool.not_true, Bool.and_true, Bool.and_false, Bool.true_and, Bool.false_and, hS_s, hS_n, ne_eq, not_false_eq_true, Classical.not_not, Nat.reduceAdd, eq_self, forall_const, false_implies, true_implies, not_true_eq_false, implies_true, lkk_s, lkk_n, sto1_e, sto1_s, sto1_i, sto1_r, sto1_l, stf_e, stf_i, stf_r, stf_l, tScr, tScl, tFin, hv1, hv2, hz, e1, e2, hcell2, eg, lcmp_self, mF_s]
    refine ⟨⟨_, hM_0⟩, ?_⟩
    refine calq (Nat.le_of_ble_eq_true rfl) (by decide) cm_thrown (fun v3 h3 hq3 => ?_)
    obtain ⟨rfl, rfl⟩ := hq3
    refine bL_law_381 ?_
    simp +decide (disch := omega) only [lv_args, Value.category, sto2, List.filter_cons, List.filter_nil, if_true, if_false, tPush, tIld, tLld, tAld, tIst, tAst, tLst, tInc, tB, tBn, tU, tLB, tLBn, tLS, tI2l, tL2i, tLcmp, tDup, tPop, tDup2, tDupx1, tIf, tIf2, tNul, tAcm, tRetI, tRetZ, tRetC, tRetL, tRetV, tRetA, tGetf, tPutf, isI, isL, isA, isZ, tXald, tXast, tZast, tJald, tJast, tRald, tLen, tCV0, tCV1, tCV2, tCV3, tCV4, tCV5, tCS1, tCS2, tCS3, tCS4, tCS5, tCS6, tCS7, tCpyI, tCpyJ, tMax, tMin, tAbs, tSw, tTab, tLook, tLk, Int32.reduceAdd, List.map_cons, List.map_nil, List.sum_cons, List.sum_nil, List.getElem?_cons_succ, List.getElem?_cons_zero, List.set_cons_succ, List.set_cons_zero, true_and, and_true, Option.some.injEq, Sum.inl.injEq, Sum.inr.injEq, Prod.mk.injEq, Value.int.injEq, Value.ref.injEq, Value.long.injEq, exists_eq', Option.toList_some, Option.toList_none, List.cons_append, List.nil_append, Bool.not_false, Bool.not_true, Bool.and_true, Bool.and_false, Bool.true_and, Bool.false_and, hS_s, hS_n, ne_eq, not_false_eq_true, Classical.not_not, Nat.reduceAdd, eq_self, forall_const, false_implies, true_implies, not_true_eq_false, implies_true, lkk_s, lkk_n, sto1_e, sto1_s, sto1_i, sto1_r, sto1_l, stf_e, stf_i, stf_r, stf_l, tScr, tScl, tFin, hv1, hv2, hz, e1, e2, hcell2, eg, lcmp_self, mF_s]
    refine bL_law_388 ?_
    simp +decide (disch := omega) only [lv_args, Value.category, sto2, List.filter_cons, List.filter_nil, if_true, if_false, tPush, tIld, tLld, tAld, tIst, tAst, tLst, tInc, tB, tBn, tU, tLB, tLBn, tLS, tI2l, tL2i, tLcmp, tDup, tPop, tDup2, tDupx1, tIf, tIf2, tNul, tAcm, tRetI, tRetZ, tRetC, tRetL, tRetV, tRetA, tGetf, tPutf, isI, isL, isA, isZ, tXald, tXast, tZast, tJald, tJast, tRald, tLen, tCV0, tCV1, tCV2, tCV3, tCV4, tCV5, tCS1, tCS2, tCS3, tCS4, tCS5, tCS6, tCS7, tCpyI, tCpyJ, tMax, tMin, tAbs, tSw, tTab, tLook, tLk, Int32.reduceAdd, List.map_cons, List.map_nil, List.sum_cons, List.sum_nil, List.getElem?_cons_succ, List.getElem?_cons_zero, List.set_cons_succ, List.set_cons_zero, true_and, and_true, Option.some.injEq, Sum.inl.injEq, Sum.inr.injEq, Prod.mk.injEq, Value.int.injEq, Value.ref.injEq, Value.long.injEq, exists_eq', Option.toList_some, Option.toList_none, List.cons_append, List.nil_append, Bool.not_false, Bool.not_true, Bool.and_true, Bool.and_false, Bool.true_and, Bool.false_and, hS_s, hS_n, ne_eq, not_false_eq_true, Classical.not_not, Nat.reduceAdd, eq_self, forall_const, false_implies, true_implies, not_true_eq_false, implies_true, lkk_s, lkk_n, sto1_e, sto1_s, sto1_i, sto1_r, sto1_l, stf_e, stf_i, stf_r, stf_l, tScr, tScl, tFin, hv1, hv2, hz, e1, e2, hcell2, eg, lcmp_self, mF_s]
    refine bL_law_393 ?_
    simp +decide (disch := omega) only [lv_args, Value.category, sto2, List.filter_cons, List.filter_nil, if_true, if_false, tPush, tIld, tLld, tAld, tIst, tAst, tLst, tInc, tB, tBn, tU, tLB, tLBn, tLS, tI2l, tL2i, tLcmp, tDup, tPop, tDup2, tDupx1, tIf, tIf2, tNul, tAcm, tRetI, tRetZ, tRetC, tRetL, tRetV, tRetA, tGetf, tPutf, isI, isL, isA, isZ, tXald, tXast, tZast, tJald, tJast, tRald, tLen, tCV0, tCV1, tCV2, tCV3, tCV4, tCV5, tCS1, tCS2, tCS3, tCS4, tCS5, tCS6, tCS7, tCpyI, tCpyJ, tMax, tMin, tAbs, tSw, tTab, tLook, tLk, Int32.reduceAdd, List.map_cons, List.map_nil, List.sum_cons, List.sum_nil, List.getElem?_cons_succ, List.getElem?_cons_zero, List.set_cons_succ, List.set_cons_zero, true_and, and_true, Option.some.injEq, Sum.inl.injEq, Sum.inr.injEq, Prod.mk.injEq, Value.int.injEq, Value.ref.injEq, Value.long.injEq, exists_eq', Option.toList_some, Option.toList_none, List.cons_append, List.nil_append, Bool.not_false, Bool.not_true, Bool.and_true, Bool.and_false, Bool.true_and, Bool.false_and, hS_s, hS_n, ne_eq, not_false_eq_true, Classical.not_not, Nat.reduceAdd, eq_self, forall_const, false_implies, true_implies, not_true_eq_false, implies_true, lkk_s, lkk_n, sto1_e, sto1_s, sto1_i, sto1_r, sto1_l, stf_e, stf_i, stf_r, stf_l, tScr, tScl, tFin, hv1, hv2, hz, e1, e2, hcell2, eg, lcmp_self, mF_s]
    refine ⟨fun _ => ?_, fun z9 => absurd (by rw [show Int32.toNatClampNeg 0 = 0 from rfl, eg]; exact lcmp_self _) z9⟩
    refine bL_law_405 ?_
    exact TG.weak (by simp) (k _ ⟨c, sF s 0 0, hc1.hM, hr.f0, hM_hM⟩)
  · refine L_pers (As := [.ref B, .int a1, .int a2, .ref (B + 261)]) (rest := []) dL_law_354 rfl rfl (by decide) (Nat.le_of_ble_eq_true rfl) (cl_person_no hc.o hc.pW hv) (fun v h1 hq => ?_)
    obtain ⟨rfl, N, hN, e3⟩ := hq
    have hc1 : HC G h1 B c := by rw [e3]; exact hc.grow hN
    have hm1 : hM h1 (B + 240) s = h1 := hM_keep hm (fun q a b => by rw [e3])
    have km := cm_person_no (G := G) (h := h1) (m := B + 240) hr.rv h8 hv
    have ho : ∃ fs, h1.2 (B + 240) = some (.inl (11, fs)) := ⟨_, by rw [← hm1]; exact hM_0⟩
    rw [hm1] at km
    refine bL_law_357 ?_
    simp +decide (disch := omega) only [lv_args, Value.category, sto2, List.filter_cons, List.filter_nil, if_true, if_false, tPush, tIld, tLld, tAld, tIst, tAst, tLst, tInc, tB, tBn, tU, tLB, tLBn, tLS, tI2l, tL2i, tLcmp, tDup, tPop, tDup2, tDupx1, tIf, tIf2, tNul, tAcm, tRetI, tRetZ, tRetC, tRetL, tRetV, tRetA, tGetf, tPutf, isI, isL, isA, isZ, tXald, tXast, tZast, tJald, tJast, tRald, tLen, tCV0, tCV1, tCV2, tCV3, tCV4, tCV5, tCS1, tCS2, tCS3, tCS4, tCS5, tCS6, tCS7, tCpyI, tCpyJ, tMax, tMin, tAbs, tSw, tTab, tLook, tLk, Int32.reduceAdd, List.map_cons, List.map_nil, List.sum_cons, List.sum_nil, List.getElem?_cons_succ, List.getElem?_cons_zero, List.set_cons_succ, List.set_cons_zero, true_and, and_true, Option.some.injEq, Sum.inl.injEq, Sum.inr.injEq, Prod.mk.injEq, Value.int.injEq, Value.ref.injEq, Value.long.injEq, exists_eq', Option.toList_some, Option.toList_none, List.cons_append, List.nil_append, Bool.not_false, Bool.not_true, Bool.and_true, Bool.and_false, Bool.true_and, Bool.false_and, hS_s, hS_n, ne_eq, not_false_eq_true, Classical.not_not, Nat.reduceAdd, eq_self, forall_const, false_implies, true_implies, not_true_eq_false, implies_true, lkk_s, lkk_n, sto1_e, sto1_s, sto1_i, sto1_r, sto1_l, stf_e, stf_i, stf_r, stf_l, tScr, tScl, tFin, hv1, hv2, hz, e1, e2, mF_s]
    refine ⟨ho, ?_⟩
    refine calq (Nat.le_of_ble_eq_true rfl) (by decide) km (fun v2 h2 hq2 => ?_)
    obtain ⟨rfl, rfl⟩ := hq2
    refine bL_law_375 ?_
    simp +decide (disch := omega) only [lv_args, Value.category, sto2, List.filter_cons, List.filter_nil, if_true, if_false, tPush, tIld, tLld, tAld, tIst, tAst, tLst, tInc, tB, tBn, tU, tLB, tLBn, tLS, tI2l, tL2i, tLcmp, tDup, tPop, tDup2, tDupx1, tIf, tIf2, tNul, tAcm, tRetI, tRetZ, tRetC, tRetL, tRetV, tRetA, tGetf, tPutf, isI, isL, isA, isZ, tXald, tXast, tZast, tJald, tJast, tRald, tLen, tCV0, tCV1, tCV2, tCV3, tCV4, tCV5, tCS1, tCS2, tCS3, tCS4, tCS5, tCS6, tCS7, tCpyI, tCpyJ, tMax, tMin, tAbs, tSw, tTab, tLook, tLk, Int32.reduceAdd, List.map_cons, List.map_nil, List.sum_cons, List.sum_nil, List.getElem?_cons_succ, List.getElem?_cons_zero, List.set_cons_succ, List.set_cons_zero, true_and, and_true, Option.some.injEq, Sum.inl.injEq, Sum.inr.injEq, Prod.mk.injEq, Value.int.injEq, Value.ref.injEq, Value.long.injEq, exists_eq', Option.toList_some, Option.toList_none, List.cons_append, List.nil_append, Bool.not_false, Bool.not_true, Bool.and_true, Bool.and_false, Bool.true_and, Bool.false_and, hS_s, hS_n, ne_eq, not_false_eq_true, Classical.not_not, Nat.reduceAdd, eq_self, forall_const, false_implies, true_implies, not_true_eq_false, implies_true, lkk_s, lkk_n, sto1_e, sto1_s, sto1_i, sto1_r, sto1_l, stf_e, stf_i, stf_r, stf_l, tScr, tScl, tFin, hv1, hv2, hz, e1, e2, mF_s]
    refine ⟨⟨_, hM_0⟩, ?_⟩
    refine calq (Nat.le_of_ble_eq_true rfl) (by decide) cm_thrown (fun v3 h3 hq3 => ?_)
    obtain ⟨rfl, rfl⟩ := hq3
    refine bL_law_381 ?_
    simp +decide (disch := omega) only [lv_args, Value.category, sto2, List.filter_cons, List.filter_nil, if_true, if_false, tPush, tIld, tLld, tAld, tIst, tAst, tLst, tInc, tB, tBn, tU, tLB, tLBn, tLS, tI2l, tL2i, tLcmp, tDup, tPop, tDup2, tDupx1, tIf, tIf2, tNul, tAcm, tRetI, tRetZ, tRetC, tRetL, tRetV, tRetA, tGetf, tPutf, isI, isL, isA, isZ, tXald, tXast, tZast, tJald, tJast, tRald, tLen, tCV0, tCV1, tCV2, tCV3, tCV4, tCV5, tCS1, tCS2, tCS3, tCS4, tCS5, tCS6, tCS7, tCpyI, tCpyJ, tMax, tMin, tAbs, tSw, tTab, tLook, tLk, Int32.reduceAdd, List.map_cons, List.map_nil, List.sum_cons, List.sum_nil, List.getElem?_cons_succ, List.getElem?_cons_zero, List.set_cons_succ, List.set_cons_zero, true_and, and_true, Option.some.injEq, Sum.inl.injEq, Sum.inr.injEq, Prod.mk.injEq, Value.int.injEq, Value.ref.injEq, Value.long.injEq, exists_eq', Option.toList_some, Option.toList_none, List.cons_append, List.nil_append, Bool.not_false, Bool.not_true, Bool.and_true, Bool.and_false, Bool.true_and, Bool.false_and, hS_s, hS_n, ne_eq, not_false_eq_true, Classical.not_not, Nat.reduceAdd, eq_self, forall_const, false_implies, true_implies, not_true_eq_false, implies_true, lkk_s, lkk_n, sto1_e, sto1_s, sto1_i, sto1_r, sto1_l, stf_e, stf_i, stf_r, stf_l, tScr, tScl, tFin, hv1, hv2, hz, e1, e2, mF_s]
    refine bL_law_388 ?_
    simp +decide (disch := omega) only [lv_args, Value.category, sto2, List.filter_cons, List.filter_nil, if_true, if_false, tPush, tIld, tLld, tAld, tIst, tAst, tLst, tInc, tB, tBn, tU, tLB, tLBn, tLS, tI2l, tL2i, tLcmp, tDup, tPop, tDup2, tDupx1, tIf, tIf2, tNul, tAcm, tRetI, tRetZ, tRetC, tRetL, tRetV, tRetA, tGetf, tPutf, isI, isL, isA, isZ, tXald, tXast, tZast, tJald, tJast, tRald, tLen, tCV0, tCV1, tCV2, tCV3, tCV4, tCV5, tCS1, tCS2, tCS3, tCS4, tCS5, tCS6, tCS7, tCpyI, tCpyJ, tMax, tMin, tAbs, tSw, tTab, tLook, tLk, Int32.reduceAdd, List.map_cons, List.map_nil, List.sum_cons, List.sum_nil, List.getElem?_cons_succ, List.getElem?_cons_zero, List.set_cons_succ, List.set_cons_zero, true_and, and_true, Option.some.injEq, Sum.inl.injEq, Sum.inr.injEq, Prod.mk.injEq, Value.int.injEq, Value.ref.injEq, Value.long.injEq, exists_eq', Option.toList_some, Option.toList_none, List.cons_append, List.nil_append, Bool.not_false, Bool.not_true, Bool.and_true, Bool.and_false, Bool.true_and, Bool.false_and, hS_s, hS_n, ne_eq, not_false_eq_true, Classical.not_not, Nat.reduceAdd, eq_self, forall_const, false_implies, true_implies, not_true_eq_false, implies_true, lkk_s, lkk_n, sto1_e, sto1_s, sto1_i, sto1_r, sto1_l, stf_e, stf_i, stf_r, stf_l, tScr, tScl, tFin, hv1, hv2, hz, e1, e2, mF_s]
    refine bL_law_405 ?_
    exact TG.weak (by simp) (k _ ⟨c, sF s 0 1, hc1.hM, hr.f1, hM_hM⟩)
end Lwp

