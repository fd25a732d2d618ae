/-! ===== the class's reader of bridges: more lines ===== -/
theorem vPr_ok {x : Tx} {w : Wd} {st : St} (hpe : wPe w ≤ 8) (h : ¬ vPr x w st = -1) : (vPr x w st).toNatClampNeg < wPe w ∧ vPr x w st = nI (vPr x w st).toNatClampNeg := by
  unfold vPr at h ⊢
  rcases fnd_or (wN w 1) (nm32 (tkx x st.1).2.2.1) (wPe w) with e | ⟨j, hj, e⟩
  · exact absurd e h
  · rw [e, nI_clamp (by omega)]; exact ⟨hj, rfl⟩
theorem vTr_ok {x : Tx} {w : Wd} {st : St} (hth : wTh w ≤ 6) (h : ¬ vTr x w st = -1) : (vTr x w st).toNatClampNeg < wTh w ∧ vTr x w st = nI (vTr x w st).toNatClampNeg := by
  unfold vTr at h ⊢
  rcases fnd_or (wN w 0) (nm32 (tkx x st.1).2.2.1) (wTh w) with e | ⟨j, hj, e⟩
  · exact absurd e h
  · rw [e, nI_clamp (by omega)]; exact ⟨hj, rfl⟩
theorem ha4_ok {x : Tx} {w : Wd} {st : St} (h : (ha4 x w st).2.1 = 0) : (ha3 x w st).2.1 = 0 ∧ (ha2 x w st).2.1 = 0 ∧ st.2.1 = 0 ∧ ¬ vPr x w (stp x st) = -1 ∧ ¬ vTr x w (ha3 x w st) = -1 := by
  unfold ha4 at h
  obtain ⟨h3, -, t1, -⟩ := tHr_0 h
  have h2 := h3
  unfold ha3 at h2
  rw [stp_0] at h2
  have h1 := h2
  unfold ha2 at h1
  obtain ⟨h0, -, p1, -⟩ := pHr_0 h1
  rw [stp_0] at h0
  exact ⟨h3, h2, h0, p1, t1⟩
theorem ha7_ok {x : Tx} {w : Wd} {st : St} (h : (ha7 x w st).2.1 = 0) : (ha6 x w st).2.1 = 0 ∧ (ha4 x w st).2.1 = 0 ∧ hld w (haP x w st) (haT x w st) = 0 ∧ ha5 x w st = ha4 x w st := by
  unfold ha7 at h
  have h6 := (tNm_0 h).1
  have h5 := h6
  unfold ha6 at h5
  rw [stp_0] at h5
  unfold ha5 at h5 ⊢
  split at h5
  · exact (flt_n0 (by decide) h5).elim
  · rename_i q
    refine ⟨h6, h5, ?_, by rw [if_neg q]⟩
    exact Classical.not_not.mp (fun z => q ⟨h5, z⟩)
theorem as3_ok {x : Tx} {w : Wd} {st : St} (h : (as3 x w st).2.1 = 0) : (as2 x w st).2.1 = 0 ∧ st.2.1 = 0 ∧ ¬ vTr x w (as2 x w st) = -1 := by
  unfold as3 at h
  obtain ⟨h3, -, t1, -⟩ := tHr_0 h
  have h2 := h3
  unfold as2 at h2
  have h2 := (tEn_0 h2).1
  rw [stp_0] at h2
  exact ⟨h3, h2, t1⟩
theorem as6_ok {x : Tx} {w : Wd} {st : St} (h : (as6 x w st).2.1 = 0) : (as5 x w st).2.1 = 0 ∧ (as3 x w st).2.1 = 0 ∧ tol w (asE x st) (asT x w st) = 0 ∧ as4 x w st = as3 x w st := by
  unfold as6 at h
  have h6 := (tNm_0 h).1
  have h5 := h6
  unfold as5 at h5
  rw [stp_0] at h5
  unfold as4 at h5 ⊢
  split at h5
  · exact (flt_n0 (by decide) h5).elim
  · rename_i q
    refine ⟨h6, h5, ?_, by rw [if_neg q]⟩
    exact Classical.not_not.mp (fun z => q ⟨h5, z⟩)
theorem vEn_lt {x : Tx} {st : St} : vEn x st < 2 := by unfold vEn; split <;> decide
theorem vPl_lt {x : Tx} {st : St} : vPl x st < 3 := by unfold vPl; split <;> (try split) <;> decide
theorem ct_rdHas {G : Gt} {h : Hp} {b t : Nat} {x : Tx} {st : St} {w : Wd} (hR : HasR G h b t x st w) (hth : wTh w ≤ 6) (hpe : wPe w ≤ 8) : Mt G 3 0 0 mX2_readHas [.ref (b + 5)] h (QR G h b t x (rHa x w st).1 (rHa x w st).2 (fun r => r = none)) := by
  refine Mt.of (by decide +kernel) (Nat.le_of_ble_eq_true rfl) ?_
  have r0 := hR.1
  have k0 := hR.c0
  have w0 := hR.2.2.1
  have cont : ∀ (h1 : Hp) (s0 : St) (P Z : Int32), HasR G h1 b t x s0 w → Fm b (b + 17) h h1 → s0 = ha5 x w st → ((ha4 x w st).2.1 = 0 → P = nI (haP x w st) ∧ Z = nI (haT x w st) ∧ haP x w st < 8 ∧ haT x w st < 6) → T G 3 0 0 mX2_readHas 68 [(0, .ref (b + 5)), (1, .int P), (2, .int Z)] [] h1 (QR G h b t x (rHa x w st).1 (rHa x w st).2 (fun r => r = none)) := by
    intro h1 s0 P Z hR1 hF1 hs0 hPZ
    subst hs0
    have r1 := hR1.1
    have k1 := hR1.c0
    have w1 := hR1.2.2.1
    refine bX2_readHas_68 ?_
    simp +decide (disch := omega) only [lv_args, Value.category, lk, sto1, sto2, List.filter_cons, List.filter_nil, if_true, if_false, tPush, tIld, tLld, tAld, tIst, tAst, tLst, tInc, tB, tBn, tU, tLB, tLBn, tLS, tI2l, tL2i, tLcmp, tDup, tPop, tDup2, tDupx1, tIf, tIf2, tNul, tAcm, tRetI, tRetZ, tRetC, tRetL, tRetV, tRetA, tGetf, tPutf, isI, isL, isA, isZ, tXald, tXast, tZast, tJald, tJast, tRald, tLen, tCV0, tCV1, tCV2, tCV3, tCV4, tCV5, tCS1, tCS2, tCS3, tCS4, tCS5, tCS6, tCS7, tCpyI, tCpyJ, tMax, tMin, tAbs, tSw, tTab, tLook, tLk, Int32.reduceAdd, List.map_cons, List.map_nil, List.sum_cons, List.sum_nil, List.getElem?_cons_succ, List.getElem?_cons_zero, List.set_cons_succ, List.set_cons_zero, true_and, and_true, Option.some.injEq, Sum.inl.injEq, Sum.inr.injEq, Prod.mk.injEq, Value.int.injEq, Value.ref.injEq, Value.long.injEq, exists_eq', Option.toList_some, Option.toList_none, List.cons_append, List.nil_append, Bool.not_false, Bool.not_true, Bool.and_true, Bool.and_false, Bool.true_and, Bool.false_and, hS_s, hS_n, ne_eq, not_false_eq_true, Classical.not_not, Nat.reduceAdd, eq_self, forall_const, false_implies, true_implies, not_true_eq_false, implies_true, r1, k1, w1]
    refine calq (Nat.le_of_ble_eq_true rfl) (by first | decide | omega) (cr_step hR1) ?_
    rintro v h2 ⟨rfl, hR2, hF2⟩
    rw [show stp x (ha5 x w st) = ha6 x w st from rfl] at hR2
    have r2 := hR2.1
    have k2 := hR2.c0
    have w2 := hR2.2.2.1
    refine bX2_readHas_75 ?_
    simp +decide (disch := omega) only [lv_args, Value.category, lk, sto1, sto2, List.filter_cons, List.filter_nil, if_true, if_false, tPush, tIld, tLld, tAld, tIst, tAst, tLst, tInc, tB, tBn, tU, tLB, tLBn, tLS, tI2l, tL2i, tLcmp, tDup, tPop, tDup2, tDupx1, tIf, tIf2, tNul, tAcm, tRetI, tRetZ, tRetC, tRetL, tRetV, tRetA, tGetf, tPutf, isI, isL, isA, isZ, tXald, tXast, tZast, tJald, tJast, tRald, tLen, tCV0, tCV1, tCV2, tCV3, tCV4, tCV5, tCS1, tCS2, tCS3, tCS4, tCS5, tCS6, tCS7, tCpyI, tCpyJ, tMax, tMin, tAbs, tSw, tTab, tLook, tLk, Int32.reduceAdd, List.map_cons, List.map_nil, List.sum_cons, List.sum_nil, List.getElem?_cons_succ, List.getElem?_cons_zero, List.set_cons_succ, List.set_cons_zero, true_and, and_true, Option.some.injEq, Sum.inl.injEq, Sum.inr.injEq, Prod.mk.injEq, Value.int.injEq, Value.ref.injEq, Value.long.injEq, exists_eq', Option.toList_some, Option.toList_none, List.cons_append, List.nil_append, Bool.not_false, Bool.not_true, Bool.and_true, Bool.and_false, Bool.true_and, Bool.false_and, hS_s, hS_n, ne_eq, not_false_eq_true, Classical.not_not, Nat.reduceAdd, eq_self, forall_const, false_implies, true_implies, not_true_eq_false, implies_true, r2, k2, w2, b2i_0]
    refine calq (Nat.le_of_ble_eq_true rfl) (by first | decide | omega) (cr_takeNumber (lo := 1) (hi := 12) hR2 (by decide) (by decide)) ?_
    rintro v h3 ⟨⟨u3, rfl, hu3⟩, hR3, hF3⟩
    rw [show tNm x 1 12 (ha6 x w st) = ha7 x w st from rfl] at hR3 hu3
    have r3 := hR3.1
    have k3 := hR3.c0
    have w3 := hR3.2.2.1
    refine bX2_readHas_85 ?_
    simp +decide (disch := omega) only [lv_args, Value.category, lk, sto1, sto2, List.filter_cons, List.filter_nil, if_true, if_false, tPush, tIld, tLld, tAld, tIst, tAst, tLst, tInc, tB, tBn, tU, tLB, tLBn, tLS, tI2l, tL2i, tLcmp, tDup, tPop, tDup2, tDupx1, tIf, tIf2, tNul, tAcm, tRetI, tRetZ, tRetC, tRetL, tRetV, tRetA, tGetf, tPutf, isI, isL, isA, isZ, tXald, tXast, tZast, tJald, tJast, tRald, tLen, tCV0, tCV1, tCV2, tCV3, tCV4, tCV5, tCS1, tCS2, tCS3, tCS4, tCS5, tCS6, tCS7, tCpyI, tCpyJ, tMax, tMin, tAbs, tSw, tTab, tLook, tLk, Int32.reduceAdd, List.map_cons, List.map_nil, List.sum_cons, List.sum_nil, List.getElem?_cons_succ, List.getElem?_cons_zero, List.set_cons_succ, List.set_cons_zero, true_and, and_true, Option.some.injEq, Sum.inl.injEq, Sum.inr.injEq, Prod.mk.injEq, Value.int.injEq, Value.ref.injEq, Value.long.injEq, exists_eq', Option.toList_some, Option.toList_none, List.cons_append, List.nil_append, Bool.not_false, Bool.not_true, Bool.and_true, Bool.and_false, Bool.true_and, Bool.false_and, hS_s, hS_n, ne_eq, not_false_eq_true, Classical.not_not, Nat.reduceAdd, eq_self, forall_const, false_implies, true_implies, not_true_eq_false, implies_true, r3, k3, w3, b2i_0]
    refine calp (Nat.le_of_ble_eq_true rfl) (by first | decide | omega) (ct_isSound hR3.2.1) ?_
    refine bX2_readHas_93 ?_
    simp +decide (disch := omega) only [lv_args, Value.category, lk, sto1, sto2, List.filter_cons, List.filter_nil, if_true, if_false, tPush, tIld, tLld, tAld, tIst, tAst, tLst, tInc, tB, tBn, tU, tLB, tLBn, tLS, tI2l, tL2i, tLcmp, tDup, tPop, tDup2, tDupx1, tIf, tIf2, tNul, tAcm, tRetI, tRetZ, tRetC, tRetL, tRetV, tRetA, tGetf, tPutf, isI, isL, isA, isZ, tXald, tXast, tZast, tJald, tJast, tRald, tLen, tCV0, tCV1, tCV2, tCV3, tCV4, tCV5, tCS1, tCS2, tCS3, tCS4, tCS5, tCS6, tCS7, tCpyI, tCpyJ, tMax, tMin, tAbs, tSw, tTab, tLook, tLk, Int32.reduceAdd, List.map_cons, List.map_nil, List.sum_cons, List.sum_nil, List.getElem?_cons_succ, List.getElem?_cons_zero, List.set_cons_succ, List.set_cons_zero, true_and, and_true, Option.some.injEq, Sum.inl.injEq, Sum.inr.injEq, Prod.mk.injEq, Value.int.injEq, Value.ref.injEq, Value.long.injEq, exists_eq', Option.toList_some, Option.toList_none, List.cons_append, List.nil_append, Bool.not_false, Bool.not_true, Bool.and_true, Bool.and_false, Bool.true_and, Bool.false_and, hS_s, hS_n, ne_eq, not_false_eq_true, Classical.not_not, Nat.reduceAdd, eq_self, forall_const, false_implies, true_implies, not_true_eq_false, implies_true, r3, k3, w3, b2i_0]
    refine ⟨fun c93 => ?_, fun c93 => ?_⟩
    · refine bX2_readHas_106 ?_
      simp +decide (disch := omega) only [lv_args, Value.category, lk, sto1, sto2, List.filter_cons, List.filter_nil, if_true, if_false, tPush, tIld, tLld, tAld, tIst, tAst, tLst, tInc, tB, tBn, tU, tLB, tLBn, tLS, tI2l, tL2i, tLcmp, tDup, tPop, tDup2, tDupx1, tIf, tIf2, tNul, tAcm, tRetI, tRetZ, tRetC, tRetL, tRetV, tRetA, tGetf, tPutf, isI, isL, isA, isZ, tXald, tXast, tZast, tJald, tJast, tRald, tLen, tCV0, tCV1, tCV2, tCV3, tCV4, tCV5, tCS1, tCS2, tCS3, tCS4, tCS5, tCS6, tCS7, tCpyI, tCpyJ, tMax, tMin, tAbs, tSw, tTab, tLook, tLk, Int32.reduceAdd, List.map_cons, List.map_nil, List.sum_cons, List.sum_nil, List.getElem?_cons_succ, List.getElem?_cons_zero, List.set_cons_succ, List.set_cons_zero, true_and, and_true, Option.some.injEq, Sum.inl.injEq, Sum.inr.injEq, Prod.mk.injEq, Value.int.injEq, Value.ref.injEq, Value.long.injEq, exists_eq', Option.toList_some, Option.toList_none, List.cons_append, List.nil_append, Bool.not_false, Bool.not_true, Bool.and_true, Bool.and_false, Bool.true_and, Bool.false_and, hS_s, hS_n, ne_eq, not_false_eq_true, Classical.not_not, Nat.reduceAdd, eq_self, forall_const, false_implies, true_implies, not_true_eq_false, implies_true, r3, k3, w3, b2i_0]
      first | exact ⟨rfl, by rw [rHa_1, rHa_y c93]; exact hR7, hF1.trans (hF2.trans (hF3.trans hF8))⟩ | exact ⟨rfl, by rw [rHa_1, rHa_n c93]; exact hR3, hF1.trans (hF2.trans hF3)⟩
    · refine bX2_readHas_96 ?_
      simp +decide (disch := omega) only [lv_args, Value.category, lk, sto1, sto2, List.filter_cons, List.filter_nil, if_true, if_false, tPush, tIld, tLld, tAld, tIst, tAst, tLst, tInc, tB, tBn, tU, tLB, tLBn, tLS, tI2l, tL2i, tLcmp, tDup, tPop, tDup2, tDupx1, tIf, tIf2, tNul, tAcm, tRetI, tRetZ, tRetC, tRetL, tRetV, tRetA, tGetf, tPutf, isI, isL, isA, isZ, tXald, tXast, tZast, tJald, tJast, tRald, tLen, tCV0, tCV1, tCV2, tCV3, tCV4, tCV5, tCS1, tCS2, tCS3, tCS4, tCS5, tCS6, tCS7, tCpyI, tCpyJ, tMax, tMin, tAbs, tSw, tTab, tLook, tLk, Int32.reduceAdd, List.map_cons, List.map_nil, List.sum_cons, List.sum_nil, List.getElem?_cons_succ, List.getElem?_cons_zero, List.set_cons_succ, List.set_cons_zero, true_and, and_true, Option.some.injEq, Sum.inl.injEq, Sum.inr.injEq, Prod.mk.injEq, Value.int.injEq, Value.ref.injEq, Value.long.injEq, exists_eq', Option.toList_some, Option.toList_none, List.cons_append, List.nil_append, Bool.not_false, Bool.not_true, Bool.and_true, Bool.and_false, Bool.true_and, Bool.false_and, hS_s, hS_n, ne_eq, not_false_eq_true, Classical.not_not, Nat.reduceAdd, eq_self, forall_const, false_implies, true_implies, not_true_eq_false, implies_true, r3, k3, w3, b2i_0]
      obtain ⟨q6, q4, qz, q5⟩ := ha7_ok c93
      obtain ⟨e1, e2, l1, l2⟩ := hPZ q4
      rw [hu3 c93, e1, e2]
      refine calq (Nat.le_of_ble_eq_true rfl) (by decide) (ct_setHeld hR3.2.2 l1 l2) ?_
      rintro v h7 ⟨rfl, hW7, hF7⟩
      obtain ⟨hR7, hF8⟩ := hR3.world hW7 hF7
      refine bX2_readHas_106 ?_
      simp +decide (disch := omega) only [lv_args, Value.category, lk, sto1, sto2, List.filter_cons, List.filter_nil, if_true, if_false, tPush, tIld, tLld, tAld, tIst, tAst, tLst, tInc, tB, tBn, tU, tLB, tLBn, tLS, tI2l, tL2i, tLcmp, tDup, tPop, tDup2, tDupx1, tIf, tIf2, tNul, tAcm, tRetI, tRetZ, tRetC, tRetL, tRetV, tRetA, tGetf, tPutf, isI, isL, isA, isZ, tXald, tXast, tZast, tJald, tJast, tRald, tLen, tCV0, tCV1, tCV2, tCV3, tCV4, tCV5, tCS1, tCS2, tCS3, tCS4, tCS5, tCS6, tCS7, tCpyI, tCpyJ, tMax, tMin, tAbs, tSw, tTab, tLook, tLk, Int32.reduceAdd, List.map_cons, List.map_nil, List.sum_cons, List.sum_nil, List.getElem?_cons_succ, List.getElem?_cons_zero, List.set_cons_succ, List.set_cons_zero, true_and, and_true, Option.some.injEq, Sum.inl.injEq, Sum.inr.injEq, Prod.mk.injEq, Value.int.injEq, Value.ref.injEq, Value.long.injEq, exists_eq', Option.toList_some, Option.toList_none, List.cons_append, List.nil_append, Bool.not_false, Bool.not_true, Bool.and_true, Bool.and_false, Bool.true_and, Bool.false_and, hS_s, hS_n, ne_eq, not_false_eq_true, Classical.not_not, Nat.reduceAdd, eq_self, forall_const, false_implies, true_implies, not_true_eq_false, implies_true, r3, k3, w3, b2i_0]
      first | exact ⟨rfl, by rw [rHa_1, rHa_y c93]; exact hR7, hF1.trans (hF2.trans (hF3.trans hF8))⟩ | exact ⟨rfl, by rw [rHa_1, rHa_n c93]; exact hR3, hF1.trans (hF2.trans hF3)⟩
  refine bX2_readHas_0 ?_
  simp +decide (disch := omega) only [lv_args, Value.category, lk, sto1, sto2, List.filter_cons, List.filter_nil, if_true, if_false, tPush, tIld, tLld, tAld, tIst, tAst, tLst, tInc, tB, tBn, tU, tLB, tLBn, tLS, tI2l, tL2i, tLcmp, tDup, tPop, tDup2, tDupx1, tIf, tIf2, tNul, tAcm, tRetI, tRetZ, tRetC, tRetL, tRetV, tRetA, tGetf, tPutf, isI, isL, isA, isZ, tXald, tXast, tZast, tJald, tJast, tRald, tLen, tCV0, tCV1, tCV2, tCV3, tCV4, tCV5, tCS1, tCS2, tCS3, tCS4, tCS5, tCS6, tCS7, tCpyI, tCpyJ, tMax, tMin, tAbs, tSw, tTab, tLook, tLk, Int32.reduceAdd, List.map_cons, List.map_nil, List.sum_cons, List.sum_nil, List.getElem?_cons_succ, List.getElem?_cons_zero, List.set_cons_succ, List.set_cons_zero, true_and, and_true, Option.some.injEq, Sum.inl.injEq, Sum.inr.injEq, Prod.mk.injEq, Value.int.injEq, Value.ref.injEq, Value.long.injEq, exists_eq', Option.toList_some, Option.toList_none, List.cons_append, List.nil_append, Bool.not_false, Bool.not_true, Bool.and_true, Bool.and_false, Bool.true_and, Bool.false_and, hS_s, hS_n, ne_eq, not_false_eq_true, Classical.not_not, Nat.reduceAdd, eq_self, forall_const, false_implies, true_implies, not_true_eq_false, implies_true, r0, k0, w0]
  refine calq (Nat.le_of_ble_eq_true rfl) (by first | decide | omega) (cr_step hR) ?_
  rintro v h1 ⟨rfl, hR1, hF1⟩
  have r1 := hR1.1
  have k1 := hR1.c0
  have w1 := hR1.2.2.1
  refine bX2_readHas_7 ?_
  simp +decide (disch := omega) only [lv_args, Value.category, lk, sto1, sto2, List.filter_cons, List.filter_nil, if_true, if_false, tPush, tIld, tLld, tAld, tIst, tAst, tLst, tInc, tB, tBn, tU, tLB, tLBn, tLS, tI2l, tL2i, tLcmp, tDup, tPop, tDup2, tDupx1, tIf, tIf2, tNul, tAcm, tRetI, tRetZ, tRetC, tRetL, tRetV, tRetA, tGetf, tPutf, isI, isL, isA, isZ, tXald, tXast, tZast, tJald, tJast, tRald, tLen, tCV0, tCV1, tCV2, tCV3, tCV4, tCV5, tCS1, tCS2, tCS3, tCS4, tCS5, tCS6, tCS7, tCpyI, tCpyJ, tMax, tMin, tAbs, tSw, tTab, tLook, tLk, Int32.reduceAdd, List.map_cons, List.map_nil, List.sum_cons, List.sum_nil, List.getElem?_cons_succ, List.getElem?_cons_zero, List.set_cons_succ, List.set_cons_zero, true_and, and_true, Option.some.injEq, Sum.inl.injEq, Sum.inr.injEq, Prod.mk.injEq, Value.int.injEq, Value.ref.injEq, Value.long.injEq, exists_eq', Option.toList_some, Option.toList_none, List.cons_append, List.nil_append, Bool.not_false, Bool.not_true, Bool.and_true, Bool.and_false, Bool.true_and, Bool.false_and, hS_s, hS_n, ne_eq, not_false_eq_true, Classical.not_not, Nat.reduceAdd, eq_self, forall_const, false_implies, true_implies, not_true_eq_false, implies_true, r1, k1, w1, b2i_0]
  refine calq (Nat.le_of_ble_eq_true rfl) (by first | decide | omega) (cr_personHere hR1 hpe) ?_
  rintro v h2 ⟨⟨u2, rfl, hu2⟩, hR2, hF2⟩
  rw [show pHr x w (stp x st) = ha2 x w st from rfl] at hR2 hu2
  have r2 := hR2.1
  have k2 := hR2.c0
  have w2 := hR2.2.2.1
  refine bX2_readHas_18 ?_
  simp +decide (disch := omega) only [lv_args, Value.category, lk, sto1, sto2, List.filter_cons, List.filter_nil, if_true, if_false, tPush, tIld, tLld, tAld, tIst, tAst, tLst, tInc, tB, tBn, tU, tLB, tLBn, tLS, tI2l, tL2i, tLcmp, tDup, tPop, tDup2, tDupx1, tIf, tIf2, tNul, tAcm, tRetI, tRetZ, tRetC, tRetL, tRetV, tRetA, tGetf, tPutf, isI, isL, isA, isZ, tXald, tXast, tZast, tJald, tJast, tRald, tLen, tCV0, tCV1, tCV2, tCV3, tCV4, tCV5, tCS1, tCS2, tCS3, tCS4, tCS5, tCS6, tCS7, tCpyI, tCpyJ, tMax, tMin, tAbs, tSw, tTab, tLook, tLk, Int32.reduceAdd, List.map_cons, List.map_nil, List.sum_cons, List.sum_nil, List.getElem?_cons_succ, List.getElem?_cons_zero, List.set_cons_succ, List.set_cons_zero, true_and, and_true, Option.some.injEq, Sum.inl.injEq, Sum.inr.injEq, Prod.mk.injEq, Value.int.injEq, Value.ref.injEq, Value.long.injEq, exists_eq', Option.toList_some, Option.toList_none, List.cons_append, List.nil_append, Bool.not_false, Bool.not_true, Bool.and_true, Bool.and_false, Bool.true_and, Bool.false_and, hS_s, hS_n, ne_eq, not_false_eq_true, Classical.not_not, Nat.reduceAdd, eq_self, forall_const, false_implies, true_implies, not_true_eq_false, implies_true, r2, k2, w2, b2i_0]
  refine calq (Nat.le_of_ble_eq_true rfl) (by first | decide | omega) (cr_step hR2) ?_
  rintro v h3 ⟨rfl, hR3, hF3⟩
  rw [show stp x (ha2 x w st) = ha3 x w st from rfl] at hR3
  have r3 := hR3.1
  have k3 := hR3.c0
  have w3 := hR3.2.2.1
  refine bX2_readHas_26 ?_
  simp +decide (disch := omega) only [lv_args, Value.category, lk, sto1, sto2, List.filter_cons, List.filter_nil, if_true, if_false, tPush, tIld, tLld, tAld, tIst, tAst, tLst, tInc, tB, tBn, tU, tLB, tLBn, tLS, tI2l, tL2i, tLcmp, tDup, tPop, tDup2, tDupx1, tIf, tIf2, tNul, tAcm, tRetI, tRetZ, tRetC, tRetL, tRetV, tRetA, tGetf, tPutf, isI, isL, isA, isZ, tXald, tXast, tZast, tJald, tJast, tRald, tLen, tCV0, tCV1, tCV2, tCV3, tCV4, tCV5, tCS1, tCS2, tCS3, tCS4, tCS5, tCS6, tCS7, tCpyI, tCpyJ, tMax, tMin, tAbs, tSw, tTab, tLook, tLk, Int32.reduceAdd, List.map_cons, List.map_nil, List.sum_cons, List.sum_nil, List.getElem?_cons_succ, List.getElem?_cons_zero, List.set_cons_succ, List.set_cons_zero, true_and, and_true, Option.some.injEq, Sum.inl.injEq, Sum.inr.injEq, Prod.mk.injEq, Value.int.injEq, Value.ref.injEq, Value.long.injEq, exists_eq', Option.toList_some, Option.toList_none, List.cons_append, List.nil_append, Bool.not_false, Bool.not_true, Bool.and_true, Bool.and_false, Bool.true_and, Bool.false_and, hS_s, hS_n, ne_eq, not_false_eq_true, Classical.not_not, Nat.reduceAdd, eq_self, forall_const, false_implies, true_implies, not_true_eq_false, implies_true, r3, k3, w3, b2i_0]
  refine calq (Nat.le_of_ble_eq_true rfl) (by first | decide | omega) (cr_thingHere hR3 hth) ?_
  rintro v h4 ⟨⟨u4, rfl, hu4⟩, hR4, hF4⟩
  rw [show tHr x w (ha3 x w st) = ha4 x w st from rfl] at hR4 hu4
  have r4 := hR4.1
  have k4 := hR4.c0
  have w4 := hR4.2.2.1
  refine bX2_readHas_37 ?_
  simp +decide (disch := omega) only [lv_args, Value.category, lk, sto1, sto2, List.filter_cons, List.filter_nil, if_true, if_false, tPush, tIld, tLld, tAld, tIst, tAst, tLst, tInc, tB, tBn, tU, tLB, tLBn, tLS, tI2l, tL2i, tLcmp, tDup, tPop, tDup2, tDupx1, tIf, tIf2, tNul, tAcm, tRetI, tRetZ, tRetC, tRetL, tRetV, tRetA, tGetf, tPutf, isI, isL, isA, isZ, tXald, tXast, tZast, tJald, tJast, tRald, tLen, tCV0, tCV1, tCV2, tCV3, tCV4, tCV5, tCS1, tCS2, tCS3, tCS4, tCS5, tCS6, tCS7, tCpyI, tCpyJ, tMax, tMin, tAbs, tSw, tTab, tLook, tLk, Int32.reduceAdd, List.map_cons, List.map_nil, List.sum_cons, List.sum_nil, List.getElem?_cons_succ, List.getElem?_cons_zero, List.set_cons_succ, List.set_cons_zero, true_and, and_true, Option.some.injEq, Sum.inl.injEq, Sum.inr.injEq, Prod.mk.injEq, Value.int.injEq, Value.ref.injEq, Value.long.injEq, exists_eq', Option.toList_some, Option.toList_none, List.cons_append, List.nil_append, Bool.not_false, Bool.not_true, Bool.and_true, Bool.and_false, Bool.true_and, Bool.false_and, hS_s, hS_n, ne_eq, not_false_eq_true, Classical.not_not, Nat.reduceAdd, eq_self, forall_const, false_implies, true_implies, not_true_eq_false, implies_true, r4, k4, w4, b2i_0]
  refine calp (Nat.le_of_ble_eq_true rfl) (by first | decide | omega) (ct_isSound hR4.2.1) ?_
  refine bX2_readHas_45 ?_
  simp +decide (disch := omega) only [lv_args, Value.category, lk, sto1, sto2, List.filter_cons, List.filter_nil, if_true, if_false, tPush, tIld, tLld, tAld, tIst, tAst, tLst, tInc, tB, tBn, tU, tLB, tLBn, tLS, tI2l, tL2i, tLcmp, tDup, tPop, tDup2, tDupx1, tIf, tIf2, tNul, tAcm, tRetI, tRetZ, tRetC, tRetL, tRetV, tRetA, tGetf, tPutf, isI, isL, isA, isZ, tXald, tXast, tZast, tJald, tJast, tRald, tLen, tCV0, tCV1, tCV2, tCV3, tCV4, tCV5, tCS1, tCS2, tCS3, tCS4, tCS5, tCS6, tCS7, tCpyI, tCpyJ, tMax, tMin, tAbs, tSw, tTab, tLook, tLk, Int32.reduceAdd, List.map_cons, List.map_nil, List.sum_cons, List.sum_nil, List.getElem?_cons_succ, List.getElem?_cons_zero, List.set_cons_succ, List.set_cons_zero, true_and, and_true, Option.some.injEq, Sum.inl.injEq, Sum.inr.injEq, Prod.mk.injEq, Value.int.injEq, Value.ref.injEq, Value.long.injEq, exists_eq', Option.toList_some, Option.toList_none, List.cons_append, List.nil_append, Bool.not_false, Bool.not_true, Bool.and_true, Bool.and_false, Bool.true_and, Bool.false_and, hS_s, hS_n, ne_eq, not_false_eq_true, Classical.not_not, Nat.reduceAdd, eq_self, forall_const, false_implies, true_implies, not_true_eq_false, implies_true, r4, k4, w4, b2i_0]
  refine ⟨fun c45 => ?_, fun c45 => ?_⟩
  · first | exact cont h5 _ _ _ hR5 (hF1.trans (hF2.trans (hF3.trans (hF4.trans hF5)))) (by unfold ha5; rw [if_pos ⟨c45, c57⟩]) (fun _ => ⟨rfl, rfl, Nat.lt_of_lt_of_le l1 hpe, Nat.lt_of_lt_of_le l2 hth⟩) | exact cont h4 _ _ _ hR4 (hF1.trans (hF2.trans (hF3.trans hF4))) (by unfold ha5; rw [if_neg (fun z => z.2 c57)]) (fun _ => ⟨rfl, rfl, Nat.lt_of_lt_of_le l1 hpe, Nat.lt_of_lt_of_le l2 hth⟩) | exact cont h4 _ _ _ hR4 (hF1.trans (hF2.trans (hF3.trans hF4))) (by unfold ha5; rw [if_neg (fun z => c45 z.1)]) (fun z => absurd z c45)
  · refine bX2_readHas_48 ?_
    simp +decide (disch := omega) only [lv_args, Value.category, lk, sto1, sto2, List.filter_cons, List.filter_nil, if_true, if_false, tPush, tIld, tLld, tAld, tIst, tAst, tLst, tInc, tB, tBn, tU, tLB, tLBn, tLS, tI2l, tL2i, tLcmp, tDup, tPop, tDup2, tDupx1, tIf, tIf2, tNul, tAcm, tRetI, tRetZ, tRetC, tRetL, tRetV, tRetA, tGetf, tPutf, isI, isL, isA, isZ, tXald, tXast, tZast, tJald, tJast, tRald, tLen, tCV0, tCV1, tCV2, tCV3, tCV4, tCV5, tCS1, tCS2, tCS3, tCS4, tCS5, tCS6, tCS7, tCpyI, tCpyJ, tMax, tMin, tAbs, tSw, tTab, tLook, tLk, Int32.reduceAdd, List.map_cons, List.map_nil, List.sum_cons, List.sum_nil, List.getElem?_cons_succ, List.getElem?_cons_zero, List.set_cons_succ, List.set_cons_zero, true_and, and_true, Option.some.injEq, Sum.inl.injEq, Sum.inr.injEq, Prod.mk.injEq, Value.int.injEq, Value.ref.injEq, Value.long.injEq, exists_eq', Option.toList_some, Option.toList_none, List.cons_append, List.nil_append, Bool.not_false, Bool.not_true, Bool.and_true, Bool.and_false, Bool.true_and, Bool.false_and, hS_s, hS_n, ne_eq, not_false_eq_true, Classical.not_not, Nat.reduceAdd, eq_self, forall_const, false_implies, true_implies, not_true_eq_false, implies_true, r4, k4, w4, b2i_0]
    obtain ⟨q3, q2, q0, p1, t1⟩ := ha4_ok c45
    obtain ⟨l1, e1⟩ := vPr_ok hpe p1
    obtain ⟨l2, e2⟩ := vTr_ok hth t1
    have g1 := (hu2 q2).trans e1
    have g2 := (hu4 c45).trans e2
    subst g1
    subst g2
    refine calp (Nat.le_of_ble_eq_true rfl) (by decide) (ct_held hR4.2.2 (by omega) (by omega)) ?_
    refine bX2_readHas_57 ?_
    simp +decide (disch := omega) only [lv_args, Value.category, lk, sto1, sto2, List.filter_cons, List.filter_nil, if_true, if_false, tPush, tIld, tLld, tAld, tIst, tAst, tLst, tInc, tB, tBn, tU, tLB, tLBn, tLS, tI2l, tL2i, tLcmp, tDup, tPop, tDup2, tDupx1, tIf, tIf2, tNul, tAcm, tRetI, tRetZ, tRetC, tRetL, tRetV, tRetA, tGetf, tPutf, isI, isL, isA, isZ, tXald, tXast, tZast, tJald, tJast, tRald, tLen, tCV0, tCV1, tCV2, tCV3, tCV4, tCV5, tCS1, tCS2, tCS3, tCS4, tCS5, tCS6, tCS7, tCpyI, tCpyJ, tMax, tMin, tAbs, tSw, tTab, tLook, tLk, Int32.reduceAdd, List.map_cons, List.map_nil, List.sum_cons, List.sum_nil, List.getElem?_cons_succ, List.getElem?_cons_zero, List.set_cons_succ, List.set_cons_zero, true_and, and_true, Option.some.injEq, Sum.inl.injEq, Sum.inr.injEq, Prod.mk.injEq, Value.int.injEq, Value.ref.injEq, Value.long.injEq, exists_eq', Option.toList_some, Option.toList_none, List.cons_append, List.nil_append, Bool.not_false, Bool.not_true, Bool.and_true, Bool.and_false, Bool.true_and, Bool.false_and, hS_s, hS_n, ne_eq, not_false_eq_true, Classical.not_not, Nat.reduceAdd, eq_self, forall_const, false_implies, true_implies, not_true_eq_false, implies_true, r4, k4, w4, b2i_0]
    refine ⟨fun c57 => ?_, fun c57 => ?_⟩
    · first | exact cont h5 _ _ _ hR5 (hF1.trans (hF2.trans (hF3.trans (hF4.trans hF5)))) (by unfold ha5; rw [if_pos ⟨c45, c57⟩]) (fun _ => ⟨rfl, rfl, Nat.lt_of_lt_of_le l1 hpe, Nat.lt_of_lt_of_le l2 hth⟩) | exact cont h4 _ _ _ hR4 (hF1.trans (hF2.trans (hF3.trans hF4))) (by unfold ha5; rw [if_neg (fun z => z.2 c57)]) (fun _ => ⟨rfl, rfl, Nat.lt_of_lt_of_le l1 hpe, Nat.lt_of_lt_of_le l2 hth⟩) | exact cont h4 _ _ _ hR4 (hF1.trans (hF2.trans (hF3.trans hF4))) (by unfold ha5; rw [if_neg (fun z => c45 z.1)]) (fun z => absurd z c45)
    · refine bX2_readHas_60 ?_
      simp +decide (disch := omega) only [lv_args, Value.category, lk, sto1, sto2, List.filter_cons, List.filter_nil, if_true, if_false, tPush, tIld, tLld, tAld, tIst, tAst, tLst, tInc, tB, tBn, tU, tLB, tLBn, tLS, tI2l, tL2i, tLcmp, tDup, tPop, tDup2, tDupx1, tIf, tIf2, tNul, tAcm, tRetI, tRetZ, tRetC, tRetL, tRetV, tRetA, tGetf, tPutf, isI, isL, isA, isZ, tXald, tXast, tZast, tJald, tJast, tRald, tLen, tCV0, tCV1, tCV2, tCV3, tCV4, tCV5, tCS1, tCS2, tCS3, tCS4, tCS5, tCS6, tCS7, tCpyI, tCpyJ, tMax, tMin, tAbs, tSw, tTab, tLook, tLk, Int32.reduceAdd, List.map_cons, List.map_nil, List.sum_cons, List.sum_nil, List.getElem?_cons_succ, List.getElem?_cons_zero, List.set_cons_succ, List.set_cons_zero, true_and, and_true, Option.some.injEq, Sum.inl.injEq, Sum.inr.injEq, Prod.mk.injEq, Value.int.injEq, Value.ref.injEq, Value.long.injEq, exists_eq', Option.toList_some, Option.toList_none, List.cons_append, List.nil_append, Bool.not_false, Bool.not_true, Bool.and_true, Bool.and_false, Bool.true_and, Bool.false_and, hS_s, hS_n, ne_eq, not_false_eq_true, Classical.not_not, Nat.reduceAdd, eq_self, forall_const, false_implies, true_implies, not_true_eq_false, implies_true, r4, k4, w4, b2i_0]
      refine calq (Nat.le_of_ble_eq_true rfl) (by first | decide | omega) (cr_fail (c := 3) hR4 (by decide)) ?_
      rintro v h5 ⟨rfl, hR5, hF5⟩
      first | exact cont h5 _ _ _ hR5 (hF1.trans (hF2.trans (hF3.trans (hF4.trans hF5)))) (by unfold ha5; rw [if_pos ⟨c45, c57⟩]) (fun _ => ⟨rfl, rfl, Nat.lt_of_lt_of_le l1 hpe, Nat.lt_of_lt_of_le l2 hth⟩) | exact cont h4 _ _ _ hR4 (hF1.trans (hF2.trans (hF3.trans hF4))) (by unfold ha5; rw [if_neg (fun z => z.2 c57)]) (fun _ => ⟨rfl, rfl, Nat.lt_of_lt_of_le l1 hpe, Nat.lt_of_lt_of_le l2 hth⟩) | exact cont h4 _ _ _ hR4 (hF1.trans (hF2.trans (hF3.trans hF4))) (by unfold ha5; rw [if_neg (fun z => c45 z.1)]) (fun z => absurd z c45)
theorem ct_rdAsks {G : Gt} {h : Hp} {b t : Nat} {x : Tx} {st : St} {w : Wd} (hR : HasR G h b t x st w) (hth : wTh w ≤ 6) (hpe : wPe w ≤ 8) : Mt G 3 0 0 mX2_readAsks [.ref (b + 5)] h (QR G h b t x (rAs x w st).1 (rAs x w st).2 (fun r => r = none)) := by
  refine Mt.of (by decide +kernel) (Nat.le_of_ble_eq_true rfl) ?_
  have r0 := hR.1
  have k0 := hR.c0
  have w0 := hR.2.2.1
  have cont : ∀ (h1 : Hp) (s0 : St) (P Z : Int32), HasR G h1 b t x s0 w → Fm b (b + 17) h h1 → s0 = as4 x w st → ((as3 x w st).2.1 = 0 → P = nI (asE x st) ∧ Z = nI (asT x w st) ∧ asT x w st < 6) → T G 3 0 0 mX2_readAsks 57 [(0, .ref (b + 5)), (1, .int P), (2, .int Z)] [] h1 (QR G h b t x (rAs x w st).1 (rAs x w st).2 (fun r => r = none)) := by
    intro h1 s0 P Z hR1 hF1 hs0 hPZ
    subst hs0
    have r1 := hR1.1
    have k1 := hR1.c0
    have w1 := hR1.2.2.1
    refine bX2_readAsks_57 ?_
    simp +decide (disch := omega) only [lv_args, Value.category, lk, sto1, sto2, List.filter_cons, List.filter_nil, if_true, if_false, tPush, tIld, tLld, tAld, tIst, tAst, tLst, tInc, tB, tBn, tU, tLB, tLBn, tLS, tI2l, tL2i, tLcmp, tDup, tPop, tDup2, tDupx1, tIf, tIf2, tNul, tAcm, tRetI, tRetZ, tRetC, tRetL, tRetV, tRetA, tGetf, tPutf, isI, isL, isA, isZ, tXald, tXast, tZast, tJald, tJast, tRald, tLen, tCV0, tCV1, tCV2, tCV3, tCV4, tCV5, tCS1, tCS2, tCS3, tCS4, tCS5, tCS6, tCS7, tCpyI, tCpyJ, tMax, tMin, tAbs, tSw, tTab, tLook, tLk, Int32.reduceAdd, List.map_cons, List.map_nil, List.sum_cons, List.sum_nil, List.getElem?_cons_succ, List.getElem?_cons_zero, List.set_cons_succ, List.set_cons_zero, true_and, and_true, Option.some.injEq, Sum.inl.injEq, Sum.inr.injEq, Prod.mk.injEq, Value.int.injEq, Value.ref.injEq, Value.long.injEq, exists_eq', Option.toList_some, Option.toList_none, List.cons_append, List.nil_append, Bool.not_false, Bool.not_true, Bool.and_true, Bool.and_false, Bool.true_and, Bool.false_and, hS_s, hS_n, ne_eq, not_false_eq_true, Classical.not_not, Nat.reduceAdd, eq_self, forall_const, false_implies, true_implies, not_true_eq_false, implies_true, r1, k1, w1]
    refine calq (Nat.le_of_ble_eq_true rfl) (by first | decide | omega) (cr_step hR1) ?_
    rintro v h2 ⟨rfl, hR2, hF2⟩
    rw [show stp x (as4 x w st) = as5 x w st from rfl] at hR2
    have r2 := hR2.1
    have k2 := hR2.c0
    have w2 := hR2.2.2.1
    refine bX2_readAsks_64 ?_
    simp +decide (disch := omega) only [lv_args, Value.category, lk, sto1, sto2, List.filter_cons, List.filter_nil, if_true, if_false, tPush, tIld, tLld, tAld, tIst, tAst, tLst, tInc, tB, tBn, tU, tLB, tLBn, tLS, tI2l, tL2i, tLcmp, tDup, tPop, tDup2, tDupx1, tIf, tIf2, tNul, tAcm, tRetI, tRetZ, tRetC, tRetL, tRetV, tRetA, tGetf, tPutf, isI, isL, isA, isZ, tXald, tXast, tZast, tJald, tJast, tRald, tLen, tCV0, tCV1, tCV2, tCV3, tCV4, tCV5, tCS1, tCS2, tCS3, tCS4, tCS5, tCS6, tCS7, tCpyI, tCpyJ, tMax, tMin, tAbs, tSw, tTab, tLook, tLk, Int32.reduceAdd, List.map_cons, List.map_nil, List.sum_cons, List.sum_nil, List.getElem?_cons_succ, List.getElem?_cons_zero, List.set_cons_succ, List.set_cons_zero, true_and, and_true, Option.some.injEq, Sum.inl.injEq, Sum.inr.injEq, Prod.mk.injEq, Value.int.injEq, Value.ref.injEq, Value.long.injEq, exists_eq', Option.toList_some, Option.toList_none, List.cons_append, List.nil_append, Bool.not_false, Bool.not_true, Bool.and_true, Bool.and_false, Bool.true_and, Bool.false_and, hS_s, hS_n, ne_eq, not_false_eq_true, Classical.not_not, Nat.reduceAdd, eq_self, forall_const, false_implies, true_implies, not_true_eq_false, implies_true, r2, k2, w2, b2i_0]
    refine calq (Nat.le_of_ble_eq_true rfl) (by first | decide | omega) (cr_takeNumber (lo := 1) (hi := 12) hR2 (by decide) (by decide)) ?_
    rintro v h3 ⟨⟨u3, rfl, hu3⟩, hR3, hF3⟩
    rw [show tNm x 1 12 (as5 x w st) = as6 x w st from rfl] at hR3 hu3
    have r3 := hR3.1
    have k3 := hR3.c0
    have w3 := hR3.2.2.1
    refine bX2_readAsks_74 ?_
    simp +decide (disch := omega) only [lv_args, Value.category, lk, sto1, sto2, List.filter_cons, List.filter_nil, if_true, if_false, tPush, tIld, tLld, tAld, tIst, tAst, tLst, tInc, tB, tBn, tU, tLB, tLBn, tLS, tI2l, tL2i, tLcmp, tDup, tPop, tDup2, tDupx1, tIf, tIf2, tNul, tAcm, tRetI, tRetZ, tRetC, tRetL, tRetV, tRetA, tGetf, tPutf, isI, isL, isA, isZ, tXald, tXast, tZast, tJald, tJast, tRald, tLen, tCV0, tCV1, tCV2, tCV3, tCV4, tCV5, tCS1, tCS2, tCS3, tCS4, tCS5, tCS6, tCS7, tCpyI, tCpyJ, tMax, tMin, tAbs, tSw, tTab, tLook, tLk, Int32.reduceAdd, List.map_cons, List.map_nil, List.sum_cons, List.sum_nil, List.getElem?_cons_succ, List.getElem?_cons_zero, List.set_cons_succ, List.set_cons_zero, true_and, and_true, Option.some.injEq, Sum.inl.injEq, Sum.inr.injEq, Prod.mk.injEq, Value.int.injEq, Value.ref.injEq, Value.long.injEq, exists_eq', Option.toList_some, Option.toList_none, List.cons_append, List.nil_append, Bool.not_false, Bool.not_true, Bool.and_true, Bool.and_false, Bool.true_and, Bool.false_and, hS_s, hS_n, ne_eq, not_false_eq_true, Classical.not_not, Nat.reduceAdd, eq_self, forall_const, false_implies, true_implies, not_true_eq_false, implies_true, r3, k3, w3, b2i_0]
    refine calp (Nat.le_of_ble_eq_true rfl) (by first | decide | omega) (ct_isSound hR3.2.1) ?_
    refine bX2_readAsks_82 ?_
    simp +decide (disch := omega) only [lv_args, Value.category, lk, sto1, sto2, List.filter_cons, List.filter_nil, if_true, if_false, tPush, tIld, tLld, tAld, tIst, tAst, tLst, tInc, tB, tBn, tU, tLB, tLBn, tLS, tI2l, tL2i, tLcmp, tDup, tPop, tDup2, tDupx1, tIf, tIf2, tNul, tAcm, tRetI, tRetZ, tRetC, tRetL, tRetV, tRetA, tGetf, tPutf, isI, isL, isA, isZ, tXald, tXast, tZast, tJald, tJast, tRald, tLen, tCV0, tCV1, tCV2, tCV3, tCV4, tCV5, tCS1, tCS2, tCS3, tCS4, tCS5, tCS6, tCS7, tCpyI, tCpyJ, tMax, tMin, tAbs, tSw, tTab, tLook, tLk, Int32.reduceAdd, List.map_cons, List.map_nil, List.sum_cons, List.sum_nil, List.getElem?_cons_succ, List.getElem?_cons_zero, List.set_cons_succ, List.set_cons_zero, true_and, and_true, Option.some.injEq, Sum.inl.injEq, Sum.inr.injEq, Prod.mk.injEq, Value.int.injEq, Value.ref.injEq, Value.long.injEq, exists_eq', Option.toList_some, Option.toList_none, List.cons_append, List.nil_append, Bool.not_false, Bool.not_true, Bool.and_true, Bool.and_false, Bool.true_and, Bool.false_and, hS_s, hS_n, ne_eq, not_false_eq_true, Classical.not_not, Nat.reduceAdd, eq_self, forall_const, false_implies, true_implies, not_true_eq_false, implies_true, r3, k3, w3, b2i_0]
    refine ⟨fun c82 => ?_, fun c82 => ?_⟩
    · refine bX2_readAsks_95 ?_
      simp +decide (disch := omega) only [lv_args, Value.category, lk, sto1, sto2, List.filter_cons, List.filter_nil, if_true, if_false, tPush, tIld, tLld, tAld, tIst, tAst, tLst, tInc, tB, tBn, tU, tLB, tLBn, tLS, tI2l, tL2i, tLcmp, tDup, tPop, tDup2, tDupx1, tIf, tIf2, tNul, tAcm, tRetI, tRetZ, tRetC, tRetL, tRetV, tRetA, tGetf, tPutf, isI, isL, isA, isZ, tXald, tXast, tZast, tJald, tJast, tRald, tLen, tCV0, tCV1, tCV2, tCV3, tCV4, tCV5, tCS1, tCS2, tCS3, tCS4, tCS5, tCS6, tCS7, tCpyI, tCpyJ, tMax, tMin, tAbs, tSw, tTab, tLook, tLk, Int32.reduceAdd, List.map_cons, List.map_nil, List.sum_cons, List.sum_nil, List.getElem?_cons_succ, List.getElem?_cons_zero, List.set_cons_succ, List.set_cons_zero, true_and, and_true, Option.some.injEq, Sum.inl.injEq, Sum.inr.injEq, Prod.mk.injEq, Value.int.injEq, Value.ref.injEq, Value.long.injEq, exists_eq', Option.toList_some, Option.toList_none, List.cons_append, List.nil_append, Bool.not_false, Bool.not_true, Bool.and_true, Bool.and_false, Bool.true_and, Bool.false_and, hS_s, hS_n, ne_eq, not_false_eq_true, Classical.not_not, Nat.reduceAdd, eq_self, forall_const, false_implies, true_implies, not_true_eq_false, implies_true, r3, k3, w3, b2i_0]
      first | exact ⟨rfl, by rw [rAs_1, rAs_y c82]; exact hR7, hF1.trans (hF2.trans (hF3.trans hF8))⟩ | exact ⟨rfl, by rw [rAs_1, rAs_n c82]; exact hR3, hF1.trans (hF2.trans hF3)⟩
    · refine bX2_readAsks_85 ?_
      simp +decide (disch := omega) only [lv_args, Value.category, lk, sto1, sto2, List.filter_cons, List.filter_nil, if_true, if_false, tPush, tIld, tLld, tAld, tIst, tAst, tLst, tInc, tB, tBn, tU, tLB, tLBn, tLS, tI2l, tL2i, tLcmp, tDup, tPop, tDup2, tDupx1, tIf, tIf2, tNul, tAcm, tRetI, tRetZ, tRetC, tRetL, tRetV, tRetA, tGetf, tPutf, isI, isL, isA, isZ, tXald, tXast, tZast, tJald, tJast, tRald, tLen, tCV0, tCV1, tCV2, tCV3, tCV4, tCV5, tCS1, tCS2, tCS3, tCS4, tCS5, tCS6, tCS7, tCpyI, tCpyJ, tMax, tMin, tAbs, tSw, tTab, tLook, tLk, Int32.reduceAdd, List.map_cons, List.map_nil, List.sum_cons, List.sum_nil, List.getElem?_cons_succ, List.getElem?_cons_zero, List.set_cons_succ, List.set_cons_zero, true_and, and_true, Option.some.injEq, Sum.inl.injEq, Sum.inr.injEq, Prod.mk.injEq, Value.int.injEq, Value.ref.injEq, Value.long.injEq, exists_eq', Option.toList_some, Option.toList_none, List.cons_append, List.nil_append, Bool.not_false, Bool.not_true, Bool.and_true, Bool.and_false, Bool.true_and, Bool.false_and, hS_s, hS_n, ne_eq, not_false_eq_true, Classical.not_not, Nat.reduceAdd, eq_self, forall_const, false_implies, true_implies, not_true_eq_false, implies_true, r3, k3, w3, b2i_0]
      obtain ⟨q6, q4, qz, q5⟩ := as6_ok c82
      obtain ⟨e1, e2, l2⟩ := hPZ q4
      rw [hu3 c82, e1, e2]
      refine calq (Nat.le_of_ble_eq_true rfl) (by decide) (ct_setAsked hR3.2.2 (show asE x st < 2 from vEn_lt) l2) ?_
      rintro v h7 ⟨rfl, hW7, hF7⟩
      obtain ⟨hR7, hF8⟩ := hR3.world hW7 hF7
      refine bX2_readAsks_95 ?_
      simp +decide (disch := omega) only [lv_args, Value.category, lk, sto1, sto2, List.filter_cons, List.filter_nil, if_true, if_false, tPush, tIld, tLld, tAld, tIst, tAst, tLst, tInc, tB, tBn, tU, tLB, tLBn, tLS, tI2l, tL2i, tLcmp, tDup, tPop, tDup2, tDupx1, tIf, tIf2, tNul, tAcm, tRetI, tRetZ, tRetC, tRetL, tRetV, tRetA, tGetf, tPutf, isI, isL, isA, isZ, tXald, tXast, tZast, tJald, tJast, tRald, tLen, tCV0, tCV1, tCV2, tCV3, tCV4, tCV5, tCS1, tCS2, tCS3, tCS4, tCS5, tCS6, tCS7, tCpyI, tCpyJ, tMax, tMin, tAbs, tSw, tTab, tLook, tLk, Int32.reduceAdd, List.map_cons, List.map_nil, List.sum_cons, List.sum_nil, List.getElem?_cons_succ, List.getElem?_cons_zero, List.set_cons_succ, List.set_cons_zero, true_and, and_true, Option.some.injEq, Sum.inl.injEq, Sum.inr.injEq, Prod.mk.injEq, Value.int.injEq, Value.ref.injEq, Value.long.injEq, exists_eq', Option.toList_some, Option.toList_none, List.cons_append, List.nil_append, Bool.not_false, Bool.not_true, Bool.and_true, Bool.and_false, Bool.true_and, Bool.false_and, hS_s, hS_n, ne_eq, not_false_eq_true, Classical.not_not, Nat.reduceAdd, eq_self, forall_const, false_implies, true_implies, not_true_eq_false, implies_true, r3, k3, w3, b2i_0]
      first | exact ⟨rfl, by rw [rAs_1, rAs_y c82]; exact hR7, hF1.trans (hF2.trans (hF3.trans hF8))⟩ | exact ⟨rfl, by rw [rAs_1, rAs_n c82]; exact hR3, hF1.trans (hF2.trans hF3)⟩
  refine bX2_readAsks_0 ?_
  simp +decide (disch := omega) only [lv_args, Value.category, lk, sto1, sto2, List.filter_cons, List.filter_nil, if_true, if_false, tPush, tIld, tLld, tAld, tIst, tAst, tLst, tInc, tB, tBn, tU, tLB, tLBn, tLS, tI2l, tL2i, tLcmp, tDup, tPop, tDup2, tDupx1, tIf, tIf2, tNul, tAcm, tRetI, tRetZ, tRetC, tRetL, tRetV, tRetA, tGetf, tPutf, isI, isL, isA, isZ, tXald, tXast, tZast, tJald, tJast, tRald, tLen, tCV0, tCV1, tCV2, tCV3, tCV4, tCV5, tCS1, tCS2, tCS3, tCS4, tCS5, tCS6, tCS7, tCpyI, tCpyJ, tMax, tMin, tAbs, tSw, tTab, tLook, tLk, Int32.reduceAdd, List.map_cons, List.map_nil, List.sum_cons, List.sum_nil, List.getElem?_cons_succ, List.getElem?_cons_zero, List.set_cons_succ, List.set_cons_zero, true_and, and_true, Option.some.injEq, Sum.inl.injEq, Sum.inr.injEq, Prod.mk.injEq, Value.int.injEq, Value.ref.injEq, Value.long.injEq, exists_eq', Option.toList_some, Option.toList_none, List.cons_append, List.nil_append, Bool.not_false, Bool.not_true, Bool.and_true, Bool.and_false, Bool.true_and, Bool.false_and, hS_s, hS_n, ne_eq, not_false_eq_true, Classical.not_not, Nat.reduceAdd, eq_self, forall_const, false_implies, true_implies, not_true_eq_false, implies_true, r0, k0, w0]
  refine calq (Nat.le_of_ble_eq_true rfl) (by first | decide | omega) (cr_step hR) ?_
  rintro v h1 ⟨rfl, hR1, hF1⟩
  have r1 := hR1.1
  have k1 := hR1.c0
  have w1 := hR1.2.2.1
  refine bX2_readAsks_7 ?_
  simp +decide (disch := omega) only [lv_args, Value.category, lk, sto1, sto2, List.filter_cons, List.filter_nil, if_true, if_false, tPush, tIld, tLld, tAld, tIst, tAst, tLst, tInc, tB, tBn, tU, tLB, tLBn, tLS, tI2l, tL2i, tLcmp, tDup, tPop, tDup2, tDupx1, tIf, tIf2, tNul, tAcm, tRetI, tRetZ, tRetC, tRetL, tRetV, tRetA, tGetf, tPutf, isI, isL, isA, isZ, tXald, tXast, tZast, tJald, tJast, tRald, tLen, tCV0, tCV1, tCV2, tCV3, tCV4, tCV5, tCS1, tCS2, tCS3, tCS4, tCS5, tCS6, tCS7, tCpyI, tCpyJ, tMax, tMin, tAbs, tSw, tTab, tLook, tLk, Int32.reduceAdd, List.map_cons, List.map_nil, List.sum_cons, List.sum_nil, List.getElem?_cons_succ, List.getElem?_cons_zero, List.set_cons_succ, List.set_cons_zero, true_and, and_true, Option.some.injEq, Sum.inl.injEq, Sum.inr.injEq, Prod.mk.injEq, Value.int.injEq, Value.ref.injEq, Value.long.injEq, exists_eq', Option.toList_some, Option.toList_none, List.cons_append, List.nil_append, Bool.not_false, Bool.not_true, Bool.and_true, Bool.and_false, Bool.true_and, Bool.false_and, hS_s, hS_n, ne_eq, not_false_eq_true, Classical.not_not, Nat.reduceAdd, eq_self, forall_const, false_implies, true_implies, not_true_eq_false, implies_true, r1, k1, w1, b2i_0]
  refine calq (Nat.le_of_ble_eq_true rfl) (by first | decide | omega) (cr_takeEnd hR1) ?_
  rintro v h2 ⟨⟨u2, rfl, hu2⟩, hR2, hF2⟩
  rw [show tEn x (stp x st) = as2 x w st from rfl] at hR2 hu2
  rw [show vEn x (stp x st) = asE x st from rfl] at hu2
  have r2 := hR2.1
  have k2 := hR2.c0
  have w2 := hR2.2.2.1
  refine bX2_readAsks_14 ?_
  simp +decide (disch := omega) only [lv_args, Value.category, lk, sto1, sto2, List.filter_cons, List.filter_nil, if_true, if_false, tPush, tIld, tLld, tAld, tIst, tAst, tLst, tInc, tB, tBn, tU, tLB, tLBn, tLS, tI2l, tL2i, tLcmp, tDup, tPop, tDup2, tDupx1, tIf, tIf2, tNul, tAcm, tRetI, tRetZ, tRetC, tRetL, tRetV, tRetA, tGetf, tPutf, isI, isL, isA, isZ, tXald, tXast, tZast, tJald, tJast, tRald, tLen, tCV0, tCV1, tCV2, tCV3, tCV4, tCV5, tCS1, tCS2, tCS3, tCS4, tCS5, tCS6, tCS7, tCpyI, tCpyJ, tMax, tMin, tAbs, tSw, tTab, tLook, tLk, Int32.reduceAdd, List.map_cons, List.map_nil, List.sum_cons, List.sum_nil, List.getElem?_cons_succ, List.getElem?_cons_zero, List.set_cons_succ, List.set_cons_zero, true_and, and_true, Option.some.injEq, Sum.inl.injEq, Sum.inr.injEq, Prod.mk.injEq, Value.int.injEq, Value.ref.injEq, Value.long.injEq, exists_eq', Option.toList_some, Option.toList_none, List.cons_append, List.nil_append, Bool.not_false, Bool.not_true, Bool.and_true, Bool.and_false, Bool.true_and, Bool.false_and, hS_s, hS_n, ne_eq, not_false_eq_true, Classical.not_not, Nat.reduceAdd, eq_self, forall_const, false_implies, true_implies, not_true_eq_false, implies_true, r2, k2, w2, b2i_0]
  refine calq (Nat.le_of_ble_eq_true rfl) (by first | decide | omega) (cr_thingHere hR2 hth) ?_
  rintro v h3 ⟨⟨u3, rfl, hu3⟩, hR3, hF3⟩
  rw [show tHr x w (as2 x w st) = as3 x w st from rfl] at hR3 hu3
  have r3 := hR3.1
  have k3 := hR3.c0
  have w3 := hR3.2.2.1
  refine bX2_readAsks_26 ?_
  simp +decide (disch := omega) only [lv_args, Value.category, lk, sto1, sto2, List.filter_cons, List.filter_nil, if_true, if_false, tPush, tIld, tLld, tAld, tIst, tAst, tLst, tInc, tB, tBn, tU, tLB, tLBn, tLS, tI2l, tL2i, tLcmp, tDup, tPop, tDup2, tDupx1, tIf, tIf2, tNul, tAcm, tRetI, tRetZ, tRetC, tRetL, tRetV, tRetA, tGetf, tPutf, isI, isL, isA, isZ, tXald, tXast, tZast, tJald, tJast, tRald, tLen, tCV0, tCV1, tCV2, tCV3, tCV4, tCV5, tCS1, tCS2, tCS3, tCS4, tCS5, tCS6, tCS7, tCpyI, tCpyJ, tMax, tMin, tAbs, tSw, tTab, tLook, tLk, Int32.reduceAdd, List.map_cons, List.map_nil, List.sum_cons, List.sum_nil, List.getElem?_cons_succ, List.getElem?_cons_zero, List.set_cons_succ, List.set_cons_zero, true_and, and_true, Option.some.injEq, Sum.inl.injEq, Sum.inr.injEq, Prod.mk.injEq, Value.int.injEq, Value.ref.injEq, Value.long.injEq, exists_eq', Option.toList_some, Option.toList_none, List.cons_append, List.nil_append, Bool.not_false, Bool.not_true, Bool.and_true, Bool.and_false, Bool.true_and, Bool.false_and, hS_s, hS_n, ne_eq, not_false_eq_true, Classical.not_not, Nat.reduceAdd, eq_self, forall_const, false_implies, true_implies, not_true_eq_false, implies_true, r3, k3, w3, b2i_0]
  refine calp (Nat.le_of_ble_eq_true rfl) (by first | decide | omega) (ct_isSound hR3.2.1) ?_
  refine bX2_readAsks_34 ?_
  simp +decide (disch := omega) only [lv_args, Value.category, lk, sto1, sto2, List.filter_cons, List.filter_nil, if_true, if_false, tPush, tIld, tLld, tAld, tIst, tAst, tLst, tInc, tB, tBn, tU, tLB, tLBn, tLS, tI2l, tL2i, tLcmp, tDup, tPop, tDup2, tDupx1, tIf, tIf2, tNul, tAcm, tRetI, tRetZ, tRetC, tRetL, tRetV, tRetA, tGetf, tPutf, isI, isL, isA, isZ, tXald, tXast, tZast, tJald, tJast, tRald, tLen, tCV0, tCV1, tCV2, tCV3, tCV4, tCV5, tCS1, tCS2, tCS3, tCS4, tCS5, tCS6, tCS7, tCpyI, tCpyJ, tMax, tMin, tAbs, tSw, tTab, tLook, tLk, Int32.reduceAdd, List.map_cons, List.map_nil, List.sum_cons, List.sum_nil, List.getElem?_cons_succ, List.getElem?_cons_zero, List.set_cons_succ, List.set_cons_zero, true_and, and_true, Option.some.injEq, Sum.inl.injEq, Sum.inr.injEq, Prod.mk.injEq, Value.int.injEq, Value.ref.injEq, Value.long.injEq, exists_eq', Option.toList_some, Option.toList_none, List.cons_append, List.nil_append, Bool.not_false, Bool.not_true, Bool.and_true, Bool.and_false, Bool.true_and, Bool.false_and, hS_s, hS_n, ne_eq, not_false_eq_true, Classical.not_not, Nat.reduceAdd, eq_self, forall_const, false_implies, true_implies, not_true_eq_false, implies_true, r3, k3, w3, b2i_0]
  refine ⟨fun c34 => ?_, fun c34 => ?_⟩
  · first | exact cont h5 _ _ _ hR5 (hF1.trans (hF2.trans (hF3.trans hF5))) (by unfold as4; rw [if_pos ⟨c34, c46⟩]) (fun _ => ⟨rfl, rfl, Nat.lt_of_lt_of_le l2 hth⟩) | exact cont h3 _ _ _ hR3 (hF1.trans (hF2.trans hF3)) (by unfold as4; rw [if_neg (fun z => z.2 c46)]) (fun _ => ⟨rfl, rfl, Nat.lt_of_lt_of_le l2 hth⟩) | exact cont h3 _ _ _ hR3 (hF1.trans (hF2.trans hF3)) (by unfold as4; rw [if_neg (fun z => c34 z.1)]) (fun z => absurd z c34)
  · refine bX2_readAsks_37 ?_
    simp +decide (disch := omega) only [lv_args, Value.category, lk, sto1, sto2, List.filter_cons, List.filter_nil, if_true, if_false, tPush, tIld, tLld, tAld, tIst, tAst, tLst, tInc, tB, tBn, tU, tLB, tLBn, tLS, tI2l, tL2i, tLcmp, tDup, tPop, tDup2, tDupx1, tIf, tIf2, tNul, tAcm, tRetI, tRetZ, tRetC, tRetL, tRetV, tRetA, tGetf, tPutf, isI, isL, isA, isZ, tXald, tXast, tZast, tJald, tJast, tRald, tLen, tCV0, tCV1, tCV2, tCV3, tCV4, tCV5, tCS1, tCS2, tCS3, tCS4, tCS5, tCS6, tCS7, tCpyI, tCpyJ, tMax, tMin, tAbs, tSw, tTab, tLook, tLk, Int32.reduceAdd, List.map_cons, List.map_nil, List.sum_cons, List.sum_nil, List.getElem?_cons_succ, List.getElem?_cons_zero, List.set_cons_succ, List.set_cons_zero, true_and, and_true, Option.some.injEq, Sum.inl.injEq, Sum.inr.injEq, Prod.mk.injEq, Value.int.injEq, Value.ref.injEq, Value.long.injEq, exists_eq', Option.toList_some, Option.toList_none, List.cons_append, List.nil_append, Bool.not_false, Bool.not_true, Bool.and_true, Bool.and_false, Bool.true_and, Bool.false_and, hS_s, hS_n, ne_eq, not_false_eq_true, Classical.not_not, Nat.reduceAdd, eq_self, forall_const, false_implies, true_implies, not_true_eq_false, implies_true, r3, k3, w3, b2i_0]
    obtain ⟨q2, q0, t1⟩ := as3_ok c34
    obtain ⟨l2, e2⟩ := vTr_ok hth t1
    have g1 := hu2 q2
    have g2 := (hu3 c34).trans e2
    subst g1
    subst g2
    refine calp (Nat.le_of_ble_eq_true rfl) (by decide) (ct_askedAt hR3.2.2 (show asE x st < 2 from vEn_lt) (by omega)) ?_
    refine bX2_readAsks_46 ?_
    simp +decide (disch := omega) only [lv_args, Value.category, lk, sto1, sto2, List.filter_cons, List.filter_nil, if_true, if_false, tPush, tIld, tLld, tAld, tIst, tAst, tLst, tInc, tB, tBn, tU, tLB, tLBn, tLS, tI2l, tL2i, tLcmp, tDup, tPop, tDup2, tDupx1, tIf, tIf2, tNul, tAcm, tRetI, tRetZ, tRetC, tRetL, tRetV, tRetA, tGetf, tPutf, isI, isL, isA, isZ, tXald, tXast, tZast, tJald, tJast, tRald, tLen, tCV0, tCV1, tCV2, tCV3, tCV4, tCV5, tCS1, tCS2, tCS3, tCS4, tCS5, tCS6, tCS7, tCpyI, tCpyJ, tMax, tMin, tAbs, tSw, tTab, tLook, tLk, Int32.reduceAdd, List.map_cons, List.map_nil, List.sum_cons, List.sum_nil, List.getElem?_cons_succ, List.getElem?_cons_zero, List.set_cons_succ, List.set_cons_zero, true_and, and_true, Option.some.injEq, Sum.inl.injEq, Sum.inr.injEq, Prod.mk.injEq, Value.int.injEq, Value.ref.injEq, Value.long.injEq, exists_eq', Option.toList_some, Option.toList_none, List.cons_append, List.nil_append, Bool.not_false, Bool.not_true, Bool.and_true, Bool.and_false, Bool.true_and, Bool.false_and, hS_s, hS_n, ne_eq, not_false_eq_true, Classical.not_not, Nat.reduceAdd, eq_self, forall_const, false_implies, true_implies, not_true_eq_false, implies_true, r3, k3, w3, b2i_0]
    refine ⟨fun c46 => ?_, fun c46 => ?_⟩
    · first | exact cont h5 _ _ _ hR5 (hF1.trans (hF2.trans (hF3.trans hF5))) (by unfold as4; rw [if_pos ⟨c34, c46⟩]) (fun _ => ⟨rfl, rfl, Nat.lt_of_lt_of_le l2 hth⟩) | exact cont h3 _ _ _ hR3 (hF1.trans (hF2.trans hF3)) (by unfold as4; rw [if_neg (fun z => z.2 c46)]) (fun _ => ⟨rfl, rfl, Nat.lt_of_lt_of_le l2 hth⟩) | exact cont h3 _ _ _ hR3 (hF1.trans (hF2.trans hF3)) (by unfold as4; rw [if_neg (fun z => c34 z.1)]) (fun z => absurd z c34)
    · refine bX2_readAsks_49 ?_
      simp +decide (disch := omega) only [lv_args, Value.category, lk, sto1, sto2, List.filter_cons, List.filter_nil, if_true, if_false, tPush, tIld, tLld, tAld, tIst, tAst, tLst, tInc, tB, tBn, tU, tLB, tLBn, tLS, tI2l, tL2i, tLcmp, tDup, tPop, tDup2, tDupx1, tIf, tIf2, tNul, tAcm, tRetI, tRetZ, tRetC, tRetL, tRetV, tRetA, tGetf, tPutf, isI, isL, isA, isZ, tXald, tXast, tZast, tJald, tJast, tRald, tLen, tCV0, tCV1, tCV2, tCV3, tCV4, tCV5, tCS1, tCS2, tCS3, tCS4, tCS5, tCS6, tCS7, tCpyI, tCpyJ, tMax, tMin, tAbs, tSw, tTab, tLook, tLk, Int32.reduceAdd, List.map_cons, List.map_nil, List.sum_cons, List.sum_nil, List.getElem?_cons_succ, List.getElem?_cons_zero, List.set_cons_succ, List.set_cons_zero, true_and, and_true, Option.some.injEq, Sum.inl.injEq, Sum.inr.injEq, Prod.mk.injEq, Value.int.injEq, Value.ref.injEq, Value.long.injEq, exists_eq', Option.toList_some, Option.toList_none, List.cons_append, List.nil_append, Bool.not_false, Bool.not_true, Bool.and_true, Bool.and_false, Bool.true_and, Bool.false_and, hS_s, hS_n, ne_eq, not_false_eq_true, Classical.not_not, Nat.reduceAdd, eq_self, forall_const, false_implies, true_implies, not_true_eq_false, implies_true, r3, k3, w3, b2i_0]
      refine calq (Nat.le_of_ble_eq_true rfl) (by first | decide | omega) (cr_fail (c := 3) hR3 (by decide)) ?_
      rintro v h5 ⟨rfl, hR5, hF5⟩
      first | exact cont h5 _ _ _ hR5 (hF1.trans (hF2.trans (hF3.trans hF5))) (by unfold as4; rw [if_pos ⟨c34, c46⟩]) (fun _ => ⟨rfl, rfl, Nat.lt_of_lt_of_le l2 hth⟩) | exact cont h3 _ _ _ hR3 (hF1.trans (hF2.trans hF3)) (by unfold as4; rw [if_neg (fun z => z.2 c46)]) (fun _ => ⟨rfl, rfl, Nat.lt_of_lt_of_le l2 hth⟩) | exact cont h3 _ _ _ hR3 (hF1.trans (hF2.trans hF3)) (by unfold as4; rw [if_neg (fun z => c34 z.1)]) (fun z => absurd z c34)

