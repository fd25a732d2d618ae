/-! ===== the law: its loop ===== -/
section Lwl
variable {G : Gt} {X : Sc} {B : Nat}
theorem lim_eq {L i : Nat} (hL : L ≤ 3072) (hi : i ≤ 4000) : (nI L - 6 < nI i) = (¬ i + 6 ≤ L) := by
  have e : (nI L - 6).toInt = (L : Int) - 6 := pk_sub_toInt (b := 6) (by omega) (by omega)
  apply propext
  rw [Int32.lt_iff_toInt_lt, e, nI_toInt (by omega)]
  omega
theorem lw_loop (hL : X.2.1 ≤ 3072) : ∀ (n i : Nat) (h : Hp), i ≤ 3072 → X.2.1 < i + 6 * (n + 1) → Inv G h B → TG G (CL' G X) ZL 100 (17 * n) (307 * n) mL_law 23 [(0, .ref X.1), (1, .ref B), (2, .ref (B + 240)), (3, .ref (B + 261)), (4, .int (nI i))] [] h := by
  intro n
  induction n with
  | zero =>
    intro i h hi hn hI
    have ec := lim_eq hL (show i ≤ 4000 by omega)
    have e1 : (¬ i + 6 ≤ X.2.1) = True := eq_true (by omega)
    rw [e1] at ec
    refine bL_law_23 ?_
    simp +decide (disch := omega) only [lv_args, Value.category, sto2, List.filter_cons, List.filter_nil, if_true, if_false, tPush, tIld, tLld, tAld, tIst, tAst, tLst, tInc, tB, tBn, tU, tLB, tLBn, tLS, tI2l, tL2i, tLcmp, tDup, tPop, tDup2, tDupx1, tIf, tIf2, tNul, tAcm, tRetI, tRetZ, tRetC, tRetL, tRetV, tRetA, tGetf, tPutf, isI, isL, isA, isZ, tXald, tXast, tZast, tJald, tJast, tRald, tLen, tCV0, tCV1, tCV2, tCV3, tCV4, tCV5, tCS1, tCS2, tCS3, tCS4, tCS5, tCS6, tCS7, tCpyI, tCpyJ, tMax, tMin, tAbs, tSw, tTab, tLook, tLk, Int32.reduceAdd, List.map_cons, List.map_nil, List.sum_cons, List.sum_nil, List.getElem?_cons_succ, List.getElem?_cons_zero, List.set_cons_succ, List.set_cons_zero, true_and, and_true, Option.some.injEq, Sum.inl.injEq, Sum.inr.injEq, Prod.mk.injEq, Value.int.injEq, Value.ref.injEq, Value.long.injEq, exists_eq', Option.toList_some, Option.toList_none, List.cons_append, List.nil_append, Bool.not_false, Bool.not_true, Bool.and_true, Bool.and_false, Bool.true_and, Bool.false_and, hS_s, hS_n, ne_eq, not_false_eq_true, Classical.not_not, Nat.reduceAdd, eq_self, forall_const, false_implies, true_implies, not_true_eq_false, implies_true, lkk_s, lkk_n, sto1_e, sto1_s, sto1_i, sto1_r, sto1_l, stf_e, stf_i, stf_r, stf_l, tScr, tScl, tFin, ec]
    refine bL_law_1361 ?_
    simp +decide (disch := omega) only [lv_args, Value.category, sto2, List.filter_cons, List.filter_nil, if_true, if_false, tPush, tIld, tLld, tAld, tIst, tAst, tLst, tInc, tB, tBn, tU, tLB, tLBn, tLS, tI2l, tL2i, tLcmp, tDup, tPop, tDup2, tDupx1, tIf, tIf2, tNul, tAcm, tRetI, tRetZ, tRetC, tRetL, tRetV, tRetA, tGetf, tPutf, isI, isL, isA, isZ, tXald, tXast, tZast, tJald, tJast, tRald, tLen, tCV0, tCV1, tCV2, tCV3, tCV4, tCV5, tCS1, tCS2, tCS3, tCS4, tCS5, tCS6, tCS7, tCpyI, tCpyJ, tMax, tMin, tAbs, tSw, tTab, tLook, tLk, Int32.reduceAdd, List.map_cons, List.map_nil, List.sum_cons, List.sum_nil, List.getElem?_cons_succ, List.getElem?_cons_zero, List.set_cons_succ, List.set_cons_zero, true_and, and_true, Option.some.injEq, Sum.inl.injEq, Sum.inr.injEq, Prod.mk.injEq, Value.int.injEq, Value.ref.injEq, Value.long.injEq, exists_eq', Option.toList_some, Option.toList_none, List.cons_append, List.nil_append, Bool.not_false, Bool.not_true, Bool.and_true, Bool.and_false, Bool.true_and, Bool.false_and, hS_s, hS_n, ne_eq, not_false_eq_true, Classical.not_not, Nat.reduceAdd, eq_self, forall_const, false_implies, true_implies, not_true_eq_false, implies_true, lkk_s, lkk_n, sto1_e, sto1_s, sto1_i, sto1_r, sto1_l, stf_e, stf_i, stf_r, stf_l, tScr, tScl, tFin, ec]
  | succ n ih =>
    intro i h hi hn hI
    have ec := lim_eq hL (show i ≤ 4000 by omega)
    by_cases c : i + 6 ≤ X.2.1
    · have e1 : (¬ i + 6 ≤ X.2.1) = False := eq_false (fun z => z c)
      rw [e1] at ec
      have hv0 : vp_in (nI i) X.2.1 := vp_in_nI (by omega) (by omega)
      refine bL_law_23 ?_
      simp +decide (disch := omega) only [lv_args, Value.category, sto2, List.filter_cons, List.filter_nil, if_true, if_false, tPush, tIld, tLld, tAld, tIst, tAst, tLst, tInc, tB, tBn, tU, tLB, tLBn, tLS, tI2l, tL2i, tLcmp, tDup, tPop, tDup2, tDupx1, tIf, tIf2, tNul, tAcm, tRetI, tRetZ, tRetC, tRetL, tRetV, tRetA, tGetf, tPutf, isI, isL, isA, isZ, tXald, tXast, tZast, tJald, tJast, tRald, tLen, tCV0, tCV1, tCV2, tCV3, tCV4, tCV5, tCS1, tCS2, tCS3, tCS4, tCS5, tCS6, tCS7, tCpyI, tCpyJ, tMax, tMin, tAbs, tSw, tTab, tLook, tLk, Int32.reduceAdd, List.map_cons, List.map_nil, List.sum_cons, List.sum_nil, List.getElem?_cons_succ, List.getElem?_cons_zero, List.set_cons_succ, List.set_cons_zero, true_and, and_true, Option.some.injEq, Sum.inl.injEq, Sum.inr.injEq, Prod.mk.injEq, Value.int.injEq, Value.ref.injEq, Value.long.injEq, exists_eq', Option.toList_some, Option.toList_none, List.cons_append, List.nil_append, Bool.not_false, Bool.not_true, Bool.and_true, Bool.and_false, Bool.true_and, Bool.false_and, hS_s, hS_n, ne_eq, not_false_eq_true, Classical.not_not, Nat.reduceAdd, eq_self, forall_const, false_implies, true_implies, not_true_eq_false, implies_true, lkk_s, lkk_n, sto1_e, sto1_s, sto1_i, sto1_r, sto1_l, stf_e, stf_i, stf_r, stf_l, tScr, tScl, tFin, ec, hv0]
      have nx : ∀ h', Inv G h' B → TG G (CL' G X) ZL 100 (17 * n) (307 * n) mL_law 1355 [(0, .ref X.1), (1, .ref B), (2, .ref (B + 240)), (3, .ref (B + 261)), (4, .int (nI i))] [] h' := fun h' hI' => by
        refine bL_law_1355 ?_
        simp +decide (disch := omega) only [lv_args, Value.category, sto2, List.filter_cons, List.filter_nil, if_true, if_false, tPush, tIld, tLld, tAld, tIst, tAst, tLst, tInc, tB, tBn, tU, tLB, tLBn, tLS, tI2l, tL2i, tLcmp, tDup, tPop, tDup2, tDupx1, tIf, tIf2, tNul, tAcm, tRetI, tRetZ, tRetC, tRetL, tRetV, tRetA, tGetf, tPutf, isI, isL, isA, isZ, tXald, tXast, tZast, tJald, tJast, tRald, tLen, tCV0, tCV1, tCV2, tCV3, tCV4, tCV5, tCS1, tCS2, tCS3, tCS4, tCS5, tCS6, tCS7, tCpyI, tCpyJ, tMax, tMin, tAbs, tSw, tTab, tLook, tLk, Int32.reduceAdd, List.map_cons, List.map_nil, List.sum_cons, List.sum_nil, List.getElem?_cons_succ, List.getElem?_cons_zero, List.set_cons_succ, List.set_cons_zero, true_and, and_true, Option.some.injEq, Sum.inl.injEq, Sum.inr.injEq, Prod.mk.injEq, Value.int.injEq, Value.ref.injEq, Value.long.injEq, exists_eq', Option.toList_some, Option.toList_none, List.cons_append, List.nil_append, Bool.not_false, Bool.not_true, Bool.and_true, Bool.and_false, Bool.true_and, Bool.false_and, hS_s, hS_n, ne_eq, not_false_eq_true, Classical.not_not, Nat.reduceAdd, eq_self, forall_const, false_implies, true_implies, not_true_eq_false, implies_true, lkk_s, lkk_n, sto1_e, sto1_s, sto1_i, sto1_r, sto1_l, stf_e, stf_i, stf_r, stf_l, tScr, tScl, tFin, ec, hv0]
        have k9 := ih (i + 6) h' (by omega) (by omega) hI'
        rw [← nI_add i 6] at k9
        exact k9
      refine bL_law_33 ?_
      simp +decide (disch := omega) only [lv_args, Value.category, sto2, List.filter_cons, List.filter_nil, if_true, if_false, tPush, tIld, tLld, tAld, tIst, tAst, tLst, tInc, tB, tBn, tU, tLB, tLBn, tLS, tI2l, tL2i, tLcmp, tDup, tPop, tDup2, tDupx1, tIf, tIf2, tNul, tAcm, tRetI, tRetZ, tRetC, tRetL, tRetV, tRetA, tGetf, tPutf, isI, isL, isA, isZ, tXald, tXast, tZast, tJald, tJast, tRald, tLen, tCV0, tCV1, tCV2, tCV3, tCV4, tCV5, tCS1, tCS2, tCS3, tCS4, tCS5, tCS6, tCS7, tCpyI, tCpyJ, tMax, tMin, tAbs, tSw, tTab, tLook, tLk, Int32.reduceAdd, List.map_cons, List.map_nil, List.sum_cons, List.sum_nil, List.getElem?_cons_succ, List.getElem?_cons_zero, List.set_cons_succ, List.set_cons_zero, true_and, and_true, Option.some.injEq, Sum.inl.injEq, Sum.inr.injEq, Prod.mk.injEq, Value.int.injEq, Value.ref.injEq, Value.long.injEq, exists_eq', Option.toList_some, Option.toList_none, List.cons_append, List.nil_append, Bool.not_false, Bool.not_true, Bool.and_true, Bool.and_false, Bool.true_and, Bool.false_and, hS_s, hS_n, ne_eq, not_false_eq_true, Classical.not_not, Nat.reduceAdd, eq_self, forall_const, false_implies, true_implies, not_true_eq_false, implies_true, lkk_s, lkk_n, sto1_e, sto1_s, sto1_i, sto1_r, sto1_l, stf_e, stf_i, stf_r, stf_l, tScr, tScl, tFin, ec, hv0]
      refine ⟨fun _ => TG.room (by omega) (by omega) (lc_feed hL c hI nx), fun _ => ?_⟩
      refine ⟨fun _ => TG.room (by omega) (by omega) (lc_end hL c hI nx), fun _ => ?_⟩
      refine ⟨fun _ => TG.room (by omega) (by omega) (lc_bridge hL c hI nx), fun _ => ?_⟩
      refine ⟨fun _ => TG.room (by omega) (by omega) (lc_fault hL c hI nx), fun _ => ?_⟩
      refine ⟨fun _ => TG.room (by omega) (by omega) (lc_person hL c hI nx), fun _ => ?_⟩
      refine ⟨fun _ => TG.room (by omega) (by omega) (lc_have hL c hI nx), fun _ => ?_⟩
      refine ⟨fun _ => TG.room (by omega) (by omega) (lc_thing hL c hI nx), fun _ => ?_⟩
      refine ⟨fun _ => TG.room (by omega) (by omega) (lc_asks hL c hI nx), fun _ => ?_⟩
      refine ⟨fun _ => TG.room (by omega) (by omega) (lc_now hL c hI nx), fun _ => ?_⟩
      refine ⟨fun _ => TG.room (by omega) (by omega) (lc_go hL c hI nx), fun _ => ?_⟩
      refine ⟨fun _ => TG.room (by omega) (by omega) (lc_join hL c hI nx), fun _ => ?_⟩
      refine ⟨fun _ => TG.room (by omega) (by omega) (lc_part hL c hI nx), fun _ => ?_⟩
      refine ⟨fun _ => TG.room (by omega) (by omega) (lc_trade hL c hI nx), fun _ => ?_⟩
      refine ⟨fun _ => TG.room (by omega) (by omega) (lc_ask hL c hI nx), fun _ => ?_⟩
      refine ⟨fun _ => TG.room (by omega) (by omega) (lc_days hL c hI nx), fun _ => ?_⟩
      refine ⟨fun _ => TG.room (by omega) (by omega) (lc_undo hL c hI nx), fun _ => ?_⟩
      refine ⟨fun _ => TG.room (by omega) (by omega) (lc_lacks hL c hI nx), fun _ => ?_⟩
      refine ⟨fun _ => TG.room (by omega) (by omega) (lc_when hL c hI nx), fun _ => ?_⟩
      refine ⟨fun _ => TG.room (by omega) (by omega) (lc_teacher hL c hI nx), fun _ => ?_⟩
      refine ⟨fun _ => TG.room (by omega) (by omega) (lc_taught hL c hI nx), fun _ => ?_⟩
      refine ⟨fun _ => TG.room (by omega) (by omega) (lc_school hL c hI nx), fun _ => ?_⟩
      refine ⟨fun _ => TG.room (by omega) (by omega) (lc_schooled hL c hI nx), fun _ => ?_⟩
      refine ⟨fun _ => TG.room (by omega) (by omega) (lc_laws hL c hI nx), fun _ => ?_⟩
      refine ⟨fun _ => TG.room (by omega) (by omega) (lc_smallest hL c hI nx), fun _ => ?_⟩
      refine ⟨fun _ => TG.room (by omega) (by omega) (lc_offer hL c hI nx), fun _ => ?_⟩
      refine ⟨fun _ => TG.room (by omega) (by omega) (lc_sham hL c hI nx), fun _ => ?_⟩
      refine ⟨fun _ => TG.room (by omega) (by omega) (lc_rush hL c hI nx), fun _ => ?_⟩
      refine ⟨fun _ => TG.room (by omega) (by omega) (lc_crowd hL c hI nx), fun _ => ?_⟩
      refine ⟨fun _ => TG.room (by omega) (by omega) (lc_eased hL c hI nx), fun _ => ?_⟩
      refine ⟨fun _ => TG.room (by omega) (by omega) (lc_pass hL c hI nx), fun _ => ?_⟩
      refine ⟨fun _ => TG.room (by omega) (by omega) (lc_byteAt hL c hI nx), fun _ => ?_⟩
      refine ⟨fun _ => TG.room (by omega) (by omega) (lc_drawn hL c hI nx), fun _ => ?_⟩
      refine ⟨fun _ => TG.room (by omega) (by omega) (lc_odds hL c hI nx), fun _ => ?_⟩
      refine ⟨fun _ => TG.room (by omega) (by omega) (lc_book hL c hI nx), fun _ => ?_⟩
      refine ⟨fun _ => TG.room (by omega) (by omega) (lc_told hL c hI nx), fun _ => ?_⟩
      refine ⟨fun _ => TG.room (by omega) (by omega) (lc_sentence hL c hI nx), fun _ => ?_⟩
      refine ⟨fun _ => TG.room (by omega) (by omega) (lc_said hL c hI nx), fun _ => ?_⟩
      refine ⟨fun _ => TG.room (by omega) (by omega) (lc_image hL c hI nx), fun _ => ?_⟩
      refine ⟨fun _ => TG.room (by omega) (by omega) (lc_restore hL c hI nx), fun _ => ?_⟩
      refine ⟨fun _ => TG.room (by omega) (by omega) (lc_count hL c hI nx), fun _ => ?_⟩
      exact TG.room (by omega) (by omega) (nx h hI)
    · have e1 : (¬ i + 6 ≤ X.2.1) = True := eq_true c
      rw [e1] at ec
      refine bL_law_23 ?_
      simp +decide (disch := omega) only [lv_args, Value.category, sto2, List.filter_cons, List.filter_nil, if_true, if_false, tPush, tIld, tLld, tAld, tIst, tAst, tLst, tInc, tB, tBn, tU, tLB, tLBn, tLS, tI2l, tL2i, tLcmp, tDup, tPop, tDup2, tDupx1, tIf, tIf2, tNul, tAcm, tRetI, tRetZ, tRetC, tRetL, tRetV, tRetA, tGetf, tPutf, isI, isL, isA, isZ, tXald, tXast, tZast, tJald, tJast, tRald, tLen, tCV0, tCV1, tCV2, tCV3, tCV4, tCV5, tCS1, tCS2, tCS3, tCS4, tCS5, tCS6, tCS7, tCpyI, tCpyJ, tMax, tMin, tAbs, tSw, tTab, tLook, tLk, Int32.reduceAdd, List.map_cons, List.map_nil, List.sum_cons, List.sum_nil, List.getElem?_cons_succ, List.getElem?_cons_zero, List.set_cons_succ, List.set_cons_zero, true_and, and_true, Option.some.injEq, Sum.inl.injEq, Sum.inr.injEq, Prod.mk.injEq, Value.int.injEq, Value.ref.injEq, Value.long.injEq, exists_eq', Option.toList_some, Option.toList_none, List.cons_append, List.nil_append, Bool.not_false, Bool.not_true, Bool.and_true, Bool.and_false, Bool.true_and, Bool.false_and, hS_s, hS_n, ne_eq, not_false_eq_true, Classical.not_not, Nat.reduceAdd, eq_self, forall_const, false_implies, true_implies, not_true_eq_false, implies_true, lkk_s, lkk_n, sto1_e, sto1_s, sto1_i, sto1_r, sto1_l, stf_e, stf_i, stf_r, stf_l, tScr, tScl, tFin, ec]
      refine bL_law_1361 ?_
      simp +decide (disch := omega) only [lv_args, Value.category, sto2, List.filter_cons, List.filter_nil, if_true, if_false, tPush, tIld, tLld, tAld, tIst, tAst, tLst, tInc, tB, tBn, tU, tLB, tLBn, tLS, tI2l, tL2i, tLcmp, tDup, tPop, tDup2, tDupx1, tIf, tIf2, tNul, tAcm, tRetI, tRetZ, tRetC, tRetL, tRetV, tRetA, tGetf, tPutf, isI, isL, isA, isZ, tXald, tXast, tZast, tJald, tJast, tRald, tLen, tCV0, tCV1, tCV2, tCV3, tCV4, tCV5, tCS1, tCS2, tCS3, tCS4, tCS5, tCS6, tCS7, tCpyI, tCpyJ, tMax, tMin, tAbs, tSw, tTab, tLook, tLk, Int32.reduceAdd, List.map_cons, List.map_nil, List.sum_cons, List.sum_nil, List.getElem?_cons_succ, List.getElem?_cons_zero, List.set_cons_succ, List.set_cons_zero, true_and, and_true, Option.some.injEq, Sum.inl.injEq, Sum.inr.injEq, Prod.mk.injEq, Value.int.injEq, Value.ref.injEq, Value.long.injEq, exists_eq', Option.toList_some, Option.toList_none, List.cons_append, List.nil_append, Bool.not_false, Bool.not_true, Bool.and_true, Bool.and_false, Bool.true_and, Bool.false_and, hS_s, hS_n, ne_eq, not_false_eq_true, Classical.not_not, Nat.reduceAdd, eq_self, forall_const, false_implies, true_implies, not_true_eq_false, implies_true, lkk_s, lkk_n, sto1_e, sto1_s, sto1_i, sto1_r, sto1_l, stf_e, stf_i, stf_r, stf_l, tScr, tScl, tFin, ec]
end Lwl

