/-! ===== meeting, parting, trading, asking, going ===== -/
def PM (h : Hp) (m : Nat) (s : Ms) (w' : Wd) (x : Option Value) : QT := fun r h' => r = x ∧ ∃ f', h' = hM h m (sA s 2 f') ∧ NWv w' f' ∧ Hd (mA s 2) f'
theorem sA_self {s : Ms} {k : Nat} : sA s k (mA s k) = s := by
  unfold sA mA
  refine Prod.ext rfl (Prod.ext rfl (Prod.ext (funext fun j => ?_) rfl))
  dsimp only
  split
  · rename_i e; rw [e]
  · rfl
theorem PM.no {h : Hp} {m : Nat} {s : Ms} {w : Wd} {x : Option Value} (hn : NWv w (mA s 2)) : PM h m s w x x (hM h m s) := ⟨rfl, mA s 2, by rw [sA_self], hn, Hd.rf⟩
theorem wSetI2 {w : Wd} {k : Nat} {f g : Nat → Int32} : wSetI (wSetI w k f) k g = wSetI w k g := by
  unfold wSetI
  refine Prod.ext rfl (Prod.ext rfl (Prod.ext rfl (Prod.ext (funext fun j => ?_) rfl)))
  dsimp only
  split <;> rfl
theorem upd_comm {f : Nat → Int32} {i j : Nat} {a b : Int32} (h : i ≠ j) : upd (upd f i a) j b = upd (upd f j b) i a := by
  funext q
  unfold upd
  by_cases h1 : q = i
  · subst h1; simp [h]
  · simp [h1]
theorem NWv.meet {w : Wd} {f : Nat → Int32} (hn : NWv w f) (hth : wTh w ≤ 6) (hpe : wPe w ≤ 8) {p q : Nat} (hp : p < wPe w) (hq : q < wPe w) : NWv (meetM w p q) (upd (upd f (183 + p) (nI q)) (183 + q) (nI p)) := by
  have h := (hn.r6 hth hpe hp (nI q)).r6 hth hpe hq (nI p)
  rw [wI_s, wSetI2] at h
  exact h
theorem NWv.part {w : Wd} {f : Nat → Int32} (hn : NWv w f) (hth : wTh w ≤ 6) (hpe : wPe w ≤ 8) {p q : Nat} (hp : p < wPe w) (hq : q < wPe w) : NWv (partM w p q) (upd (upd f (183 + p) (-1)) (183 + q) (-1)) := by
  have h := (hn.r6 hth hpe hp (-1)).r6 hth hpe hq (-1)
  rw [wI_s, wSetI2] at h
  exact h
theorem cm_doMeet {G : Gt} {h : Hp} {m : Nat} {s : Ms} {w : Wd} {p q : Nat} (hn : NWv w (mA s 2)) (hw : WOK w) (hp : p < wPe w) (hq : q < wPe w) : Mt G 1 0 0 mX13_doMeet [.ref m, .int (nI p), .int (nI q)] (hM h m s) (PM h m s (meetM w p q) none) := by
  refine Mt.of (by decide +kernel) (Nat.le_of_ble_eq_true rfl) ?_
  have hpe := hw.2.1
  refine bX13_doMeet_0 ?_
  simp +decide (disch := omega) only [lv_args, Value.category, lk, sto1, sto2, List.filter_cons, List.filter_nil, if_true, if_false, tPush, tIld, tLld, tAld, tIst, tAst, tLst, tInc, tB, tBn, tU, tLB, tLBn, tLS, tI2l, tL2i, tLcmp, tDup, tPop, tDup2, tDupx1, tIf, tIf2, tNul, tAcm, tRetI, tRetZ, tRetC, tRetL, tRetV, tRetA, tGetf, tPutf, isI, isL, isA, isZ, tXald, tXast, tZast, tJald, tJast, tRald, tLen, tCV0, tCV1, tCV2, tCV3, tCV4, tCV5, tCS1, tCS2, tCS3, tCS4, tCS5, tCS6, tCS7, tCpyI, tCpyJ, tMax, tMin, tAbs, tSw, tTab, tLook, tLk, Int32.reduceAdd, List.map_cons, List.map_nil, List.sum_cons, List.sum_nil, List.getElem?_cons_succ, List.getElem?_cons_zero, List.set_cons_succ, List.set_cons_zero, true_and, and_true, Option.some.injEq, Sum.inl.injEq, Sum.inr.injEq, Prod.mk.injEq, Value.int.injEq, Value.ref.injEq, Value.long.injEq, exists_eq', Option.toList_some, Option.toList_none, List.cons_append, List.nil_append, Bool.not_false, Bool.not_true, Bool.and_true, Bool.and_false, Bool.true_and, Bool.false_and, hS_s, hS_n, ne_eq, not_false_eq_true, Classical.not_not, Nat.reduceAdd, eq_self, forall_const, false_implies, true_implies, not_true_eq_false, implies_true, oM_0, oM_1, oM_2, oM_3, oM_4, oM_5, oM_6, oM_7, oM_8, oM_9, oM_10, oM_11, oM_12, oM_13, oM_14, oM_15, oM_16, oM_17, oM_18, oM_19, oM_20, oM_21, oM_22, oM_23, oM_24, oM_25, oM_26, oM_27, oM_28, oM_29, oM_30, oM_31, oM_32, oM_33, oM_34, oM_35, oM_36, oM_37, oM_38, oM_39, oM_40, oM_41, oM_42, oM_43, oM_44, oM_45, oM_46, oM_47, oM_48, oMs_0, oMs_2, oMs_3, oMs_4, oMs_5, oMs_6, oMs_7, oMs_8, oMs_9, oMs_10, oMs_11, oMs_12, oMs_13, oMs_26, oMs_27, oMs_30, oMs_31, oMs_32, oMs_34, oMs_35, oMs_36, oMs_38, oMs_39, oMs_42, oMs_43, oMs_45, oMs_46, oMs_47, oMs_48, hM_0, hMf, hMw, hM_1a, hM_1s, hM_2a, hM_2s, hM_3a, hM_3s, hM_4a, hM_4s, hM_5a, hM_5s, hM_6a, hM_6s, hM_7a, hM_7s, hM_8a, hM_8s, hM_9a, hM_9s, hM_10a, hM_10s, hM_11a, hM_11s, hM_12a, hM_12s, hM_13a, hM_13s, hM_14a, hM_14s, hM_15a, hM_15s, hM_16a, hM_16s, hM_17a, hM_17s, hM_18a, hM_18s, hM_19a, hM_19s, hM_20a, hM_20s, mF_s, mF_n, mF_A, mF_N, mF_W, mA_F, mA_W, mA_N, mA_s, mA_n, mN_F, mN_W, mN_A, mN_s, mN_n, mW_F, mW_A, mW_N, mW_s, sF2, sA2, vp_in_nI, nI_clamp, i183, nI_add]
  exact ⟨rfl, _, rfl, hn.meet hw.1 hpe hp hq, (Hd.put (by omega) (by omega)).trans (Hd.put (by omega) (by omega))⟩
theorem unR_no {w : Wd} {p : Nat} (h : wI w 6 p = -1) : unR w p = 1 := by
  unfold unR
  rw [h]
  exact if_neg (fun e => e.1 (by decide))
theorem unR_yes {w : Wd} {p q : Nat} (hpe : wPe w ≤ 8) (hq : q < wPe w) (h : wI w 6 p = nI q) : unR w p = 0 := by
  unfold unR
  rw [h]
  exact if_pos ⟨nI_pos (by omega), nI_ge hq (by omega)⟩
theorem cm_doPart {G : Gt} {h : Hp} {m : Nat} {s : Ms} {w : Wd} {p : Nat} (hn : NWv w (mA s 2)) (hw : WOK w) (hp : p < wPe w) : Mt G 1 0 0 mX13_doPart [.ref m, .int (nI p)] (hM h m s) (PM h m s (unW w p) none) := by
  refine Mt.of (by decide +kernel) (Nat.le_of_ble_eq_true rfl) ?_
  have hpe := hw.2.1
  have n6 := (hn.2.2.2.2.1 p hp).2.2.2.2
  rcases hw.2.2.2.2.2.2.2.1 p hp with e | ⟨q, hq, hqp, e, e2⟩
  · have hu : unW w p = w := by unfold unW; rw [if_neg (by rw [unR_no e]; decide)]
    rw [hu]
    refine bX13_doPart_0 ?_
    simp +decide (disch := omega) only [lv_args, Value.category, lk, sto1, sto2, List.filter_cons, List.filter_nil, if_true, if_false, tPush, tIld, tLld, tAld, tIst, tAst, tLst, tInc, tB, tBn, tU, tLB, tLBn, tLS, tI2l, tL2i, tLcmp, tDup, tPop, tDup2, tDupx1, tIf, tIf2, tNul, tAcm, tRetI, tRetZ, tRetC, tRetL, tRetV, tRetA, tGetf, tPutf, isI, isL, isA, isZ, tXald, tXast, tZast, tJald, tJast, tRald, tLen, tCV0, tCV1, tCV2, tCV3, tCV4, tCV5, tCS1, tCS2, tCS3, tCS4, tCS5, tCS6, tCS7, tCpyI, tCpyJ, tMax, tMin, tAbs, tSw, tTab, tLook, tLk, Int32.reduceAdd, List.map_cons, List.map_nil, List.sum_cons, List.sum_nil, List.getElem?_cons_succ, List.getElem?_cons_zero, List.set_cons_succ, List.set_cons_zero, true_and, and_true, Option.some.injEq, Sum.inl.injEq, Sum.inr.injEq, Prod.mk.injEq, Value.int.injEq, Value.ref.injEq, Value.long.injEq, exists_eq', Option.toList_some, Option.toList_none, List.cons_append, List.nil_append, Bool.not_false, Bool.not_true, Bool.and_true, Bool.and_false, Bool.true_and, Bool.false_and, hS_s, hS_n, ne_eq, not_false_eq_true, Classical.not_not, Nat.reduceAdd, eq_self, forall_const, false_implies, true_implies, not_true_eq_false, implies_true, oM_0, oM_1, oM_2, oM_3, oM_4, oM_5, oM_6, oM_7, oM_8, oM_9, oM_10, oM_11, oM_12, oM_13, oM_14, oM_15, oM_16, oM_17, oM_18, oM_19, oM_20, oM_21, oM_22, oM_23, oM_24, oM_25, oM_26, oM_27, oM_28, oM_29, oM_30, oM_31, oM_32, oM_33, oM_34, oM_35, oM_36, oM_37, oM_38, oM_39, oM_40, oM_41, oM_42, oM_43, oM_44, oM_45, oM_46, oM_47, oM_48, oMs_0, oMs_2, oMs_3, oMs_4, oMs_5, oMs_6, oMs_7, oMs_8, oMs_9, oMs_10, oMs_11, oMs_12, oMs_13, oMs_26, oMs_27, oMs_30, oMs_31, oMs_32, oMs_34, oMs_35, oMs_36, oMs_38, oMs_39, oMs_42, oMs_43, oMs_45, oMs_46, oMs_47, oMs_48, hM_0, hMf, hMw, hM_1a, hM_1s, hM_2a, hM_2s, hM_3a, hM_3s, hM_4a, hM_4s, hM_5a, hM_5s, hM_6a, hM_6s, hM_7a, hM_7s, hM_8a, hM_8s, hM_9a, hM_9s, hM_10a, hM_10s, hM_11a, hM_11s, hM_12a, hM_12s, hM_13a, hM_13s, hM_14a, hM_14s, hM_15a, hM_15s, hM_16a, hM_16s, hM_17a, hM_17s, hM_18a, hM_18s, hM_19a, hM_19s, hM_20a, hM_20s, mF_s, mF_n, mF_A, mF_N, mF_W, mA_F, mA_W, mA_N, mA_s, mA_n, mN_F, mN_W, mN_A, mN_s, mN_n, mW_F, mW_A, mW_N, mW_s, sF2, sA2, vp_in_nI, nI_clamp, i183, nI_add, n6, e]
    refine bX13_doPart_14 ?_
    simp +decide (disch := omega) only [lv_args, Value.category, lk, sto1, sto2, List.filter_cons, List.filter_nil, if_true, if_false, tPush, tIld, tLld, tAld, tIst, tAst, tLst, tInc, tB, tBn, tU, tLB, tLBn, tLS, tI2l, tL2i, tLcmp, tDup, tPop, tDup2, tDupx1, tIf, tIf2, tNul, tAcm, tRetI, tRetZ, tRetC, tRetL, tRetV, tRetA, tGetf, tPutf, isI, isL, isA, isZ, tXald, tXast, tZast, tJald, tJast, tRald, tLen, tCV0, tCV1, tCV2, tCV3, tCV4, tCV5, tCS1, tCS2, tCS3, tCS4, tCS5, tCS6, tCS7, tCpyI, tCpyJ, tMax, tMin, tAbs, tSw, tTab, tLook, tLk, Int32.reduceAdd, List.map_cons, List.map_nil, List.sum_cons, List.sum_nil, List.getElem?_cons_succ, List.getElem?_cons_zero, List.set_cons_succ, List.set_cons_zero, true_and, and_true, Option.some.injEq, Sum.inl.injEq, Sum.inr.injEq, Prod.mk.injEq, Value.int.injEq, Value.ref.injEq, Value.long.injEq, exists_eq', Option.toList_some, Option.toList_none, List.cons_append, List.nil_append, Bool.not_false, Bool.not_true, Bool.and_true, Bool.and_false, Bool.true_and, Bool.false_and, hS_s, hS_n, ne_eq, not_false_eq_true, Classical.not_not, Nat.reduceAdd, eq_self, forall_const, false_implies, true_implies, not_true_eq_false, implies_true, oM_0, oM_1, oM_2, oM_3, oM_4, oM_5, oM_6, oM_7, oM_8, oM_9, oM_10, oM_11, oM_12, oM_13, oM_14, oM_15, oM_16, oM_17, oM_18, oM_19, oM_20, oM_21, oM_22, oM_23, oM_24, oM_25, oM_26, oM_27, oM_28, oM_29, oM_30, oM_31, oM_32, oM_33, oM_34, oM_35, oM_36, oM_37, oM_38, oM_39, oM_40, oM_41, oM_42, oM_43, oM_44, oM_45, oM_46, oM_47, oM_48, oMs_0, oMs_2, oMs_3, oMs_4, oMs_5, oMs_6, oMs_7, oMs_8, oMs_9, oMs_10, oMs_11, oMs_12, oMs_13, oMs_26, oMs_27, oMs_30, oMs_31, oMs_32, oMs_34, oMs_35, oMs_36, oMs_38, oMs_39, oMs_42, oMs_43, oMs_45, oMs_46, oMs_47, oMs_48, hM_0, hMf, hMw, hM_1a, hM_1s, hM_2a, hM_2s, hM_3a, hM_3s, hM_4a, hM_4s, hM_5a, hM_5s, hM_6a, hM_6s, hM_7a, hM_7s, hM_8a, hM_8s, hM_9a, hM_9s, hM_10a, hM_10s, hM_11a, hM_11s, hM_12a, hM_12s, hM_13a, hM_13s, hM_14a, hM_14s, hM_15a, hM_15s, hM_16a, hM_16s, hM_17a, hM_17s, hM_18a, hM_18s, hM_19a, hM_19s, hM_20a, hM_20s, mF_s, mF_n, mF_A, mF_N, mF_W, mA_F, mA_W, mA_N, mA_s, mA_n, mN_F, mN_W, mN_A, mN_s, mN_n, mW_F, mW_A, mW_N, mW_s, sF2, sA2, vp_in_nI, nI_clamp, i183, nI_add]
    exact PM.no hn
  · have hu : unW w p = partM w p q := by unfold unW; rw [if_pos (unR_yes hpe hq e), e, nI_clamp (by omega)]
    have hne : ¬ nI q = -1 := fun e => nI_pos (n := q) (by omega) (by rw [e]; decide)
    rw [hu]
    refine bX13_doPart_0 ?_
    simp +decide (disch := omega) only [lv_args, Value.category, lk, sto1, sto2, List.filter_cons, List.filter_nil, if_true, if_false, tPush, tIld, tLld, tAld, tIst, tAst, tLst, tInc, tB, tBn, tU, tLB, tLBn, tLS, tI2l, tL2i, tLcmp, tDup, tPop, tDup2, tDupx1, tIf, tIf2, tNul, tAcm, tRetI, tRetZ, tRetC, tRetL, tRetV, tRetA, tGetf, tPutf, isI, isL, isA, isZ, tXald, tXast, tZast, tJald, tJast, tRald, tLen, tCV0, tCV1, tCV2, tCV3, tCV4, tCV5, tCS1, tCS2, tCS3, tCS4, tCS5, tCS6, tCS7, tCpyI, tCpyJ, tMax, tMin, tAbs, tSw, tTab, tLook, tLk, Int32.reduceAdd, List.map_cons, List.map_nil, List.sum_cons, List.sum_nil, List.getElem?_cons_succ, List.getElem?_cons_zero, List.set_cons_succ, List.set_cons_zero, true_and, and_true, Option.some.injEq, Sum.inl.injEq, Sum.inr.injEq, Prod.mk.injEq, Value.int.injEq, Value.ref.injEq, Value.long.injEq, exists_eq', Option.toList_some, Option.toList_none, List.cons_append, List.nil_append, Bool.not_false, Bool.not_true, Bool.and_true, Bool.and_false, Bool.true_and, Bool.false_and, hS_s, hS_n, ne_eq, not_false_eq_true, Classical.not_not, Nat.reduceAdd, eq_self, forall_const, false_implies, true_implies, not_true_eq_false, implies_true, oM_0, oM_1, oM_2, oM_3, oM_4, oM_5, oM_6, oM_7, oM_8, oM_9, oM_10, oM_11, oM_12, oM_13, oM_14, oM_15, oM_16, oM_17, oM_18, oM_19, oM_20, oM_21, oM_22, oM_23, oM_24, oM_25, oM_26, oM_27, oM_28, oM_29, oM_30, oM_31, oM_32, oM_33, oM_34, oM_35, oM_36, oM_37, oM_38, oM_39, oM_40, oM_41, oM_42, oM_43, oM_44, oM_45, oM_46, oM_47, oM_48, oMs_0, oMs_2, oMs_3, oMs_4, oMs_5, oMs_6, oMs_7, oMs_8, oMs_9, oMs_10, oMs_11, oMs_12, oMs_13, oMs_26, oMs_27, oMs_30, oMs_31, oMs_32, oMs_34, oMs_35, oMs_36, oMs_38, oMs_39, oMs_42, oMs_43, oMs_45, oMs_46, oMs_47, oMs_48, hM_0, hMf, hMw, hM_1a, hM_1s, hM_2a, hM_2s, hM_3a, hM_3s, hM_4a, hM_4s, hM_5a, hM_5s, hM_6a, hM_6s, hM_7a, hM_7s, hM_8a, hM_8s, hM_9a, hM_9s, hM_10a, hM_10s, hM_11a, hM_11s, hM_12a, hM_12s, hM_13a, hM_13s, hM_14a, hM_14s, hM_15a, hM_15s, hM_16a, hM_16s, hM_17a, hM_17s, hM_18a, hM_18s, hM_19a, hM_19s, hM_20a, hM_20s, mF_s, mF_n, mF_A, mF_N, mF_W, mA_F, mA_W, mA_N, mA_s, mA_n, mN_F, mN_W, mN_A, mN_s, mN_n, mW_F, mW_A, mW_N, mW_s, sF2, sA2, vp_in_nI, nI_clamp, i183, nI_add, n6, e, hne]
    refine bX13_doPart_15 ?_
    simp +decide (disch := omega) only [lv_args, Value.category, lk, sto1, sto2, List.filter_cons, List.filter_nil, if_true, if_false, tPush, tIld, tLld, tAld, tIst, tAst, tLst, tInc, tB, tBn, tU, tLB, tLBn, tLS, tI2l, tL2i, tLcmp, tDup, tPop, tDup2, tDupx1, tIf, tIf2, tNul, tAcm, tRetI, tRetZ, tRetC, tRetL, tRetV, tRetA, tGetf, tPutf, isI, isL, isA, isZ, tXald, tXast, tZast, tJald, tJast, tRald, tLen, tCV0, tCV1, tCV2, tCV3, tCV4, tCV5, tCS1, tCS2, tCS3, tCS4, tCS5, tCS6, tCS7, tCpyI, tCpyJ, tMax, tMin, tAbs, tSw, tTab, tLook, tLk, Int32.reduceAdd, List.map_cons, List.map_nil, List.sum_cons, List.sum_nil, List.getElem?_cons_succ, List.getElem?_cons_zero, List.set_cons_succ, List.set_cons_zero, true_and, and_true, Option.some.injEq, Sum.inl.injEq, Sum.inr.injEq, Prod.mk.injEq, Value.int.injEq, Value.ref.injEq, Value.long.injEq, exists_eq', Option.toList_some, Option.toList_none, List.cons_append, List.nil_append, Bool.not_false, Bool.not_true, Bool.and_true, Bool.and_false, Bool.true_and, Bool.false_and, hS_s, hS_n, ne_eq, not_false_eq_true, Classical.not_not, Nat.reduceAdd, eq_self, forall_const, false_implies, true_implies, not_true_eq_false, implies_true, oM_0, oM_1, oM_2, oM_3, oM_4, oM_5, oM_6, oM_7, oM_8, oM_9, oM_10, oM_11, oM_12, oM_13, oM_14, oM_15, oM_16, oM_17, oM_18, oM_19, oM_20, oM_21, oM_22, oM_23, oM_24, oM_25, oM_26, oM_27, oM_28, oM_29, oM_30, oM_31, oM_32, oM_33, oM_34, oM_35, oM_36, oM_37, oM_38, oM_39, oM_40, oM_41, oM_42, oM_43, oM_44, oM_45, oM_46, oM_47, oM_48, oMs_0, oMs_2, oMs_3, oMs_4, oMs_5, oMs_6, oMs_7, oMs_8, oMs_9, oMs_10, oMs_11, oMs_12, oMs_13, oMs_26, oMs_27, oMs_30, oMs_31, oMs_32, oMs_34, oMs_35, oMs_36, oMs_38, oMs_39, oMs_42, oMs_43, oMs_45, oMs_46, oMs_47, oMs_48, hM_0, hMf, hMw, hM_1a, hM_1s, hM_2a, hM_2s, hM_3a, hM_3s, hM_4a, hM_4s, hM_5a, hM_5s, hM_6a, hM_6s, hM_7a, hM_7s, hM_8a, hM_8s, hM_9a, hM_9s, hM_10a, hM_10s, hM_11a, hM_11s, hM_12a, hM_12s, hM_13a, hM_13s, hM_14a, hM_14s, hM_15a, hM_15s, hM_16a, hM_16s, hM_17a, hM_17s, hM_18a, hM_18s, hM_19a, hM_19s, hM_20a, hM_20s, mF_s, mF_n, mF_A, mF_N, mF_W, mA_F, mA_W, mA_N, mA_s, mA_n, mN_F, mN_W, mN_A, mN_s, mN_n, mW_F, mW_A, mW_N, mW_s, sF2, sA2, vp_in_nI, nI_clamp, i183, nI_add, n6, e, upd_comm]
    exact ⟨rfl, _, rfl, by first | exact hn.part hw.1 hpe hp hq | (rw [upd_comm (by omega)]; exact hn.part hw.1 hpe hp hq), (Hd.put (by omega) (by omega)).trans (Hd.put (by omega) (by omega))⟩
theorem NWv.held {w : Wd} {f : Nat → Int32} (hn : NWv w f) (hth : wTh w ≤ 6) (hpe : wPe w ≤ 8) {p t : Nat} (hp : p < 8) (ht : t < 6) {n x : Int32} (hx : cap n = x) : NWv (wHeld w p t n) (upd f (123 + 6 * p + t) x) := by
  subst hx
  have h := hn.r7 hth hpe (b := p * 6 + t) (by omega) (cap n)
  rw [show 123 + (p * 6 + t) = 123 + 6 * p + t by omega] at h
  exact h
theorem NWv.toll {w : Wd} {f : Nat → Int32} (hn : NWv w f) (hth : wTh w ≤ 6) (hpe : wPe w ≤ 8) {p t : Nat} (hp : p < 2) (ht : t < 6) (n : Int32) : NWv (wToll w p t n) (upd f (171 + 6 * p + t) n) := by
  have h := hn.r8 hth hpe (b := p * 6 + t) (by omega) n
  rw [show 171 + (p * 6 + t) = 171 + 6 * p + t by omega] at h
  exact h
theorem cap_le {k : Nat} (h : k ≤ 12) : cap (nI k) = nI k := by
  unfold cap
  by_cases e : k = 12
  · subst e; rfl
  · rw [if_neg]
    exact nI_ge (a := k) (b := 12) (by omega) (by decide)
theorem least_cap (x : Int32) : (if x ≤ 12 then x else 12) = cap x := by
  unfold cap
  by_cases h : x ≤ 12
  · rw [if_pos h]
    by_cases h2 : 12 ≤ x
    · rw [if_pos h2]; exact Int32.le_antisymm h h2
    · rw [if_neg h2]
  · rw [if_neg h, if_pos (Int32.le_of_lt (nl_le h))]
theorem half_nI {k : Nat} (h : k ≤ 12) : nI k / 2 = nI (k / 2) := by rw [i2, pk_div (by omega) (by decide) (by decide)]

