/-! ===== passes: the model ===== -/
/-- a row begins with these bytes -/
def TxP (f : Nat → Int32) (L : List Nat) : Prop := ∀ i, i < L.length → f i = nI (L.getD i 0)
theorem TxP.nil {f : Nat → Int32} : TxP f [] := fun i hi => absurd hi (Nat.not_lt_zero i)
theorem TxP.add {f : Nat → Int32} {L : List Nat} (h : TxP f L) (b : Nat) : TxP (upd f L.length (nI b)) (L ++ [b]) := by
  intro i hi
  rw [List.length_append] at hi
  have hi : i < L.length + 1 := hi
  by_cases e : i = L.length
  · subst e
    rw [upd_s]
    congr 1
    simp
  · rw [upd_n e, h i (by omega)]
    congr 1
    rw [List.getD_eq_getElem?_getD, List.getD_eq_getElem?_getD, List.getElem?_append_left (by omega)]
def ltrs : List Nat → List Nat
  | [] => []
  | x :: l => ltrs l ++ [96 + x]
theorem ltrs_len : ∀ R, (ltrs R).length = R.length
  | [] => rfl
  | x :: l => by rw [ltrs, List.length_append, ltrs_len l]; rfl
def dgs (n : Nat) : List Nat := if 9 < n then [48 + n / 10, 48 + n % 10] else [48 + n % 10]
def PWr (h : Hp) (m : Nat) (s : Ms) (L : List Nat) : QT := fun r h' => r = none ∧ ∃ f', h' = hM h m (sF (sA s 17 f') 38 (nI L.length)) ∧ TxP f' L
theorem wr_s {s : Ms} {f g : Nat → Int32} {u v : Int32} : sF (sA (sF (sA s 17 f) 38 u) 17 g) 38 v = sF (sA s 17 g) 38 v := by rw [sFA, sA2, sF2]
theorem PWr.tr {h : Hp} {m : Nat} {s : Ms} {f : Nat → Int32} {u : Int32} {L : List Nat} {r : Option Value} {h' : Hp} (hq : PWr h m (sF (sA s 17 f) 38 u) L r h') : PWr h m s L r h' := by
  obtain ⟨rfl, g, rfl, ht⟩ := hq
  exact ⟨rfl, g, by rw [wr_s], ht⟩
theorem cm_write {G : Gt} {h : Hp} {m b : Nat} {s : Ms} {L : List Nat} (h38 : mF s 38 = nI L.length) (hT : TxP (mA s 17) L) (hl : L.length < 64) : Mt G 1 0 0 mX13_write [.ref m, .int (nI b)] (hM h m s) (PWr h m s (L ++ [b])) := by
  refine Mt.of (by decide +kernel) (Nat.le_of_ble_eq_true rfl) ?_
  refine bX13_write_0 ?_
  simp +decide (disch := omega) only [lv_args, Value.category, lk, sto1, sto2, List.filter_cons, List.filter_nil, if_true, if_false, tPush, tIld, tLld, tAld, tIst, tAst, tLst, tInc, tB, tBn, tU, tLB, tLBn, tLS, tI2l, tL2i, tLcmp, tDup, tPop, tDup2, tDupx1, tIf, tIf2, tNul, tAcm, tRetI, tRetZ, tRetC, tRetL, tRetV, tRetA, tGetf, tPutf, isI, isL, isA, isZ, tXald, tXast, tZast, tJald, tJast, tRald, tLen, tCV0, tCV1, tCV2, tCV3, tCV4, tCV5, tCS1, tCS2, tCS3, tCS4, tCS5, tCS6, tCS7, tCpyI, tCpyJ, tMax, tMin, tAbs, tSw, tTab, tLook, tLk, Int32.reduceAdd, List.map_cons, List.map_nil, List.sum_cons, List.sum_nil, List.getElem?_cons_succ, List.getElem?_cons_zero, List.set_cons_succ, List.set_cons_zero, true_and, and_true, Option.some.injEq, Sum.inl.injEq, Sum.inr.injEq, Prod.mk.injEq, Value.int.injEq, Value.ref.injEq, Value.long.injEq, exists_eq', Option.toList_some, Option.toList_none, List.cons_append, List.nil_append, Bool.not_false, Bool.not_true, Bool.and_true, Bool.and_false, Bool.true_and, Bool.false_and, hS_s, hS_n, ne_eq, not_false_eq_true, Classical.not_not, Nat.reduceAdd, eq_self, forall_const, false_implies, true_implies, not_true_eq_false, implies_true, oM_0, oM_1, oM_2, oM_3, oM_4, oM_5, oM_6, oM_7, oM_8, oM_9, oM_10, oM_11, oM_12, oM_13, oM_14, oM_15, oM_16, oM_17, oM_18, oM_19, oM_20, oM_21, oM_22, oM_23, oM_24, oM_25, oM_26, oM_27, oM_28, oM_29, oM_30, oM_31, oM_32, oM_33, oM_34, oM_35, oM_36, oM_37, oM_38, oM_39, oM_40, oM_41, oM_42, oM_43, oM_44, oM_45, oM_46, oM_47, oM_48, oMs_0, oMs_2, oMs_3, oMs_4, oMs_5, oMs_6, oMs_7, oMs_8, oMs_9, oMs_10, oMs_11, oMs_12, oMs_13, oMs_26, oMs_27, oMs_30, oMs_31, oMs_32, oMs_34, oMs_35, oMs_36, oMs_38, oMs_39, oMs_42, oMs_43, oMs_45, oMs_46, oMs_47, oMs_48, hM_0, hMf, hMw, hM_1a, hM_1s, hM_2a, hM_2s, hM_3a, hM_3s, hM_4a, hM_4s, hM_5a, hM_5s, hM_6a, hM_6s, hM_7a, hM_7s, hM_8a, hM_8s, hM_9a, hM_9s, hM_10a, hM_10s, hM_11a, hM_11s, hM_12a, hM_12s, hM_13a, hM_13s, hM_14a, hM_14s, hM_15a, hM_15s, hM_16a, hM_16s, hM_17a, hM_17s, hM_18a, hM_18s, hM_19a, hM_19s, hM_20a, hM_20s, mF_s, mF_n, mF_A, mF_N, mF_W, mA_F, mA_W, mA_N, mA_s, mA_n, mN_F, mN_W, mN_A, mN_s, mN_n, mW_F, mW_A, mW_N, mW_s, sF2, sA2, h38, vp_in_nI, nI_clamp, nI_1]
  exact ⟨rfl, _, by rw [List.length_append]; rfl, hT.add b⟩
theorem lgc_lt (x y : Int64) : (lg_cmp x y < 0) = (x < y) := by
  unfold lg_cmp
  by_cases h : x > y
  · rw [if_pos h]
    refine propext ⟨fun e => absurd e (by decide), fun e => absurd (Int64.lt_trans h e) (Int64.lt_irrefl)⟩
  · rw [if_neg h]
    by_cases h2 : x = y
    · rw [if_pos h2]
      refine propext ⟨fun e => absurd e (by decide), fun e => by rw [h2] at e; exact absurd e Int64.lt_irrefl⟩
    · rw [if_neg h2]
      refine propext ⟨fun _ => ?_, fun _ => by decide⟩
      rcases Int64.lt_or_le x y with q | q
      · exact q
      · exact absurd (Int64.lt_of_le_of_ne q (Ne.symm h2)) h
theorem cm_writeWord {G : Gt} {h : Hp} {m : Nat} : ∀ (R : List Nat) (s : Ms) (L : List Nat), nmOK R → 1 ≤ R.length → R.length ≤ 7 → mF s 38 = nI L.length → TxP (mA s 17) L → L.length + R.length ≤ 64 → Mt G (1 + R.length) 0 0 mX13_writeWord [.ref m, .long (nm27 R)] (hM h m s) (PWr h m s (L ++ ltrs R))
  | [], _, _, _, h1, _, _, _, _ => absurd h1 (by decide)
  | x :: l, s, L, hok, _, h7, h38, hT, hl => by
    have hx := hok x List.mem_cons_self
    have hlt := enc27_lt hok.tl (by simp at h7; omega)
    have hlt2 := enc27_lt hok h7
    have hlen : (x :: l).length = l.length + 1 := rfl
    have e0 : enc 27 (x :: l) = 27 * enc 27 l + x := rfl
    have eq : nm27 (x :: l) / 27 = nm27 l := by
      unfold nm27
      rw [show (27 : Int64) = lN 27 from rfl, pk_lDiv (by omega) (by decide) (by decide), e0]
      congr 1
      omega
    have er : (nm27 (x :: l) - nm27 (x :: l) / 27 * 27).toInt32 = nI x := by
      unfold nm27
      rw [show (27 : Int64) = lN 27 from rfl, pk_lRem (by omega) (by decide) (by decide), e0, lN_i]
      congr 1
      omega
    rw [eq] at er
    have ec : (nm27 (x :: l) < 27) = (l = []) := by
      unfold nm27
      rw [show (27 : Int64) = lN 27 from rfl]
      refine propext ((pk_lLT (by omega) (by decide)).trans ⟨fun z => ?_, fun z => ?_⟩)
      · cases l with
        | nil => rfl
        | cons y t =>
          have hy := hok y (List.mem_cons_of_mem _ List.mem_cons_self)
          rw [e0, show enc 27 (y :: t) = 27 * enc 27 t + y from rfl] at z
          omega
      · subst z
        rw [e0]
        show 27 * 0 + x < 27
        omega
    have ex : (96 : Int32) + nI x = nI (96 + x) := nI_add 96 x
    have tail : ∀ (s2 : Ms) (L2 : List Nat), mF s2 38 = nI L2.length → TxP (mA s2 17) L2 → L2.length < 64 → T G (1 + (x :: l).length) 0 0 mX13_writeWord 17 [(0, .ref m), (1, .long (nm27 (x :: l)))] [] (hM h m s2) (PWr h m s2 (L2 ++ [96 + x])) := by
      intro s2 L2 a b c
      refine bX13_writeWord_17 ?_
      simp +decide (disch := omega) only [lv_args, Value.category, lk, sto1, sto2, List.filter_cons, List.filter_nil, if_true, if_false, tPush, tIld, tLld, tAld, tIst, tAst, tLst, tInc, tB, tBn, tU, tLB, tLBn, tLS, tI2l, tL2i, tLcmp, tDup, tPop, tDup2, tDupx1, tIf, tIf2, tNul, tAcm, tRetI, tRetZ, tRetC, tRetL, tRetV, tRetA, tGetf, tPutf, isI, isL, isA, isZ, tXald, tXast, tZast, tJald, tJast, tRald, tLen, tCV0, tCV1, tCV2, tCV3, tCV4, tCV5, tCS1, tCS2, tCS3, tCS4, tCS5, tCS6, tCS7, tCpyI, tCpyJ, tMax, tMin, tAbs, tSw, tTab, tLook, tLk, Int32.reduceAdd, List.map_cons, List.map_nil, List.sum_cons, List.sum_nil, List.getElem?_cons_succ, List.getElem?_cons_zero, List.set_cons_succ, List.set_cons_zero, true_and, and_true, Option.some.injEq, Sum.inl.injEq, Sum.inr.injEq, Prod.mk.injEq, Value.int.injEq, Value.ref.injEq, Value.long.injEq, exists_eq', Option.toList_some, Option.toList_none, List.cons_append, List.nil_append, Bool.not_false, Bool.not_true, Bool.and_true, Bool.and_false, Bool.true_and, Bool.false_and, hS_s, hS_n, ne_eq, not_false_eq_true, Classical.not_not, Nat.reduceAdd, eq_self, forall_const, false_implies, true_implies, not_true_eq_false, implies_true, oM_0, oM_1, oM_2, oM_3, oM_4, oM_5, oM_6, oM_7, oM_8, oM_9, oM_10, oM_11, oM_12, oM_13, oM_14, oM_15, oM_16, oM_17, oM_18, oM_19, oM_20, oM_21, oM_22, oM_23, oM_24, oM_25, oM_26, oM_27, oM_28, oM_29, oM_30, oM_31, oM_32, oM_33, oM_34, oM_35, oM_36, oM_37, oM_38, oM_39, oM_40, oM_41, oM_42, oM_43, oM_44, oM_45, oM_46, oM_47, oM_48, oMs_0, oMs_2, oMs_3, oMs_4, oMs_5, oMs_6, oMs_7, oMs_8, oMs_9, oMs_10, oMs_11, oMs_12, oMs_13, oMs_26, oMs_27, oMs_30, oMs_31, oMs_32, oMs_34, oMs_35, oMs_36, oMs_38, oMs_39, oMs_42, oMs_43, oMs_45, oMs_46, oMs_47, oMs_48, hM_0, hMf, hMw, hM_1a, hM_1s, hM_2a, hM_2s, hM_3a, hM_3s, hM_4a, hM_4s, hM_5a, hM_5s, hM_6a, hM_6s, hM_7a, hM_7s, hM_8a, hM_8s, hM_9a, hM_9s, hM_10a, hM_10s, hM_11a, hM_11s, hM_12a, hM_12s, hM_13a, hM_13s, hM_14a, hM_14s, hM_15a, hM_15s, hM_16a, hM_16s, hM_17a, hM_17s, hM_18a, hM_18s, hM_19a, hM_19s, hM_20a, hM_20s, mF_s, mF_n, mF_A, mF_N, mF_W, mA_F, mA_W, mA_N, mA_s, mA_n, mN_F, mN_W, mN_A, mN_s, mN_n, mW_F, mW_A, mW_N, mW_s, sF2, sA2, eq, er, ex]
      refine ⟨by decide, ?_⟩
      refine calq (Nat.le_of_ble_eq_true rfl) (by omega) (cm_write a b c) ?_
      rintro v h1 ⟨rfl, hq⟩
      refine bX13_writeWord_30 ?_
      simp +decide (disch := omega) only [lv_args, Value.category, lk, sto1, sto2, List.filter_cons, List.filter_nil, if_true, if_false, tPush, tIld, tLld, tAld, tIst, tAst, tLst, tInc, tB, tBn, tU, tLB, tLBn, tLS, tI2l, tL2i, tLcmp, tDup, tPop, tDup2, tDupx1, tIf, tIf2, tNul, tAcm, tRetI, tRetZ, tRetC, tRetL, tRetV, tRetA, tGetf, tPutf, isI, isL, isA, isZ, tXald, tXast, tZast, tJald, tJast, tRald, tLen, tCV0, tCV1, tCV2, tCV3, tCV4, tCV5, tCS1, tCS2, tCS3, tCS4, tCS5, tCS6, tCS7, tCpyI, tCpyJ, tMax, tMin, tAbs, tSw, tTab, tLook, tLk, Int32.reduceAdd, List.map_cons, List.map_nil, List.sum_cons, List.sum_nil, List.getElem?_cons_succ, List.getElem?_cons_zero, List.set_cons_succ, List.set_cons_zero, true_and, and_true, Option.some.injEq, Sum.inl.injEq, Sum.inr.injEq, Prod.mk.injEq, Value.int.injEq, Value.ref.injEq, Value.long.injEq, exists_eq', Option.toList_some, Option.toList_none, List.cons_append, List.nil_append, Bool.not_false, Bool.not_true, Bool.and_true, Bool.and_false, Bool.true_and, Bool.false_and, hS_s, hS_n, ne_eq, not_false_eq_true, Classical.not_not, Nat.reduceAdd, eq_self, forall_const, false_implies, true_implies, not_true_eq_false, implies_true, oM_0, oM_1, oM_2, oM_3, oM_4, oM_5, oM_6, oM_7, oM_8, oM_9, oM_10, oM_11, oM_12, oM_13, oM_14, oM_15, oM_16, oM_17, oM_18, oM_19, oM_20, oM_21, oM_22, oM_23, oM_24, oM_25, oM_26, oM_27, oM_28, oM_29, oM_30, oM_31, oM_32, oM_33, oM_34, oM_35, oM_36, oM_37, oM_38, oM_39, oM_40, oM_41, oM_42, oM_43, oM_44, oM_45, oM_46, oM_47, oM_48, oMs_0, oMs_2, oMs_3, oMs_4, oMs_5, oMs_6, oMs_7, oMs_8, oMs_9, oMs_10, oMs_11, oMs_12, oMs_13, oMs_26, oMs_27, oMs_30, oMs_31, oMs_32, oMs_34, oMs_35, oMs_36, oMs_38, oMs_39, oMs_42, oMs_43, oMs_45, oMs_46, oMs_47, oMs_48, hM_0, hMf, hMw, hM_1a, hM_1s, hM_2a, hM_2s, hM_3a, hM_3s, hM_4a, hM_4s, hM_5a, hM_5s, hM_6a, hM_6s, hM_7a, hM_7s, hM_8a, hM_8s, hM_9a, hM_9s, hM_10a, hM_10s, hM_11a, hM_11s, hM_12a, hM_12s, hM_13a, hM_13s, hM_14a, hM_14s, hM_15a, hM_15s, hM_16a, hM_16s, hM_17a, hM_17s, hM_18a, hM_18s, hM_19a, hM_19s, hM_20a, hM_20s, mF_s, mF_n, mF_A, mF_N, mF_W, mA_F, mA_W, mA_N, mA_s, mA_n, mN_F, mN_W, mN_A, mN_s, mN_n, mW_F, mW_A, mW_N, mW_s, sF2, sA2, eq, er, ex]
      exact ⟨rfl, hq⟩
    refine Mt.of (by decide +kernel) (Nat.le_of_ble_eq_true rfl) ?_
    rw [show ltrs (x :: l) = ltrs l ++ [96 + x] from rfl, ← List.append_assoc]
    refine bX13_writeWord_0 ?_
    simp +decide (disch := omega) only [lv_args, Value.category, lk, sto1, sto2, List.filter_cons, List.filter_nil, if_true, if_false, tPush, tIld, tLld, tAld, tIst, tAst, tLst, tInc, tB, tBn, tU, tLB, tLBn, tLS, tI2l, tL2i, tLcmp, tDup, tPop, tDup2, tDupx1, tIf, tIf2, tNul, tAcm, tRetI, tRetZ, tRetC, tRetL, tRetV, tRetA, tGetf, tPutf, isI, isL, isA, isZ, tXald, tXast, tZast, tJald, tJast, tRald, tLen, tCV0, tCV1, tCV2, tCV3, tCV4, tCV5, tCS1, tCS2, tCS3, tCS4, tCS5, tCS6, tCS7, tCpyI, tCpyJ, tMax, tMin, tAbs, tSw, tTab, tLook, tLk, Int32.reduceAdd, List.map_cons, List.map_nil, List.sum_cons, List.sum_nil, List.getElem?_cons_succ, List.getElem?_cons_zero, List.set_cons_succ, List.set_cons_zero, true_and, and_true, Option.some.injEq, Sum.inl.injEq, Sum.inr.injEq, Prod.mk.injEq, Value.int.injEq, Value.ref.injEq, Value.long.injEq, exists_eq', Option.toList_some, Option.toList_none, List.cons_append, List.nil_append, Bool.not_false, Bool.not_true, Bool.and_true, Bool.and_false, Bool.true_and, Bool.false_and, hS_s, hS_n, ne_eq, not_false_eq_true, Classical.not_not, Nat.reduceAdd, eq_self, forall_const, false_implies, true_implies, not_true_eq_false, implies_true, oM_0, oM_1, oM_2, oM_3, oM_4, oM_5, oM_6, oM_7, oM_8, oM_9, oM_10, oM_11, oM_12, oM_13, oM_14, oM_15, oM_16, oM_17, oM_18, oM_19, oM_20, oM_21, oM_22, oM_23, oM_24, oM_25, oM_26, oM_27, oM_28, oM_29, oM_30, oM_31, oM_32, oM_33, oM_34, oM_35, oM_36, oM_37, oM_38, oM_39, oM_40, oM_41, oM_42, oM_43, oM_44, oM_45, oM_46, oM_47, oM_48, oMs_0, oMs_2, oMs_3, oMs_4, oMs_5, oMs_6, oMs_7, oMs_8, oMs_9, oMs_10, oMs_11, oMs_12, oMs_13, oMs_26, oMs_27, oMs_30, oMs_31, oMs_32, oMs_34, oMs_35, oMs_36, oMs_38, oMs_39, oMs_42, oMs_43, oMs_45, oMs_46, oMs_47, oMs_48, hM_0, hMf, hMw, hM_1a, hM_1s, hM_2a, hM_2s, hM_3a, hM_3s, hM_4a, hM_4s, hM_5a, hM_5s, hM_6a, hM_6s, hM_7a, hM_7s, hM_8a, hM_8s, hM_9a, hM_9s, hM_10a, hM_10s, hM_11a, hM_11s, hM_12a, hM_12s, hM_13a, hM_13s, hM_14a, hM_14s, hM_15a, hM_15s, hM_16a, hM_16s, hM_17a, hM_17s, hM_18a, hM_18s, hM_19a, hM_19s, hM_20a, hM_20s, mF_s, mF_n, mF_A, mF_N, mF_W, mA_F, mA_W, mA_N, mA_s, mA_n, mN_F, mN_W, mN_A, mN_s, mN_n, mW_F, mW_A, mW_N, mW_s, sF2, sA2, lgc_lt, ec, eq]
    refine ⟨fun c0 => ?_, fun c0 => ?_⟩
    · rw [c0]
      show T G _ 0 0 mX13_writeWord 17 _ _ _ (PWr h m s (L ++ [] ++ [96 + x]))
      rw [List.append_nil]
      have k := tail s L h38 hT (by omega)
      rw [c0] at k
      exact k
    · refine bX13_writeWord_8 ?_
      simp +decide (disch := omega) only [lv_args, Value.category, lk, sto1, sto2, List.filter_cons, List.filter_nil, if_true, if_false, tPush, tIld, tLld, tAld, tIst, tAst, tLst, tInc, tB, tBn, tU, tLB, tLBn, tLS, tI2l, tL2i, tLcmp, tDup, tPop, tDup2, tDupx1, tIf, tIf2, tNul, tAcm, tRetI, tRetZ, tRetC, tRetL, tRetV, tRetA, tGetf, tPutf, isI, isL, isA, isZ, tXald, tXast, tZast, tJald, tJast, tRald, tLen, tCV0, tCV1, tCV2, tCV3, tCV4, tCV5, tCS1, tCS2, tCS3, tCS4, tCS5, tCS6, tCS7, tCpyI, tCpyJ, tMax, tMin, tAbs, tSw, tTab, tLook, tLk, Int32.reduceAdd, List.map_cons, List.map_nil, List.sum_cons, List.sum_nil, List.getElem?_cons_succ, List.getElem?_cons_zero, List.set_cons_succ, List.set_cons_zero, true_and, and_true, Option.some.injEq, Sum.inl.injEq, Sum.inr.injEq, Prod.mk.injEq, Value.int.injEq, Value.ref.injEq, Value.long.injEq, exists_eq', Option.toList_some, Option.toList_none, List.cons_append, List.nil_append, Bool.not_false, Bool.not_true, Bool.and_true, Bool.and_false, Bool.true_and, Bool.false_and, hS_s, hS_n, ne_eq, not_false_eq_true, Classical.not_not, Nat.reduceAdd, eq_self, forall_const, false_implies, true_implies, not_true_eq_false, implies_true, oM_0, oM_1, oM_2, oM_3, oM_4, oM_5, oM_6, oM_7, oM_8, oM_9, oM_10, oM_11, oM_12, oM_13, oM_14, oM_15, oM_16, oM_17, oM_18, oM_19, oM_20, oM_21, oM_22, oM_23, oM_24, oM_25, oM_26, oM_27, oM_28, oM_29, oM_30, oM_31, oM_32, oM_33, oM_34, oM_35, oM_36, oM_37, oM_38, oM_39, oM_40, oM_41, oM_42, oM_43, oM_44, oM_45, oM_46, oM_47, oM_48, oMs_0, oMs_2, oMs_3, oMs_4, oMs_5, oMs_6, oMs_7, oMs_8, oMs_9, oMs_10, oMs_11, oMs_12, oMs_13, oMs_26, oMs_27, oMs_30, oMs_31, oMs_32, oMs_34, oMs_35, oMs_36, oMs_38, oMs_39, oMs_42, oMs_43, oMs_45, oMs_46, oMs_47, oMs_48, hM_0, hMf, hMw, hM_1a, hM_1s, hM_2a, hM_2s, hM_3a, hM_3s, hM_4a, hM_4s, hM_5a, hM_5s, hM_6a, hM_6s, hM_7a, hM_7s, hM_8a, hM_8s, hM_9a, hM_9s, hM_10a, hM_10s, hM_11a, hM_11s, hM_12a, hM_12s, hM_13a, hM_13s, hM_14a, hM_14s, hM_15a, hM_15s, hM_16a, hM_16s, hM_17a, hM_17s, hM_18a, hM_18s, hM_19a, hM_19s, hM_20a, hM_20s, mF_s, mF_n, mF_A, mF_N, mF_W, mA_F, mA_W, mA_N, mA_s, mA_n, mN_F, mN_W, mN_A, mN_s, mN_n, mW_F, mW_A, mW_N, mW_s, sF2, sA2, lgc_lt, ec, eq]
      refine ⟨by decide, ?_⟩
      have hl0 : 1 ≤ l.length := by
        cases l with
        | nil => exact absurd rfl c0
        | cons y t => exact Nat.succ_le_succ (Nat.zero_le _)
      refine calq (Nat.le_of_ble_eq_true rfl) (by omega) (cm_writeWord l s L hok.tl hl0 (by omega) h38 hT (by omega)) ?_
      rintro v h1 ⟨rfl, f', rfl, hT2⟩
      have k := tail (sF (sA s 17 f') 38 (nI (L ++ ltrs l).length)) (L ++ ltrs l) mF_s hT2 (by rw [List.length_append, ltrs_len]; omega)
      exact T.post (fun v h' hq => hq.tr) k

