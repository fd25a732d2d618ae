/-! ===== the class's reader of bridges: all lines ===== -/
theorem stp_1 {x : Tx} {st : St} : st.1 ≤ (stp x st).1 := by
  unfold stp
  split
  · exact Nat.le_succ _
  · exact Nat.le_refl _
theorem stp_up {x : Tx} {st : St} (h0 : st.2.1 = 0) (h : st.1 < x.2.2.2) : (stp x st).1 = st.1 + 1 := by
  unfold stp
  rw [if_pos ⟨h0, h⟩]
theorem nNm_1 {x : Tx} {w : Wd} {st : St} : (nNm x w st).1 = st.1 := by
  unfold nNm
  split
  · split
    · rfl
    · exact flt_le
  · exact flt_le
theorem pHr_1 {x : Tx} {w : Wd} {st : St} : (pHr x w st).1 = st.1 := by
  unfold pHr
  split
  · split
    · exact flt_le
    · rfl
  · exact flt_le
theorem tHr_1 {x : Tx} {w : Wd} {st : St} : (tHr x w st).1 = st.1 := by
  unfold tHr
  split
  · split
    · exact flt_le
    · rfl
  · exact flt_le
theorem pMt_1 {x : Tx} {w : Wd} {st : St} : (pMt x w st).1 = st.1 := by
  unfold pMt
  split
  · exact flt_le.trans pHr_1
  · exact pHr_1
theorem or_1 {x : Tx} {st : St} {c : Bool} : st.1 ≤ (stp x (if c = true then st else flt x 1 st)).1 := by
  refine Nat.le_trans ?_ stp_1
  split
  · exact Nat.le_refl _
  · rw [flt_le]; exact Nat.le_refl _
theorem tEn_1 {x : Tx} {st : St} : st.1 ≤ (tEn x st).1 := by unfold tEn; exact or_1
theorem tPl_1 {x : Tx} {st : St} : st.1 ≤ (tPl x st).1 := by unfold tPl; exact or_1
theorem tNm_1 {x : Tx} {a b : Nat} {st : St} : st.1 ≤ (tNm x a b st).1 := by
  unfold tNm
  refine Nat.le_trans ?_ stp_1
  split
  · rw [flt_le]; exact Nat.le_refl _
  · split
    · rw [flt_le]; exact Nat.le_refl _
    · exact Nat.le_refl _
theorem tSg_1 {x : Tx} {c : Nat} {st : St} : st.1 ≤ (tSg x c st).1 := by
  unfold tSg
  split
  · exact stp_1
  · rw [flt_le]; exact Nat.le_refl _
theorem tSg_0 {x : Tx} {c : Nat} {st : St} (h : (tSg x c st).2.1 = 0) : st.2.1 = 0 ∧ isG x c st = true ∧ tSg x c st = stp x st := by
  unfold tSg at h ⊢
  split at h
  · rename_i q
    rw [stp_0] at h
    exact ⟨h, q, by rw [if_pos q]⟩
  · exact (flt_n0 (by decide) h).elim
theorem rLn_up {x : Tx} {w : Wd} {st : St} (hx : TxOK x) (hj : st.1 ≤ x.2.2.2) (h0 : st.2.1 = 0) (h : (rLn x w st).1.2.1 = 0) : st.1 + 1 ≤ (rLn x w st).1.1 := by
  have lt : ∀ k, isW x k st = true → st.1 < x.2.2.2 := fun k q => hx.2.2.2.2 _ hj (by rw [(isW_k q).2.1]; exact Nat.le_refl _)
  have up : ∀ k, isW x k st = true → (stp x st).1 = st.1 + 1 := fun k q => stp_up h0 (lt k q)
  unfold rLn at h ⊢
  by_cases q : isW x 1 st = true
  · rw [if_pos q] at h ⊢
    rw [rTh_1] at h ⊢
    obtain ⟨-, -, -, -, -, hl⟩ := th_ok h
    have e1 : (th1 x w st).1 = st.1 + 1 := by unfold th1; rw [if_pos hl]; exact up _ q
    have e2 : (th2 x w st).1 = st.1 + 1 := by unfold th2; rw [nNm_1, e1]
    have e3 : st.1 + 1 ≤ (th3 x w st).1 := by unfold th3; rw [← e2]; exact stp_1
    have e4 : st.1 + 1 ≤ (th4 x w st).1 := by unfold th4; exact Nat.le_trans e3 tEn_1
    unfold th5; exact Nat.le_trans e4 tNm_1
  · rw [if_neg q] at h ⊢
    by_cases q : isW x 2 st = true
    · rw [if_pos q] at h ⊢
      rw [rPe_1] at h ⊢
      obtain ⟨-, -, -, -, -, hl⟩ := pe_ok h
      have e1 : (pe1 x w st).1 = st.1 + 1 := by unfold pe1; rw [if_pos hl]; exact up _ q
      have e2 : (pe2 x w st).1 = st.1 + 1 := by unfold pe2; rw [nNm_1, e1]
      have e3 : st.1 + 1 ≤ (pe3 x w st).1 := by unfold pe3; rw [← e2]; exact stp_1
      have e4 : st.1 + 1 ≤ (pe4 x w st).1 := by unfold pe4; exact Nat.le_trans e3 tPl_1
      unfold pe5; exact Nat.le_trans e4 tEn_1
    · rw [if_neg q] at h ⊢
      by_cases q : isW x 3 st = true
      · rw [if_pos q] at h ⊢
        rw [rHa_1] at h ⊢
        have e2 : (ha2 x w st).1 = st.1 + 1 := by unfold ha2; rw [pHr_1]; exact up _ q
        have e3 : st.1 + 1 ≤ (ha3 x w st).1 := by unfold ha3; rw [← e2]; exact stp_1
        have e4 : st.1 + 1 ≤ (ha4 x w st).1 := by unfold ha4; rw [tHr_1]; exact e3
        have e5 : (ha5 x w st).1 = (ha4 x w st).1 := by unfold ha5; split <;> first | exact flt_le | rfl
        have e6 : st.1 + 1 ≤ (ha6 x w st).1 := by unfold ha6; exact Nat.le_trans (by rw [e5]; exact e4) stp_1
        unfold ha7; exact Nat.le_trans e6 tNm_1
      · rw [if_neg q] at h ⊢
        by_cases q : isW x 4 st = true
        · rw [if_pos q] at h ⊢
          rw [rAs_1] at h ⊢
          have e2 : st.1 + 1 ≤ (as2 x w st).1 := by unfold as2; rw [← up _ q]; exact tEn_1
          have e3 : st.1 + 1 ≤ (as3 x w st).1 := by unfold as3; rw [tHr_1]; exact e2
          have e5 : (as4 x w st).1 = (as3 x w st).1 := by unfold as4; split <;> first | exact flt_le | rfl
          have e6 : st.1 + 1 ≤ (as5 x w st).1 := by unfold as5; exact Nat.le_trans (by rw [e5]; exact e3) stp_1
          unfold as6; exact Nat.le_trans e6 tNm_1
        · rw [if_neg q] at h ⊢
          by_cases q : isW x 5 st = true
          · rw [if_pos q] at h ⊢
            rw [rMe_1] at h ⊢
            have e2 : (me2 x w st).1 = st.1 + 1 := by unfold me2; rw [pMt_1]; exact up _ q
            have e3 : st.1 + 1 ≤ (me3 x w st).1 := by unfold me3; rw [← e2]; exact stp_1
            have e4 : st.1 + 1 ≤ (me4 x w st).1 := by unfold me4; rw [pMt_1]; exact e3
            have e5 : (me5 x w st).1 = (me4 x w st).1 := by unfold me5; split <;> first | exact flt_le | rfl
            unfold me6; exact Nat.le_trans (by rw [e5]; exact e4) stp_1
          · rw [if_neg q] at h
            exact (flt_n0 (by decide) h).elim
theorem rLn_bd {x : Tx} {w : Wd} {st : St} (hth : wTh w ≤ 6) (hpe : wPe w ≤ 8) : wTh (rLn x w st).2 ≤ 6 ∧ wPe (rLn x w st).2 ≤ 8 := by
  unfold rLn
  split
  · by_cases h : (th5 x w st).2.1 = 0
    · rw [rTh_y h]; obtain ⟨-, -, -, -, -, hl⟩ := th_ok h; exact ⟨hl, hpe⟩
    · rw [rTh_n h]; exact ⟨hth, hpe⟩
  · split
    · by_cases h : (pe5 x w st).2.1 = 0
      · rw [rPe_y h]; obtain ⟨-, -, -, -, -, hl⟩ := pe_ok h; exact ⟨hth, hl⟩
      · rw [rPe_n h]; exact ⟨hth, hpe⟩
    · split
      · by_cases h : (ha7 x w st).2.1 = 0
        · rw [rHa_y h]; exact ⟨hth, hpe⟩
        · rw [rHa_n h]; exact ⟨hth, hpe⟩
      · split
        · by_cases h : (as6 x w st).2.1 = 0
          · rw [rAs_y h]; exact ⟨hth, hpe⟩
          · rw [rAs_n h]; exact ⟨hth, hpe⟩
        · split
          · by_cases h : (me6 x w st).2.1 = 0
            · rw [rMe_y h]
              unfold pairW
              split <;> exact ⟨hth, hpe⟩
            · rw [rMe_n h]; exact ⟨hth, hpe⟩
          · exact ⟨hth, hpe⟩
/-- all lines of a bridge: where the reader is then, what it built, how many lines -/
def rBr (x : Tx) : Nat → St → Wd → Nat → St × Wd × Nat
  | 0, st, w, l => (st, w, l)
  | f + 1, st, w, l => if st.2.1 = 0 ∧ ¬ (tkx x st.1).1 = 0 then rBr x f (tSg x 59 (rLn x w st).1) (rLn x w st).2 (l + 1) else (st, w, l)
theorem rBr_n {x : Tx} {f : Nat} {st : St} {w : Wd} {l : Nat} (h : ¬ (st.2.1 = 0 ∧ ¬ (tkx x st.1).1 = 0)) : rBr x f st w l = (st, w, l) := by
  cases f with
  | zero => rfl
  | succ f => rw [rBr, if_neg h]
theorem rBr_y {x : Tx} {f : Nat} {st : St} {w : Wd} {l : Nat} (h : st.2.1 = 0 ∧ ¬ (tkx x st.1).1 = 0) : rBr x (f + 1) st w l = rBr x f (tSg x 59 (rLn x w st).1) (rLn x w st).2 (l + 1) := by rw [rBr, if_pos h]
def QRL (G : Gt) (h : Hp) (b t : Nat) (x : Tx) (res : St × Wd × Nat) : QT := fun r h' => r = some (.int (nI res.2.2)) ∧ HasR G h' b t x res.1 res.2.1 ∧ Fm b (b + 17) h h'
theorem rl_loop {G : Gt} {h0 : Hp} {b t : Nat} {x : Tx} : ∀ (f : Nat) (st : St) (w : Wd) (l : Nat) (h : Hp), HasR G h b t x st w → wTh w ≤ 6 → wPe w ≤ 8 → (st.2.1 = 0 → x.2.2.2 + 1 ≤ f + st.1 ∧ 2 * l ≤ st.1) → l ≤ 471 → Fm b (b + 17) h0 h → T G 9 0 0 mX2_readLines 19 [(0, .ref (b + 5)), (1, .int (nI l))] [] h (QRL G h0 b t x (rBr x f st w l)) := by
  intro f
  induction f with
  | zero =>
    intro st w l h hR hth hpe hs hl hF
    have hj := hR.2.1.2.1
    have hun : ¬ st.2.1 = 0 := fun z => by have := (hs z).1; omega
    have r0 := hR.1
    have k0 := hR.c0
    have e0 : (940 ≤ nI l) = False := eq_false (nI_ge (b := 940) (by omega) (by decide))
    have e1 : b2i (st.2.1 = 0) = 0 := b2i_f hun
    rw [rBr_n (fun z => hun z.1)]
    refine bX2_readLines_19 ?_
    simp +decide (disch := omega) only [lv_args, Value.category, lk, sto1, sto2, List.filter_cons, List.filter_nil, if_true, if_false, tPush, tIld, tLld, tAld, tIst, tAst, tLst, tInc, tB, tBn, tU, tLB, tLBn, tLS, tI2l, tL2i, tLcmp, tDup, tPop, tDup2, tDupx1, tIf, tIf2, tNul, tAcm, tRetI, tRetZ, tRetC, tRetL, tRetV, tRetA, tGetf, tPutf, isI, isL, isA, isZ, tXald, tXast, tZast, tJald, tJast, tRald, tLen, tCV0, tCV1, tCV2, tCV3, tCV4, tCV5, tCS1, tCS2, tCS3, tCS4, tCS5, tCS6, tCS7, tCpyI, tCpyJ, tMax, tMin, tAbs, tSw, tTab, tLook, tLk, Int32.reduceAdd, List.map_cons, List.map_nil, List.sum_cons, List.sum_nil, List.getElem?_cons_succ, List.getElem?_cons_zero, List.set_cons_succ, List.set_cons_zero, true_and, and_true, Option.some.injEq, Sum.inl.injEq, Sum.inr.injEq, Prod.mk.injEq, Value.int.injEq, Value.ref.injEq, Value.long.injEq, exists_eq', Option.toList_some, Option.toList_none, List.cons_append, List.nil_append, Bool.not_false, Bool.not_true, Bool.and_true, Bool.and_false, Bool.true_and, Bool.false_and, hS_s, hS_n, ne_eq, not_false_eq_true, Classical.not_not, Nat.reduceAdd, eq_self, forall_const, false_implies, true_implies, not_true_eq_false, implies_true, r0, k0, e0, e1]
    refine bX2_readLines_26 ?_
    simp +decide (disch := omega) only [lv_args, Value.category, lk, sto1, sto2, List.filter_cons, List.filter_nil, if_true, if_false, tPush, tIld, tLld, tAld, tIst, tAst, tLst, tInc, tB, tBn, tU, tLB, tLBn, tLS, tI2l, tL2i, tLcmp, tDup, tPop, tDup2, tDupx1, tIf, tIf2, tNul, tAcm, tRetI, tRetZ, tRetC, tRetL, tRetV, tRetA, tGetf, tPutf, isI, isL, isA, isZ, tXald, tXast, tZast, tJald, tJast, tRald, tLen, tCV0, tCV1, tCV2, tCV3, tCV4, tCV5, tCS1, tCS2, tCS3, tCS4, tCS5, tCS6, tCS7, tCpyI, tCpyJ, tMax, tMin, tAbs, tSw, tTab, tLook, tLk, Int32.reduceAdd, List.map_cons, List.map_nil, List.sum_cons, List.sum_nil, List.getElem?_cons_succ, List.getElem?_cons_zero, List.set_cons_succ, List.set_cons_zero, true_and, and_true, Option.some.injEq, Sum.inl.injEq, Sum.inr.injEq, Prod.mk.injEq, Value.int.injEq, Value.ref.injEq, Value.long.injEq, exists_eq', Option.toList_some, Option.toList_none, List.cons_append, List.nil_append, Bool.not_false, Bool.not_true, Bool.and_true, Bool.and_false, Bool.true_and, Bool.false_and, hS_s, hS_n, ne_eq, not_false_eq_true, Classical.not_not, Nat.reduceAdd, eq_self, forall_const, false_implies, true_implies, not_true_eq_false, implies_true, r0, k0, e0, e1]
    refine calp (Nat.le_of_ble_eq_true rfl) (by first | decide | omega) (ct_isSound hR.2.1) ?_
    refine bX2_readLines_33 ?_
    simp +decide (disch := omega) only [lv_args, Value.category, lk, sto1, sto2, List.filter_cons, List.filter_nil, if_true, if_false, tPush, tIld, tLld, tAld, tIst, tAst, tLst, tInc, tB, tBn, tU, tLB, tLBn, tLS, tI2l, tL2i, tLcmp, tDup, tPop, tDup2, tDupx1, tIf, tIf2, tNul, tAcm, tRetI, tRetZ, tRetC, tRetL, tRetV, tRetA, tGetf, tPutf, isI, isL, isA, isZ, tXald, tXast, tZast, tJald, tJast, tRald, tLen, tCV0, tCV1, tCV2, tCV3, tCV4, tCV5, tCS1, tCS2, tCS3, tCS4, tCS5, tCS6, tCS7, tCpyI, tCpyJ, tMax, tMin, tAbs, tSw, tTab, tLook, tLk, Int32.reduceAdd, List.map_cons, List.map_nil, List.sum_cons, List.sum_nil, List.getElem?_cons_succ, List.getElem?_cons_zero, List.set_cons_succ, List.set_cons_zero, true_and, and_true, Option.some.injEq, Sum.inl.injEq, Sum.inr.injEq, Prod.mk.injEq, Value.int.injEq, Value.ref.injEq, Value.long.injEq, exists_eq', Option.toList_some, Option.toList_none, List.cons_append, List.nil_append, Bool.not_false, Bool.not_true, Bool.and_true, Bool.and_false, Bool.true_and, Bool.false_and, hS_s, hS_n, ne_eq, not_false_eq_true, Classical.not_not, Nat.reduceAdd, eq_self, forall_const, false_implies, true_implies, not_true_eq_false, implies_true, r0, k0, e0, e1]
    refine bX2_readLines_66 ?_
    simp +decide (disch := omega) only [lv_args, Value.category, lk, sto1, sto2, List.filter_cons, List.filter_nil, if_true, if_false, tPush, tIld, tLld, tAld, tIst, tAst, tLst, tInc, tB, tBn, tU, tLB, tLBn, tLS, tI2l, tL2i, tLcmp, tDup, tPop, tDup2, tDupx1, tIf, tIf2, tNul, tAcm, tRetI, tRetZ, tRetC, tRetL, tRetV, tRetA, tGetf, tPutf, isI, isL, isA, isZ, tXald, tXast, tZast, tJald, tJast, tRald, tLen, tCV0, tCV1, tCV2, tCV3, tCV4, tCV5, tCS1, tCS2, tCS3, tCS4, tCS5, tCS6, tCS7, tCpyI, tCpyJ, tMax, tMin, tAbs, tSw, tTab, tLook, tLk, Int32.reduceAdd, List.map_cons, List.map_nil, List.sum_cons, List.sum_nil, List.getElem?_cons_succ, List.getElem?_cons_zero, List.set_cons_succ, List.set_cons_zero, true_and, and_true, Option.some.injEq, Sum.inl.injEq, Sum.inr.injEq, Prod.mk.injEq, Value.int.injEq, Value.ref.injEq, Value.long.injEq, exists_eq', Option.toList_some, Option.toList_none, List.cons_append, List.nil_append, Bool.not_false, Bool.not_true, Bool.and_true, Bool.and_false, Bool.true_and, Bool.false_and, hS_s, hS_n, ne_eq, not_false_eq_true, Classical.not_not, Nat.reduceAdd, eq_self, forall_const, false_implies, true_implies, not_true_eq_false, implies_true, r0, k0, e0, e1]
    exact ⟨rfl, hR, hF⟩
  | succ f ih =>
    intro st w l h hR hth hpe hs hl hF
    have hj := hR.2.1.2.1
    have hx := hR.2.1.1
    have r0 := hR.1
    have k0 := hR.c0
    have hk4 := cK_le (tk_k hx st.1).1
    have e0 : (940 ≤ nI l) = False := eq_false (nI_ge (b := 940) (by omega) (by decide))
    have e2 : (nI (cK (tkx x st.1).1) = 1) = ((tkx x st.1).1 = 0) := (propext (nI_eq (b := 1) (by omega) (by decide))).trans cK_1
    have fin : ¬ (st.2.1 = 0 ∧ ¬ (tkx x st.1).1 = 0) → QRL G h0 b t x (rBr x (f + 1) st w l) (some (.int (nI l))) h := fun z => by rw [rBr_n z]; exact ⟨rfl, hR, hF⟩
    refine bX2_readLines_19 ?_
    simp +decide (disch := omega) only [lv_args, Value.category, lk, sto1, sto2, List.filter_cons, List.filter_nil, if_true, if_false, tPush, tIld, tLld, tAld, tIst, tAst, tLst, tInc, tB, tBn, tU, tLB, tLBn, tLS, tI2l, tL2i, tLcmp, tDup, tPop, tDup2, tDupx1, tIf, tIf2, tNul, tAcm, tRetI, tRetZ, tRetC, tRetL, tRetV, tRetA, tGetf, tPutf, isI, isL, isA, isZ, tXald, tXast, tZast, tJald, tJast, tRald, tLen, tCV0, tCV1, tCV2, tCV3, tCV4, tCV5, tCS1, tCS2, tCS3, tCS4, tCS5, tCS6, tCS7, tCpyI, tCpyJ, tMax, tMin, tAbs, tSw, tTab, tLook, tLk, Int32.reduceAdd, List.map_cons, List.map_nil, List.sum_cons, List.sum_nil, List.getElem?_cons_succ, List.getElem?_cons_zero, List.set_cons_succ, List.set_cons_zero, true_and, and_true, Option.some.injEq, Sum.inl.injEq, Sum.inr.injEq, Prod.mk.injEq, Value.int.injEq, Value.ref.injEq, Value.long.injEq, exists_eq', Option.toList_some, Option.toList_none, List.cons_append, List.nil_append, Bool.not_false, Bool.not_true, Bool.and_true, Bool.and_false, Bool.true_and, Bool.false_and, hS_s, hS_n, ne_eq, not_false_eq_true, Classical.not_not, Nat.reduceAdd, eq_self, forall_const, false_implies, true_implies, not_true_eq_false, implies_true, r0, k0, e0, e2, b2i_0]
    refine bX2_readLines_26 ?_
    simp +decide (disch := omega) only [lv_args, Value.category, lk, sto1, sto2, List.filter_cons, List.filter_nil, if_true, if_false, tPush, tIld, tLld, tAld, tIst, tAst, tLst, tInc, tB, tBn, tU, tLB, tLBn, tLS, tI2l, tL2i, tLcmp, tDup, tPop, tDup2, tDupx1, tIf, tIf2, tNul, tAcm, tRetI, tRetZ, tRetC, tRetL, tRetV, tRetA, tGetf, tPutf, isI, isL, isA, isZ, tXald, tXast, tZast, tJald, tJast, tRald, tLen, tCV0, tCV1, tCV2, tCV3, tCV4, tCV5, tCS1, tCS2, tCS3, tCS4, tCS5, tCS6, tCS7, tCpyI, tCpyJ, tMax, tMin, tAbs, tSw, tTab, tLook, tLk, Int32.reduceAdd, List.map_cons, List.map_nil, List.sum_cons, List.sum_nil, List.getElem?_cons_succ, List.getElem?_cons_zero, List.set_cons_succ, List.set_cons_zero, true_and, and_true, Option.some.injEq, Sum.inl.injEq, Sum.inr.injEq, Prod.mk.injEq, Value.int.injEq, Value.ref.injEq, Value.long.injEq, exists_eq', Option.toList_some, Option.toList_none, List.cons_append, List.nil_append, Bool.not_false, Bool.not_true, Bool.and_true, Bool.and_false, Bool.true_and, Bool.false_and, hS_s, hS_n, ne_eq, not_false_eq_true, Classical.not_not, Nat.reduceAdd, eq_self, forall_const, false_implies, true_implies, not_true_eq_false, implies_true, r0, k0, e0, e2, b2i_0]
    refine calp (Nat.le_of_ble_eq_true rfl) (by first | decide | omega) (ct_isSound hR.2.1) ?_
    refine bX2_readLines_33 ?_
    simp +decide (disch := omega) only [lv_args, Value.category, lk, sto1, sto2, List.filter_cons, List.filter_nil, if_true, if_false, tPush, tIld, tLld, tAld, tIst, tAst, tLst, tInc, tB, tBn, tU, tLB, tLBn, tLS, tI2l, tL2i, tLcmp, tDup, tPop, tDup2, tDupx1, tIf, tIf2, tNul, tAcm, tRetI, tRetZ, tRetC, tRetL, tRetV, tRetA, tGetf, tPutf, isI, isL, isA, isZ, tXald, tXast, tZast, tJald, tJast, tRald, tLen, tCV0, tCV1, tCV2, tCV3, tCV4, tCV5, tCS1, tCS2, tCS3, tCS4, tCS5, tCS6, tCS7, tCpyI, tCpyJ, tMax, tMin, tAbs, tSw, tTab, tLook, tLk, Int32.reduceAdd, List.map_cons, List.map_nil, List.sum_cons, List.sum_nil, List.getElem?_cons_succ, List.getElem?_cons_zero, List.set_cons_succ, List.set_cons_zero, true_and, and_true, Option.some.injEq, Sum.inl.injEq, Sum.inr.injEq, Prod.mk.injEq, Value.int.injEq, Value.ref.injEq, Value.long.injEq, exists_eq', Option.toList_some, Option.toList_none, List.cons_append, List.nil_append, Bool.not_false, Bool.not_true, Bool.and_true, Bool.and_false, Bool.true_and, Bool.false_and, hS_s, hS_n, ne_eq, not_false_eq_true, Classical.not_not, Nat.reduceAdd, eq_self, forall_const, false_implies, true_implies, not_true_eq_false, implies_true, r0, k0, e0, e2, b2i_0]
    refine ⟨fun c33 => ?_, fun c33 => ?_⟩
    · refine bX2_readLines_66 ?_
      simp +decide (disch := omega) only [lv_args, Value.category, lk, sto1, sto2, List.filter_cons, List.filter_nil, if_true, if_false, tPush, tIld, tLld, tAld, tIst, tAst, tLst, tInc, tB, tBn, tU, tLB, tLBn, tLS, tI2l, tL2i, tLcmp, tDup, tPop, tDup2, tDupx1, tIf, tIf2, tNul, tAcm, tRetI, tRetZ, tRetC, tRetL, tRetV, tRetA, tGetf, tPutf, isI, isL, isA, isZ, tXald, tXast, tZast, tJald, tJast, tRald, tLen, tCV0, tCV1, tCV2, tCV3, tCV4, tCV5, tCS1, tCS2, tCS3, tCS4, tCS5, tCS6, tCS7, tCpyI, tCpyJ, tMax, tMin, tAbs, tSw, tTab, tLook, tLk, Int32.reduceAdd, List.map_cons, List.map_nil, List.sum_cons, List.sum_nil, List.getElem?_cons_succ, List.getElem?_cons_zero, List.set_cons_succ, List.set_cons_zero, true_and, and_true, Option.some.injEq, Sum.inl.injEq, Sum.inr.injEq, Prod.mk.injEq, Value.int.injEq, Value.ref.injEq, Value.long.injEq, exists_eq', Option.toList_some, Option.toList_none, List.cons_append, List.nil_append, Bool.not_false, Bool.not_true, Bool.and_true, Bool.and_false, Bool.true_and, Bool.false_and, hS_s, hS_n, ne_eq, not_false_eq_true, Classical.not_not, Nat.reduceAdd, eq_self, forall_const, false_implies, true_implies, not_true_eq_false, implies_true, r0, k0, e0, e2, b2i_0]
      exact fin (by omega)
    · refine bX2_readLines_36 ?_
      simp +decide (disch := omega) only [lv_args, Value.category, lk, sto1, sto2, List.filter_cons, List.filter_nil, if_true, if_false, tPush, tIld, tLld, tAld, tIst, tAst, tLst, tInc, tB, tBn, tU, tLB, tLBn, tLS, tI2l, tL2i, tLcmp, tDup, tPop, tDup2, tDupx1, tIf, tIf2, tNul, tAcm, tRetI, tRetZ, tRetC, tRetL, tRetV, tRetA, tGetf, tPutf, isI, isL, isA, isZ, tXald, tXast, tZast, tJald, tJast, tRald, tLen, tCV0, tCV1, tCV2, tCV3, tCV4, tCV5, tCS1, tCS2, tCS3, tCS4, tCS5, tCS6, tCS7, tCpyI, tCpyJ, tMax, tMin, tAbs, tSw, tTab, tLook, tLk, Int32.reduceAdd, List.map_cons, List.map_nil, List.sum_cons, List.sum_nil, List.getElem?_cons_succ, List.getElem?_cons_zero, List.set_cons_succ, List.set_cons_zero, true_and, and_true, Option.some.injEq, Sum.inl.injEq, Sum.inr.injEq, Prod.mk.injEq, Value.int.injEq, Value.ref.injEq, Value.long.injEq, exists_eq', Option.toList_some, Option.toList_none, List.cons_append, List.nil_append, Bool.not_false, Bool.not_true, Bool.and_true, Bool.and_false, Bool.true_and, Bool.false_and, hS_s, hS_n, ne_eq, not_false_eq_true, Classical.not_not, Nat.reduceAdd, eq_self, forall_const, false_implies, true_implies, not_true_eq_false, implies_true, r0, k0, e0, e2, b2i_0]
      refine ⟨fun c36 => ?_, fun c36 => ?_⟩
      · refine bX2_readLines_66 ?_
        simp +decide (disch := omega) only [lv_args, Value.category, lk, sto1, sto2, List.filter_cons, List.filter_nil, if_true, if_false, tPush, tIld, tLld, tAld, tIst, tAst, tLst, tInc, tB, tBn, tU, tLB, tLBn, tLS, tI2l, tL2i, tLcmp, tDup, tPop, tDup2, tDupx1, tIf, tIf2, tNul, tAcm, tRetI, tRetZ, tRetC, tRetL, tRetV, tRetA, tGetf, tPutf, isI, isL, isA, isZ, tXald, tXast, tZast, tJald, tJast, tRald, tLen, tCV0, tCV1, tCV2, tCV3, tCV4, tCV5, tCS1, tCS2, tCS3, tCS4, tCS5, tCS6, tCS7, tCpyI, tCpyJ, tMax, tMin, tAbs, tSw, tTab, tLook, tLk, Int32.reduceAdd, List.map_cons, List.map_nil, List.sum_cons, List.sum_nil, List.getElem?_cons_succ, List.getElem?_cons_zero, List.set_cons_succ, List.set_cons_zero, true_and, and_true, Option.some.injEq, Sum.inl.injEq, Sum.inr.injEq, Prod.mk.injEq, Value.int.injEq, Value.ref.injEq, Value.long.injEq, exists_eq', Option.toList_some, Option.toList_none, List.cons_append, List.nil_append, Bool.not_false, Bool.not_true, Bool.and_true, Bool.and_false, Bool.true_and, Bool.false_and, hS_s, hS_n, ne_eq, not_false_eq_true, Classical.not_not, Nat.reduceAdd, eq_self, forall_const, false_implies, true_implies, not_true_eq_false, implies_true, r0, k0, e0, e2, b2i_0]
        exact fin (by omega)
      · refine bX2_readLines_47 ?_
        simp +decide (disch := omega) only [lv_args, Value.category, lk, sto1, sto2, List.filter_cons, List.filter_nil, if_true, if_false, tPush, tIld, tLld, tAld, tIst, tAst, tLst, tInc, tB, tBn, tU, tLB, tLBn, tLS, tI2l, tL2i, tLcmp, tDup, tPop, tDup2, tDupx1, tIf, tIf2, tNul, tAcm, tRetI, tRetZ, tRetC, tRetL, tRetV, tRetA, tGetf, tPutf, isI, isL, isA, isZ, tXald, tXast, tZast, tJald, tJast, tRald, tLen, tCV0, tCV1, tCV2, tCV3, tCV4, tCV5, tCS1, tCS2, tCS3, tCS4, tCS5, tCS6, tCS7, tCpyI, tCpyJ, tMax, tMin, tAbs, tSw, tTab, tLook, tLk, Int32.reduceAdd, List.map_cons, List.map_nil, List.sum_cons, List.sum_nil, List.getElem?_cons_succ, List.getElem?_cons_zero, List.set_cons_succ, List.set_cons_zero, true_and, and_true, Option.some.injEq, Sum.inl.injEq, Sum.inr.injEq, Prod.mk.injEq, Value.int.injEq, Value.ref.injEq, Value.long.injEq, exists_eq', Option.toList_some, Option.toList_none, List.cons_append, List.nil_append, Bool.not_false, Bool.not_true, Bool.and_true, Bool.and_false, Bool.true_and, Bool.false_and, hS_s, hS_n, ne_eq, not_false_eq_true, Classical.not_not, Nat.reduceAdd, eq_self, forall_const, false_implies, true_implies, not_true_eq_false, implies_true, r0, k0, e0, e2, b2i_0]
        refine calq (Nat.le_of_ble_eq_true rfl) (by first | decide | omega) (ct_rdLine hR hth hpe) ?_
        rintro v h1 ⟨rfl, hR1, hF1⟩
        have r1 := hR1.1
        have k1 := hR1.c0
        refine bX2_readLines_51 ?_
        simp +decide (disch := omega) only [lv_args, Value.category, lk, sto1, sto2, List.filter_cons, List.filter_nil, if_true, if_false, tPush, tIld, tLld, tAld, tIst, tAst, tLst, tInc, tB, tBn, tU, tLB, tLBn, tLS, tI2l, tL2i, tLcmp, tDup, tPop, tDup2, tDupx1, tIf, tIf2, tNul, tAcm, tRetI, tRetZ, tRetC, tRetL, tRetV, tRetA, tGetf, tPutf, isI, isL, isA, isZ, tXald, tXast, tZast, tJald, tJast, tRald, tLen, tCV0, tCV1, tCV2, tCV3, tCV4, tCV5, tCS1, tCS2, tCS3, tCS4, tCS5, tCS6, tCS7, tCpyI, tCpyJ, tMax, tMin, tAbs, tSw, tTab, tLook, tLk, Int32.reduceAdd, List.map_cons, List.map_nil, List.sum_cons, List.sum_nil, List.getElem?_cons_succ, List.getElem?_cons_zero, List.set_cons_succ, List.set_cons_zero, true_and, and_true, Option.some.injEq, Sum.inl.injEq, Sum.inr.injEq, Prod.mk.injEq, Value.int.injEq, Value.ref.injEq, Value.long.injEq, exists_eq', Option.toList_some, Option.toList_none, List.cons_append, List.nil_append, Bool.not_false, Bool.not_true, Bool.and_true, Bool.and_false, Bool.true_and, Bool.false_and, hS_s, hS_n, ne_eq, not_false_eq_true, Classical.not_not, Nat.reduceAdd, eq_self, forall_const, false_implies, true_implies, not_true_eq_false, implies_true, r1, k1]
        refine calq (Nat.le_of_ble_eq_true rfl) (by first | decide | omega) (cr_takeSign (c := 59) hR1 (by decide)) ?_
        rintro v h2 ⟨rfl, hR2, hF2⟩
        refine bX2_readLines_60 ?_
        simp +decide (disch := omega) only [lv_args, Value.category, lk, sto1, sto2, List.filter_cons, List.filter_nil, if_true, if_false, tPush, tIld, tLld, tAld, tIst, tAst, tLst, tInc, tB, tBn, tU, tLB, tLBn, tLS, tI2l, tL2i, tLcmp, tDup, tPop, tDup2, tDupx1, tIf, tIf2, tNul, tAcm, tRetI, tRetZ, tRetC, tRetL, tRetV, tRetA, tGetf, tPutf, isI, isL, isA, isZ, tXald, tXast, tZast, tJald, tJast, tRald, tLen, tCV0, tCV1, tCV2, tCV3, tCV4, tCV5, tCS1, tCS2, tCS3, tCS4, tCS5, tCS6, tCS7, tCpyI, tCpyJ, tMax, tMin, tAbs, tSw, tTab, tLook, tLk, Int32.reduceAdd, List.map_cons, List.map_nil, List.sum_cons, List.sum_nil, List.getElem?_cons_succ, List.getElem?_cons_zero, List.set_cons_succ, List.set_cons_zero, true_and, and_true, Option.some.injEq, Sum.inl.injEq, Sum.inr.injEq, Prod.mk.injEq, Value.int.injEq, Value.ref.injEq, Value.long.injEq, exists_eq', Option.toList_some, Option.toList_none, List.cons_append, List.nil_append, Bool.not_false, Bool.not_true, Bool.and_true, Bool.and_false, Bool.true_and, Bool.false_and, hS_s, hS_n, ne_eq, not_false_eq_true, Classical.not_not, Nat.reduceAdd, eq_self, forall_const, false_implies, true_implies, not_true_eq_false, implies_true, nI_1]
        rw [rBr_y ⟨c33, c36⟩]
        have bd := rLn_bd (x := x) (st := st) hth hpe
        have z2 := (hs c33).2
        have z1 := (hs c33).1
        have k9 := hx.2.2.2.1
        refine ih _ _ (l + 1) h2 hR2 bd.1 bd.2 (fun z => ?_) (by omega) (hF.trans (hF1.trans hF2))
        obtain ⟨y1, y2, y3⟩ := tSg_0 z
        have y4 := rLn_up hx hj c33 y1
        have y5 : (tSg x 59 (rLn x w st).1).1 = (rLn x w st).1.1 + 1 := by rw [y3]; exact stp_up y1 (hx.2.2.2.2 _ hR1.2.1.2.1 (by rw [(of_decide_eq_true y2).2.1]; decide))
        rw [y5]
        omega
/-- behind readLines: the text as it was read -/
def QRB (G : Gt) (h : Hp) (b t : Nat) (f : Nat → Int32) (n : Nat) (w : Wd) : QT := fun r h' => ∃ K, TxOK (f, n, 900, K) ∧ r = some (.int (nI (rBr (f, n, 900, K) (K + 1) (0, 0, 0) (clrW w) 0).2.2)) ∧ HasR G h' b t (f, n, 900, K) (rBr (f, n, 900, K) (K + 1) (0, 0, 0) (clrW w) 0).1 (rBr (f, n, 900, K) (K + 1) (0, 0, 0) (clrW w) 0).2.1 ∧ Fm b (b + 17) h h'
theorem ct_readLines {G : Gt} {h : Hp} {b t n : Nat} {f : Nat → Int32} {w : Wd} (r0 : h.2 (b + 5) = some (.inl (1, [.ref b, .ref (b + 6)]))) (hk : HasK0 h b t) (hW : HasW h (b + 6) w) (hT : HasTp h t n f) (hf : TpOK f) (hn : n ≤ 940) (hd : t + 1 < b ∨ b + 17 < t) : Mt G 9 0 0 mX2_readLines [.ref (b + 5)] h (QRB G h b t f n w) := by
  refine Mt.of (by decide +kernel) (Nat.le_of_ble_eq_true rfl) ?_
  have w0 := hW.1
  refine bX2_readLines_0 ?_
  simp +decide (disch := omega) only [lv_args, Value.category, lk, sto1, sto2, List.filter_cons, List.filter_nil, if_true, if_false, tPush, tIld, tLld, tAld, tIst, tAst, tLst, tInc, tB, tBn, tU, tLB, tLBn, tLS, tI2l, tL2i, tLcmp, tDup, tPop, tDup2, tDupx1, tIf, tIf2, tNul, tAcm, tRetI, tRetZ, tRetC, tRetL, tRetV, tRetA, tGetf, tPutf, isI, isL, isA, isZ, tXald, tXast, tZast, tJald, tJast, tRald, tLen, tCV0, tCV1, tCV2, tCV3, tCV4, tCV5, tCS1, tCS2, tCS3, tCS4, tCS5, tCS6, tCS7, tCpyI, tCpyJ, tMax, tMin, tAbs, tSw, tTab, tLook, tLk, Int32.reduceAdd, List.map_cons, List.map_nil, List.sum_cons, List.sum_nil, List.getElem?_cons_succ, List.getElem?_cons_zero, List.set_cons_succ, List.set_cons_zero, true_and, and_true, Option.some.injEq, Sum.inl.injEq, Sum.inr.injEq, Prod.mk.injEq, Value.int.injEq, Value.ref.injEq, Value.long.injEq, exists_eq', Option.toList_some, Option.toList_none, List.cons_append, List.nil_append, Bool.not_false, Bool.not_true, Bool.and_true, Bool.and_false, Bool.true_and, Bool.false_and, hS_s, hS_n, ne_eq, not_false_eq_true, Classical.not_not, Nat.reduceAdd, eq_self, forall_const, false_implies, true_implies, not_true_eq_false, implies_true, r0, w0]
  refine calq (Nat.le_of_ble_eq_true rfl) (by decide) (ct_clear hW) ?_
  rintro v h1 ⟨rfl, hW1, hF1⟩
  have r1 := (hF1.2 (b + 5) (by omega)).trans r0
  have hk1 := hk.frame hF1 (Or.inl (by omega))
  have hT1 := hT.frame hF1 (by omega)
  obtain ⟨k, kf, pf, vf, wf, a6, a7, a8, a9, a10, q0, q1, q2, q3, q4⟩ := id hk1
  refine bX2_readLines_7 ?_
  simp +decide (disch := omega) only [lv_args, Value.category, lk, sto1, sto2, List.filter_cons, List.filter_nil, if_true, if_false, tPush, tIld, tLld, tAld, tIst, tAst, tLst, tInc, tB, tBn, tU, tLB, tLBn, tLS, tI2l, tL2i, tLcmp, tDup, tPop, tDup2, tDupx1, tIf, tIf2, tNul, tAcm, tRetI, tRetZ, tRetC, tRetL, tRetV, tRetA, tGetf, tPutf, isI, isL, isA, isZ, tXald, tXast, tZast, tJald, tJast, tRald, tLen, tCV0, tCV1, tCV2, tCV3, tCV4, tCV5, tCS1, tCS2, tCS3, tCS4, tCS5, tCS6, tCS7, tCpyI, tCpyJ, tMax, tMin, tAbs, tSw, tTab, tLook, tLk, Int32.reduceAdd, List.map_cons, List.map_nil, List.sum_cons, List.sum_nil, List.getElem?_cons_succ, List.getElem?_cons_zero, List.set_cons_succ, List.set_cons_zero, true_and, and_true, Option.some.injEq, Sum.inl.injEq, Sum.inr.injEq, Prod.mk.injEq, Value.int.injEq, Value.ref.injEq, Value.long.injEq, exists_eq', Option.toList_some, Option.toList_none, List.cons_append, List.nil_append, Bool.not_false, Bool.not_true, Bool.and_true, Bool.and_false, Bool.true_and, Bool.false_and, hS_s, hS_n, ne_eq, not_false_eq_true, Classical.not_not, Nat.reduceAdd, eq_self, forall_const, false_implies, true_implies, not_true_eq_false, implies_true, r1, q0]
  refine calq (Nat.le_of_ble_eq_true rfl) (by decide) (ct_begin (lim := 900) hk1 hT1 hf hn (by decide) (by omega)) ?_
  rintro v h2 ⟨rfl, hF2, K, hK2⟩
  have hR2 : HasR G h2 b t (f, n, 900, K) (0, 0, 0) (clrW w) := ⟨(hF2.2 (b + 5) (by omega)).trans r1, hK2, hW1.frame (a := 0) hF2 (Or.inr (by omega))⟩
  have hF : Fm b (b + 17) h h2 := (hF1.wide (by omega) (by omega)).trans (hF2.wide (by omega) (by omega))
  have g := rl_loop (G := G) (h0 := h) (K + 1) (0, 0, 0) (clrW w) 0 h2 hR2 (Nat.zero_le _) (Nat.zero_le _) (fun _ => ⟨by show K + 1 ≤ K + 1 + 0; omega, by decide⟩) (by decide) hF
  refine bX2_readLines_17 ?_
  simp +decide (disch := omega) only [lv_args, Value.category, lk, sto1, sto2, List.filter_cons, List.filter_nil, if_true, if_false, tPush, tIld, tLld, tAld, tIst, tAst, tLst, tInc, tB, tBn, tU, tLB, tLBn, tLS, tI2l, tL2i, tLcmp, tDup, tPop, tDup2, tDupx1, tIf, tIf2, tNul, tAcm, tRetI, tRetZ, tRetC, tRetL, tRetV, tRetA, tGetf, tPutf, isI, isL, isA, isZ, tXald, tXast, tZast, tJald, tJast, tRald, tLen, tCV0, tCV1, tCV2, tCV3, tCV4, tCV5, tCS1, tCS2, tCS3, tCS4, tCS5, tCS6, tCS7, tCpyI, tCpyJ, tMax, tMin, tAbs, tSw, tTab, tLook, tLk, Int32.reduceAdd, List.map_cons, List.map_nil, List.sum_cons, List.sum_nil, List.getElem?_cons_succ, List.getElem?_cons_zero, List.set_cons_succ, List.set_cons_zero, true_and, and_true, Option.some.injEq, Sum.inl.injEq, Sum.inr.injEq, Prod.mk.injEq, Value.int.injEq, Value.ref.injEq, Value.long.injEq, exists_eq', Option.toList_some, Option.toList_none, List.cons_append, List.nil_append, Bool.not_false, Bool.not_true, Bool.and_true, Bool.and_false, Bool.true_and, Bool.false_and, hS_s, hS_n, ne_eq, not_false_eq_true, Classical.not_not, Nat.reduceAdd, eq_self, forall_const, false_implies, true_implies, not_true_eq_false, implies_true]
  exact T.post (fun v h' hq => ⟨K, hK2.1, hq⟩) g

