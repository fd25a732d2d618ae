/-! ===== the model's book: judged ===== -/
theorem dd_v {x : Tx} {w : Wd} {st : St} {a : Nat} (hth : wTh w ≤ 6) (hpe : wPe w ≤ 8) (ha : a < wPe w) (h : (ddS x w st).2.1 = 0) : LnV w ((ddV x w st).1, a, (ddV x w st).2) := by
  unfold ddS at h
  unfold ddV LnV
  by_cases c9 : isW x 9 st = true
  · rw [if_pos c9]; exact Or.inl ⟨rfl, ha, vPl_lt⟩
  rw [if_neg c9] at h ⊢
  by_cases c10 : isW x 10 st = true
  · rw [if_pos c10] at h ⊢
    rw [stp_0] at h
    exact Or.inr (Or.inl ⟨rfl, ha, (vPr_ok hpe (pHr_0 h).2.2.1).1⟩)
  rw [if_neg c10] at h ⊢
  by_cases c11 : isW x 11 st = true
  · rw [if_pos c11]; exact Or.inr (Or.inr (Or.inl ⟨rfl, ha⟩))
  rw [if_neg c11] at h ⊢
  by_cases c12 : isW x 12 st = true
  · rw [if_pos c12] at h
    unfold tr4 at h
    rw [stp_0] at h
    have h3 := (tHr_0 h).1
    unfold tr3 at h3
    rw [stp_0] at h3
    have h2 := (pHr_0 h3).1
    unfold tr2 at h2
    rw [stp_0] at h2
    exact Or.inr (Or.inr (Or.inr (Or.inl ⟨rfl, ha, (vTr_ok hth (tHr_0 h2).2.2.1).1, (vPr_ok hpe (pHr_0 h3).2.2.1).1, (vTr_ok hth (tHr_0 h).2.2.1).1⟩)))
  · rw [if_neg c12] at h; exact (flt_n0 (by decide) h).elim
theorem bk_v {x : Tx} {w : Wd} {st : St} (hth : wTh w ≤ 6) (hpe : wPe w ≤ 8) (h : (bkS x w st).2.1 = 0) : LnV w (bkV x w st) := by
  unfold bkS at h
  unfold bkV
  by_cases c13 : isW x 13 st = true
  · rw [if_pos c13] at h ⊢
    have h3 := tNm_0 h
    have h2 := h3.1
    rw [stp_0] at h2
    exact Or.inr (Or.inr (Or.inr (Or.inr (Or.inl ⟨rfl, vEn_lt, (vTr_ok hth (tHr_0 h2).2.2.1).1, by have := h3.2.2; show (tkx x (stp x (tHr x w (tEn x (stp x st)))).1).2.2.2 ≤ 12; omega⟩))))
  rw [if_neg c13] at h ⊢
  by_cases c14 : isW x 14 st = true
  · rw [if_pos c14] at h ⊢
    have h3 := tNm_0 h
    exact Or.inr (Or.inr (Or.inr (Or.inr (Or.inr ⟨rfl, by have := h3.2.2; show 1 ≤ (tkx x (stp x st).1).2.2.2; omega, by have := h3.2.2; show (tkx x (stp x st).1).2.2.2 ≤ 60; omega⟩))))
  rw [if_neg c14] at h ⊢
  have h1 := (dd_w h).1
  rw [stp_0] at h1
  exact dd_v hth hpe (vPr_ok hpe (pHr_0 h1).2.2.1).1 h
theorem rBk_v {x : Tx} {w : Wd} (hth : wTh w ≤ 6) (hpe : wPe w ≤ 8) : ∀ f st (L : List Ln), (∀ ln ∈ L, LnV w ln) → (rBk x w f st L).1.2.1 = 0 → ∀ ln ∈ (rBk x w f st L).2, LnV w ln
  | 0, st, L, h, _ => h
  | f + 1, st, L, h, h0 => by
    rw [rBk] at h0 ⊢
    split at h0
    · rename_i c
      rw [if_pos c]
      split at h0
      · rename_i c2
        rw [if_pos c2]
        by_cases hs : (tSg x 59 (bkS x w st)).2.1 = 0
        · refine rBk_v hth hpe f _ _ (fun ln hl => ?_) h0
          rcases List.mem_append.mp hl with q | q
          · exact h ln q
          · rw [List.mem_singleton.mp q]; exact bk_v hth hpe (tSg_0 hs).1
        · rw [rBk_n (fun z => hs z.1)] at h0
          exact absurd h0 hs
      · rename_i c2
        rw [if_neg c2]
        exact h
    · rename_i c
      rw [if_neg c]
      exact h
theorem Hd.symm {f g : Nat → Int32} (h : Hd f g) : Hd g f := fun j hj => (h j hj).symm
def Gbo (s s' : Ms) : Prop := mF s' 0 = 0 ∧ mF s' 2 = 0 ∧ (∀ k, (k = 1 ∨ (11 < k ∧ k ≠ 13 ∧ k ≠ 26 ∧ k ≠ 42 ∧ k ≠ 43)) → mF s' k = mF s k) ∧ (∀ k, k ≠ 2 → k ≠ 5 → k ≠ 6 → k ≠ 18 → k ≠ 19 → mA s' k = mA s k) ∧ ∀ k, mN s' k = mN s k
/-- behind a book that is read and judged -/
noncomputable def QJ (h : Hp) (m : Nat) (s : Ms) (n V : Nat) (R : Int32 × Nat × Wd) : QT := fun r h' => r = some (.int (if R.1 = 0 then -1 else nI R.2.1)) ∧ ∃ s', h' = hM h m s' ∧ Gbo s s' ∧ mF s' 10 = 0 ∧ mF s' 43 = 1 ∧ mA s' 19 0 = R.1 ∧ mA s' 19 1 = nI R.2.1 ∧ mA s' 19 2 = wDay R.2.2 ∧ mA s' 19 3 = bitsOf (payC R.2.2) (wPe R.2.2) ∧ ((V = 1 ∧ 0 < R.2.1 ∧ NWv R.2.2 (mA s' 2) ∧ Hd (mA s 2) (mA s' 2) ∧ mA s' 5 = snG n (mA s 2) (mA s 5) ∧ mF s' 26 = nI (snN n + 1)) ∨ (¬ (V = 1 ∧ 0 < R.2.1) ∧ mA s' 2 = mA s 2 ∧ mA s' 5 = mA s 5 ∧ mF s' 26 = mF s 26))
theorem bo_103 {G : Gt} {h : Hp} {m n V k : Nat} {s s3 : Ms} {R1 : Int32} {u : Wd} {g6 : Nat → Int32} (hV : V < 2) (hk40 : k ≤ 40) (h26 : mF s 26 = nI n) (hn8 : n ≤ 8) (hn : NWv u (mA s3 2)) (hu : WOK u) (hd : Hd (mA s 2) (mA s3 2)) (e6 : mA s3 6 = asd (mA s 2) g6) (e5 : mA s3 5 = mA s 5) (f10 : mF s3 10 = 0) (f0 : mF s3 0 = 0) (f2 : mF s3 2 = 0) (gf : ∀ k, (k = 1 ∨ (11 < k ∧ k ≠ 13 ∧ k ≠ 42)) → mF s3 k = mF s k) (ga : ∀ k, k ≠ 2 → k ≠ 6 → k ≠ 18 → mA s3 k = mA s k) (gn : ∀ k, mN s3 k = mN s k) :
    T G 8 0 0 mX13_book 103 [(0, .ref m), (1, .int (nI V)), (2, .int (nI k)), (3, .int R1)] [] (hM h m s3) (QJ h m s n V (R1, k, u)) := by
  have n98 : mA s3 2 98 = wDay u := hn.2.2.1
  obtain ⟨s4, es4⟩ : ∃ s4, s4 = sF (sA s3 19 (upd (upd (upd (upd (mA s3 19) 0 R1) 1 (nI k)) 2 (wDay u)) 3 (bitsOf (payC u) (wPe u)))) 43 1 := ⟨_, rfl⟩
  have a2 : mA s4 2 = mA s3 2 := by rw [es4]; rfl
  have a6 : mA s4 6 = asd (mA s 2) g6 := by rw [es4]; exact e6
  have a5 : mA s4 5 = mA s 5 := by rw [es4]; exact e5
  have r0 : mA s4 19 0 = R1 := by rw [es4, mA_F, mA_s, upd_n (by decide), upd_n (by decide), upd_n (by decide), upd_s]
  have r1 : mA s4 19 1 = nI k := by rw [es4, mA_F, mA_s, upd_n (by decide), upd_n (by decide), upd_s]
  have r2 : mA s4 19 2 = wDay u := by rw [es4, mA_F, mA_s, upd_n (by decide), upd_s]
  have r3 : mA s4 19 3 = bitsOf (payC u) (wPe u) := by rw [es4, mA_F, mA_s, upd_s]
  have b10 : mF s4 10 = 0 := by rw [es4]; exact f10
  have b0 : mF s4 0 = 0 := by rw [es4]; exact f0
  have b2 : mF s4 2 = 0 := by rw [es4]; exact f2
  have b43 : mF s4 43 = 1 := by rw [es4]; rfl
  have b26 : mF s4 26 = nI n := by rw [es4]; exact (gf 26 (by omega)).trans h26
  have bf : ∀ k, (k = 1 ∨ (11 < k ∧ k ≠ 13 ∧ k ≠ 42 ∧ k ≠ 43)) → mF s4 k = mF s k := fun k hk => by rw [es4, mF_n (by omega)]; exact gf k (by omega)
  have ba : ∀ k, k ≠ 2 → k ≠ 6 → k ≠ 18 → k ≠ 19 → mA s4 k = mA s k := fun k h1 h2 h3 h4 => by rw [es4, mA_F, mA_n h4]; exact ga k h1 h2 h3
  have bn : ∀ k, mN s4 k = mN s k := fun k => by rw [es4]; exact gn k
  have t1 : tkb (mA s4 6) (mA s4 2) = mA s 2 := by rw [a6, a2]; exact tkb_asd hd
  have t2 : tkb (asd (mA s4 2) (mA s4 6)) (tkb (mA s4 6) (mA s4 2)) = mA s3 2 := by rw [t1, a2]; exact tkb_asd hd.symm
  have ret : ∀ (h5 : Hp), (∃ s', h5 = hM h m s' ∧ Gbo s s' ∧ mF s' 10 = 0 ∧ mF s' 43 = 1 ∧ mA s' 19 0 = R1 ∧ mA s' 19 1 = nI k ∧ mA s' 19 2 = wDay u ∧ mA s' 19 3 = bitsOf (payC u) (wPe u) ∧ ((V = 1 ∧ 0 < k ∧ NWv u (mA s' 2) ∧ Hd (mA s 2) (mA s' 2) ∧ mA s' 5 = snG n (mA s 2) (mA s 5) ∧ mF s' 26 = nI (snN n + 1)) ∨ (¬ (V = 1 ∧ 0 < k) ∧ mA s' 2 = mA s 2 ∧ mA s' 5 = mA s 5 ∧ mF s' 26 = mF s 26))) → T G 8 0 0 mX13_book 163 [(0, .ref m), (1, .int (nI V)), (2, .int (nI k)), (3, .int R1)] [] h5 (QJ h m s n V (R1, k, u)) := by
    intro h5 hq
    refine bX13_book_163 ?_
    simp +decide (disch := omega) only [lv_args, Value.category, sto2, List.filter_cons, List.filter_nil, if_true, if_false, tPush, tIld, tLld, tAld, tIst, tAst, tLst, tInc, tB, tBn, tU, tLB, tLBn, tLS, tI2l, tL2i, tLcmp, tDup, tPop, tDup2, tDupx1, tIf, tIf2, tNul, tAcm, tRetI, tRetZ, tRetC, tRetL, tRetV, tRetA, tGetf, tPutf, isI, isL, isA, isZ, tXald, tXast, tZast, tJald, tJast, tRald, tLen, tCV0, tCV1, tCV2, tCV3, tCV4, tCV5, tCS1, tCS2, tCS3, tCS4, tCS5, tCS6, tCS7, tCpyI, tCpyJ, tMax, tMin, tAbs, tSw, tTab, tLook, tLk, Int32.reduceAdd, List.map_cons, List.map_nil, List.sum_cons, List.sum_nil, List.getElem?_cons_succ, List.getElem?_cons_zero, List.set_cons_succ, List.set_cons_zero, true_and, and_true, Option.some.injEq, Sum.inl.injEq, Sum.inr.injEq, Prod.mk.injEq, Value.int.injEq, Value.ref.injEq, Value.long.injEq, exists_eq', Option.toList_some, Option.toList_none, List.cons_append, List.nil_append, Bool.not_false, Bool.not_true, Bool.and_true, Bool.and_false, Bool.true_and, Bool.false_and, hS_s, hS_n, ne_eq, not_false_eq_true, Classical.not_not, Nat.reduceAdd, eq_self, forall_const, false_implies, true_implies, not_true_eq_false, implies_true, lkk_s, lkk_n, sto1_e, sto1_s, sto1_i, sto1_r, sto1_l, stf_e, stf_i, stf_r, stf_l]
    refine ⟨fun c163 => ?_, fun c163 => ?_⟩
    · refine bX13_book_167 ?_
      simp +decide (disch := omega) only [lv_args, Value.category, sto2, List.filter_cons, List.filter_nil, if_true, if_false, tPush, tIld, tLld, tAld, tIst, tAst, tLst, tInc, tB, tBn, tU, tLB, tLBn, tLS, tI2l, tL2i, tLcmp, tDup, tPop, tDup2, tDupx1, tIf, tIf2, tNul, tAcm, tRetI, tRetZ, tRetC, tRetL, tRetV, tRetA, tGetf, tPutf, isI, isL, isA, isZ, tXald, tXast, tZast, tJald, tJast, tRald, tLen, tCV0, tCV1, tCV2, tCV3, tCV4, tCV5, tCS1, tCS2, tCS3, tCS4, tCS5, tCS6, tCS7, tCpyI, tCpyJ, tMax, tMin, tAbs, tSw, tTab, tLook, tLk, Int32.reduceAdd, List.map_cons, List.map_nil, List.sum_cons, List.sum_nil, List.getElem?_cons_succ, List.getElem?_cons_zero, List.set_cons_succ, List.set_cons_zero, true_and, and_true, Option.some.injEq, Sum.inl.injEq, Sum.inr.injEq, Prod.mk.injEq, Value.int.injEq, Value.ref.injEq, Value.long.injEq, exists_eq', Option.toList_some, Option.toList_none, List.cons_append, List.nil_append, Bool.not_false, Bool.not_true, Bool.and_true, Bool.and_false, Bool.true_and, Bool.false_and, hS_s, hS_n, ne_eq, not_false_eq_true, Classical.not_not, Nat.reduceAdd, eq_self, forall_const, false_implies, true_implies, not_true_eq_false, implies_true, lkk_s, lkk_n, sto1_e, sto1_s, sto1_i, sto1_r, sto1_l, stf_e, stf_i, stf_r, stf_l]
      refine bX13_book_172 ?_
      simp +decide (disch := omega) only [lv_args, Value.category, sto2, List.filter_cons, List.filter_nil, if_true, if_false, tPush, tIld, tLld, tAld, tIst, tAst, tLst, tInc, tB, tBn, tU, tLB, tLBn, tLS, tI2l, tL2i, tLcmp, tDup, tPop, tDup2, tDupx1, tIf, tIf2, tNul, tAcm, tRetI, tRetZ, tRetC, tRetL, tRetV, tRetA, tGetf, tPutf, isI, isL, isA, isZ, tXald, tXast, tZast, tJald, tJast, tRald, tLen, tCV0, tCV1, tCV2, tCV3, tCV4, tCV5, tCS1, tCS2, tCS3, tCS4, tCS5, tCS6, tCS7, tCpyI, tCpyJ, tMax, tMin, tAbs, tSw, tTab, tLook, tLk, Int32.reduceAdd, List.map_cons, List.map_nil, List.sum_cons, List.sum_nil, List.getElem?_cons_succ, List.getElem?_cons_zero, List.set_cons_succ, List.set_cons_zero, true_and, and_true, Option.some.injEq, Sum.inl.injEq, Sum.inr.injEq, Prod.mk.injEq, Value.int.injEq, Value.ref.injEq, Value.long.injEq, exists_eq', Option.toList_some, Option.toList_none, List.cons_append, List.nil_append, Bool.not_false, Bool.not_true, Bool.and_true, Bool.and_false, Bool.true_and, Bool.false_and, hS_s, hS_n, ne_eq, not_false_eq_true, Classical.not_not, Nat.reduceAdd, eq_self, forall_const, false_implies, true_implies, not_true_eq_false, implies_true, lkk_s, lkk_n, sto1_e, sto1_s, sto1_i, sto1_r, sto1_l, stf_e, stf_i, stf_r, stf_l]
      refine ⟨?_, hq⟩
      first | rw [if_pos c163] | rw [if_neg c163]
    · refine bX13_book_171 ?_
      simp +decide (disch := omega) only [lv_args, Value.category, sto2, List.filter_cons, List.filter_nil, if_true, if_false, tPush, tIld, tLld, tAld, tIst, tAst, tLst, tInc, tB, tBn, tU, tLB, tLBn, tLS, tI2l, tL2i, tLcmp, tDup, tPop, tDup2, tDupx1, tIf, tIf2, tNul, tAcm, tRetI, tRetZ, tRetC, tRetL, tRetV, tRetA, tGetf, tPutf, isI, isL, isA, isZ, tXald, tXast, tZast, tJald, tJast, tRald, tLen, tCV0, tCV1, tCV2, tCV3, tCV4, tCV5, tCS1, tCS2, tCS3, tCS4, tCS5, tCS6, tCS7, tCpyI, tCpyJ, tMax, tMin, tAbs, tSw, tTab, tLook, tLk, Int32.reduceAdd, List.map_cons, List.map_nil, List.sum_cons, List.sum_nil, List.getElem?_cons_succ, List.getElem?_cons_zero, List.set_cons_succ, List.set_cons_zero, true_and, and_true, Option.some.injEq, Sum.inl.injEq, Sum.inr.injEq, Prod.mk.injEq, Value.int.injEq, Value.ref.injEq, Value.long.injEq, exists_eq', Option.toList_some, Option.toList_none, List.cons_append, List.nil_append, Bool.not_false, Bool.not_true, Bool.and_true, Bool.and_false, Bool.true_and, Bool.false_and, hS_s, hS_n, ne_eq, not_false_eq_true, Classical.not_not, Nat.reduceAdd, eq_self, forall_const, false_implies, true_implies, not_true_eq_false, implies_true, lkk_s, lkk_n, sto1_e, sto1_s, sto1_i, sto1_r, sto1_l, stf_e, stf_i, stf_r, stf_l]
      refine bX13_book_172 ?_
      simp +decide (disch := omega) only [lv_args, Value.category, sto2, List.filter_cons, List.filter_nil, if_true, if_false, tPush, tIld, tLld, tAld, tIst, tAst, tLst, tInc, tB, tBn, tU, tLB, tLBn, tLS, tI2l, tL2i, tLcmp, tDup, tPop, tDup2, tDupx1, tIf, tIf2, tNul, tAcm, tRetI, tRetZ, tRetC, tRetL, tRetV, tRetA, tGetf, tPutf, isI, isL, isA, isZ, tXald, tXast, tZast, tJald, tJast, tRald, tLen, tCV0, tCV1, tCV2, tCV3, tCV4, tCV5, tCS1, tCS2, tCS3, tCS4, tCS5, tCS6, tCS7, tCpyI, tCpyJ, tMax, tMin, tAbs, tSw, tTab, tLook, tLk, Int32.reduceAdd, List.map_cons, List.map_nil, List.sum_cons, List.sum_nil, List.getElem?_cons_succ, List.getElem?_cons_zero, List.set_cons_succ, List.set_cons_zero, true_and, and_true, Option.some.injEq, Sum.inl.injEq, Sum.inr.injEq, Prod.mk.injEq, Value.int.injEq, Value.ref.injEq, Value.long.injEq, exists_eq', Option.toList_some, Option.toList_none, List.cons_append, List.nil_append, Bool.not_false, Bool.not_true, Bool.and_true, Bool.and_false, Bool.true_and, Bool.false_and, hS_s, hS_n, ne_eq, not_false_eq_true, Classical.not_not, Nat.reduceAdd, eq_self, forall_const, false_implies, true_implies, not_true_eq_false, implies_true, lkk_s, lkk_n, sto1_e, sto1_s, sto1_i, sto1_r, sto1_l, stf_e, stf_i, stf_r, stf_l]
      refine ⟨?_, hq⟩
      first | rw [if_pos c163] | rw [if_neg c163]
  have kY : V = 1 → 0 < k → T G 8 0 0 mX13_book 160 [(0, .ref m), (1, .int (nI V)), (2, .int (nI k)), (3, .int R1)] [.int 1, .ref m] (hM h m s4) (QJ h m s n V (R1, k, u)) := by
    intro v1 k1
    refine bX13_book_160 ?_
    simp +decide (disch := omega) only [lv_args, Value.category, sto2, List.filter_cons, List.filter_nil, if_true, if_false, tPush, tIld, tLld, tAld, tIst, tAst, tLst, tInc, tB, tBn, tU, tLB, tLBn, tLS, tI2l, tL2i, tLcmp, tDup, tPop, tDup2, tDupx1, tIf, tIf2, tNul, tAcm, tRetI, tRetZ, tRetC, tRetL, tRetV, tRetA, tGetf, tPutf, isI, isL, isA, isZ, tXald, tXast, tZast, tJald, tJast, tRald, tLen, tCV0, tCV1, tCV2, tCV3, tCV4, tCV5, tCS1, tCS2, tCS3, tCS4, tCS5, tCS6, tCS7, tCpyI, tCpyJ, tMax, tMin, tAbs, tSw, tTab, tLook, tLk, Int32.reduceAdd, List.map_cons, List.map_nil, List.sum_cons, List.sum_nil, List.getElem?_cons_succ, List.getElem?_cons_zero, List.set_cons_succ, List.set_cons_zero, true_and, and_true, Option.some.injEq, Sum.inl.injEq, Sum.inr.injEq, Prod.mk.injEq, Value.int.injEq, Value.ref.injEq, Value.long.injEq, exists_eq', Option.toList_some, Option.toList_none, List.cons_append, List.nil_append, Bool.not_false, Bool.not_true, Bool.and_true, Bool.and_false, Bool.true_and, Bool.false_and, hS_s, hS_n, ne_eq, not_false_eq_true, Classical.not_not, Nat.reduceAdd, eq_self, forall_const, false_implies, true_implies, not_true_eq_false, implies_true, lkk_s, lkk_n, sto1_e, sto1_s, sto1_i, sto1_r, sto1_l, stf_e, stf_i, stf_r, stf_l, oM_0, oM_1, oM_2, oM_3, oM_4, oM_5, oM_6, oM_7, oM_8, oM_9, oM_10, oM_11, oM_12, oM_13, oM_14, oM_15, oM_16, oM_17, oM_18, oM_19, oM_20, oM_21, oM_22, oM_23, oM_24, oM_25, oM_26, oM_27, oM_28, oM_29, oM_30, oM_31, oM_32, oM_33, oM_34, oM_35, oM_36, oM_37, oM_38, oM_39, oM_40, oM_41, oM_42, oM_43, oM_44, oM_45, oM_46, oM_47, oM_48, oMs_0, oMs_2, oMs_3, oMs_4, oMs_5, oMs_6, oMs_7, oMs_8, oMs_9, oMs_10, oMs_11, oMs_12, oMs_13, oMs_26, oMs_27, oMs_30, oMs_31, oMs_32, oMs_34, oMs_35, oMs_36, oMs_38, oMs_39, oMs_42, oMs_43, oMs_45, oMs_46, oMs_47, oMs_48, hM_0, hMf, hMw, hM_1a, hM_1s, hM_2a, hM_2s, hM_3a, hM_3s, hM_4a, hM_4s, hM_5a, hM_5s, hM_6a, hM_6s, hM_7a, hM_7s, hM_8a, hM_8s, hM_9a, hM_9s, hM_10a, hM_10s, hM_11a, hM_11s, hM_12a, hM_12s, hM_13a, hM_13s, hM_14a, hM_14s, hM_15a, hM_15s, hM_16a, hM_16s, hM_17a, hM_17s, hM_18a, hM_18s, hM_19a, hM_19s, hM_20a, hM_20s, mF_s, mF_n, mF_A, mF_N, mF_W, mA_F, mA_W, mA_N, mA_s, mA_n, mN_F, mN_W, mN_A, mN_s, mN_n, mW_F, mW_A, mW_N, mW_s, sF2, sA2]
    refine calq (Nat.le_of_ble_eq_true rfl) (by decide) (cm_stay1 b26 hn8) ?_
    rintro v h5 ⟨rfl, rfl⟩
    refine ret _ ⟨_, rfl, ⟨?_, ?_, fun i hi => ?_, fun i h2 h5 h6 h18 h19 => ?_, fun i => ?_⟩, ?_, ?_, ?_, ?_, ?_, ?_, Or.inl ⟨v1, k1, ?_, ?_, ?_, ?_⟩⟩
    · exact b0
    · exact b2
    · show mF (snS (swM1 s4) n) i = _
      unfold snS
      rw [mF_n (by omega)]
      exact bf i (by omega)
    · rw [mA_n h2]
      unfold snS swM1
      rw [mA_F, mA_n h5, mA_n h6, mA_n h2]
      exact ba i h2 h6 h18 h19
    · exact bn i
    · exact b10
    · exact b43
    · exact r0
    · exact r1
    · exact r2
    · exact r3
    · rw [mA_s, t2]; exact hn
    · rw [mA_s, t2]; exact hd
    · show snG n (mA (swM1 s4) 2) (mA (swM1 s4) 5) = _
      rw [show mA (swM1 s4) 2 = tkb (mA s4 6) (mA s4 2) from rfl, t1, show mA (swM1 s4) 5 = mA s4 5 from rfl, a5]
    · rfl
  have kN : ¬ (V = 1 ∧ 0 < k) → T G 8 0 0 mX13_book 160 [(0, .ref m), (1, .int (nI V)), (2, .int (nI k)), (3, .int R1)] [.int 0, .ref m] (hM h m s4) (QJ h m s n V (R1, k, u)) := by
    intro hno
    refine bX13_book_160 ?_
    simp +decide (disch := omega) only [lv_args, Value.category, sto2, List.filter_cons, List.filter_nil, if_true, if_false, tPush, tIld, tLld, tAld, tIst, tAst, tLst, tInc, tB, tBn, tU, tLB, tLBn, tLS, tI2l, tL2i, tLcmp, tDup, tPop, tDup2, tDupx1, tIf, tIf2, tNul, tAcm, tRetI, tRetZ, tRetC, tRetL, tRetV, tRetA, tGetf, tPutf, isI, isL, isA, isZ, tXald, tXast, tZast, tJald, tJast, tRald, tLen, tCV0, tCV1, tCV2, tCV3, tCV4, tCV5, tCS1, tCS2, tCS3, tCS4, tCS5, tCS6, tCS7, tCpyI, tCpyJ, tMax, tMin, tAbs, tSw, tTab, tLook, tLk, Int32.reduceAdd, List.map_cons, List.map_nil, List.sum_cons, List.sum_nil, List.getElem?_cons_succ, List.getElem?_cons_zero, List.set_cons_succ, List.set_cons_zero, true_and, and_true, Option.some.injEq, Sum.inl.injEq, Sum.inr.injEq, Prod.mk.injEq, Value.int.injEq, Value.ref.injEq, Value.long.injEq, exists_eq', Option.toList_some, Option.toList_none, List.cons_append, List.nil_append, Bool.not_false, Bool.not_true, Bool.and_true, Bool.and_false, Bool.true_and, Bool.false_and, hS_s, hS_n, ne_eq, not_false_eq_true, Classical.not_not, Nat.reduceAdd, eq_self, forall_const, false_implies, true_implies, not_true_eq_false, implies_true, lkk_s, lkk_n, sto1_e, sto1_s, sto1_i, sto1_r, sto1_l, stf_e, stf_i, stf_r, stf_l, oM_0, oM_1, oM_2, oM_3, oM_4, oM_5, oM_6, oM_7, oM_8, oM_9, oM_10, oM_11, oM_12, oM_13, oM_14, oM_15, oM_16, oM_17, oM_18, oM_19, oM_20, oM_21, oM_22, oM_23, oM_24, oM_25, oM_26, oM_27, oM_28, oM_29, oM_30, oM_31, oM_32, oM_33, oM_34, oM_35, oM_36, oM_37, oM_38, oM_39, oM_40, oM_41, oM_42, oM_43, oM_44, oM_45, oM_46, oM_47, oM_48, oMs_0, oMs_2, oMs_3, oMs_4, oMs_5, oMs_6, oMs_7, oMs_8, oMs_9, oMs_10, oMs_11, oMs_12, oMs_13, oMs_26, oMs_27, oMs_30, oMs_31, oMs_32, oMs_34, oMs_35, oMs_36, oMs_38, oMs_39, oMs_42, oMs_43, oMs_45, oMs_46, oMs_47, oMs_48, hM_0, hMf, hMw, hM_1a, hM_1s, hM_2a, hM_2s, hM_3a, hM_3s, hM_4a, hM_4s, hM_5a, hM_5s, hM_6a, hM_6s, hM_7a, hM_7s, hM_8a, hM_8s, hM_9a, hM_9s, hM_10a, hM_10s, hM_11a, hM_11s, hM_12a, hM_12s, hM_13a, hM_13s, hM_14a, hM_14s, hM_15a, hM_15s, hM_16a, hM_16s, hM_17a, hM_17s, hM_18a, hM_18s, hM_19a, hM_19s, hM_20a, hM_20s, mF_s, mF_n, mF_A, mF_N, mF_W, mA_F, mA_W, mA_N, mA_s, mA_n, mN_F, mN_W, mN_A, mN_s, mN_n, mW_F, mW_A, mW_N, mW_s, sF2, sA2]
    refine calq (Nat.le_of_ble_eq_true rfl) (by decide) cm_stay0 ?_
    rintro v h5 ⟨rfl, rfl⟩
    refine ret _ ⟨_, rfl, ⟨b0, b2, fun i hi => bf i (by omega), fun i h2 h5 h6 h18 h19 => ?_, fun i => bn i⟩, b10, b43, r0, r1, r2, r3, Or.inr ⟨hno, ?_, a5, ?_⟩⟩
    · unfold swM1
      rw [mA_n h6, mA_n h2]
      exact ba i h2 h6 h18 h19
    · show tkb (mA s4 6) (mA s4 2) = _
      exact t1
    · exact b26.trans h26.symm
  have e139 : (nI V = 1) = (V = 1) := propext (nI_eq (b := 1) (by omega) (by decide))
  have e151 : (nI k ≤ 0) = (k ≤ 0) := propext (nI_leI (b := 0) (by omega) (by decide))
  refine bX13_book_103 ?_
  simp +decide (disch := omega) only [lv_args, Value.category, sto2, List.filter_cons, List.filter_nil, if_true, if_false, tPush, tIld, tLld, tAld, tIst, tAst, tLst, tInc, tB, tBn, tU, tLB, tLBn, tLS, tI2l, tL2i, tLcmp, tDup, tPop, tDup2, tDupx1, tIf, tIf2, tNul, tAcm, tRetI, tRetZ, tRetC, tRetL, tRetV, tRetA, tGetf, tPutf, isI, isL, isA, isZ, tXald, tXast, tZast, tJald, tJast, tRald, tLen, tCV0, tCV1, tCV2, tCV3, tCV4, tCV5, tCS1, tCS2, tCS3, tCS4, tCS5, tCS6, tCS7, tCpyI, tCpyJ, tMax, tMin, tAbs, tSw, tTab, tLook, tLk, Int32.reduceAdd, List.map_cons, List.map_nil, List.sum_cons, List.sum_nil, List.getElem?_cons_succ, List.getElem?_cons_zero, List.set_cons_succ, List.set_cons_zero, true_and, and_true, Option.some.injEq, Sum.inl.injEq, Sum.inr.injEq, Prod.mk.injEq, Value.int.injEq, Value.ref.injEq, Value.long.injEq, exists_eq', Option.toList_some, Option.toList_none, List.cons_append, List.nil_append, Bool.not_false, Bool.not_true, Bool.and_true, Bool.and_false, Bool.true_and, Bool.false_and, hS_s, hS_n, ne_eq, not_false_eq_true, Classical.not_not, Nat.reduceAdd, eq_self, forall_const, false_implies, true_implies, not_true_eq_false, implies_true, lkk_s, lkk_n, sto1_e, sto1_s, sto1_i, sto1_r, sto1_l, stf_e, stf_i, stf_r, stf_l, oM_0, oM_1, oM_2, oM_3, oM_4, oM_5, oM_6, oM_7, oM_8, oM_9, oM_10, oM_11, oM_12, oM_13, oM_14, oM_15, oM_16, oM_17, oM_18, oM_19, oM_20, oM_21, oM_22, oM_23, oM_24, oM_25, oM_26, oM_27, oM_28, oM_29, oM_30, oM_31, oM_32, oM_33, oM_34, oM_35, oM_36, oM_37, oM_38, oM_39, oM_40, oM_41, oM_42, oM_43, oM_44, oM_45, oM_46, oM_47, oM_48, oMs_0, oMs_2, oMs_3, oMs_4, oMs_5, oMs_6, oMs_7, oMs_8, oMs_9, oMs_10, oMs_11, oMs_12, oMs_13, oMs_26, oMs_27, oMs_30, oMs_31, oMs_32, oMs_34, oMs_35, oMs_36, oMs_38, oMs_39, oMs_42, oMs_43, oMs_45, oMs_46, oMs_47, oMs_48, hM_0, hMf, hMw, hM_1a, hM_1s, hM_2a, hM_2s, hM_3a, hM_3s, hM_4a, hM_4s, hM_5a, hM_5s, hM_6a, hM_6s, hM_7a, hM_7s, hM_8a, hM_8s, hM_9a, hM_9s, hM_10a, hM_10s, hM_11a, hM_11s, hM_12a, hM_12s, hM_13a, hM_13s, hM_14a, hM_14s, hM_15a, hM_15s, hM_16a, hM_16s, hM_17a, hM_17s, hM_18a, hM_18s, hM_19a, hM_19s, hM_20a, hM_20s, mF_s, mF_n, mF_A, mF_N, mF_W, mA_F, mA_W, mA_N, mA_s, mA_n, mN_F, mN_W, mN_A, mN_s, mN_n, mW_F, mW_A, mW_N, mW_s, sF2, sA2, v0, v1, v2, cl0, cl1, cl2, n98, v98, cl98]
  refine calp (Nat.le_of_ble_eq_true rfl) (by decide) (cm_payers (w := u) (by exact hn) hu) ?_
  refine bX13_book_139 ?_
  simp +decide (disch := omega) only [lv_args, Value.category, sto2, List.filter_cons, List.filter_nil, if_true, if_false, tPush, tIld, tLld, tAld, tIst, tAst, tLst, tInc, tB, tBn, tU, tLB, tLBn, tLS, tI2l, tL2i, tLcmp, tDup, tPop, tDup2, tDupx1, tIf, tIf2, tNul, tAcm, tRetI, tRetZ, tRetC, tRetL, tRetV, tRetA, tGetf, tPutf, isI, isL, isA, isZ, tXald, tXast, tZast, tJald, tJast, tRald, tLen, tCV0, tCV1, tCV2, tCV3, tCV4, tCV5, tCS1, tCS2, tCS3, tCS4, tCS5, tCS6, tCS7, tCpyI, tCpyJ, tMax, tMin, tAbs, tSw, tTab, tLook, tLk, Int32.reduceAdd, List.map_cons, List.map_nil, List.sum_cons, List.sum_nil, List.getElem?_cons_succ, List.getElem?_cons_zero, List.set_cons_succ, List.set_cons_zero, true_and, and_true, Option.some.injEq, Sum.inl.injEq, Sum.inr.injEq, Prod.mk.injEq, Value.int.injEq, Value.ref.injEq, Value.long.injEq, exists_eq', Option.toList_some, Option.toList_none, List.cons_append, List.nil_append, Bool.not_false, Bool.not_true, Bool.and_true, Bool.and_false, Bool.true_and, Bool.false_and, hS_s, hS_n, ne_eq, not_false_eq_true, Classical.not_not, Nat.reduceAdd, eq_self, forall_const, false_implies, true_implies, not_true_eq_false, implies_true, lkk_s, lkk_n, sto1_e, sto1_s, sto1_i, sto1_r, sto1_l, stf_e, stf_i, stf_r, stf_l, oM_0, oM_1, oM_2, oM_3, oM_4, oM_5, oM_6, oM_7, oM_8, oM_9, oM_10, oM_11, oM_12, oM_13, oM_14, oM_15, oM_16, oM_17, oM_18, oM_19, oM_20, oM_21, oM_22, oM_23, oM_24, oM_25, oM_26, oM_27, oM_28, oM_29, oM_30, oM_31, oM_32, oM_33, oM_34, oM_35, oM_36, oM_37, oM_38, oM_39, oM_40, oM_41, oM_42, oM_43, oM_44, oM_45, oM_46, oM_47, oM_48, oMs_0, oMs_2, oMs_3, oMs_4, oMs_5, oMs_6, oMs_7, oMs_8, oMs_9, oMs_10, oMs_11, oMs_12, oMs_13, oMs_26, oMs_27, oMs_30, oMs_31, oMs_32, oMs_34, oMs_35, oMs_36, oMs_38, oMs_39, oMs_42, oMs_43, oMs_45, oMs_46, oMs_47, oMs_48, hM_0, hMf, hMw, hM_1a, hM_1s, hM_2a, hM_2s, hM_3a, hM_3s, hM_4a, hM_4s, hM_5a, hM_5s, hM_6a, hM_6s, hM_7a, hM_7s, hM_8a, hM_8s, hM_9a, hM_9s, hM_10a, hM_10s, hM_11a, hM_11s, hM_12a, hM_12s, hM_13a, hM_13s, hM_14a, hM_14s, hM_15a, hM_15s, hM_16a, hM_16s, hM_17a, hM_17s, hM_18a, hM_18s, hM_19a, hM_19s, hM_20a, hM_20s, mF_s, mF_n, mF_A, mF_N, mF_W, mA_F, mA_W, mA_N, mA_s, mA_n, mN_F, mN_W, mN_A, mN_s, mN_n, mW_F, mW_A, mW_N, mW_s, sF2, sA2, v3, cl3, e139, e151, exists_eq_left', nb1]
  refine ⟨fun c139 => ?_, fun c139 => ?_⟩
  · refine bX13_book_151 ?_
    simp +decide (disch := omega) only [lv_args, Value.category, sto2, List.filter_cons, List.filter_nil, if_true, if_false, tPush, tIld, tLld, tAld, tIst, tAst, tLst, tInc, tB, tBn, tU, tLB, tLBn, tLS, tI2l, tL2i, tLcmp, tDup, tPop, tDup2, tDupx1, tIf, tIf2, tNul, tAcm, tRetI, tRetZ, tRetC, tRetL, tRetV, tRetA, tGetf, tPutf, isI, isL, isA, isZ, tXald, tXast, tZast, tJald, tJast, tRald, tLen, tCV0, tCV1, tCV2, tCV3, tCV4, tCV5, tCS1, tCS2, tCS3, tCS4, tCS5, tCS6, tCS7, tCpyI, tCpyJ, tMax, tMin, tAbs, tSw, tTab, tLook, tLk, Int32.reduceAdd, List.map_cons, List.map_nil, List.sum_cons, List.sum_nil, List.getElem?_cons_succ, List.getElem?_cons_zero, List.set_cons_succ, List.set_cons_zero, true_and, and_true, Option.some.injEq, Sum.inl.injEq, Sum.inr.injEq, Prod.mk.injEq, Value.int.injEq, Value.ref.injEq, Value.long.injEq, exists_eq', Option.toList_some, Option.toList_none, List.cons_append, List.nil_append, Bool.not_false, Bool.not_true, Bool.and_true, Bool.and_false, Bool.true_and, Bool.false_and, hS_s, hS_n, ne_eq, not_false_eq_true, Classical.not_not, Nat.reduceAdd, eq_self, forall_const, false_implies, true_implies, not_true_eq_false, implies_true, lkk_s, lkk_n, sto1_e, sto1_s, sto1_i, sto1_r, sto1_l, stf_e, stf_i, stf_r, stf_l, oM_0, oM_1, oM_2, oM_3, oM_4, oM_5, oM_6, oM_7, oM_8, oM_9, oM_10, oM_11, oM_12, oM_13, oM_14, oM_15, oM_16, oM_17, oM_18, oM_19, oM_20, oM_21, oM_22, oM_23, oM_24, oM_25, oM_26, oM_27, oM_28, oM_29, oM_30, oM_31, oM_32, oM_33, oM_34, oM_35, oM_36, oM_37, oM_38, oM_39, oM_40, oM_41, oM_42, oM_43, oM_44, oM_45, oM_46, oM_47, oM_48, oMs_0, oMs_2, oMs_3, oMs_4, oMs_5, oMs_6, oMs_7, oMs_8, oMs_9, oMs_10, oMs_11, oMs_12, oMs_13, oMs_26, oMs_27, oMs_30, oMs_31, oMs_32, oMs_34, oMs_35, oMs_36, oMs_38, oMs_39, oMs_42, oMs_43, oMs_45, oMs_46, oMs_47, oMs_48, hM_0, hMf, hMw, hM_1a, hM_1s, hM_2a, hM_2s, hM_3a, hM_3s, hM_4a, hM_4s, hM_5a, hM_5s, hM_6a, hM_6s, hM_7a, hM_7s, hM_8a, hM_8s, hM_9a, hM_9s, hM_10a, hM_10s, hM_11a, hM_11s, hM_12a, hM_12s, hM_13a, hM_13s, hM_14a, hM_14s, hM_15a, hM_15s, hM_16a, hM_16s, hM_17a, hM_17s, hM_18a, hM_18s, hM_19a, hM_19s, hM_20a, hM_20s, mF_s, mF_n, mF_A, mF_N, mF_W, mA_F, mA_W, mA_N, mA_s, mA_n, mN_F, mN_W, mN_A, mN_s, mN_n, mW_F, mW_A, mW_N, mW_s, sF2, sA2, v3, cl3, e139, e151, exists_eq_left', nb1]
    refine ⟨fun c151 => ?_, fun c151 => ?_⟩
    · refine bX13_book_159 ?_
      simp +decide (disch := omega) only [lv_args, Value.category, sto2, List.filter_cons, List.filter_nil, if_true, if_false, tPush, tIld, tLld, tAld, tIst, tAst, tLst, tInc, tB, tBn, tU, tLB, tLBn, tLS, tI2l, tL2i, tLcmp, tDup, tPop, tDup2, tDupx1, tIf, tIf2, tNul, tAcm, tRetI, tRetZ, tRetC, tRetL, tRetV, tRetA, tGetf, tPutf, isI, isL, isA, isZ, tXald, tXast, tZast, tJald, tJast, tRald, tLen, tCV0, tCV1, tCV2, tCV3, tCV4, tCV5, tCS1, tCS2, tCS3, tCS4, tCS5, tCS6, tCS7, tCpyI, tCpyJ, tMax, tMin, tAbs, tSw, tTab, tLook, tLk, Int32.reduceAdd, List.map_cons, List.map_nil, List.sum_cons, List.sum_nil, List.getElem?_cons_succ, List.getElem?_cons_zero, List.set_cons_succ, List.set_cons_zero, true_and, and_true, Option.some.injEq, Sum.inl.injEq, Sum.inr.injEq, Prod.mk.injEq, Value.int.injEq, Value.ref.injEq, Value.long.injEq, exists_eq', Option.toList_some, Option.toList_none, List.cons_append, List.nil_append, Bool.not_false, Bool.not_true, Bool.and_true, Bool.and_false, Bool.true_and, Bool.false_and, hS_s, hS_n, ne_eq, not_false_eq_true, Classical.not_not, Nat.reduceAdd, eq_self, forall_const, false_implies, true_implies, not_true_eq_false, implies_true, lkk_s, lkk_n, sto1_e, sto1_s, sto1_i, sto1_r, sto1_l, stf_e, stf_i, stf_r, stf_l, oM_0, oM_1, oM_2, oM_3, oM_4, oM_5, oM_6, oM_7, oM_8, oM_9, oM_10, oM_11, oM_12, oM_13, oM_14, oM_15, oM_16, oM_17, oM_18, oM_19, oM_20, oM_21, oM_22, oM_23, oM_24, oM_25, oM_26, oM_27, oM_28, oM_29, oM_30, oM_31, oM_32, oM_33, oM_34, oM_35, oM_36, oM_37, oM_38, oM_39, oM_40, oM_41, oM_42, oM_43, oM_44, oM_45, oM_46, oM_47, oM_48, oMs_0, oMs_2, oMs_3, oMs_4, oMs_5, oMs_6, oMs_7, oMs_8, oMs_9, oMs_10, oMs_11, oMs_12, oMs_13, oMs_26, oMs_27, oMs_30, oMs_31, oMs_32, oMs_34, oMs_35, oMs_36, oMs_38, oMs_39, oMs_42, oMs_43, oMs_45, oMs_46, oMs_47, oMs_48, hM_0, hMf, hMw, hM_1a, hM_1s, hM_2a, hM_2s, hM_3a, hM_3s, hM_4a, hM_4s, hM_5a, hM_5s, hM_6a, hM_6s, hM_7a, hM_7s, hM_8a, hM_8s, hM_9a, hM_9s, hM_10a, hM_10s, hM_11a, hM_11s, hM_12a, hM_12s, hM_13a, hM_13s, hM_14a, hM_14s, hM_15a, hM_15s, hM_16a, hM_16s, hM_17a, hM_17s, hM_18a, hM_18s, hM_19a, hM_19s, hM_20a, hM_20s, mF_s, mF_n, mF_A, mF_N, mF_W, mA_F, mA_W, mA_N, mA_s, mA_n, mN_F, mN_W, mN_A, mN_s, mN_n, mW_F, mW_A, mW_N, mW_s, sF2, sA2, v3, cl3, e139, e151, exists_eq_left', nb1]
      rw [← es4]
      first | exact kY c139 (by omega) | exact kN (fun z => by omega)
    · refine bX13_book_155 ?_
      simp +decide (disch := omega) only [lv_args, Value.category, sto2, List.filter_cons, List.filter_nil, if_true, if_false, tPush, tIld, tLld, tAld, tIst, tAst, tLst, tInc, tB, tBn, tU, tLB, tLBn, tLS, tI2l, tL2i, tLcmp, tDup, tPop, tDup2, tDupx1, tIf, tIf2, tNul, tAcm, tRetI, tRetZ, tRetC, tRetL, tRetV, tRetA, tGetf, tPutf, isI, isL, isA, isZ, tXald, tXast, tZast, tJald, tJast, tRald, tLen, tCV0, tCV1, tCV2, tCV3, tCV4, tCV5, tCS1, tCS2, tCS3, tCS4, tCS5, tCS6, tCS7, tCpyI, tCpyJ, tMax, tMin, tAbs, tSw, tTab, tLook, tLk, Int32.reduceAdd, List.map_cons, List.map_nil, List.sum_cons, List.sum_nil, List.getElem?_cons_succ, List.getElem?_cons_zero, List.set_cons_succ, List.set_cons_zero, true_and, and_true, Option.some.injEq, Sum.inl.injEq, Sum.inr.injEq, Prod.mk.injEq, Value.int.injEq, Value.ref.injEq, Value.long.injEq, exists_eq', Option.toList_some, Option.toList_none, List.cons_append, List.nil_append, Bool.not_false, Bool.not_true, Bool.and_true, Bool.and_false, Bool.true_and, Bool.false_and, hS_s, hS_n, ne_eq, not_false_eq_true, Classical.not_not, Nat.reduceAdd, eq_self, forall_const, false_implies, true_implies, not_true_eq_false, implies_true, lkk_s, lkk_n, sto1_e, sto1_s, sto1_i, sto1_r, sto1_l, stf_e, stf_i, stf_r, stf_l, oM_0, oM_1, oM_2, oM_3, oM_4, oM_5, oM_6, oM_7, oM_8, oM_9, oM_10, oM_11, oM_12, oM_13, oM_14, oM_15, oM_16, oM_17, oM_18, oM_19, oM_20, oM_21, oM_22, oM_23, oM_24, oM_25, oM_26, oM_27, oM_28, oM_29, oM_30, oM_31, oM_32, oM_33, oM_34, oM_35, oM_36, oM_37, oM_38, oM_39, oM_40, oM_41, oM_42, oM_43, oM_44, oM_45, oM_46, oM_47, oM_48, oMs_0, oMs_2, oMs_3, oMs_4, oMs_5, oMs_6, oMs_7, oMs_8, oMs_9, oMs_10, oMs_11, oMs_12, oMs_13, oMs_26, oMs_27, oMs_30, oMs_31, oMs_32, oMs_34, oMs_35, oMs_36, oMs_38, oMs_39, oMs_42, oMs_43, oMs_45, oMs_46, oMs_47, oMs_48, hM_0, hMf, hMw, hM_1a, hM_1s, hM_2a, hM_2s, hM_3a, hM_3s, hM_4a, hM_4s, hM_5a, hM_5s, hM_6a, hM_6s, hM_7a, hM_7s, hM_8a, hM_8s, hM_9a, hM_9s, hM_10a, hM_10s, hM_11a, hM_11s, hM_12a, hM_12s, hM_13a, hM_13s, hM_14a, hM_14s, hM_15a, hM_15s, hM_16a, hM_16s, hM_17a, hM_17s, hM_18a, hM_18s, hM_19a, hM_19s, hM_20a, hM_20s, mF_s, mF_n, mF_A, mF_N, mF_W, mA_F, mA_W, mA_N, mA_s, mA_n, mN_F, mN_W, mN_A, mN_s, mN_n, mW_F, mW_A, mW_N, mW_s, sF2, sA2, v3, cl3, e139, e151, exists_eq_left', nb1]
      rw [← es4]
      first | exact kY c139 (by omega) | exact kN (fun z => by omega)
  · refine bX13_book_159 ?_
    simp +decide (disch := omega) only [lv_args, Value.category, sto2, List.filter_cons, List.filter_nil, if_true, if_false, tPush, tIld, tLld, tAld, tIst, tAst, tLst, tInc, tB, tBn, tU, tLB, tLBn, tLS, tI2l, tL2i, tLcmp, tDup, tPop, tDup2, tDupx1, tIf, tIf2, tNul, tAcm, tRetI, tRetZ, tRetC, tRetL, tRetV, tRetA, tGetf, tPutf, isI, isL, isA, isZ, tXald, tXast, tZast, tJald, tJast, tRald, tLen, tCV0, tCV1, tCV2, tCV3, tCV4, tCV5, tCS1, tCS2, tCS3, tCS4, tCS5, tCS6, tCS7, tCpyI, tCpyJ, tMax, tMin, tAbs, tSw, tTab, tLook, tLk, Int32.reduceAdd, List.map_cons, List.map_nil, List.sum_cons, List.sum_nil, List.getElem?_cons_succ, List.getElem?_cons_zero, List.set_cons_succ, List.set_cons_zero, true_and, and_true, Option.some.injEq, Sum.inl.injEq, Sum.inr.injEq, Prod.mk.injEq, Value.int.injEq, Value.ref.injEq, Value.long.injEq, exists_eq', Option.toList_some, Option.toList_none, List.cons_append, List.nil_append, Bool.not_false, Bool.not_true, Bool.and_true, Bool.and_false, Bool.true_and, Bool.false_and, hS_s, hS_n, ne_eq, not_false_eq_true, Classical.not_not, Nat.reduceAdd, eq_self, forall_const, false_implies, true_implies, not_true_eq_false, implies_true, lkk_s, lkk_n, sto1_e, sto1_s, sto1_i, sto1_r, sto1_l, stf_e, stf_i, stf_r, stf_l, oM_0, oM_1, oM_2, oM_3, oM_4, oM_5, oM_6, oM_7, oM_8, oM_9, oM_10, oM_11, oM_12, oM_13, oM_14, oM_15, oM_16, oM_17, oM_18, oM_19, oM_20, oM_21, oM_22, oM_23, oM_24, oM_25, oM_26, oM_27, oM_28, oM_29, oM_30, oM_31, oM_32, oM_33, oM_34, oM_35, oM_36, oM_37, oM_38, oM_39, oM_40, oM_41, oM_42, oM_43, oM_44, oM_45, oM_46, oM_47, oM_48, oMs_0, oMs_2, oMs_3, oMs_4, oMs_5, oMs_6, oMs_7, oMs_8, oMs_9, oMs_10, oMs_11, oMs_12, oMs_13, oMs_26, oMs_27, oMs_30, oMs_31, oMs_32, oMs_34, oMs_35, oMs_36, oMs_38, oMs_39, oMs_42, oMs_43, oMs_45, oMs_46, oMs_47, oMs_48, hM_0, hMf, hMw, hM_1a, hM_1s, hM_2a, hM_2s, hM_3a, hM_3s, hM_4a, hM_4s, hM_5a, hM_5s, hM_6a, hM_6s, hM_7a, hM_7s, hM_8a, hM_8s, hM_9a, hM_9s, hM_10a, hM_10s, hM_11a, hM_11s, hM_12a, hM_12s, hM_13a, hM_13s, hM_14a, hM_14s, hM_15a, hM_15s, hM_16a, hM_16s, hM_17a, hM_17s, hM_18a, hM_18s, hM_19a, hM_19s, hM_20a, hM_20s, mF_s, mF_n, mF_A, mF_N, mF_W, mA_F, mA_W, mA_N, mA_s, mA_n, mN_F, mN_W, mN_A, mN_s, mN_n, mW_F, mW_A, mW_N, mW_s, sF2, sA2, v3, cl3, e139, e151, exists_eq_left', nb1]
    rw [← es4]
    first | exact kY c139 (by omega) | exact kN (fun z => by omega)

