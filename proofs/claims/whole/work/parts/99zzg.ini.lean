/-! ===== constructors: World, Sentence ===== -/
section Ini
variable {G : Gt} {h : Hp}
def w0 : Wd := (0, 0, 0, fun _ _ => 0, fun _ _ => 0)
/-- new cells only: the first k of them behind the old -/
def Nw (k : Nat) (h h' : Hp) : Prop := h'.1 = h.1 + k ∧ ∀ q : Nat, q < h.1 → h'.2 q = h.2 q
theorem hN_s {h : Hp} {e : Ce} : (hNew h e).2 h.1 = some e := if_pos rfl
theorem hN_n {h : Hp} {e : Ce} {q : Nat} (hq : q ≠ h.1) : (hNew h e).2 q = h.2 q := if_neg hq
theorem hN_1 {h : Hp} {e : Ce} : (hNew h e).1 = h.1 + 1 := rfl
theorem hN_e {h : Hp} {e : Ce} {q : Nat} (hq : q = h.1) : (hNew h e).2 q = some e := if_pos hq
def Qwi (h : Hp) (a : Nat) : QT := fun r h' => r = none ∧ HasW h' a w0 ∧ h'.1 = h.1 + 11 ∧ ∀ q : Nat, (q < a ∨ a + 11 < q) → h'.2 q = h.2 q
theorem ct_wini {a : Nat} (ha : h.1 = a + 1) (h0 : h.2 a = some (.inl (9, [.int 0, .int 0, .int 0, .null, .null, .null, .null, .null, .null, .null, .null, .null, .null, .null]))) : Mt G 1 11 126 mX11_init [.ref a] h (Qwi h a) := by
  refine Mt.of (by decide +kernel) (Nat.le_of_ble_eq_true rfl) ?_
  refine bX11_init_0 (by first | decide | omega) ?_
  simp +decide (disch := first | (simp only [hN_1, hS_1]; omega) | omega) only [lv_args, Value.category, sto2, List.filter_cons, List.filter_nil, if_true, if_false, tPush, tIld, tLld, tAld, tIst, tAst, tLst, tInc, tB, tBn, tU, tLB, tLBn, tLS, tI2l, tL2i, tLcmp, tDup, tPop, tDup2, tDupx1, tIf, tIf2, tNul, tAcm, tRetI, tRetZ, tRetC, tRetL, tRetV, tRetA, tGetf, tPutf, isI, isL, isA, isZ, tXald, tXast, tZast, tJald, tJast, tRald, tLen, tCV0, tCV1, tCV2, tCV3, tCV4, tCV5, tCS1, tCS2, tCS3, tCS4, tCS5, tCS6, tCS7, tCpyI, tCpyJ, tMax, tMin, tAbs, tSw, tTab, tLook, tLk, Int32.reduceAdd, List.map_cons, List.map_nil, List.sum_cons, List.sum_nil, List.getElem?_cons_succ, List.getElem?_cons_zero, List.set_cons_succ, List.set_cons_zero, true_and, and_true, Option.some.injEq, Sum.inl.injEq, Sum.inr.injEq, Prod.mk.injEq, Value.int.injEq, Value.ref.injEq, Value.long.injEq, exists_eq', Option.toList_some, Option.toList_none, List.cons_append, List.nil_append, Bool.not_false, Bool.not_true, Bool.and_true, Bool.and_false, Bool.true_and, Bool.false_and, hS_s, hS_n, ne_eq, not_false_eq_true, Classical.not_not, Nat.reduceAdd, eq_self, forall_const, false_implies, true_implies, not_true_eq_false, implies_true, lkk_s, lkk_n, sto1_e, sto1_s, sto1_i, sto1_r, sto1_l, stf_e, stf_i, stf_r, stf_l, h0, hN_1, hS_1, hN_n, tObj, tNewI, tNewJ, isA, ha, true_or, true_and]
  refine bX11_init_4 ?_
  simp +decide (disch := first | (simp only [hN_1, hS_1]; omega) | omega) only [lv_args, Value.category, sto2, List.filter_cons, List.filter_nil, if_true, if_false, tPush, tIld, tLld, tAld, tIst, tAst, tLst, tInc, tB, tBn, tU, tLB, tLBn, tLS, tI2l, tL2i, tLcmp, tDup, tPop, tDup2, tDupx1, tIf, tIf2, tNul, tAcm, tRetI, tRetZ, tRetC, tRetL, tRetV, tRetA, tGetf, tPutf, isI, isL, isA, isZ, tXald, tXast, tZast, tJald, tJast, tRald, tLen, tCV0, tCV1, tCV2, tCV3, tCV4, tCV5, tCS1, tCS2, tCS3, tCS4, tCS5, tCS6, tCS7, tCpyI, tCpyJ, tMax, tMin, tAbs, tSw, tTab, tLook, tLk, Int32.reduceAdd, List.map_cons, List.map_nil, List.sum_cons, List.sum_nil, List.getElem?_cons_succ, List.getElem?_cons_zero, List.set_cons_succ, List.set_cons_zero, true_and, and_true, Option.some.injEq, Sum.inl.injEq, Sum.inr.injEq, Prod.mk.injEq, Value.int.injEq, Value.ref.injEq, Value.long.injEq, exists_eq', Option.toList_some, Option.toList_none, List.cons_append, List.nil_append, Bool.not_false, Bool.not_true, Bool.and_true, Bool.and_false, Bool.true_and, Bool.false_and, hS_s, hS_n, ne_eq, not_false_eq_true, Classical.not_not, Nat.reduceAdd, eq_self, forall_const, false_implies, true_implies, not_true_eq_false, implies_true, lkk_s, lkk_n, sto1_e, sto1_s, sto1_i, sto1_r, sto1_l, stf_e, stf_i, stf_r, stf_l, h0, hN_1, hS_1, hN_n, tObj, tNewI, tNewJ, isA, ha, true_or, true_and]
  refine ⟨rfl, ⟨?_, ?_, ?_, ?_, ?_, ?_, ?_, ?_, ?_, ?_, ?_, ?_⟩, by simp only [hN_1, hS_1], fun q hq => ?_⟩
  all_goals simp (disch := first | (simp only [hN_1, hS_1]; omega) | omega) only [hS_s, hS_n, hN_n, hN_e]
  all_goals rfl
end Ini

