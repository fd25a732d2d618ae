/-! ===== the class's Past ===== -/
/-- its cells: the rooms, which is next, how many are kept; L: what is kept, the latest first; o: the sketch -/
def HasPq (h : Hp) (a nx : Nat) (ws : Nat → Wd) (n : Nat) : Prop := h.2 a = some (.inl (5, [.ref (a + 1), .int (nI nx), .int (nI n)])) ∧ h.2 (a + 1) = some (.inr (.inr (.inr (1, 9, fun i => some (a + 2 + 12 * i))))) ∧ (∀ i, i < 9 → HasW h (a + 2 + 12 * i) (ws i)) ∧ nx < 9
def PL (nx : Nat) (ws : Nat → Wd) (L : List Wd) : Prop := L.length ≤ 8 ∧ ∀ j, j < L.length → L[j]? = some (ws ((nx + 8 - j) % 9))
def HasP (h : Hp) (a : Nat) (L : List Wd) : Prop := ∃ nx ws, HasPq h a nx ws L.length ∧ PL nx ws L
def HasPs (h : Hp) (a : Nat) (L : List Wd) (v : Wd) : Prop := ∃ nx ws, HasPq h a nx ws L.length ∧ PL nx ws L ∧ ws nx = v
theorem HasPs.p {h : Hp} {a : Nat} {L : List Wd} {v : Wd} (hp : HasPs h a L v) : HasP h a L := by
  obtain ⟨nx, ws, h1, h2, -⟩ := hp
  exact ⟨nx, ws, h1, h2⟩
theorem HasPq.frame {h h' : Hp} {a nx n lo hi : Nat} {ws : Nat → Wd} (hp : HasPq h a nx ws n) (hf : Fm lo hi h h') (hd : a + 109 < lo ∨ hi < a) : HasPq h' a nx ws n := ⟨(hf.2 _ (by omega)).trans hp.1, (hf.2 _ (by omega)).trans hp.2.1, fun i hi => (hp.2.2.1 i hi).frame (a := 0) hf (by omega), hp.2.2.2⟩
theorem HasP.frame {h h' : Hp} {a lo hi : Nat} {L : List Wd} (hp : HasP h a L) (hf : Fm lo hi h h') (hd : a + 109 < lo ∨ hi < a) : HasP h' a L := by
  obtain ⟨nx, ws, h1, h2⟩ := hp
  exact ⟨nx, ws, h1.frame hf hd, h2⟩
theorem HasPs.frame {h h' : Hp} {a lo hi : Nat} {L : List Wd} {v : Wd} (hp : HasPs h a L v) (hf : Fm lo hi h h') (hd : a + 109 < lo ∨ hi < a) : HasPs h' a L v := by
  obtain ⟨nx, ws, h1, h2⟩ := hp
  exact ⟨nx, ws, h1.frame hf hd, h2⟩
theorem ct_sketch {G : Gt} {h : Hp} {a b : Nat} {L : List Wd} {w : Wd} (hp : HasP h a L) (hb : HasW h b w) (hd : b + 11 < a ∨ a + 109 < b) : Mt G 2 0 0 mX6_sketch [.ref a, .ref b] h (fun r h' => r = none ∧ HasPs h' a L w ∧ Fm a (a + 109) h h') := by
  refine Mt.of (by decide +kernel) (Nat.le_of_ble_eq_true rfl) ?_
  obtain ⟨nx, ws, ⟨p1, p2, p3, p4⟩, q1, q2⟩ := hp
  have hin : vp_in (nI nx) 9 := vp_in_nI p4 (by omega)
  have hc : (nI nx).toNatClampNeg = nx := nI_clamp (by omega)
  have hcp := ct_copyFrom (G := G) (p3 nx p4) hb (by omega)
  have c1 := (p3 nx p4).1
  refine bX6_sketch_0 ?_
  simp +decide (disch := omega) only [lv_args, Value.category, sto2, List.filter_cons, List.filter_nil, if_true, if_false, tPush, tIld, tLld, tAld, tIst, tAst, tLst, tInc, tB, tBn, tU, tLB, tLBn, tLS, tI2l, tL2i, tLcmp, tDup, tPop, tDup2, tDupx1, tIf, tIf2, tNul, tAcm, tRetI, tRetZ, tRetC, tRetL, tRetV, tRetA, tGetf, tPutf, isI, isL, isA, isZ, tXald, tXast, tZast, tJald, tJast, tRald, tLen, tCV0, tCV1, tCV2, tCV3, tCV4, tCV5, tCS1, tCS2, tCS3, tCS4, tCS5, tCS6, tCS7, tCpyI, tCpyJ, tMax, tMin, tAbs, tSw, tTab, tLook, tLk, Int32.reduceAdd, List.map_cons, List.map_nil, List.sum_cons, List.sum_nil, List.getElem?_cons_succ, List.getElem?_cons_zero, List.set_cons_succ, List.set_cons_zero, true_and, and_true, Option.some.injEq, Sum.inl.injEq, Sum.inr.injEq, Prod.mk.injEq, Value.int.injEq, Value.ref.injEq, Value.long.injEq, exists_eq', Option.toList_some, Option.toList_none, List.cons_append, List.nil_append, Bool.not_false, Bool.not_true, Bool.and_true, Bool.and_false, Bool.true_and, Bool.false_and, hS_s, hS_n, ne_eq, not_false_eq_true, Classical.not_not, Nat.reduceAdd, eq_self, forall_const, false_implies, true_implies, not_true_eq_false, implies_true, lkk_s, lkk_n, sto1_e, sto1_s, sto1_i, sto1_r, sto1_l, stf_e, stf_i, stf_r, stf_l, p1, p2, hin, hc, vrf_s, c1]
  refine calq (Nat.le_of_ble_eq_true rfl) (by first | decide | omega) (hcp) ?_
  rintro _ h2 ⟨rfl, hW2, hF2⟩
  refine bX6_sketch_13 ?_
  simp +decide (disch := omega) only [lv_args, Value.category, sto2, List.filter_cons, List.filter_nil, if_true, if_false, tPush, tIld, tLld, tAld, tIst, tAst, tLst, tInc, tB, tBn, tU, tLB, tLBn, tLS, tI2l, tL2i, tLcmp, tDup, tPop, tDup2, tDupx1, tIf, tIf2, tNul, tAcm, tRetI, tRetZ, tRetC, tRetL, tRetV, tRetA, tGetf, tPutf, isI, isL, isA, isZ, tXald, tXast, tZast, tJald, tJast, tRald, tLen, tCV0, tCV1, tCV2, tCV3, tCV4, tCV5, tCS1, tCS2, tCS3, tCS4, tCS5, tCS6, tCS7, tCpyI, tCpyJ, tMax, tMin, tAbs, tSw, tTab, tLook, tLk, Int32.reduceAdd, List.map_cons, List.map_nil, List.sum_cons, List.sum_nil, List.getElem?_cons_succ, List.getElem?_cons_zero, List.set_cons_succ, List.set_cons_zero, true_and, and_true, Option.some.injEq, Sum.inl.injEq, Sum.inr.injEq, Prod.mk.injEq, Value.int.injEq, Value.ref.injEq, Value.long.injEq, exists_eq', Option.toList_some, Option.toList_none, List.cons_append, List.nil_append, Bool.not_false, Bool.not_true, Bool.and_true, Bool.and_false, Bool.true_and, Bool.false_and, hS_s, hS_n, ne_eq, not_false_eq_true, Classical.not_not, Nat.reduceAdd, eq_self, forall_const, false_implies, true_implies, not_true_eq_false, implies_true, lkk_s, lkk_n, sto1_e, sto1_s, sto1_i, sto1_r, sto1_l, stf_e, stf_i, stf_r, stf_l, p1, p2, hin, hc, vrf_s, c1]
  refine ⟨⟨nx, (fun i => if i = nx then w else ws i), ⟨(hF2.2 _ (by omega)).trans p1, (hF2.2 _ (by omega)).trans p2, fun i hi => ?_, p4⟩, ⟨q1, fun j hj => ?_⟩, if_pos rfl⟩, hF2.wide (by omega) (by omega)⟩
  · dsimp only; exact if e : i = nx then (by rw [if_pos e, e]; exact hW2) else (by rw [if_neg e]; exact (p3 i hi).frame (a := 0) hF2 (by omega))
  · dsimp only; rw [if_neg (by omega)]; exact q2 j hj
theorem PL.keep {nx : Nat} {ws : Nat → Wd} {L : List Wd} (hn : nx < 9) (h : PL nx ws L) : PL ((nx + 1) % 9) ws ((ws nx :: L).take 8) := by
  refine ⟨by rw [List.length_take]; omega, fun j hj => ?_⟩
  rw [List.length_take, List.length_cons] at hj
  rw [List.getElem?_take, if_pos (by omega)]
  cases j with
  | zero => rw [List.getElem?_cons_zero, show ((nx + 1) % 9 + 8 - 0) % 9 = nx by omega]
  | succ j =>
    rw [List.getElem?_cons_succ, h.2 j (by omega), show ((nx + 1) % 9 + 8 - (j + 1)) % 9 = (nx + 8 - j) % 9 by omega]
theorem ct_keep {G : Gt} {h : Hp} {a : Nat} {L : List Wd} {v : Wd} (hp : HasPs h a L v) : Mt G 1 0 0 mX6_keep [.ref a] h (fun r h' => r = none ∧ HasP h' a ((v :: L).take 8) ∧ Fm a (a + 109) h h') := by
  refine Mt.of (by decide +kernel) (Nat.le_of_ble_eq_true rfl) ?_
  obtain ⟨nx, ws, ⟨p1, p2, p3, p4⟩, q, ev⟩ := hp
  have q1 := q.1
  have e1 : nI (nx + 1) - nI (nx + 1) / 9 * 9 = nI ((nx + 1) % 9) := pk_rem (d := 9) (by omega) (by decide) (by decide)
  have e2 : (if (8 : Int32) < nI (L.length + 1) then (8 : Int32) else nI (L.length + 1)) = nI (((v :: L).take 8).length) := by
    rw [List.length_take, List.length_cons]
    by_cases c : 8 < L.length + 1
    · rw [if_pos (show (8 : Int32) < nI (L.length + 1) from nI_lt (a := 8) c (by omega)), show min 8 (L.length + 1) = 8 by omega]; rfl
    · rw [if_neg (show ¬ (8 : Int32) < nI (L.length + 1) from nI_nlt (a := 8) (by omega) (by decide)), show min 8 (L.length + 1) = L.length + 1 by omega]
  refine bX6_keep_0 (by first | decide | omega) ?_
  simp +decide (disch := omega) only [lv_args, Value.category, sto2, List.filter_cons, List.filter_nil, if_true, if_false, tPush, tIld, tLld, tAld, tIst, tAst, tLst, tInc, tB, tBn, tU, tLB, tLBn, tLS, tI2l, tL2i, tLcmp, tDup, tPop, tDup2, tDupx1, tIf, tIf2, tNul, tAcm, tRetI, tRetZ, tRetC, tRetL, tRetV, tRetA, tGetf, tPutf, isI, isL, isA, isZ, tXald, tXast, tZast, tJald, tJast, tRald, tLen, tCV0, tCV1, tCV2, tCV3, tCV4, tCV5, tCS1, tCS2, tCS3, tCS4, tCS5, tCS6, tCS7, tCpyI, tCpyJ, tMax, tMin, tAbs, tSw, tTab, tLook, tLk, Int32.reduceAdd, List.map_cons, List.map_nil, List.sum_cons, List.sum_nil, List.getElem?_cons_succ, List.getElem?_cons_zero, List.set_cons_succ, List.set_cons_zero, true_and, and_true, Option.some.injEq, Sum.inl.injEq, Sum.inr.injEq, Prod.mk.injEq, Value.int.injEq, Value.ref.injEq, Value.long.injEq, exists_eq', Option.toList_some, Option.toList_none, List.cons_append, List.nil_append, Bool.not_false, Bool.not_true, Bool.and_true, Bool.and_false, Bool.true_and, Bool.false_and, hS_s, hS_n, ne_eq, not_false_eq_true, Classical.not_not, Nat.reduceAdd, eq_self, forall_const, false_implies, true_implies, not_true_eq_false, implies_true, lkk_s, lkk_n, sto1_e, sto1_s, sto1_i, sto1_r, sto1_l, stf_e, stf_i, stf_r, stf_l, p1, nI_1, e1, e2, set2]
  refine bX6_keep_25 ?_
  simp +decide (disch := omega) only [lv_args, Value.category, sto2, List.filter_cons, List.filter_nil, if_true, if_false, tPush, tIld, tLld, tAld, tIst, tAst, tLst, tInc, tB, tBn, tU, tLB, tLBn, tLS, tI2l, tL2i, tLcmp, tDup, tPop, tDup2, tDupx1, tIf, tIf2, tNul, tAcm, tRetI, tRetZ, tRetC, tRetL, tRetV, tRetA, tGetf, tPutf, isI, isL, isA, isZ, tXald, tXast, tZast, tJald, tJast, tRald, tLen, tCV0, tCV1, tCV2, tCV3, tCV4, tCV5, tCS1, tCS2, tCS3, tCS4, tCS5, tCS6, tCS7, tCpyI, tCpyJ, tMax, tMin, tAbs, tSw, tTab, tLook, tLk, Int32.reduceAdd, List.map_cons, List.map_nil, List.sum_cons, List.sum_nil, List.getElem?_cons_succ, List.getElem?_cons_zero, List.set_cons_succ, List.set_cons_zero, true_and, and_true, Option.some.injEq, Sum.inl.injEq, Sum.inr.injEq, Prod.mk.injEq, Value.int.injEq, Value.ref.injEq, Value.long.injEq, exists_eq', Option.toList_some, Option.toList_none, List.cons_append, List.nil_append, Bool.not_false, Bool.not_true, Bool.and_true, Bool.and_false, Bool.true_and, Bool.false_and, hS_s, hS_n, ne_eq, not_false_eq_true, Classical.not_not, Nat.reduceAdd, eq_self, forall_const, false_implies, true_implies, not_true_eq_false, implies_true, lkk_s, lkk_n, sto1_e, sto1_s, sto1_i, sto1_r, sto1_l, stf_e, stf_i, stf_r, stf_l, p1, nI_1, e1, e2, set2]
  exact ⟨⟨(nx + 1) % 9, ws, ⟨hS_s, (hS_n (by omega)).trans p2, fun i hi => (p3 i hi).frame (a := 0) (Fm.set (lo := a) (hi := a) (by omega) (by omega)) (by omega), Nat.mod_lt _ (by decide)⟩, by rw [← ev]; exact q.keep p4⟩, Fm.set (by omega) (by omega)⟩
theorem ct_forget {G : Gt} {h : Hp} {a : Nat} {L : List Wd} (hp : HasP h a L) : Mt G 1 0 0 mX6_forget [.ref a] h (fun r h' => r = none ∧ HasP h' a [] ∧ Fm a (a + 109) h h') := by
  refine Mt.of (by decide +kernel) (Nat.le_of_ble_eq_true rfl) ?_
  obtain ⟨nx, ws, ⟨p1, p2, p3, p4⟩, q⟩ := hp
  refine bX6_forget_0 ?_
  simp +decide (disch := omega) only [lv_args, Value.category, sto2, List.filter_cons, List.filter_nil, if_true, if_false, tPush, tIld, tLld, tAld, tIst, tAst, tLst, tInc, tB, tBn, tU, tLB, tLBn, tLS, tI2l, tL2i, tLcmp, tDup, tPop, tDup2, tDupx1, tIf, tIf2, tNul, tAcm, tRetI, tRetZ, tRetC, tRetL, tRetV, tRetA, tGetf, tPutf, isI, isL, isA, isZ, tXald, tXast, tZast, tJald, tJast, tRald, tLen, tCV0, tCV1, tCV2, tCV3, tCV4, tCV5, tCS1, tCS2, tCS3, tCS4, tCS5, tCS6, tCS7, tCpyI, tCpyJ, tMax, tMin, tAbs, tSw, tTab, tLook, tLk, Int32.reduceAdd, List.map_cons, List.map_nil, List.sum_cons, List.sum_nil, List.getElem?_cons_succ, List.getElem?_cons_zero, List.set_cons_succ, List.set_cons_zero, true_and, and_true, Option.some.injEq, Sum.inl.injEq, Sum.inr.injEq, Prod.mk.injEq, Value.int.injEq, Value.ref.injEq, Value.long.injEq, exists_eq', Option.toList_some, Option.toList_none, List.cons_append, List.nil_append, Bool.not_false, Bool.not_true, Bool.and_true, Bool.and_false, Bool.true_and, Bool.false_and, hS_s, hS_n, ne_eq, not_false_eq_true, Classical.not_not, Nat.reduceAdd, eq_self, forall_const, false_implies, true_implies, not_true_eq_false, implies_true, lkk_s, lkk_n, sto1_e, sto1_s, sto1_i, sto1_r, sto1_l, stf_e, stf_i, stf_r, stf_l, p1]
  exact ⟨⟨nx, ws, ⟨hS_s, (hS_n (by omega)).trans p2, fun i hi => (p3 i hi).frame (a := 0) (Fm.set (lo := a) (hi := a) (by omega) (by omega)) (by omega), p4⟩, Nat.zero_le _, fun j hj => absurd hj (Nat.not_lt_zero j)⟩, Fm.set (by omega) (by omega)⟩
theorem ct_takeBack_no {G : Gt} {h : Hp} {a b : Nat} (hp : HasP h a []) : Mt G 2 0 0 mX6_takeBack [.ref a, .ref b] h (fun r h' => r = some (.int (-1)) ∧ h' = h) := by
  refine Mt.of (by decide +kernel) (Nat.le_of_ble_eq_true rfl) ?_
  obtain ⟨nx, ws, ⟨p1, p2, p3, p4⟩, q⟩ := hp
  have e0 : nI ([] : List Wd).length = 0 := rfl
  refine bX6_takeBack_0 ?_
  simp +decide (disch := omega) only [lv_args, Value.category, sto2, List.filter_cons, List.filter_nil, if_true, if_false, tPush, tIld, tLld, tAld, tIst, tAst, tLst, tInc, tB, tBn, tU, tLB, tLBn, tLS, tI2l, tL2i, tLcmp, tDup, tPop, tDup2, tDupx1, tIf, tIf2, tNul, tAcm, tRetI, tRetZ, tRetC, tRetL, tRetV, tRetA, tGetf, tPutf, isI, isL, isA, isZ, tXald, tXast, tZast, tJald, tJast, tRald, tLen, tCV0, tCV1, tCV2, tCV3, tCV4, tCV5, tCS1, tCS2, tCS3, tCS4, tCS5, tCS6, tCS7, tCpyI, tCpyJ, tMax, tMin, tAbs, tSw, tTab, tLook, tLk, Int32.reduceAdd, List.map_cons, List.map_nil, List.sum_cons, List.sum_nil, List.getElem?_cons_succ, List.getElem?_cons_zero, List.set_cons_succ, List.set_cons_zero, true_and, and_true, Option.some.injEq, Sum.inl.injEq, Sum.inr.injEq, Prod.mk.injEq, Value.int.injEq, Value.ref.injEq, Value.long.injEq, exists_eq', Option.toList_some, Option.toList_none, List.cons_append, List.nil_append, Bool.not_false, Bool.not_true, Bool.and_true, Bool.and_false, Bool.true_and, Bool.false_and, hS_s, hS_n, ne_eq, not_false_eq_true, Classical.not_not, Nat.reduceAdd, eq_self, forall_const, false_implies, true_implies, not_true_eq_false, implies_true, lkk_s, lkk_n, sto1_e, sto1_s, sto1_i, sto1_r, sto1_l, stf_e, stf_i, stf_r, stf_l, p1, e0]
  refine bX6_takeBack_7 ?_
  simp +decide (disch := omega) only [lv_args, Value.category, sto2, List.filter_cons, List.filter_nil, if_true, if_false, tPush, tIld, tLld, tAld, tIst, tAst, tLst, tInc, tB, tBn, tU, tLB, tLBn, tLS, tI2l, tL2i, tLcmp, tDup, tPop, tDup2, tDupx1, tIf, tIf2, tNul, tAcm, tRetI, tRetZ, tRetC, tRetL, tRetV, tRetA, tGetf, tPutf, isI, isL, isA, isZ, tXald, tXast, tZast, tJald, tJast, tRald, tLen, tCV0, tCV1, tCV2, tCV3, tCV4, tCV5, tCS1, tCS2, tCS3, tCS4, tCS5, tCS6, tCS7, tCpyI, tCpyJ, tMax, tMin, tAbs, tSw, tTab, tLook, tLk, Int32.reduceAdd, List.map_cons, List.map_nil, List.sum_cons, List.sum_nil, List.getElem?_cons_succ, List.getElem?_cons_zero, List.set_cons_succ, List.set_cons_zero, true_and, and_true, Option.some.injEq, Sum.inl.injEq, Sum.inr.injEq, Prod.mk.injEq, Value.int.injEq, Value.ref.injEq, Value.long.injEq, exists_eq', Option.toList_some, Option.toList_none, List.cons_append, List.nil_append, Bool.not_false, Bool.not_true, Bool.and_true, Bool.and_false, Bool.true_and, Bool.false_and, hS_s, hS_n, ne_eq, not_false_eq_true, Classical.not_not, Nat.reduceAdd, eq_self, forall_const, false_implies, true_implies, not_true_eq_false, implies_true, lkk_s, lkk_n, sto1_e, sto1_s, sto1_i, sto1_r, sto1_l, stf_e, stf_i, stf_r, stf_l, p1, e0]
  try rfl
theorem ct_takeBack {G : Gt} {h : Hp} {b : Nat} {L : List Wd} {v w : Wd} (hp : HasP h (b + 12) (v :: L)) (hb : HasW h b w) : Mt G 2 0 0 mX6_takeBack [.ref (b + 12), .ref b] h (fun r h' => r = some (.int (nI L.length)) ∧ HasP h' (b + 12) L ∧ HasW h' b v ∧ Fm b (b + 121) h h') := by
  refine Mt.of (by decide +kernel) (Nat.le_of_ble_eq_true rfl) ?_
  obtain ⟨nx, ws, ⟨p1, p2, p3, p4⟩, q⟩ := hp
  have q1 : L.length + 1 ≤ 8 := q.1
  have e0 : (nI (L.length + 1) = 0) = False := eq_false (fun z => by have := (nI_eq (b := 0) (by omega) (by decide)).mp z; omega)
  have e9 : nI nx + 9 = nI (nx + 9) := nI_add nx 9
  have e8 : nI (nx + 9) - 1 = nI (nx + 8) := pk_sub (b := 1) (by omega)
  have em : nI (nx + 8) - nI (nx + 8) / 9 * 9 = nI ((nx + 8) % 9) := pk_rem (d := 9) (by omega) (by decide) (by decide)
  have el : nI (L.length + 1) - 1 = nI L.length := pk_sub (b := 1) (by omega)
  have hm : (nx + 8) % 9 < 9 := Nat.mod_lt _ (by decide)
  have hv : ws ((nx + 8) % 9) = v := by
    have := q.2 0 (Nat.zero_lt_succ _)
    rw [List.getElem?_cons_zero, Nat.sub_zero] at this
    exact (Option.some.inj this).symm
  have hPL : PL ((nx + 8) % 9) ws L := ⟨by omega, fun j hj => by
    have := q.2 (j + 1) (Nat.succ_lt_succ hj)
    rw [List.getElem?_cons_succ] at this
    rw [this, show ((nx + 8) % 9 + 8 - j) % 9 = (nx + 8 - (j + 1)) % 9 by omega]⟩
  have p1' : h.2 (b + 12) = some (.inl (5, [.ref (b + 12 + 1), .int (nI nx), .int (nI (L.length + 1))])) := p1
  generalize hM : (nx + 8) % 9 = M at *
  have hin : vp_in (nI M) 9 := vp_in_nI hm (by omega)
  have hc : (nI M).toNatClampNeg = M := nI_clamp (by omega)
  have fr1 : Fm (b + 12) (b + 12) h (hSet h (b + 12) (.inl (5, [.ref (b + 12 + 1), .int (nI M), .int (nI (L.length + 1))]))) := Fm.set (by omega) (by omega)
  have hcp := ct_copyFrom (G := G) (hb.frame (a := 0) fr1 (by omega)) ((p3 M hm).frame (a := 0) fr1 (by omega)) (by omega)
  have c1 := hb.1
  refine bX6_takeBack_0 ?_
  simp +decide (disch := omega) only [lv_args, Value.category, sto2, List.filter_cons, List.filter_nil, if_true, if_false, tPush, tIld, tLld, tAld, tIst, tAst, tLst, tInc, tB, tBn, tU, tLB, tLBn, tLS, tI2l, tL2i, tLcmp, tDup, tPop, tDup2, tDupx1, tIf, tIf2, tNul, tAcm, tRetI, tRetZ, tRetC, tRetL, tRetV, tRetA, tGetf, tPutf, isI, isL, isA, isZ, tXald, tXast, tZast, tJald, tJast, tRald, tLen, tCV0, tCV1, tCV2, tCV3, tCV4, tCV5, tCS1, tCS2, tCS3, tCS4, tCS5, tCS6, tCS7, tCpyI, tCpyJ, tMax, tMin, tAbs, tSw, tTab, tLook, tLk, Int32.reduceAdd, List.map_cons, List.map_nil, List.sum_cons, List.sum_nil, List.getElem?_cons_succ, List.getElem?_cons_zero, List.set_cons_succ, List.set_cons_zero, true_and, and_true, Option.some.injEq, Sum.inl.injEq, Sum.inr.injEq, Prod.mk.injEq, Value.int.injEq, Value.ref.injEq, Value.long.injEq, exists_eq', Option.toList_some, Option.toList_none, List.cons_append, List.nil_append, Bool.not_false, Bool.not_true, Bool.and_true, Bool.and_false, Bool.true_and, Bool.false_and, hS_s, hS_n, ne_eq, not_false_eq_true, Classical.not_not, Nat.reduceAdd, eq_self, forall_const, false_implies, true_implies, not_true_eq_false, implies_true, lkk_s, lkk_n, sto1_e, sto1_s, sto1_i, sto1_r, sto1_l, stf_e, stf_i, stf_r, stf_l, p1', p2, e0, e9, e8, em, hin, hc, vrf_s, c1]
  refine bX6_takeBack_9 ?_
  simp +decide (disch := omega) only [lv_args, Value.category, sto2, List.filter_cons, List.filter_nil, if_true, if_false, tPush, tIld, tLld, tAld, tIst, tAst, tLst, tInc, tB, tBn, tU, tLB, tLBn, tLS, tI2l, tL2i, tLcmp, tDup, tPop, tDup2, tDupx1, tIf, tIf2, tNul, tAcm, tRetI, tRetZ, tRetC, tRetL, tRetV, tRetA, tGetf, tPutf, isI, isL, isA, isZ, tXald, tXast, tZast, tJald, tJast, tRald, tLen, tCV0, tCV1, tCV2, tCV3, tCV4, tCV5, tCS1, tCS2, tCS3, tCS4, tCS5, tCS6, tCS7, tCpyI, tCpyJ, tMax, tMin, tAbs, tSw, tTab, tLook, tLk, Int32.reduceAdd, List.map_cons, List.map_nil, List.sum_cons, List.sum_nil, List.getElem?_cons_succ, List.getElem?_cons_zero, List.set_cons_succ, List.set_cons_zero, true_and, and_true, Option.some.injEq, Sum.inl.injEq, Sum.inr.injEq, Prod.mk.injEq, Value.int.injEq, Value.ref.injEq, Value.long.injEq, exists_eq', Option.toList_some, Option.toList_none, List.cons_append, List.nil_append, Bool.not_false, Bool.not_true, Bool.and_true, Bool.and_false, Bool.true_and, Bool.false_and, hS_s, hS_n, ne_eq, not_false_eq_true, Classical.not_not, Nat.reduceAdd, eq_self, forall_const, false_implies, true_implies, not_true_eq_false, implies_true, lkk_s, lkk_n, sto1_e, sto1_s, sto1_i, sto1_r, sto1_l, stf_e, stf_i, stf_r, stf_l, p1', p2, e0, e9, e8, em, hin, hc, vrf_s, c1]
  refine calq (Nat.le_of_ble_eq_true rfl) (by first | decide | omega) (hcp) ?_
  rintro _ h2 ⟨rfl, hW2, hF2⟩
  have o2 : h2.2 (b + 12) = some (.inl (5, [.ref (b + 12 + 1), .int (nI M), .int (nI (L.length + 1))])) := (hF2.2 _ (by omega)).trans hS_s
  refine bX6_takeBack_38 ?_
  simp +decide (disch := omega) only [lv_args, Value.category, sto2, List.filter_cons, List.filter_nil, if_true, if_false, tPush, tIld, tLld, tAld, tIst, tAst, tLst, tInc, tB, tBn, tU, tLB, tLBn, tLS, tI2l, tL2i, tLcmp, tDup, tPop, tDup2, tDupx1, tIf, tIf2, tNul, tAcm, tRetI, tRetZ, tRetC, tRetL, tRetV, tRetA, tGetf, tPutf, isI, isL, isA, isZ, tXald, tXast, tZast, tJald, tJast, tRald, tLen, tCV0, tCV1, tCV2, tCV3, tCV4, tCV5, tCS1, tCS2, tCS3, tCS4, tCS5, tCS6, tCS7, tCpyI, tCpyJ, tMax, tMin, tAbs, tSw, tTab, tLook, tLk, Int32.reduceAdd, List.map_cons, List.map_nil, List.sum_cons, List.sum_nil, List.getElem?_cons_succ, List.getElem?_cons_zero, List.set_cons_succ, List.set_cons_zero, true_and, and_true, Option.some.injEq, Sum.inl.injEq, Sum.inr.injEq, Prod.mk.injEq, Value.int.injEq, Value.ref.injEq, Value.long.injEq, exists_eq', Option.toList_some, Option.toList_none, List.cons_append, List.nil_append, Bool.not_false, Bool.not_true, Bool.and_true, Bool.and_false, Bool.true_and, Bool.false_and, hS_s, hS_n, ne_eq, not_false_eq_true, Classical.not_not, Nat.reduceAdd, eq_self, forall_const, false_implies, true_implies, not_true_eq_false, implies_true, lkk_s, lkk_n, sto1_e, sto1_s, sto1_i, sto1_r, sto1_l, stf_e, stf_i, stf_r, stf_l, o2, el, set2]
  refine ⟨⟨M, ws, ⟨hS_s, ?_, fun i hi => ?_, hm⟩, hPL⟩, ?_, ?_⟩
  · rw [hS_n (by omega), hF2.2 _ (by omega), hS_n (by omega)]; exact p2
  · exact (((p3 i hi).frame (a := 0) fr1 (by omega)).frame (a := 0) hF2 (by omega)).frame (a := 0) (Fm.set (lo := b + 12) (hi := b + 12) (by omega) (by omega)) (by omega)
  · rw [← hv]; exact hW2.frame (a := 0) (Fm.set (lo := b + 12) (hi := b + 12) (by omega) (by omega)) (by omega)
  · exact (fr1.wide (by omega) (by omega)).trans ((hF2.wide (by omega) (by omega)).trans (Fm.set (by omega) (by omega)))

