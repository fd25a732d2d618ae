/-! ===== the class's Book: reading ===== -/
def uP (pf : Nat → Nat → Int32) (n : Nat) (g : Nat → Int32) : Nat → Nat → Int32 := fun i => if i = n then g else pf i
theorem uP_s {pf : Nat → Nat → Int32} {n : Nat} {g : Nat → Int32} : uP pf n g n = g := if_pos rfl
theorem uP_n {pf : Nat → Nat → Int32} {n i : Nat} {g : Nat → Int32} (h : i ≠ n) : uP pf n g i = pf i := if_neg h
theorem uP_2 {pf : Nat → Nat → Int32} {n : Nat} {g g' : Nat → Int32} : uP (uP pf n g) n g' = uP pf n g' := by
  funext i; unfold uP; split <;> rfl
theorem uP_id {pf : Nat → Nat → Int32} {n : Nat} : uP pf n (pf n) = pf := by
  funext i; unfold uP; split
  · rename_i e; rw [e]
  · rfl
/-- tokens at b, the Book at b + 18, the World at b + 74; n lines so far, their acts and parts -/
def HasQ (G : Gt) (h : Hp) (b t : Nat) (x : Tx) (st : St) (n : Nat) (wf : Nat → Option Nat) (pf : Nat → Nat → Int32) (w : Wd) : Prop := h.2 (b + 18) = some (.inl (0, [.ref b, .ref (b + 19), .ref (b + 20), .int (nI n), .ref (b + 61), .ref (b + 73)])) ∧ HasK G h b t x st ∧ HasW h (b + 74) w ∧ h.2 (b + 19) = some (.inr (.inr (.inr (0, 40, wf)))) ∧ h.2 (b + 20) = some (.inr (.inr (.inr (3, 40, fun i => some (b + 21 + i))))) ∧ ∀ i, i < 40 → h.2 (b + 21 + i) = some (.inr (.inl (0, 4, pf i)))
theorem HasQ.c0 {G : Gt} {h : Hp} {b t n : Nat} {x : Tx} {st : St} {w : Wd} {wf : Nat → Option Nat} {pf : Nat → Nat → Int32} (hR : HasQ G h b t x st n wf pf w) : h.2 b = some (.inl (8, [.ref t, .ref (b + 1), .ref (b + 2), .ref (b + 3), .ref (b + 4), .int (nI (x.2.2.2 + 1)), .int (nI st.1), .int (nI (cK (tkx x st.1).1)), .ref (adW G (wxT (tkx x st.1))), .int (nI st.2.1), .int (nI st.2.2)])) := hR.2.1.2.2.2.1
/-- the same but for the tokens and the Book -/
def Fb (b : Nat) (h h' : Hp) : Prop := h'.1 = h.1 ∧ ∀ q : Nat, (q < b ∨ (b + 4 < q ∧ (q < b + 18 ∨ b + 60 < q))) → h'.2 q = h.2 q
theorem Fb.rf {b : Nat} {h : Hp} : Fb b h h := ⟨rfl, fun _ _ => rfl⟩
theorem Fb.trans {b : Nat} {h h1 h2 : Hp} (p : Fb b h h1) (q : Fb b h1 h2) : Fb b h h2 := ⟨q.1.trans p.1, fun i x => (q.2 i x).trans (p.2 i x)⟩
theorem Fm.toB {b lo hi : Nat} {h h' : Hp} (p : Fm lo hi h h') (hd : (b ≤ lo ∧ hi ≤ b + 4) ∨ (b + 18 ≤ lo ∧ hi ≤ b + 60)) : Fb b h h' := ⟨p.1, fun q x => p.2 q (by omega)⟩
theorem HasQ.put {G : Gt} {h : Hp} {b t n : Nat} {x : Tx} {st st' : St} {w : Wd} {wf : Nat → Option Nat} {pf : Nat → Nat → Int32} (hR : HasQ G h b t x st n wf pf w) (h1 : st'.1 ≤ x.2.2.2) (h2 : st'.2.1 < 5) : HasQ G (hSet h b (oK G b t x st')) b t x st' n wf pf w ∧ Fb b h (hSet h b (oK G b t x st')) := by
  have hF : Fm b b h (hSet h b (oK G b t x st')) := Fm.set (by omega) (by omega)
  exact ⟨⟨(hS_n (by omega)).trans hR.1, hR.2.1.set h1 h2, hR.2.2.1.frame (a := 0) hF (Or.inr (by omega)), (hS_n (by omega)).trans hR.2.2.2.1, (hS_n (by omega)).trans hR.2.2.2.2.1, fun i hi => (hS_n (by omega)).trans (hR.2.2.2.2.2 i hi)⟩, hF.toB (by omega)⟩
theorem HasQ.row {G : Gt} {h : Hp} {b t n k : Nat} {x : Tx} {st : St} {w : Wd} {wf : Nat → Option Nat} {pf : Nat → Nat → Int32} (hR : HasQ G h b t x st n wf pf w) (hk : k < 40) (g : Nat → Int32) : HasQ G (hSet h (b + 21 + k) (.inr (.inl (0, 4, g)))) b t x st n wf (uP pf k g) w ∧ Fb b h (hSet h (b + 21 + k) (.inr (.inl (0, 4, g)))) := by
  have hF : Fm (b + 21) (b + 60) h (hSet h (b + 21 + k) (.inr (.inl (0, 4, g)))) := Fm.set (by omega) (by omega)
  refine ⟨⟨(hS_n (by omega)).trans hR.1, hR.2.1.frame hF (by omega), hR.2.2.1.frame (a := 0) hF (Or.inr (by omega)), (hS_n (by omega)).trans hR.2.2.2.1, (hS_n (by omega)).trans hR.2.2.2.2.1, fun i hi => ?_⟩, hF.toB (by omega)⟩
  by_cases e : i = k
  · subst e; rw [hS_s, uP_s]
  · rw [hS_n (by omega), uP_n e]; exact hR.2.2.2.2.2 i hi
theorem HasQ.act {G : Gt} {h : Hp} {b t n : Nat} {x : Tx} {st : St} {w : Wd} {wf : Nat → Option Nat} {pf : Nat → Nat → Int32} (hR : HasQ G h b t x st n wf pf w) (g : Nat → Option Nat) : HasQ G (hSet h (b + 19) (.inr (.inr (.inr (0, 40, g))))) b t x st n g pf w ∧ Fb b h (hSet h (b + 19) (.inr (.inr (.inr (0, 40, g))))) := by
  have hF : Fm (b + 19) (b + 19) h (hSet h (b + 19) (.inr (.inr (.inr (0, 40, g))))) := Fm.set (by omega) (by omega)
  exact ⟨⟨(hS_n (by omega)).trans hR.1, hR.2.1.frame hF (by omega), hR.2.2.1.frame (a := 0) hF (Or.inr (by omega)), hS_s, (hS_n (by omega)).trans hR.2.2.2.2.1, fun i hi => (hS_n (by omega)).trans (hR.2.2.2.2.2 i hi)⟩, hF.toB (by omega)⟩
theorem HasQ.num {G : Gt} {h : Hp} {b t n n' : Nat} {x : Tx} {st : St} {w : Wd} {wf : Nat → Option Nat} {pf : Nat → Nat → Int32} (hR : HasQ G h b t x st n wf pf w) : HasQ G (hSet h (b + 18) (.inl (0, [.ref b, .ref (b + 19), .ref (b + 20), .int (nI n'), .ref (b + 61), .ref (b + 73)]))) b t x st n' wf pf w ∧ Fb b h (hSet h (b + 18) (.inl (0, [.ref b, .ref (b + 19), .ref (b + 20), .int (nI n'), .ref (b + 61), .ref (b + 73)]))) := by
  have hF : Fm (b + 18) (b + 18) h (hSet h (b + 18) (.inl (0, [.ref b, .ref (b + 19), .ref (b + 20), .int (nI n'), .ref (b + 61), .ref (b + 73)]))) := Fm.set (by omega) (by omega)
  exact ⟨⟨hS_s, hR.2.1.frame hF (by omega), hR.2.2.1.frame (a := 0) hF (Or.inr (by omega)), (hS_n (by omega)).trans hR.2.2.2.1, (hS_n (by omega)).trans hR.2.2.2.2.1, fun i hi => (hS_n (by omega)).trans (hR.2.2.2.2.2 i hi)⟩, hF.toB (by omega)⟩
def QQ (G : Gt) (h : Hp) (b t : Nat) (x : Tx) (st : St) (n : Nat) (wf : Nat → Option Nat) (pf : Nat → Nat → Int32) (w : Wd) (P : Option Value → Prop) : QT := fun r h' => P r ∧ HasQ G h' b t x st n wf pf w ∧ Fb b h h'
section BookReads
variable {G : Gt} {h : Hp} {b t n : Nat} {x : Tx} {st : St} {w : Wd} {wf : Nat → Option Nat} {pf : Nat → Nat → Int32}
theorem cq_step (hR : HasQ G h b t x st n wf pf w) : Mt G 1 0 0 mX9_step [.ref b] h (QQ G h b t x (stp x st) n wf pf w (fun r => r = none)) :=
  (ct_step hR.2.1).post (by rintro v h' ⟨rfl, rfl⟩; exact ⟨rfl, hR.put (stp_le hR.2.1.2.1).1 (by rw [(stp_le hR.2.1.2.1).2]; exact hR.2.1.2.2.1)⟩)
theorem cq_fail {c : Nat} (hR : HasQ G h b t x st n wf pf w) (hc : c < 5) : Mt G 1 0 0 mX9_fail [.ref b, .int (nI c)] h (QQ G h b t x (flt x c st) n wf pf w (fun r => r = none)) :=
  (ct_fail hR.2.1 hc).post (by rintro v h' ⟨rfl, rfl⟩; exact ⟨rfl, hR.put (by rw [flt_le]; exact hR.2.1.2.1) (flt_c hR.2.1.2.2.1 hc)⟩)
theorem cq_takeSign {c : Nat} (hR : HasQ G h b t x st n wf pf w) (hc : c < 256) : Mt G 2 0 0 mX9_takeSign [.ref b, .int (nI c)] h (QQ G h b t x (tSg x c st) n wf pf w (fun r => r = none)) :=
  (ct_takeSign hR.2.1 hc).post (by rintro v h' ⟨rfl, rfl⟩; exact ⟨rfl, hR.put (tSg_le hR.2.1.2.1 hR.2.1.2.2.1).1 (tSg_le hR.2.1.2.1 hR.2.1.2.2.1).2⟩)
theorem cq_takeEnd (hR : HasQ G h b t x st n wf pf w) : Mt G 2 0 0 mX9_takeEnd [.ref b] h (QQ G h b t x (tEn x st) n wf pf w (vI0 (tEn x st) (nI (vEn x st)))) :=
  (ct_takeEnd hR.2.1).post (by rintro v h' ⟨u, rfl, hu, rfl⟩; exact ⟨⟨u, rfl, hu⟩, hR.put (or_le hR.2.1.2.1 hR.2.1.2.2.1).1 (or_le hR.2.1.2.1 hR.2.1.2.2.1).2⟩)
theorem cq_takePlace (hR : HasQ G h b t x st n wf pf w) : Mt G 2 0 0 mX9_takePlace [.ref b] h (QQ G h b t x (tPl x st) n wf pf w (vI0 (tPl x st) (nI (vPl x st)))) :=
  (ct_takePlace hR.2.1).post (by rintro v h' ⟨u, rfl, hu, rfl⟩; exact ⟨⟨u, rfl, hu⟩, hR.put (or_le hR.2.1.2.1 hR.2.1.2.2.1).1 (or_le hR.2.1.2.1 hR.2.1.2.2.1).2⟩)
theorem cq_takeNumber {lo hi : Nat} (hR : HasQ G h b t x st n wf pf w) (h1 : lo < 1000) (h2 : hi < 1000) : Mt G 2 0 0 mX9_takeNumber [.ref b, .int (nI lo), .int (nI hi)] h (QQ G h b t x (tNm x lo hi st) n wf pf w (vI0 (tNm x lo hi st) (nI (tkx x st.1).2.2.2))) :=
  (ct_takeNumber hR.2.1 h1 h2).post (by rintro v h' ⟨u, rfl, hu, rfl⟩; exact ⟨⟨u, rfl, hu⟩, hR.put (tNm_le hR.2.1.2.1 hR.2.1.2.2.1).1 (tNm_le hR.2.1.2.1 hR.2.1.2.2.1).2⟩)
theorem cq_personHere (hR : HasQ G h b t x st n wf pf w) (hpe : wPe w ≤ 8) : Mt G 2 0 0 mX9_personHere [.ref b, .ref (b + 74)] h (QQ G h b t x (pHr x w st) n wf pf w (vI0 (pHr x w st) (vPr x w st))) :=
  (ct_personHere hR.2.1 hR.2.2.1 hpe).post (by rintro v h' ⟨u, rfl, hu, rfl⟩; exact ⟨⟨u, rfl, hu⟩, hR.put (by rw [(pHr_le hR.2.1.2.2.1).1]; exact hR.2.1.2.1) (pHr_le hR.2.1.2.2.1).2⟩)
theorem cq_thingHere (hR : HasQ G h b t x st n wf pf w) (hth : wTh w ≤ 6) : Mt G 2 0 0 mX9_thingHere [.ref b, .ref (b + 74)] h (QQ G h b t x (tHr x w st) n wf pf w (vI0 (tHr x w st) (vTr x w st))) :=
  (ct_thingHere hR.2.1 hR.2.2.1 hth).post (by rintro v h' ⟨u, rfl, hu, rfl⟩; exact ⟨⟨u, rfl, hu⟩, hR.put (by rw [(tHr_le hR.2.1.2.2.1).1]; exact hR.2.1.2.1) (tHr_le hR.2.1.2.2.1).2⟩)
theorem cq_takePerson (hR : HasQ G h b t x st n wf pf w) (hpe : wPe w ≤ 8) : Mt G 3 0 0 mX1_takePerson [.ref (b + 18), .ref (b + 74)] h (QQ G h b t x (stp x (pHr x w st)) n wf pf w (vI0 (stp x (pHr x w st)) (vPr x w st))) := by
  refine Mt.of (by decide +kernel) (Nat.le_of_ble_eq_true rfl) ?_
  have r0 := hR.1
  have k0 := hR.c0
  refine bX1_takePerson_0 ?_
  simp +decide (disch := omega) only [lv_args, Value.category, sto2, List.filter_cons, List.filter_nil, if_true, if_false, tPush, tIld, tLld, tAld, tIst, tAst, tLst, tInc, tB, tBn, tU, tLB, tLBn, tLS, tI2l, tL2i, tLcmp, tDup, tPop, tDup2, tDupx1, tIf, tIf2, tNul, tAcm, tRetI, tRetZ, tRetC, tRetL, tRetV, tRetA, tGetf, tPutf, isI, isL, isA, isZ, tXald, tXast, tZast, tJald, tJast, tRald, tLen, tCV0, tCV1, tCV2, tCV3, tCV4, tCV5, tCS1, tCS2, tCS3, tCS4, tCS5, tCS6, tCS7, tCpyI, tCpyJ, tMax, tMin, tAbs, tSw, tTab, tLook, tLk, Int32.reduceAdd, List.map_cons, List.map_nil, List.sum_cons, List.sum_nil, List.getElem?_cons_succ, List.getElem?_cons_zero, List.set_cons_succ, List.set_cons_zero, true_and, and_true, Option.some.injEq, Sum.inl.injEq, Sum.inr.injEq, Prod.mk.injEq, Value.int.injEq, Value.ref.injEq, Value.long.injEq, exists_eq', Option.toList_some, Option.toList_none, List.cons_append, List.nil_append, Bool.not_false, Bool.not_true, Bool.and_true, Bool.and_false, Bool.true_and, Bool.false_and, hS_s, hS_n, ne_eq, not_false_eq_true, Classical.not_not, Nat.reduceAdd, eq_self, forall_const, false_implies, true_implies, not_true_eq_false, implies_true, lkk_s, lkk_n, sto1_e, sto1_s, sto1_i, sto1_r, sto1_l, stf_e, stf_i, stf_r, stf_l, r0, k0]
  refine calq (Nat.le_of_ble_eq_true rfl) (by first | decide | omega) (cq_personHere hR hpe) ?_
  rintro v h2 ⟨⟨u, rfl, hu⟩, hR2, hF2⟩
  have r2 := hR2.1
  have k2 := hR2.c0
  refine bX1_takePerson_8 ?_
  simp +decide (disch := omega) only [lv_args, Value.category, sto2, List.filter_cons, List.filter_nil, if_true, if_false, tPush, tIld, tLld, tAld, tIst, tAst, tLst, tInc, tB, tBn, tU, tLB, tLBn, tLS, tI2l, tL2i, tLcmp, tDup, tPop, tDup2, tDupx1, tIf, tIf2, tNul, tAcm, tRetI, tRetZ, tRetC, tRetL, tRetV, tRetA, tGetf, tPutf, isI, isL, isA, isZ, tXald, tXast, tZast, tJald, tJast, tRald, tLen, tCV0, tCV1, tCV2, tCV3, tCV4, tCV5, tCS1, tCS2, tCS3, tCS4, tCS5, tCS6, tCS7, tCpyI, tCpyJ, tMax, tMin, tAbs, tSw, tTab, tLook, tLk, Int32.reduceAdd, List.map_cons, List.map_nil, List.sum_cons, List.sum_nil, List.getElem?_cons_succ, List.getElem?_cons_zero, List.set_cons_succ, List.set_cons_zero, true_and, and_true, Option.some.injEq, Sum.inl.injEq, Sum.inr.injEq, Prod.mk.injEq, Value.int.injEq, Value.ref.injEq, Value.long.injEq, exists_eq', Option.toList_some, Option.toList_none, List.cons_append, List.nil_append, Bool.not_false, Bool.not_true, Bool.and_true, Bool.and_false, Bool.true_and, Bool.false_and, hS_s, hS_n, ne_eq, not_false_eq_true, Classical.not_not, Nat.reduceAdd, eq_self, forall_const, false_implies, true_implies, not_true_eq_false, implies_true, lkk_s, lkk_n, sto1_e, sto1_s, sto1_i, sto1_r, sto1_l, stf_e, stf_i, stf_r, stf_l, r2, k2]
  refine calq (Nat.le_of_ble_eq_true rfl) (by first | decide | omega) (cq_step hR2) ?_
  rintro v h3 ⟨rfl, hR3, hF3⟩
  refine bX1_takePerson_16 ?_
  simp +decide (disch := omega) only [lv_args, Value.category, sto2, List.filter_cons, List.filter_nil, if_true, if_false, tPush, tIld, tLld, tAld, tIst, tAst, tLst, tInc, tB, tBn, tU, tLB, tLBn, tLS, tI2l, tL2i, tLcmp, tDup, tPop, tDup2, tDupx1, tIf, tIf2, tNul, tAcm, tRetI, tRetZ, tRetC, tRetL, tRetV, tRetA, tGetf, tPutf, isI, isL, isA, isZ, tXald, tXast, tZast, tJald, tJast, tRald, tLen, tCV0, tCV1, tCV2, tCV3, tCV4, tCV5, tCS1, tCS2, tCS3, tCS4, tCS5, tCS6, tCS7, tCpyI, tCpyJ, tMax, tMin, tAbs, tSw, tTab, tLook, tLk, Int32.reduceAdd, List.map_cons, List.map_nil, List.sum_cons, List.sum_nil, List.getElem?_cons_succ, List.getElem?_cons_zero, List.set_cons_succ, List.set_cons_zero, true_and, and_true, Option.some.injEq, Sum.inl.injEq, Sum.inr.injEq, Prod.mk.injEq, Value.int.injEq, Value.ref.injEq, Value.long.injEq, exists_eq', Option.toList_some, Option.toList_none, List.cons_append, List.nil_append, Bool.not_false, Bool.not_true, Bool.and_true, Bool.and_false, Bool.true_and, Bool.false_and, hS_s, hS_n, ne_eq, not_false_eq_true, Classical.not_not, Nat.reduceAdd, eq_self, forall_const, false_implies, true_implies, not_true_eq_false, implies_true, lkk_s, lkk_n, sto1_e, sto1_s, sto1_i, sto1_r, sto1_l, stf_e, stf_i, stf_r, stf_l, r2, k2]
  exact ⟨⟨u, rfl, fun z => hu (by rw [stp_0] at z; exact z)⟩, hR3, hF2.trans hF3⟩
theorem cq_takeThing (hR : HasQ G h b t x st n wf pf w) (hth : wTh w ≤ 6) : Mt G 3 0 0 mX1_takeThing [.ref (b + 18), .ref (b + 74)] h (QQ G h b t x (stp x (tHr x w st)) n wf pf w (vI0 (stp x (tHr x w st)) (vTr x w st))) := by
  refine Mt.of (by decide +kernel) (Nat.le_of_ble_eq_true rfl) ?_
  have r0 := hR.1
  have k0 := hR.c0
  refine bX1_takeThing_0 ?_
  simp +decide (disch := omega) only [lv_args, Value.category, sto2, List.filter_cons, List.filter_nil, if_true, if_false, tPush, tIld, tLld, tAld, tIst, tAst, tLst, tInc, tB, tBn, tU, tLB, tLBn, tLS, tI2l, tL2i, tLcmp, tDup, tPop, tDup2, tDupx1, tIf, tIf2, tNul, tAcm, tRetI, tRetZ, tRetC, tRetL, tRetV, tRetA, tGetf, tPutf, isI, isL, isA, isZ, tXald, tXast, tZast, tJald, tJast, tRald, tLen, tCV0, tCV1, tCV2, tCV3, tCV4, tCV5, tCS1, tCS2, tCS3, tCS4, tCS5, tCS6, tCS7, tCpyI, tCpyJ, tMax, tMin, tAbs, tSw, tTab, tLook, tLk, Int32.reduceAdd, List.map_cons, List.map_nil, List.sum_cons, List.sum_nil, List.getElem?_cons_succ, List.getElem?_cons_zero, List.set_cons_succ, List.set_cons_zero, true_and, and_true, Option.some.injEq, Sum.inl.injEq, Sum.inr.injEq, Prod.mk.injEq, Value.int.injEq, Value.ref.injEq, Value.long.injEq, exists_eq', Option.toList_some, Option.toList_none, List.cons_append, List.nil_append, Bool.not_false, Bool.not_true, Bool.and_true, Bool.and_false, Bool.true_and, Bool.false_and, hS_s, hS_n, ne_eq, not_false_eq_true, Classical.not_not, Nat.reduceAdd, eq_self, forall_const, false_implies, true_implies, not_true_eq_false, implies_true, lkk_s, lkk_n, sto1_e, sto1_s, sto1_i, sto1_r, sto1_l, stf_e, stf_i, stf_r, stf_l, r0, k0]
  refine calq (Nat.le_of_ble_eq_true rfl) (by first | decide | omega) (cq_thingHere hR hth) ?_
  rintro v h2 ⟨⟨u, rfl, hu⟩, hR2, hF2⟩
  have r2 := hR2.1
  have k2 := hR2.c0
  refine bX1_takeThing_8 ?_
  simp +decide (disch := omega) only [lv_args, Value.category, sto2, List.filter_cons, List.filter_nil, if_true, if_false, tPush, tIld, tLld, tAld, tIst, tAst, tLst, tInc, tB, tBn, tU, tLB, tLBn, tLS, tI2l, tL2i, tLcmp, tDup, tPop, tDup2, tDupx1, tIf, tIf2, tNul, tAcm, tRetI, tRetZ, tRetC, tRetL, tRetV, tRetA, tGetf, tPutf, isI, isL, isA, isZ, tXald, tXast, tZast, tJald, tJast, tRald, tLen, tCV0, tCV1, tCV2, tCV3, tCV4, tCV5, tCS1, tCS2, tCS3, tCS4, tCS5, tCS6, tCS7, tCpyI, tCpyJ, tMax, tMin, tAbs, tSw, tTab, tLook, tLk, Int32.reduceAdd, List.map_cons, List.map_nil, List.sum_cons, List.sum_nil, List.getElem?_cons_succ, List.getElem?_cons_zero, List.set_cons_succ, List.set_cons_zero, true_and, and_true, Option.some.injEq, Sum.inl.injEq, Sum.inr.injEq, Prod.mk.injEq, Value.int.injEq, Value.ref.injEq, Value.long.injEq, exists_eq', Option.toList_some, Option.toList_none, List.cons_append, List.nil_append, Bool.not_false, Bool.not_true, Bool.and_true, Bool.and_false, Bool.true_and, Bool.false_and, hS_s, hS_n, ne_eq, not_false_eq_true, Classical.not_not, Nat.reduceAdd, eq_self, forall_const, false_implies, true_implies, not_true_eq_false, implies_true, lkk_s, lkk_n, sto1_e, sto1_s, sto1_i, sto1_r, sto1_l, stf_e, stf_i, stf_r, stf_l, r2, k2]
  refine calq (Nat.le_of_ble_eq_true rfl) (by first | decide | omega) (cq_step hR2) ?_
  rintro v h3 ⟨rfl, hR3, hF3⟩
  refine bX1_takeThing_16 ?_
  simp +decide (disch := omega) only [lv_args, Value.category, sto2, List.filter_cons, List.filter_nil, if_true, if_false, tPush, tIld, tLld, tAld, tIst, tAst, tLst, tInc, tB, tBn, tU, tLB, tLBn, tLS, tI2l, tL2i, tLcmp, tDup, tPop, tDup2, tDupx1, tIf, tIf2, tNul, tAcm, tRetI, tRetZ, tRetC, tRetL, tRetV, tRetA, tGetf, tPutf, isI, isL, isA, isZ, tXald, tXast, tZast, tJald, tJast, tRald, tLen, tCV0, tCV1, tCV2, tCV3, tCV4, tCV5, tCS1, tCS2, tCS3, tCS4, tCS5, tCS6, tCS7, tCpyI, tCpyJ, tMax, tMin, tAbs, tSw, tTab, tLook, tLk, Int32.reduceAdd, List.map_cons, List.map_nil, List.sum_cons, List.sum_nil, List.getElem?_cons_succ, List.getElem?_cons_zero, List.set_cons_succ, List.set_cons_zero, true_and, and_true, Option.some.injEq, Sum.inl.injEq, Sum.inr.injEq, Prod.mk.injEq, Value.int.injEq, Value.ref.injEq, Value.long.injEq, exists_eq', Option.toList_some, Option.toList_none, List.cons_append, List.nil_append, Bool.not_false, Bool.not_true, Bool.and_true, Bool.and_false, Bool.true_and, Bool.false_and, hS_s, hS_n, ne_eq, not_false_eq_true, Classical.not_not, Nat.reduceAdd, eq_self, forall_const, false_implies, true_implies, not_true_eq_false, implies_true, lkk_s, lkk_n, sto1_e, sto1_s, sto1_i, sto1_r, sto1_l, stf_e, stf_i, stf_r, stf_l, r2, k2]
  exact ⟨⟨u, rfl, fun z => hu (by rw [stp_0] at z; exact z)⟩, hR3, hF2.trans hF3⟩
end BookReads
/-- a deed: what is read, and what of it -/
def tr2 (x : Tx) (w : Wd) (st : St) : St := stp x (tHr x w (stp x st))
def tr3 (x : Tx) (w : Wd) (st : St) : St := stp x (pHr x w (tr2 x w st))
def tr4 (x : Tx) (w : Wd) (st : St) : St := stp x (tHr x w (tr3 x w st))
def ddS (x : Tx) (w : Wd) (st : St) : St := if isW x 9 st = true then tPl x (stp x st) else if isW x 10 st = true then stp x (pHr x w (stp x st)) else if isW x 11 st = true then stp x st else if isW x 12 st = true then tr4 x w st else flt x 1 st
abbrev Ln : Type := Nat × Nat × Nat × Nat × Nat
def ddV (x : Tx) (w : Wd) (st : St) : Nat × Nat × Nat × Nat := if isW x 9 st = true then (0, vPl x (stp x st), 0, 0) else if isW x 10 st = true then (1, (vPr x w (stp x st)).toNatClampNeg, 0, 0) else if isW x 11 st = true then (2, 0, 0, 0) else (3, (vTr x w (stp x st)).toNatClampNeg, (vPr x w (tr2 x w st)).toNatClampNeg, (vTr x w (tr3 x w st)).toNatClampNeg)
def DdOK (v : Nat × Nat × Nat × Nat) (g0 g : Nat → Int32) : Prop := g 0 = g0 0 ∧ (v.1 ≠ 2 → g 1 = nI v.2.1) ∧ (v.1 = 3 → g 2 = nI v.2.2.1 ∧ g 3 = nI v.2.2.2)
theorem vPr_c {x : Tx} {w : Wd} {st : St} (hpe : wPe w ≤ 8) (h : (pHr x w st).2.1 = 0) : vPr x w st = nI (vPr x w st).toNatClampNeg := by
  rcases fnd_or (wN w 1) (nm32 (tkx x st.1).2.2.1) (wPe w) with e | ⟨j, hj, e⟩
  · exact absurd e (pHr_0 h).2.2.1
  · unfold vPr; rw [e, nI_clamp (by omega)]
theorem vTr_c {x : Tx} {w : Wd} {st : St} (hth : wTh w ≤ 6) (h : (tHr x w st).2.1 = 0) : vTr x w st = nI (vTr x w st).toNatClampNeg := by
  rcases fnd_or (wN w 0) (nm32 (tkx x st.1).2.2.1) (wTh w) with e | ⟨j, hj, e⟩
  · exact absurd e (tHr_0 h).2.2.1
  · unfold vTr; rw [e, nI_clamp (by omega)]
def Qdd (G : Gt) (h : Hp) (b t : Nat) (x : Tx) (st : St) (n : Nat) (wf : Nat → Option Nat) (pf : Nat → Nat → Int32) (w : Wd) : QT := fun r h' => r = none ∧ ∃ g, HasQ G h' b t x (ddS x w st) n wf (uP pf n g) w ∧ Fb b h h' ∧ ((ddS x w st).2.1 = 0 → DdOK (ddV x w st) (pf n) g)

