/-! ===== the class's reader of bridges: small ones ===== -/
theorem Mt.post {G : Gt} {d bc bs : Nat} {M : Mth} {av : List Value} {h : Hp} {Q Q' : QT} (k : Mt G d bc bs M av h Q) (hs : ∀ v h', Q v h' → Q' v h') : Mt G d bc bs M av h Q' := by
  intro la p e a1 a2 a3 s m args below hf hS hP hK
  obtain ⟨n, o, h1, h2, h3, ⟨⟨v, h', c1, c2, c3⟩, c4⟩, h5⟩ := k la p e a1 a2 a3 s m args below hf hS hP hK
  exact ⟨n, o, h1, h2, h3, ⟨⟨v, h', c1, hs _ _ c2, c3⟩, c4⟩, h5⟩
def addTh (w : Wd) (nm : Int64) (e d : Int32) : Wd := (wTh w + 1, wPe w, wDay w, (fun j => if j = 0 then upd (wI w 0) (wTh w) e else if j = 1 then upd (wI w 1) (wTh w) d else wI w j), fun j => if j = 0 then vp_updL (wN w 0) (wTh w) nm else wN w j)
def addPe (w : Wd) (nm : Int64) (pl e : Int32) : Wd := (wTh w, wPe w + 1, wDay w, (fun j => if j = 2 then upd (wI w 2) (wPe w) e else if j = 3 then upd (wI w 3) (wPe w) pl else if j = 4 then upd (wI w 4) (wPe w) 0 else if j = 5 then upd (wI w 5) (wPe w) 0 else if j = 6 then upd (wI w 6) (wPe w) (-1) else wI w j), fun j => if j = 1 then vp_updL (wN w 1) (wPe w) nm else wN w j)
theorem ct_addThing {G : Gt} {h : Hp} {a : Nat} {w : Wd} {nm : Int64} {e d : Int32} (hw : HasW h a w) (hth : wTh w < 6) : Mt G 1 0 0 mX11_addThing [.ref a, .long nm, .int e, .int d] h (fun v h' => v = none ∧ HasW h' a (addTh w nm e d) ∧ Fm a (a + 11) h h') := by
  refine Mt.of (by decide +kernel) (Nat.le_of_ble_eq_true rfl) ?_
  obtain ⟨h0, h1, h2, h3, h4, h5, h6, h7, h8, h9, h10, h11⟩ := id hw
  have e0 : (6 ≤ nI (wTh w)) = False := eq_false (nI_ge (b := 6) hth (by decide))
  refine bX11_addThing_0 ?_
  simp +decide (disch := omega) only [lv_args, Value.category, lk, sto1, sto2, List.filter_cons, List.filter_nil, if_true, if_false, tPush, tIld, tLld, tAld, tIst, tAst, tLst, tInc, tB, tBn, tU, tLB, tLBn, tLS, tI2l, tL2i, tLcmp, tDup, tPop, tDup2, tDupx1, tIf, tIf2, tNul, tAcm, tRetI, tRetZ, tRetC, tRetL, tRetV, tRetA, tGetf, tPutf, isI, isL, isA, isZ, tXald, tXast, tZast, tJald, tJast, tRald, tLen, tCV0, tCV1, tCV2, tCV3, tCV4, tCV5, tCS1, tCS2, tCS3, tCS4, tCS5, tCS6, tCS7, tCpyI, tCpyJ, tMax, tMin, tAbs, tSw, tTab, tLook, tLk, Int32.reduceAdd, List.map_cons, List.map_nil, List.sum_cons, List.sum_nil, List.getElem?_cons_succ, List.getElem?_cons_zero, List.set_cons_succ, List.set_cons_zero, true_and, and_true, Option.some.injEq, Sum.inl.injEq, Sum.inr.injEq, Prod.mk.injEq, Value.int.injEq, Value.ref.injEq, Value.long.injEq, exists_eq', Option.toList_some, Option.toList_none, List.cons_append, List.nil_append, Bool.not_false, Bool.not_true, Bool.and_true, Bool.and_false, Bool.true_and, Bool.false_and, hS_s, hS_n, ne_eq, not_false_eq_true, Classical.not_not, Nat.reduceAdd, eq_self, forall_const, false_implies, true_implies, not_true_eq_false, implies_true, h0, h1, h3, h4, e0, vp_in_nI, nI_clamp, nI_1]
  refine bX11_addThing_9 ?_
  simp +decide (disch := omega) only [lv_args, Value.category, lk, sto1, sto2, List.filter_cons, List.filter_nil, if_true, if_false, tPush, tIld, tLld, tAld, tIst, tAst, tLst, tInc, tB, tBn, tU, tLB, tLBn, tLS, tI2l, tL2i, tLcmp, tDup, tPop, tDup2, tDupx1, tIf, tIf2, tNul, tAcm, tRetI, tRetZ, tRetC, tRetL, tRetV, tRetA, tGetf, tPutf, isI, isL, isA, isZ, tXald, tXast, tZast, tJald, tJast, tRald, tLen, tCV0, tCV1, tCV2, tCV3, tCV4, tCV5, tCS1, tCS2, tCS3, tCS4, tCS5, tCS6, tCS7, tCpyI, tCpyJ, tMax, tMin, tAbs, tSw, tTab, tLook, tLk, Int32.reduceAdd, List.map_cons, List.map_nil, List.sum_cons, List.sum_nil, List.getElem?_cons_succ, List.getElem?_cons_zero, List.set_cons_succ, List.set_cons_zero, true_and, and_true, Option.some.injEq, Sum.inl.injEq, Sum.inr.injEq, Prod.mk.injEq, Value.int.injEq, Value.ref.injEq, Value.long.injEq, exists_eq', Option.toList_some, Option.toList_none, List.cons_append, List.nil_append, Bool.not_false, Bool.not_true, Bool.and_true, Bool.and_false, Bool.true_and, Bool.false_and, hS_s, hS_n, ne_eq, not_false_eq_true, Classical.not_not, Nat.reduceAdd, eq_self, forall_const, false_implies, true_implies, not_true_eq_false, implies_true, h0, h1, h3, h4, e0, vp_in_nI, nI_clamp, nI_1]
  refine bX11_addThing_50 ?_
  simp +decide (disch := omega) only [lv_args, Value.category, lk, sto1, sto2, List.filter_cons, List.filter_nil, if_true, if_false, tPush, tIld, tLld, tAld, tIst, tAst, tLst, tInc, tB, tBn, tU, tLB, tLBn, tLS, tI2l, tL2i, tLcmp, tDup, tPop, tDup2, tDupx1, tIf, tIf2, tNul, tAcm, tRetI, tRetZ, tRetC, tRetL, tRetV, tRetA, tGetf, tPutf, isI, isL, isA, isZ, tXald, tXast, tZast, tJald, tJast, tRald, tLen, tCV0, tCV1, tCV2, tCV3, tCV4, tCV5, tCS1, tCS2, tCS3, tCS4, tCS5, tCS6, tCS7, tCpyI, tCpyJ, tMax, tMin, tAbs, tSw, tTab, tLook, tLk, Int32.reduceAdd, List.map_cons, List.map_nil, List.sum_cons, List.sum_nil, List.getElem?_cons_succ, List.getElem?_cons_zero, List.set_cons_succ, List.set_cons_zero, true_and, and_true, Option.some.injEq, Sum.inl.injEq, Sum.inr.injEq, Prod.mk.injEq, Value.int.injEq, Value.ref.injEq, Value.long.injEq, exists_eq', Option.toList_some, Option.toList_none, List.cons_append, List.nil_append, Bool.not_false, Bool.not_true, Bool.and_true, Bool.and_false, Bool.true_and, Bool.false_and, hS_s, hS_n, ne_eq, not_false_eq_true, Classical.not_not, Nat.reduceAdd, eq_self, forall_const, false_implies, true_implies, not_true_eq_false, implies_true, h0, h1, h3, h4, e0, vp_in_nI, nI_clamp, nI_1]
  refine ⟨?_, (Fm.set (by omega) (by omega)).trans ((Fm.set (by omega) (by omega)).trans ((Fm.set (by omega) (by omega)).trans (Fm.set (by omega) (by omega))))⟩
  refine ⟨?_, ?_, ?_, ?_, ?_, ?_, ?_, ?_, ?_, ?_, ?_, ?_⟩ <;> first | (simp +decide (disch := omega) only [hS_s, hS_n, h1, h2, h3, h4, h5, h6, h7, h8, h9, h10, h11]; rfl) | (simp +decide (disch := omega) only [hS_s, hS_n, h1, h2, h3, h4, h5, h6, h7, h8, h9, h10, h11]; done)
theorem ct_addPerson {G : Gt} {h : Hp} {a : Nat} {w : Wd} {nm : Int64} {pl e : Int32} (hw : HasW h a w) (hpe : wPe w < 8) : Mt G 1 0 0 mX11_addPerson [.ref a, .long nm, .int pl, .int e] h (fun v h' => v = none ∧ HasW h' a (addPe w nm pl e) ∧ Fm a (a + 11) h h') := by
  refine Mt.of (by decide +kernel) (Nat.le_of_ble_eq_true rfl) ?_
  obtain ⟨h0, h1, h2, h3, h4, h5, h6, h7, h8, h9, h10, h11⟩ := id hw
  have e0 : (8 ≤ nI (wPe w)) = False := eq_false (nI_ge (b := 8) hpe (by decide))
  refine bX11_addPerson_0 ?_
  simp +decide (disch := omega) only [lv_args, Value.category, lk, sto1, sto2, List.filter_cons, List.filter_nil, if_true, if_false, tPush, tIld, tLld, tAld, tIst, tAst, tLst, tInc, tB, tBn, tU, tLB, tLBn, tLS, tI2l, tL2i, tLcmp, tDup, tPop, tDup2, tDupx1, tIf, tIf2, tNul, tAcm, tRetI, tRetZ, tRetC, tRetL, tRetV, tRetA, tGetf, tPutf, isI, isL, isA, isZ, tXald, tXast, tZast, tJald, tJast, tRald, tLen, tCV0, tCV1, tCV2, tCV3, tCV4, tCV5, tCS1, tCS2, tCS3, tCS4, tCS5, tCS6, tCS7, tCpyI, tCpyJ, tMax, tMin, tAbs, tSw, tTab, tLook, tLk, Int32.reduceAdd, List.map_cons, List.map_nil, List.sum_cons, List.sum_nil, List.getElem?_cons_succ, List.getElem?_cons_zero, List.set_cons_succ, List.set_cons_zero, true_and, and_true, Option.some.injEq, Sum.inl.injEq, Sum.inr.injEq, Prod.mk.injEq, Value.int.injEq, Value.ref.injEq, Value.long.injEq, exists_eq', Option.toList_some, Option.toList_none, List.cons_append, List.nil_append, Bool.not_false, Bool.not_true, Bool.and_true, Bool.and_false, Bool.true_and, Bool.false_and, hS_s, hS_n, ne_eq, not_false_eq_true, Classical.not_not, Nat.reduceAdd, eq_self, forall_const, false_implies, true_implies, not_true_eq_false, implies_true, h0, h2, h5, h6, h7, h8, h9, e0, vp_in_nI, nI_clamp, nI_1]
  refine bX11_addPerson_9 ?_
  simp +decide (disch := omega) only [lv_args, Value.category, lk, sto1, sto2, List.filter_cons, List.filter_nil, if_true, if_false, tPush, tIld, tLld, tAld, tIst, tAst, tLst, tInc, tB, tBn, tU, tLB, tLBn, tLS, tI2l, tL2i, tLcmp, tDup, tPop, tDup2, tDupx1, tIf, tIf2, tNul, tAcm, tRetI, tRetZ, tRetC, tRetL, tRetV, tRetA, tGetf, tPutf, isI, isL, isA, isZ, tXald, tXast, tZast, tJald, tJast, tRald, tLen, tCV0, tCV1, tCV2, tCV3, tCV4, tCV5, tCS1, tCS2, tCS3, tCS4, tCS5, tCS6, tCS7, tCpyI, tCpyJ, tMax, tMin, tAbs, tSw, tTab, tLook, tLk, Int32.reduceAdd, List.map_cons, List.map_nil, List.sum_cons, List.sum_nil, List.getElem?_cons_succ, List.getElem?_cons_zero, List.set_cons_succ, List.set_cons_zero, true_and, and_true, Option.some.injEq, Sum.inl.injEq, Sum.inr.injEq, Prod.mk.injEq, Value.int.injEq, Value.ref.injEq, Value.long.injEq, exists_eq', Option.toList_some, Option.toList_none, List.cons_append, List.nil_append, Bool.not_false, Bool.not_true, Bool.and_true, Bool.and_false, Bool.true_and, Bool.false_and, hS_s, hS_n, ne_eq, not_false_eq_true, Classical.not_not, Nat.reduceAdd, eq_self, forall_const, false_implies, true_implies, not_true_eq_false, implies_true, h0, h2, h5, h6, h7, h8, h9, e0, vp_in_nI, nI_clamp, nI_1]
  refine bX11_addPerson_80 ?_
  simp +decide (disch := omega) only [lv_args, Value.category, lk, sto1, sto2, List.filter_cons, List.filter_nil, if_true, if_false, tPush, tIld, tLld, tAld, tIst, tAst, tLst, tInc, tB, tBn, tU, tLB, tLBn, tLS, tI2l, tL2i, tLcmp, tDup, tPop, tDup2, tDupx1, tIf, tIf2, tNul, tAcm, tRetI, tRetZ, tRetC, tRetL, tRetV, tRetA, tGetf, tPutf, isI, isL, isA, isZ, tXald, tXast, tZast, tJald, tJast, tRald, tLen, tCV0, tCV1, tCV2, tCV3, tCV4, tCV5, tCS1, tCS2, tCS3, tCS4, tCS5, tCS6, tCS7, tCpyI, tCpyJ, tMax, tMin, tAbs, tSw, tTab, tLook, tLk, Int32.reduceAdd, List.map_cons, List.map_nil, List.sum_cons, List.sum_nil, List.getElem?_cons_succ, List.getElem?_cons_zero, List.set_cons_succ, List.set_cons_zero, true_and, and_true, Option.some.injEq, Sum.inl.injEq, Sum.inr.injEq, Prod.mk.injEq, Value.int.injEq, Value.ref.injEq, Value.long.injEq, exists_eq', Option.toList_some, Option.toList_none, List.cons_append, List.nil_append, Bool.not_false, Bool.not_true, Bool.and_true, Bool.and_false, Bool.true_and, Bool.false_and, hS_s, hS_n, ne_eq, not_false_eq_true, Classical.not_not, Nat.reduceAdd, eq_self, forall_const, false_implies, true_implies, not_true_eq_false, implies_true, h0, h2, h5, h6, h7, h8, h9, e0, vp_in_nI, nI_clamp, nI_1]
  refine ⟨?_, by repeat (first | exact Fm.rf | exact Fm.set (by omega) (by omega) | refine Fm.trans ?_ (Fm.set (by omega) (by omega)))⟩
  refine ⟨?_, ?_, ?_, ?_, ?_, ?_, ?_, ?_, ?_, ?_, ?_, ?_⟩ <;> first | (simp +decide (disch := omega) only [hS_s, hS_n, h1, h2, h3, h4, h5, h6, h7, h8, h9, h10, h11]; rfl) | (simp +decide (disch := omega) only [hS_s, hS_n, h1, h2, h3, h4, h5, h6, h7, h8, h9, h10, h11]; done)
/-- the reader: its tokens, what it has built -/
def HasR (G : Gt) (h : Hp) (b t : Nat) (x : Tx) (st : St) (w : Wd) : Prop := h.2 (b + 5) = some (.inl (1, [.ref b, .ref (b + 6)])) ∧ HasK G h b t x st ∧ HasW h (b + 6) w
theorem HasR.c0 {G : Gt} {h : Hp} {b t : Nat} {x : Tx} {st : St} {w : Wd} (hR : HasR G h b t x st w) : h.2 b = some (.inl (8, [.ref t, .ref (b + 1), .ref (b + 2), .ref (b + 3), .ref (b + 4), .int (nI (x.2.2.2 + 1)), .int (nI st.1), .int (nI (cK (tkx x st.1).1)), .ref (adW G (wxT (tkx x st.1))), .int (nI st.2.1), .int (nI st.2.2)])) := hR.2.1.2.2.2.1
theorem HasR.put {G : Gt} {h : Hp} {b t : Nat} {x : Tx} {st st' : St} {w : Wd} (hR : HasR G h b t x st w) (h1 : st'.1 ≤ x.2.2.2) (h2 : st'.2.1 < 5) : HasR G (hSet h b (oK G b t x st')) b t x st' w ∧ Fm b (b + 17) h (hSet h b (oK G b t x st')) := by
  have hF : Fm b b h (hSet h b (oK G b t x st')) := Fm.set (by omega) (by omega)
  exact ⟨⟨(hS_n (by omega)).trans hR.1, hR.2.1.set h1 h2, hR.2.2.frame (a := 0) hF (Or.inr (by omega))⟩, hF.wide (by omega) (by omega)⟩
def QR (G : Gt) (h : Hp) (b t : Nat) (x : Tx) (st : St) (w : Wd) (P : Option Value → Prop) : QT := fun r h' => P r ∧ HasR G h' b t x st w ∧ Fm b (b + 17) h h'
theorem cr_step {G : Gt} {h : Hp} {b t : Nat} {x : Tx} {st : St} {w : Wd} (hR : HasR G h b t x st w) : Mt G 1 0 0 mX9_step [.ref b] h (QR G h b t x (stp x st) w (fun r => r = none)) :=
  (ct_step hR.2.1).post (by rintro v h' ⟨rfl, rfl⟩; exact ⟨rfl, hR.put (stp_le hR.2.1.2.1).1 (by rw [(stp_le hR.2.1.2.1).2]; exact hR.2.1.2.2.1)⟩)
theorem cr_fail {G : Gt} {h : Hp} {b t c : Nat} {x : Tx} {st : St} {w : Wd} (hR : HasR G h b t x st w) (hc : c < 5) : Mt G 1 0 0 mX9_fail [.ref b, .int (nI c)] h (QR G h b t x (flt x c st) w (fun r => r = none)) :=
  (ct_fail hR.2.1 hc).post (by rintro v h' ⟨rfl, rfl⟩; exact ⟨rfl, hR.put (by rw [flt_le]; exact hR.2.1.2.1) (flt_c hR.2.1.2.2.1 hc)⟩)
theorem tSg_le {x : Tx} {c : Nat} {st : St} (h : st.1 ≤ x.2.2.2) (h5 : st.2.1 < 5) : (tSg x c st).1 ≤ x.2.2.2 ∧ (tSg x c st).2.1 < 5 := by
  unfold tSg
  split
  · exact ⟨(stp_le h).1, by rw [(stp_le h).2]; exact h5⟩
  · exact ⟨by rw [flt_le]; exact h, flt_c h5 (by decide)⟩
theorem cr_takeSign {G : Gt} {h : Hp} {b t c : Nat} {x : Tx} {st : St} {w : Wd} (hR : HasR G h b t x st w) (hc : c < 256) : Mt G 2 0 0 mX9_takeSign [.ref b, .int (nI c)] h (QR G h b t x (tSg x c st) w (fun r => r = none)) :=
  (ct_takeSign hR.2.1 hc).post (by rintro v h' ⟨rfl, rfl⟩; exact ⟨rfl, hR.put (tSg_le hR.2.1.2.1 hR.2.1.2.2.1).1 (tSg_le hR.2.1.2.1 hR.2.1.2.2.1).2⟩)
/-- a number is told, if there is no fault -/
def vI0 (st : St) (v : Int32) : Option Value → Prop := fun r => ∃ u, r = some (.int u) ∧ (st.2.1 = 0 → u = v)
theorem cr_takeEnd {G : Gt} {h : Hp} {b t : Nat} {x : Tx} {st : St} {w : Wd} (hR : HasR G h b t x st w) : Mt G 2 0 0 mX9_takeEnd [.ref b] h (QR G h b t x (tEn x st) w (vI0 (tEn x st) (nI (vEn x st)))) :=
  (ct_takeEnd hR.2.1).post (by rintro v h' ⟨u, rfl, hu, rfl⟩; exact ⟨⟨u, rfl, hu⟩, hR.put (or_le hR.2.1.2.1 hR.2.1.2.2.1).1 (or_le hR.2.1.2.1 hR.2.1.2.2.1).2⟩)
theorem cr_takePlace {G : Gt} {h : Hp} {b t : Nat} {x : Tx} {st : St} {w : Wd} (hR : HasR G h b t x st w) : Mt G 2 0 0 mX9_takePlace [.ref b] h (QR G h b t x (tPl x st) w (vI0 (tPl x st) (nI (vPl x st)))) :=
  (ct_takePlace hR.2.1).post (by rintro v h' ⟨u, rfl, hu, rfl⟩; exact ⟨⟨u, rfl, hu⟩, hR.put (or_le hR.2.1.2.1 hR.2.1.2.2.1).1 (or_le hR.2.1.2.1 hR.2.1.2.2.1).2⟩)
theorem cr_takeNumber {G : Gt} {h : Hp} {b t lo hi : Nat} {x : Tx} {st : St} {w : Wd} (hR : HasR G h b t x st w) (h1 : lo < 1000) (h2 : hi < 1000) : Mt G 2 0 0 mX9_takeNumber [.ref b, .int (nI lo), .int (nI hi)] h (QR G h b t x (tNm x lo hi st) w (vI0 (tNm x lo hi st) (nI (tkx x st.1).2.2.2))) :=
  (ct_takeNumber hR.2.1 h1 h2).post (by rintro v h' ⟨u, rfl, hu, rfl⟩; exact ⟨⟨u, rfl, hu⟩, hR.put (tNm_le hR.2.1.2.1 hR.2.1.2.2.1).1 (tNm_le hR.2.1.2.1 hR.2.1.2.2.1).2⟩)
theorem nNm_le {x : Tx} {w : Wd} {st : St} (h5 : st.2.1 < 5) : (nNm x w st).1 = st.1 ∧ (nNm x w st).2.1 < 5 := by
  unfold nNm
  split
  · split
    · exact ⟨rfl, h5⟩
    · exact ⟨flt_le, flt_c h5 (by decide)⟩
  · exact ⟨flt_le, flt_c h5 (by decide)⟩
theorem pHr_le {x : Tx} {w : Wd} {st : St} (h5 : st.2.1 < 5) : (pHr x w st).1 = st.1 ∧ (pHr x w st).2.1 < 5 := by
  unfold pHr
  split
  · split
    · exact ⟨flt_le, flt_c h5 (by decide)⟩
    · exact ⟨rfl, h5⟩
  · exact ⟨flt_le, flt_c h5 (by decide)⟩
theorem tHr_le {x : Tx} {w : Wd} {st : St} (h5 : st.2.1 < 5) : (tHr x w st).1 = st.1 ∧ (tHr x w st).2.1 < 5 := by
  unfold tHr
  split
  · split
    · exact ⟨flt_le, flt_c h5 (by decide)⟩
    · exact ⟨rfl, h5⟩
  · exact ⟨flt_le, flt_c h5 (by decide)⟩
theorem cr_newName {G : Gt} {h : Hp} {b t : Nat} {x : Tx} {st : St} {w : Wd} (hR : HasR G h b t x st w) (hth : wTh w ≤ 6) (hpe : wPe w ≤ 8) : Mt G 2 0 0 mX9_newNameHere [.ref b, .ref (b + 6)] h (QR G h b t x (nNm x w st) w (fun r => ∃ u, r = some (.long u) ∧ ((nNm x w st).2.1 = 0 → u = nm32 (tkx x st.1).2.2.1))) :=
  (ct_newNameHere hR.2.1 hR.2.2 hth hpe).post (by rintro v h' ⟨u, rfl, hu, rfl⟩; exact ⟨⟨u, rfl, hu⟩, hR.put (by rw [(nNm_le hR.2.1.2.2.1).1]; exact hR.2.1.2.1) (nNm_le hR.2.1.2.2.1).2⟩)
theorem cr_personHere {G : Gt} {h : Hp} {b t : Nat} {x : Tx} {st : St} {w : Wd} (hR : HasR G h b t x st w) (hpe : wPe w ≤ 8) : Mt G 2 0 0 mX9_personHere [.ref b, .ref (b + 6)] h (QR G h b t x (pHr x w st) w (vI0 (pHr x w st) (vPr x w st))) :=
  (ct_personHere hR.2.1 hR.2.2 hpe).post (by rintro v h' ⟨u, rfl, hu, rfl⟩; exact ⟨⟨u, rfl, hu⟩, hR.put (by rw [(pHr_le hR.2.1.2.2.1).1]; exact hR.2.1.2.1) (pHr_le hR.2.1.2.2.1).2⟩)
theorem cr_thingHere {G : Gt} {h : Hp} {b t : Nat} {x : Tx} {st : St} {w : Wd} (hR : HasR G h b t x st w) (hth : wTh w ≤ 6) : Mt G 2 0 0 mX9_thingHere [.ref b, .ref (b + 6)] h (QR G h b t x (tHr x w st) w (vI0 (tHr x w st) (vTr x w st))) :=
  (ct_thingHere hR.2.1 hR.2.2 hth).post (by rintro v h' ⟨u, rfl, hu, rfl⟩; exact ⟨⟨u, rfl, hu⟩, hR.put (by rw [(tHr_le hR.2.1.2.2.1).1]; exact hR.2.1.2.1) (tHr_le hR.2.1.2.2.1).2⟩)

