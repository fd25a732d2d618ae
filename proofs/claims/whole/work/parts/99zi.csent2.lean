/-! ===== the class's Sentence: plain ones are read ===== -/
def Ftz (b a : Nat) (h h' : Hp) : Prop := h'.1 = h.1 ∧ ∀ q : Nat, (q < b ∨ b + 4 < q) → (q < a ∨ a + 4 < q) → h'.2 q = h.2 q
theorem Ftz.rf {b a : Nat} {h : Hp} : Ftz b a h h := ⟨rfl, fun _ _ _ => rfl⟩
theorem Ftz.trans {b a : Nat} {h h1 h2 : Hp} (p : Ftz b a h h1) (q : Ftz b a h1 h2) : Ftz b a h h2 := ⟨q.1.trans p.1, fun i x y => (q.2 i x y).trans (p.2 i x y)⟩
theorem Fm.tz {b a : Nat} {h h' : Hp} (p : Fm a (a + 4) h h') : Ftz b a h h' := ⟨p.1, fun q _ y => p.2 q y⟩
def HasT (G : Gt) (h : Hp) (b t : Nat) (x : Tx) (a : Nat) (z : Sx) : Prop := HasK G h b t x z.1 ∧ HasZ G h a z
def QZ (G : Gt) (h : Hp) (b t : Nat) (x : Tx) (a : Nat) (z : Sx) (P : Option Value → Prop) : QT := fun r h' => P r ∧ HasT G h' b t x a z ∧ Ftz b a h h'
theorem HasT.put {G : Gt} {h : Hp} {b t a : Nat} {x : Tx} {z : Sx} {st : St} (hT : HasT G h b t x a z) (hd : b + 4 < a) (h1 : st.1 ≤ x.2.2.2) (h2 : st.2.1 < 5) (h3 : st.2.1 = 0 → z.1.2.1 = 0) : HasT G (hSet h b (oK G b t x st)) b t x a (st, z.2) ∧ Ftz b a h (hSet h b (oK G b t x st)) := by
  have hF : Fm b b h (hSet h b (oK G b t x st)) := Fm.set (by omega) (by omega)
  exact ⟨⟨hT.1.set h1 h2, fun q => (hT.2.1 (h3 q)).frame hF (by omega), hT.2.2.frame hF (by omega)⟩, rfl, fun q u v => hF.2 q (by omega)⟩
section SentReads
variable {G : Gt} {h : Hp} {b t a : Nat} {x : Tx} {z : Sx}
theorem HasT.k0 (hT : HasT G h b t x a z) : h.2 b = some (.inl (8, [.ref t, .ref (b + 1), .ref (b + 2), .ref (b + 3), .ref (b + 4), .int (nI (x.2.2.2 + 1)), .int (nI z.1.1), .int (nI (cK (tkx x z.1.1).1)), .ref (adW G (wxT (tkx x z.1.1))), .int (nI z.1.2.1), .int (nI z.1.2.2)])) := hT.1.2.2.2.1
theorem cz_step (hT : HasT G h b t x a z) (hd : b + 4 < a) : Mt G 1 0 0 mX9_step [.ref b] h (QZ G h b t x a (stp x z.1, z.2) (fun r => r = none)) :=
  (ct_step hT.1).post (by rintro v h' ⟨rfl, rfl⟩; exact ⟨rfl, hT.put hd (stp_le hT.1.2.1).1 (by rw [(stp_le hT.1.2.1).2]; exact hT.1.2.2.1) (fun q => by rw [stp_0] at q; exact q)⟩)
theorem cz_fail {c : Nat} (hT : HasT G h b t x a z) (hd : b + 4 < a) (hc : c < 5) (hc0 : c ≠ 0) : Mt G 1 0 0 mX9_fail [.ref b, .int (nI c)] h (QZ G h b t x a (flt x c z.1, z.2) (fun r => r = none)) :=
  (ct_fail hT.1 hc).post (by rintro v h' ⟨rfl, rfl⟩; exact ⟨rfl, hT.put hd (by rw [flt_le]; exact hT.1.2.1) (flt_c hT.1.2.2.1 hc) (fun q => (flt_n0 hc0 q).elim)⟩)
theorem cz_takeSign {c : Nat} (hT : HasT G h b t x a z) (hd : b + 4 < a) (hc : c < 256) : Mt G 2 0 0 mX9_takeSign [.ref b, .int (nI c)] h (QZ G h b t x a (tSg x c z.1, z.2) (fun r => r = none)) :=
  (ct_takeSign hT.1 hc).post (by rintro v h' ⟨rfl, rfl⟩; exact ⟨rfl, hT.put hd (tSg_le hT.1.2.1 hT.1.2.2.1).1 (tSg_le hT.1.2.1 hT.1.2.2.1).2 (fun q => (tSg_0 q).1)⟩)
theorem cz_takeEnd (hT : HasT G h b t x a z) (hd : b + 4 < a) : Mt G 2 0 0 mX9_takeEnd [.ref b] h (QZ G h b t x a (tEn x z.1, z.2) (vI0 (tEn x z.1) (nI (vEn x z.1)))) :=
  (ct_takeEnd hT.1).post (by rintro v h' ⟨u, rfl, hu, rfl⟩; exact ⟨⟨u, rfl, hu⟩, hT.put hd (or_le hT.1.2.1 hT.1.2.2.1).1 (or_le hT.1.2.1 hT.1.2.2.1).2 (fun q => (tEn_0 q).1)⟩)
theorem tCp_0 {x : Tx} {st : St} (h : (tCp x st).2.1 = 0) : st.2.1 = 0 ∧ isC x st = true ∧ tCp x st = stp x st := by
  unfold tCp at h ⊢
  split at h
  · rename_i c
    rw [stp_0] at h
    exact ⟨h, c, by rw [if_pos c]⟩
  · exact (flt_n0 (by decide) h).elim
theorem tCp_le {x : Tx} {st : St} (h : st.1 ≤ x.2.2.2) (h5 : st.2.1 < 5) : (tCp x st).1 ≤ x.2.2.2 ∧ (tCp x st).2.1 < 5 := by
  unfold tCp
  split
  · exact ⟨(stp_le h).1, by rw [(stp_le h).2]; exact h5⟩
  · exact ⟨by rw [flt_le]; exact h, flt_c h5 (by decide)⟩
theorem cz_takeComparison (hT : HasT G h b t x a z) (hd : b + 4 < a) : Mt G 2 0 0 mX9_takeComparison [.ref b] h (QZ G h b t x a (tCp x z.1, z.2) (vI0 (tCp x z.1) (nI (tkx x z.1.1).2.2.2))) :=
  (ct_takeComparison hT.1).post (by rintro v h' ⟨u, rfl, hu, rfl⟩; exact ⟨⟨u, rfl, hu⟩, hT.put hd (tCp_le hT.1.2.1 hT.1.2.2.1).1 (tCp_le hT.1.2.1 hT.1.2.2.1).2 (fun q => (tCp_0 q).1)⟩)
theorem cz_takeNumber {lo hi : Nat} (hT : HasT G h b t x a z) (hd : b + 4 < a) (h1 : lo < 1000) (h2 : hi < 1000) : Mt G 2 0 0 mX9_takeNumber [.ref b, .int (nI lo), .int (nI hi)] h (QZ G h b t x a (tNm x lo hi z.1, z.2) (vI0 (tNm x lo hi z.1) (nI (tkx x z.1.1).2.2.2))) :=
  (ct_takeNumber hT.1 h1 h2).post (by rintro v h' ⟨u, rfl, hu, rfl⟩; exact ⟨⟨u, rfl, hu⟩, hT.put hd (tNm_le hT.1.2.1 hT.1.2.2.1).1 (tNm_le hT.1.2.1 hT.1.2.2.1).2 (fun q => (tNm_0 q).1)⟩)
theorem cz_put {k : Nat} {sg nb : Int32} {it : It} (hT : HasT G h b t x a z) (hd : b + 4 < a) (hl : z.1.2.1 = 0 → z.2.2.length < 40 ∧ it.1 = k ∧ sg = nI it.2.2.2 ∧ nb = nI (nbI it)) (hk : k < 25) : Mt G 1 0 0 mX7_put [.ref a, .ref (adW G k), .int sg, .int nb] h (QZ G h b t x a (z.1, z.2.1, z.2.2 ++ [it]) (fun r => r = none)) :=
  (ct_sput hT.2 hl hk).post (by rintro v h' ⟨rfl, hz, hF⟩; exact ⟨rfl, ⟨hT.1.frame hF (by omega), hz⟩, hF.tz⟩)
end SentReads
theorem sw_plain : (∀ k, k < 25 → (k = 18 ∨ k = 20) → ∃ j, j < 2 ∧ swM.getD k 0 = 6 + nI j) ∧ (∀ k, k < 25 → 21 ≤ k → ∃ j, j < 4 ∧ swM.getD k 0 = 8 + nI j) := by decide +kernel
theorem sw_pl1 : ∀ k, k < 25 → ∀ j, j < 2 → swM.getD k 0 = 6 + nI j → (k = 18 ∨ k = 20) := by decide +kernel
theorem sw_pl2 : ∀ k, k < 25 → ∀ j, j < 6 → 2 ≤ j → swM.getD k 0 = 6 + nI j → 21 ≤ k := by decide +kernel
theorem sw_pl3 : ∀ k, k < 25 → (∀ j, j < 6 → ¬ swM.getD k 0 = 6 + nI j) → ¬ (k = 18 ∨ k = 20) ∧ ¬ 21 ≤ k := by decide +kernel
theorem ct_readPlain {G : Gt} {h : Hp} {b t a k : Nat} {x : Tx} {z : Sx} (hT : HasT G h b t x a z) (hd : b + 4 < a) (hl : z.2.2.length < 40) (hk : k < 25) : Mt G 4 0 0 mX7_readPlainOne [.ref a, .ref b, .ref (adW G k)] h (QZ G h b t x a (plS x k z.1, z.2.1, z.2.2 ++ [plI x k z.1]) (fun r => r = none)) := by
  refine Mt.of (by decide +kernel) (Nat.le_of_ble_eq_true rfl) ?_
  obtain ⟨fs, a0⟩ := hT.2.c
  have k0 := hT.k0
  refine bX7_readPlainOne_0 ?_
  simp +decide (disch := omega) only [lv_args, Value.category, sto2, List.filter_cons, List.filter_nil, if_true, if_false, tPush, tIld, tLld, tAld, tIst, tAst, tLst, tInc, tB, tBn, tU, tLB, tLBn, tLS, tI2l, tL2i, tLcmp, tDup, tPop, tDup2, tDupx1, tIf, tIf2, tNul, tAcm, tRetI, tRetZ, tRetC, tRetL, tRetV, tRetA, tGetf, tPutf, isI, isL, isA, isZ, tXald, tXast, tZast, tJald, tJast, tRald, tLen, tCV0, tCV1, tCV2, tCV3, tCV4, tCV5, tCS1, tCS2, tCS3, tCS4, tCS5, tCS6, tCS7, tCpyI, tCpyJ, tMax, tMin, tAbs, tSw, tTab, tLook, tLk, Int32.reduceAdd, List.map_cons, List.map_nil, List.sum_cons, List.sum_nil, List.getElem?_cons_succ, List.getElem?_cons_zero, List.set_cons_succ, List.set_cons_zero, true_and, and_true, Option.some.injEq, Sum.inl.injEq, Sum.inr.injEq, Prod.mk.injEq, Value.int.injEq, Value.ref.injEq, Value.long.injEq, exists_eq', Option.toList_some, Option.toList_none, List.cons_append, List.nil_append, Bool.not_false, Bool.not_true, Bool.and_true, Bool.and_false, Bool.true_and, Bool.false_and, hS_s, hS_n, ne_eq, not_false_eq_true, Classical.not_not, Nat.reduceAdd, eq_self, forall_const, false_implies, true_implies, not_true_eq_false, implies_true, lkk_s, lkk_n, sto1_e, sto1_s, sto1_i, sto1_r, sto1_l, stf_e, stf_i, stf_r, stf_l]
  refine ⟨Nat.le_of_ble_eq_true rfl, by decide, k, hk, rfl, ?_⟩
  refine bX7_readPlainOne_7 ?_
  refine tald_k hk ?_
  refine tTab_of _ _ (fun j t' hj q => ?_) (fun hn => ?_)
  · have hj6 : j < 6 := (List.getElem?_eq_some_iff.mp hj).1
    rcases Nat.lt_or_ge j 2 with c | c
    · have hk1 := sw_pl1 k hk j c q
      have et : t' = 48 := by
        rcases (show j = 0 ∨ j = 1 by omega) with rfl | rfl <;> exact (Option.some.inj hj).symm
      subst et
      have eS : plS x k z.1 = tEn x z.1 := by unfold plS; rw [if_pos hk1]
      have eI : plI x k z.1 = (k, vEn x z.1, 0, 0) := by unfold plI; rw [if_pos hk1]
      have eN : nbI (k, vEn x z.1, 0, 0) = vEn x z.1 := if_pos hk1
      rw [eS, eI]
      refine bX7_readPlainOne_48 ?_
      simp +decide (disch := omega) only [lv_args, Value.category, sto2, List.filter_cons, List.filter_nil, if_true, if_false, tPush, tIld, tLld, tAld, tIst, tAst, tLst, tInc, tB, tBn, tU, tLB, tLBn, tLS, tI2l, tL2i, tLcmp, tDup, tPop, tDup2, tDupx1, tIf, tIf2, tNul, tAcm, tRetI, tRetZ, tRetC, tRetL, tRetV, tRetA, tGetf, tPutf, isI, isL, isA, isZ, tXald, tXast, tZast, tJald, tJast, tRald, tLen, tCV0, tCV1, tCV2, tCV3, tCV4, tCV5, tCS1, tCS2, tCS3, tCS4, tCS5, tCS6, tCS7, tCpyI, tCpyJ, tMax, tMin, tAbs, tSw, tTab, tLook, tLk, Int32.reduceAdd, List.map_cons, List.map_nil, List.sum_cons, List.sum_nil, List.getElem?_cons_succ, List.getElem?_cons_zero, List.set_cons_succ, List.set_cons_zero, true_and, and_true, Option.some.injEq, Sum.inl.injEq, Sum.inr.injEq, Prod.mk.injEq, Value.int.injEq, Value.ref.injEq, Value.long.injEq, exists_eq', Option.toList_some, Option.toList_none, List.cons_append, List.nil_append, Bool.not_false, Bool.not_true, Bool.and_true, Bool.and_false, Bool.true_and, Bool.false_and, hS_s, hS_n, ne_eq, not_false_eq_true, Classical.not_not, Nat.reduceAdd, eq_self, forall_const, false_implies, true_implies, not_true_eq_false, implies_true, lkk_s, lkk_n, sto1_e, sto1_s, sto1_i, sto1_r, sto1_l, stf_e, stf_i, stf_r, stf_l, a0, k0]
      refine calq (Nat.le_of_ble_eq_true rfl) (by first | decide | omega) (cz_takeEnd hT hd) ?_
      rintro v h2 ⟨⟨u, rfl, hu⟩, hT2, hF2⟩
      obtain ⟨fs2, a2⟩ := hT2.2.c
      refine bX7_readPlainOne_55 ?_
      simp +decide (disch := omega) only [lv_args, Value.category, sto2, List.filter_cons, List.filter_nil, if_true, if_false, tPush, tIld, tLld, tAld, tIst, tAst, tLst, tInc, tB, tBn, tU, tLB, tLBn, tLS, tI2l, tL2i, tLcmp, tDup, tPop, tDup2, tDupx1, tIf, tIf2, tNul, tAcm, tRetI, tRetZ, tRetC, tRetL, tRetV, tRetA, tGetf, tPutf, isI, isL, isA, isZ, tXald, tXast, tZast, tJald, tJast, tRald, tLen, tCV0, tCV1, tCV2, tCV3, tCV4, tCV5, tCS1, tCS2, tCS3, tCS4, tCS5, tCS6, tCS7, tCpyI, tCpyJ, tMax, tMin, tAbs, tSw, tTab, tLook, tLk, Int32.reduceAdd, List.map_cons, List.map_nil, List.sum_cons, List.sum_nil, List.getElem?_cons_succ, List.getElem?_cons_zero, List.set_cons_succ, List.set_cons_zero, true_and, and_true, Option.some.injEq, Sum.inl.injEq, Sum.inr.injEq, Prod.mk.injEq, Value.int.injEq, Value.ref.injEq, Value.long.injEq, exists_eq', Option.toList_some, Option.toList_none, List.cons_append, List.nil_append, Bool.not_false, Bool.not_true, Bool.and_true, Bool.and_false, Bool.true_and, Bool.false_and, hS_s, hS_n, ne_eq, not_false_eq_true, Classical.not_not, Nat.reduceAdd, eq_self, forall_const, false_implies, true_implies, not_true_eq_false, implies_true, lkk_s, lkk_n, sto1_e, sto1_s, sto1_i, sto1_r, sto1_l, stf_e, stf_i, stf_r, stf_l, a2]
      refine calq (Nat.le_of_ble_eq_true rfl) (by first | decide | omega) (cz_put (it := (k, vEn x z.1, 0, 0)) hT2 hd (fun s => ⟨hl, rfl, rfl, by rw [eN]; exact hu s⟩) hk) ?_
      rintro v h3 ⟨rfl, hT3, hF3⟩
      refine bX7_readPlainOne_58 ?_
      refine bX7_readPlainOne_90 ?_
      simp +decide (disch := omega) only [lv_args, Value.category, sto2, List.filter_cons, List.filter_nil, if_true, if_false, tPush, tIld, tLld, tAld, tIst, tAst, tLst, tInc, tB, tBn, tU, tLB, tLBn, tLS, tI2l, tL2i, tLcmp, tDup, tPop, tDup2, tDupx1, tIf, tIf2, tNul, tAcm, tRetI, tRetZ, tRetC, tRetL, tRetV, tRetA, tGetf, tPutf, isI, isL, isA, isZ, tXald, tXast, tZast, tJald, tJast, tRald, tLen, tCV0, tCV1, tCV2, tCV3, tCV4, tCV5, tCS1, tCS2, tCS3, tCS4, tCS5, tCS6, tCS7, tCpyI, tCpyJ, tMax, tMin, tAbs, tSw, tTab, tLook, tLk, Int32.reduceAdd, List.map_cons, List.map_nil, List.sum_cons, List.sum_nil, List.getElem?_cons_succ, List.getElem?_cons_zero, List.set_cons_succ, List.set_cons_zero, true_and, and_true, Option.some.injEq, Sum.inl.injEq, Sum.inr.injEq, Prod.mk.injEq, Value.int.injEq, Value.ref.injEq, Value.long.injEq, exists_eq', Option.toList_some, Option.toList_none, List.cons_append, List.nil_append, Bool.not_false, Bool.not_true, Bool.and_true, Bool.and_false, Bool.true_and, Bool.false_and, hS_s, hS_n, ne_eq, not_false_eq_true, Classical.not_not, Nat.reduceAdd, eq_self, forall_const, false_implies, true_implies, not_true_eq_false, implies_true, lkk_s, lkk_n, sto1_e, sto1_s, sto1_i, sto1_r, sto1_l, stf_e, stf_i, stf_r, stf_l, a2]
      exact ⟨rfl, hT3, hF2.trans hF3⟩
    · have hk2 := sw_pl2 k hk j hj6 c q
      have et : t' = 61 := by
        rcases (show j = 2 ∨ j = 3 ∨ j = 4 ∨ j = 5 by omega) with rfl | rfl | rfl | rfl <;> exact (Option.some.inj hj).symm
      subst et
      have hk3 : ¬ (k = 18 ∨ k = 20) := by omega
      have eS : plS x k z.1 = tNm x 0 999 (tCp x z.1) := by unfold plS; rw [if_neg hk3, if_pos hk2]
      have eI : plI x k z.1 = (k, 0, (tkx x (tCp x z.1).1).2.2.2, (tkx x z.1.1).2.2.2) := by unfold plI; rw [if_neg hk3, if_pos hk2]
      have eN : nbI (k, 0, (tkx x (tCp x z.1).1).2.2.2, (tkx x z.1.1).2.2.2) = (tkx x (tCp x z.1).1).2.2.2 := by unfold nbI; rw [if_neg hk3, if_pos hk2]
      rw [eS, eI]
      refine bX7_readPlainOne_61 ?_
      simp +decide (disch := omega) only [lv_args, Value.category, sto2, List.filter_cons, List.filter_nil, if_true, if_false, tPush, tIld, tLld, tAld, tIst, tAst, tLst, tInc, tB, tBn, tU, tLB, tLBn, tLS, tI2l, tL2i, tLcmp, tDup, tPop, tDup2, tDupx1, tIf, tIf2, tNul, tAcm, tRetI, tRetZ, tRetC, tRetL, tRetV, tRetA, tGetf, tPutf, isI, isL, isA, isZ, tXald, tXast, tZast, tJald, tJast, tRald, tLen, tCV0, tCV1, tCV2, tCV3, tCV4, tCV5, tCS1, tCS2, tCS3, tCS4, tCS5, tCS6, tCS7, tCpyI, tCpyJ, tMax, tMin, tAbs, tSw, tTab, tLook, tLk, Int32.reduceAdd, List.map_cons, List.map_nil, List.sum_cons, List.sum_nil, List.getElem?_cons_succ, List.getElem?_cons_zero, List.set_cons_succ, List.set_cons_zero, true_and, and_true, Option.some.injEq, Sum.inl.injEq, Sum.inr.injEq, Prod.mk.injEq, Value.int.injEq, Value.ref.injEq, Value.long.injEq, exists_eq', Option.toList_some, Option.toList_none, List.cons_append, List.nil_append, Bool.not_false, Bool.not_true, Bool.and_true, Bool.and_false, Bool.true_and, Bool.false_and, hS_s, hS_n, ne_eq, not_false_eq_true, Classical.not_not, Nat.reduceAdd, eq_self, forall_const, false_implies, true_implies, not_true_eq_false, implies_true, lkk_s, lkk_n, sto1_e, sto1_s, sto1_i, sto1_r, sto1_l, stf_e, stf_i, stf_r, stf_l, a0, k0]
      refine calq (Nat.le_of_ble_eq_true rfl) (by first | decide | omega) (cz_takeComparison hT hd) ?_
      rintro v h2 ⟨⟨u, rfl, hu⟩, hT2, hF2⟩
      obtain ⟨fs2, a2⟩ := hT2.2.c
      have k2 := hT2.k0
      refine bX7_readPlainOne_65 ?_
      simp +decide (disch := omega) only [lv_args, Value.category, sto2, List.filter_cons, List.filter_nil, if_true, if_false, tPush, tIld, tLld, tAld, tIst, tAst, tLst, tInc, tB, tBn, tU, tLB, tLBn, tLS, tI2l, tL2i, tLcmp, tDup, tPop, tDup2, tDupx1, tIf, tIf2, tNul, tAcm, tRetI, tRetZ, tRetC, tRetL, tRetV, tRetA, tGetf, tPutf, isI, isL, isA, isZ, tXald, tXast, tZast, tJald, tJast, tRald, tLen, tCV0, tCV1, tCV2, tCV3, tCV4, tCV5, tCS1, tCS2, tCS3, tCS4, tCS5, tCS6, tCS7, tCpyI, tCpyJ, tMax, tMin, tAbs, tSw, tTab, tLook, tLk, Int32.reduceAdd, List.map_cons, List.map_nil, List.sum_cons, List.sum_nil, List.getElem?_cons_succ, List.getElem?_cons_zero, List.set_cons_succ, List.set_cons_zero, true_and, and_true, Option.some.injEq, Sum.inl.injEq, Sum.inr.injEq, Prod.mk.injEq, Value.int.injEq, Value.ref.injEq, Value.long.injEq, exists_eq', Option.toList_some, Option.toList_none, List.cons_append, List.nil_append, Bool.not_false, Bool.not_true, Bool.and_true, Bool.and_false, Bool.true_and, Bool.false_and, hS_s, hS_n, ne_eq, not_false_eq_true, Classical.not_not, Nat.reduceAdd, eq_self, forall_const, false_implies, true_implies, not_true_eq_false, implies_true, lkk_s, lkk_n, sto1_e, sto1_s, sto1_i, sto1_r, sto1_l, stf_e, stf_i, stf_r, stf_l, a2, k2]
      refine calq (Nat.le_of_ble_eq_true rfl) (by first | decide | omega) (cz_takeNumber (lo := 0) (hi := 999) hT2 hd (by decide) (by decide)) ?_
      rintro v h3 ⟨⟨u3, rfl, hu3⟩, hT3, hF3⟩
      obtain ⟨fs3, a3⟩ := hT3.2.c
      refine bX7_readPlainOne_77 ?_
      simp +decide (disch := omega) only [lv_args, Value.category, sto2, List.filter_cons, List.filter_nil, if_true, if_false, tPush, tIld, tLld, tAld, tIst, tAst, tLst, tInc, tB, tBn, tU, tLB, tLBn, tLS, tI2l, tL2i, tLcmp, tDup, tPop, tDup2, tDupx1, tIf, tIf2, tNul, tAcm, tRetI, tRetZ, tRetC, tRetL, tRetV, tRetA, tGetf, tPutf, isI, isL, isA, isZ, tXald, tXast, tZast, tJald, tJast, tRald, tLen, tCV0, tCV1, tCV2, tCV3, tCV4, tCV5, tCS1, tCS2, tCS3, tCS4, tCS5, tCS6, tCS7, tCpyI, tCpyJ, tMax, tMin, tAbs, tSw, tTab, tLook, tLk, Int32.reduceAdd, List.map_cons, List.map_nil, List.sum_cons, List.sum_nil, List.getElem?_cons_succ, List.getElem?_cons_zero, List.set_cons_succ, List.set_cons_zero, true_and, and_true, Option.some.injEq, Sum.inl.injEq, Sum.inr.injEq, Prod.mk.injEq, Value.int.injEq, Value.ref.injEq, Value.long.injEq, exists_eq', Option.toList_some, Option.toList_none, List.cons_append, List.nil_append, Bool.not_false, Bool.not_true, Bool.and_true, Bool.and_false, Bool.true_and, Bool.false_and, hS_s, hS_n, ne_eq, not_false_eq_true, Classical.not_not, Nat.reduceAdd, eq_self, forall_const, false_implies, true_implies, not_true_eq_false, implies_true, lkk_s, lkk_n, sto1_e, sto1_s, sto1_i, sto1_r, sto1_l, stf_e, stf_i, stf_r, stf_l, a3]
      refine calq (Nat.le_of_ble_eq_true rfl) (by first | decide | omega) (cz_put (it := (k, 0, (tkx x (tCp x z.1).1).2.2.2, (tkx x z.1.1).2.2.2)) hT3 hd (fun s => ⟨hl, rfl, hu (tNm_0 s).1, by rw [eN]; exact hu3 s⟩) hk) ?_
      rintro v h4 ⟨rfl, hT4, hF4⟩
      refine bX7_readPlainOne_80 ?_
      refine bX7_readPlainOne_90 ?_
      simp +decide (disch := omega) only [lv_args, Value.category, sto2, List.filter_cons, List.filter_nil, if_true, if_false, tPush, tIld, tLld, tAld, tIst, tAst, tLst, tInc, tB, tBn, tU, tLB, tLBn, tLS, tI2l, tL2i, tLcmp, tDup, tPop, tDup2, tDupx1, tIf, tIf2, tNul, tAcm, tRetI, tRetZ, tRetC, tRetL, tRetV, tRetA, tGetf, tPutf, isI, isL, isA, isZ, tXald, tXast, tZast, tJald, tJast, tRald, tLen, tCV0, tCV1, tCV2, tCV3, tCV4, tCV5, tCS1, tCS2, tCS3, tCS4, tCS5, tCS6, tCS7, tCpyI, tCpyJ, tMax, tMin, tAbs, tSw, tTab, tLook, tLk, Int32.reduceAdd, List.map_cons, List.map_nil, List.sum_cons, List.sum_nil, List.getElem?_cons_succ, List.getElem?_cons_zero, List.set_cons_succ, List.set_cons_zero, true_and, and_true, Option.some.injEq, Sum.inl.injEq, Sum.inr.injEq, Prod.mk.injEq, Value.int.injEq, Value.ref.injEq, Value.long.injEq, exists_eq', Option.toList_some, Option.toList_none, List.cons_append, List.nil_append, Bool.not_false, Bool.not_true, Bool.and_true, Bool.and_false, Bool.true_and, Bool.false_and, hS_s, hS_n, ne_eq, not_false_eq_true, Classical.not_not, Nat.reduceAdd, eq_self, forall_const, false_implies, true_implies, not_true_eq_false, implies_true, lkk_s, lkk_n, sto1_e, sto1_s, sto1_i, sto1_r, sto1_l, stf_e, stf_i, stf_r, stf_l, a3]
      exact ⟨rfl, hT4, hF2.trans (hF3.trans hF4)⟩
  · obtain ⟨n1, n2⟩ := sw_pl3 k hk (fun j hj => hn j hj)
    have eS : plS x k z.1 = z.1 := by unfold plS; rw [if_neg n1, if_neg n2]
    have eI : plI x k z.1 = (k, 0, 0, 0) := by unfold plI; rw [if_neg n1, if_neg n2]
    have eN : nbI (k, 0, 0, 0) = 0 := by unfold nbI; rw [if_neg n1, if_neg n2]
    rw [eS, eI]
    refine bX7_readPlainOne_83 ?_
    simp +decide (disch := omega) only [lv_args, Value.category, sto2, List.filter_cons, List.filter_nil, if_true, if_false, tPush, tIld, tLld, tAld, tIst, tAst, tLst, tInc, tB, tBn, tU, tLB, tLBn, tLS, tI2l, tL2i, tLcmp, tDup, tPop, tDup2, tDupx1, tIf, tIf2, tNul, tAcm, tRetI, tRetZ, tRetC, tRetL, tRetV, tRetA, tGetf, tPutf, isI, isL, isA, isZ, tXald, tXast, tZast, tJald, tJast, tRald, tLen, tCV0, tCV1, tCV2, tCV3, tCV4, tCV5, tCS1, tCS2, tCS3, tCS4, tCS5, tCS6, tCS7, tCpyI, tCpyJ, tMax, tMin, tAbs, tSw, tTab, tLook, tLk, Int32.reduceAdd, List.map_cons, List.map_nil, List.sum_cons, List.sum_nil, List.getElem?_cons_succ, List.getElem?_cons_zero, List.set_cons_succ, List.set_cons_zero, true_and, and_true, Option.some.injEq, Sum.inl.injEq, Sum.inr.injEq, Prod.mk.injEq, Value.int.injEq, Value.ref.injEq, Value.long.injEq, exists_eq', Option.toList_some, Option.toList_none, List.cons_append, List.nil_append, Bool.not_false, Bool.not_true, Bool.and_true, Bool.and_false, Bool.true_and, Bool.false_and, hS_s, hS_n, ne_eq, not_false_eq_true, Classical.not_not, Nat.reduceAdd, eq_self, forall_const, false_implies, true_implies, not_true_eq_false, implies_true, lkk_s, lkk_n, sto1_e, sto1_s, sto1_i, sto1_r, sto1_l, stf_e, stf_i, stf_r, stf_l, a0, k0]
    refine calq (Nat.le_of_ble_eq_true rfl) (by first | decide | omega) (cz_put (it := (k, 0, 0, 0)) hT hd (fun s => ⟨hl, rfl, rfl, by rw [eN]; rfl⟩) hk) ?_
    rintro v h4 ⟨rfl, hT4, hF4⟩
    refine bX7_readPlainOne_90 ?_
    simp +decide (disch := omega) only [lv_args, Value.category, sto2, List.filter_cons, List.filter_nil, if_true, if_false, tPush, tIld, tLld, tAld, tIst, tAst, tLst, tInc, tB, tBn, tU, tLB, tLBn, tLS, tI2l, tL2i, tLcmp, tDup, tPop, tDup2, tDupx1, tIf, tIf2, tNul, tAcm, tRetI, tRetZ, tRetC, tRetL, tRetV, tRetA, tGetf, tPutf, isI, isL, isA, isZ, tXald, tXast, tZast, tJald, tJast, tRald, tLen, tCV0, tCV1, tCV2, tCV3, tCV4, tCV5, tCS1, tCS2, tCS3, tCS4, tCS5, tCS6, tCS7, tCpyI, tCpyJ, tMax, tMin, tAbs, tSw, tTab, tLook, tLk, Int32.reduceAdd, List.map_cons, List.map_nil, List.sum_cons, List.sum_nil, List.getElem?_cons_succ, List.getElem?_cons_zero, List.set_cons_succ, List.set_cons_zero, true_and, and_true, Option.some.injEq, Sum.inl.injEq, Sum.inr.injEq, Prod.mk.injEq, Value.int.injEq, Value.ref.injEq, Value.long.injEq, exists_eq', Option.toList_some, Option.toList_none, List.cons_append, List.nil_append, Bool.not_false, Bool.not_true, Bool.and_true, Bool.and_false, Bool.true_and, Bool.false_and, hS_s, hS_n, ne_eq, not_false_eq_true, Classical.not_not, Nat.reduceAdd, eq_self, forall_const, false_implies, true_implies, not_true_eq_false, implies_true, lkk_s, lkk_n, sto1_e, sto1_s, sto1_i, sto1_r, sto1_l, stf_e, stf_i, stf_r, stf_l, a0, k0]
    exact ⟨rfl, hT4, hF4⟩

