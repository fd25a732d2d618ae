/-! ===== the class's Sentence: its heap, put, plain ones ===== -/
def HasSn (h : Hp) (a : Nat) (v : Int32) (c : Nat) (wf : Nat → Option Nat) (sf nf pf : Nat → Int32) (ht : Int32) : Prop := h.2 a = some (.inl (6, [.int v, .int (nI c), .ref (a + 1), .ref (a + 2), .ref (a + 3), .ref (a + 4), .int ht])) ∧ h.2 (a + 1) = some (.inr (.inr (.inr (0, 40, wf)))) ∧ h.2 (a + 2) = some (.inr (.inl (0, 40, sf))) ∧ h.2 (a + 3) = some (.inr (.inl (0, 40, nf))) ∧ h.2 (a + 4) = some (.inr (.inl (0, 40, pf)))
def WF (G : Gt) (wf : Nat → Option Nat) : Prop := ∀ i, i < 40 → ∃ k, k < 25 ∧ wf i = some (adW G k)
def nbI (it : It) : Nat := if it.1 = 18 ∨ it.1 = 20 then it.2.1 else if 21 ≤ it.1 then it.2.2.1 else 0
def ItO (G : Gt) (I : List It) (wf : Nat → Option Nat) (sf nf : Nat → Int32) : Prop := ∀ i it, I[i]? = some it → it.1 < 25 ∧ wf i = some (adW G it.1) ∧ sf i = nI it.2.2.2 ∧ nf i = nI (nbI it)
def HasS0 (G : Gt) (h : Hp) (a : Nat) : Prop := ∃ v c wf sf nf pf ht, HasSn h a v c wf sf nf pf ht ∧ c ≤ 40 ∧ WF G wf
def HasSe (G : Gt) (h : Hp) (a n : Nat) (I : List It) : Prop := ∃ wf sf nf pf ht, HasSn h a (nI n) I.length wf sf nf pf ht ∧ I.length ≤ 40 ∧ WF G wf ∧ ItO G I wf sf nf
theorem HasSe.s0 {G : Gt} {h : Hp} {a n : Nat} {I : List It} (hs : HasSe G h a n I) : HasS0 G h a := by
  obtain ⟨wf, sf, nf, pf, ht, h1, h2, h3, h4⟩ := hs
  exact ⟨_, _, wf, sf, nf, pf, ht, h1, h2, h3⟩
theorem HasSn.frame {h h' : Hp} {a c lo hi : Nat} {v ht : Int32} {wf : Nat → Option Nat} {sf nf pf : Nat → Int32} (hs : HasSn h a v c wf sf nf pf ht) (hf : Fm lo hi h h') (hd : a + 4 < lo ∨ hi < a) : HasSn h' a v c wf sf nf pf ht := by
  obtain ⟨h0, h1, h2, h3, h4⟩ := hs
  exact ⟨(hf.2 _ (by omega)).trans h0, (hf.2 _ (by omega)).trans h1, (hf.2 _ (by omega)).trans h2, (hf.2 _ (by omega)).trans h3, (hf.2 _ (by omega)).trans h4⟩
theorem HasS0.frame {G : Gt} {h h' : Hp} {a lo hi : Nat} (hs : HasS0 G h a) (hf : Fm lo hi h h') (hd : a + 4 < lo ∨ hi < a) : HasS0 G h' a := by
  obtain ⟨v, c, wf, sf, nf, pf, ht, h1, h2⟩ := hs
  exact ⟨v, c, wf, sf, nf, pf, ht, h1.frame hf hd, h2⟩
theorem HasSe.frame {G : Gt} {h h' : Hp} {a n lo hi : Nat} {I : List It} (hs : HasSe G h a n I) (hf : Fm lo hi h h') (hd : a + 4 < lo ∨ hi < a) : HasSe G h' a n I := by
  obtain ⟨wf, sf, nf, pf, ht, h1, h2⟩ := hs
  exact ⟨wf, sf, nf, pf, ht, h1.frame hf hd, h2⟩
/-- what the class has put, where the reader is -/
def HasZ (G : Gt) (h : Hp) (a : Nat) (z : Sx) : Prop := (z.1.2.1 = 0 → HasSe G h a z.2.1 z.2.2) ∧ HasS0 G h a
theorem HasZ.frame {G : Gt} {h h' : Hp} {a lo hi : Nat} {z : Sx} (hs : HasZ G h a z) (hf : Fm lo hi h h') (hd : a + 4 < lo ∨ hi < a) : HasZ G h' a z := ⟨fun q => (hs.1 q).frame hf hd, hs.2.frame hf hd⟩
theorem HasZ.c {G : Gt} {h : Hp} {a : Nat} {z : Sx} (hs : HasZ G h a z) : ∃ fs, h.2 a = some (.inl (6, fs)) := by
  obtain ⟨v, c, wf, sf, nf, pf, ht, h1, -⟩ := hs.2
  exact ⟨_, h1.1⟩
theorem WF.up {G : Gt} {wf : Nat → Option Nat} (h : WF G wf) {c k : Nat} (hk : k < 25) : WF G (va_up wf c (some (adW G k))) := by
  intro i hi
  by_cases e : i = c
  · subst e; exact ⟨k, hk, va_up_s⟩
  · rw [va_up_n e]; exact h i hi
theorem ItO.add {G : Gt} {I : List It} {wf : Nat → Option Nat} {sf nf : Nat → Int32} (h : ItO G I wf sf nf) {it : It} (hk : it.1 < 25) : ItO G (I ++ [it]) (va_up wf I.length (some (adW G it.1))) (upd sf I.length (nI it.2.2.2)) (upd nf I.length (nI (nbI it))) := by
  intro i l hi
  by_cases c : i < I.length
  · rw [List.getElem?_append_left c] at hi
    rw [va_up_n (by omega), upd_n (by omega), upd_n (by omega)]
    exact h i l hi
  · rw [List.getElem?_append_right (by omega)] at hi
    have e : i = I.length := by
      have := (List.getElem?_eq_some_iff.mp hi).1
      have : i - I.length < 1 := this
      omega
    subst e
    rw [Nat.sub_self] at hi
    cases hi
    rw [va_up_s, upd_s, upd_s]
    exact ⟨hk, rfl, rfl, rfl⟩
def Qpt (G : Gt) (h : Hp) (a : Nat) (z : Sx) : QT := fun r h' => r = none ∧ HasZ G h' a z ∧ Fm a (a + 4) h h'
theorem sput_core {G : Gt} {h : Hp} {a c k : Nat} {v sg nb ht : Int32} {wf : Nat → Option Nat} {sf nf pf : Nat → Int32} {Q : QT} (hs : HasSn h a v c wf sf nf pf ht) (hc : c < 40) (hk : k < 25) (kk : ∀ h', HasSn h' a v (c + 1) (va_up wf c (some (adW G k))) (upd sf c sg) (upd nf c nb) pf ht → Fm a (a + 4) h h' → Q none h') : Mt G 1 0 0 mX7_put [.ref a, .ref (adW G k), .int sg, .int nb] h Q := by
  refine Mt.of (by decide +kernel) (Nat.le_of_ble_eq_true rfl) ?_
  obtain ⟨h0, h1, h2, h3, h4⟩ := hs
  have e0 : (40 ≤ nI c) = False := eq_false (nI_ge (b := 40) hc (by decide))
  have hin : vp_in (nI c) 40 := vp_in_nI hc (by omega)
  have hcl : (nI c).toNatClampNeg = c := nI_clamp (by omega)
  have pw : ∀ h' : Hp, pWord G h' (adW G k) := fun _ => ⟨k, hk, rfl⟩
  refine bX7_put_0 ?_
  simp +decide (disch := omega) only [lv_args, Value.category, sto2, List.filter_cons, List.filter_nil, if_true, if_false, tPush, tIld, tLld, tAld, tIst, tAst, tLst, tInc, tB, tBn, tU, tLB, tLBn, tLS, tI2l, tL2i, tLcmp, tDup, tPop, tDup2, tDupx1, tIf, tIf2, tNul, tAcm, tRetI, tRetZ, tRetC, tRetL, tRetV, tRetA, tGetf, tPutf, isI, isL, isA, isZ, tXald, tXast, tZast, tJald, tJast, tRald, tLen, tCV0, tCV1, tCV2, tCV3, tCV4, tCV5, tCS1, tCS2, tCS3, tCS4, tCS5, tCS6, tCS7, tCpyI, tCpyJ, tMax, tMin, tAbs, tSw, tTab, tLook, tLk, Int32.reduceAdd, List.map_cons, List.map_nil, List.sum_cons, List.sum_nil, List.getElem?_cons_succ, List.getElem?_cons_zero, List.set_cons_succ, List.set_cons_zero, true_and, and_true, Option.some.injEq, Sum.inl.injEq, Sum.inr.injEq, Prod.mk.injEq, Value.int.injEq, Value.ref.injEq, Value.long.injEq, exists_eq', Option.toList_some, Option.toList_none, List.cons_append, List.nil_append, Bool.not_false, Bool.not_true, Bool.and_true, Bool.and_false, Bool.true_and, Bool.false_and, hS_s, hS_n, ne_eq, not_false_eq_true, Classical.not_not, Nat.reduceAdd, eq_self, forall_const, false_implies, true_implies, not_true_eq_false, implies_true, lkk_s, lkk_n, sto1_e, sto1_s, sto1_i, sto1_r, sto1_l, stf_e, stf_i, stf_r, stf_l, h0, h1, h2, h3, e0, hin, hcl, pw, tRast, nI_1]
  refine bX7_put_9 ?_
  simp +decide (disch := omega) only [lv_args, Value.category, sto2, List.filter_cons, List.filter_nil, if_true, if_false, tPush, tIld, tLld, tAld, tIst, tAst, tLst, tInc, tB, tBn, tU, tLB, tLBn, tLS, tI2l, tL2i, tLcmp, tDup, tPop, tDup2, tDupx1, tIf, tIf2, tNul, tAcm, tRetI, tRetZ, tRetC, tRetL, tRetV, tRetA, tGetf, tPutf, isI, isL, isA, isZ, tXald, tXast, tZast, tJald, tJast, tRald, tLen, tCV0, tCV1, tCV2, tCV3, tCV4, tCV5, tCS1, tCS2, tCS3, tCS4, tCS5, tCS6, tCS7, tCpyI, tCpyJ, tMax, tMin, tAbs, tSw, tTab, tLook, tLk, Int32.reduceAdd, List.map_cons, List.map_nil, List.sum_cons, List.sum_nil, List.getElem?_cons_succ, List.getElem?_cons_zero, List.set_cons_succ, List.set_cons_zero, true_and, and_true, Option.some.injEq, Sum.inl.injEq, Sum.inr.injEq, Prod.mk.injEq, Value.int.injEq, Value.ref.injEq, Value.long.injEq, exists_eq', Option.toList_some, Option.toList_none, List.cons_append, List.nil_append, Bool.not_false, Bool.not_true, Bool.and_true, Bool.and_false, Bool.true_and, Bool.false_and, hS_s, hS_n, ne_eq, not_false_eq_true, Classical.not_not, Nat.reduceAdd, eq_self, forall_const, false_implies, true_implies, not_true_eq_false, implies_true, lkk_s, lkk_n, sto1_e, sto1_s, sto1_i, sto1_r, sto1_l, stf_e, stf_i, stf_r, stf_l, h0, h1, h2, h3, e0, hin, hcl, pw, tRast, nI_1]
  refine bX7_put_49 ?_
  simp +decide (disch := omega) only [lv_args, Value.category, sto2, List.filter_cons, List.filter_nil, if_true, if_false, tPush, tIld, tLld, tAld, tIst, tAst, tLst, tInc, tB, tBn, tU, tLB, tLBn, tLS, tI2l, tL2i, tLcmp, tDup, tPop, tDup2, tDupx1, tIf, tIf2, tNul, tAcm, tRetI, tRetZ, tRetC, tRetL, tRetV, tRetA, tGetf, tPutf, isI, isL, isA, isZ, tXald, tXast, tZast, tJald, tJast, tRald, tLen, tCV0, tCV1, tCV2, tCV3, tCV4, tCV5, tCS1, tCS2, tCS3, tCS4, tCS5, tCS6, tCS7, tCpyI, tCpyJ, tMax, tMin, tAbs, tSw, tTab, tLook, tLk, Int32.reduceAdd, List.map_cons, List.map_nil, List.sum_cons, List.sum_nil, List.getElem?_cons_succ, List.getElem?_cons_zero, List.set_cons_succ, List.set_cons_zero, true_and, and_true, Option.some.injEq, Sum.inl.injEq, Sum.inr.injEq, Prod.mk.injEq, Value.int.injEq, Value.ref.injEq, Value.long.injEq, exists_eq', Option.toList_some, Option.toList_none, List.cons_append, List.nil_append, Bool.not_false, Bool.not_true, Bool.and_true, Bool.and_false, Bool.true_and, Bool.false_and, hS_s, hS_n, ne_eq, not_false_eq_true, Classical.not_not, Nat.reduceAdd, eq_self, forall_const, false_implies, true_implies, not_true_eq_false, implies_true, lkk_s, lkk_n, sto1_e, sto1_s, sto1_i, sto1_r, sto1_l, stf_e, stf_i, stf_r, stf_l, h0, h1, h2, h3, e0, hin, hcl, pw, tRast, nI_1]
  refine kk _ ⟨hS_s, ?_, ?_, ?_, ?_⟩ ((Fm.set (by omega) (by omega)).trans ((Fm.set (by omega) (by omega)).trans ((Fm.set (by omega) (by omega)).trans (Fm.set (by omega) (by omega)))))
  · rw [hS_n (by omega), hS_n (by omega), hS_n (by omega), hS_s]
  · rw [hS_n (by omega), hS_n (by omega), hS_s]
  · rw [hS_n (by omega), hS_s]
  · rw [hS_n (by omega), hS_n (by omega), hS_n (by omega), hS_n (by omega)]; exact h4
theorem sput_full {G : Gt} {h : Hp} {a k : Nat} {v sg nb ht : Int32} {wf : Nat → Option Nat} {sf nf pf : Nat → Int32} (hs : HasSn h a v 40 wf sf nf pf ht) : Mt G 1 0 0 mX7_put [.ref a, .ref (adW G k), .int sg, .int nb] h (fun r h' => r = none ∧ h' = h) := by
  refine Mt.of (by decide +kernel) (Nat.le_of_ble_eq_true rfl) ?_
  obtain ⟨h0, h1, h2, h3, h4⟩ := hs
  have e0 : (40 ≤ nI 40) = True := eq_true (le_rf _)
  refine bX7_put_0 ?_
  simp +decide (disch := omega) only [lv_args, Value.category, sto2, List.filter_cons, List.filter_nil, if_true, if_false, tPush, tIld, tLld, tAld, tIst, tAst, tLst, tInc, tB, tBn, tU, tLB, tLBn, tLS, tI2l, tL2i, tLcmp, tDup, tPop, tDup2, tDupx1, tIf, tIf2, tNul, tAcm, tRetI, tRetZ, tRetC, tRetL, tRetV, tRetA, tGetf, tPutf, isI, isL, isA, isZ, tXald, tXast, tZast, tJald, tJast, tRald, tLen, tCV0, tCV1, tCV2, tCV3, tCV4, tCV5, tCS1, tCS2, tCS3, tCS4, tCS5, tCS6, tCS7, tCpyI, tCpyJ, tMax, tMin, tAbs, tSw, tTab, tLook, tLk, Int32.reduceAdd, List.map_cons, List.map_nil, List.sum_cons, List.sum_nil, List.getElem?_cons_succ, List.getElem?_cons_zero, List.set_cons_succ, List.set_cons_zero, true_and, and_true, Option.some.injEq, Sum.inl.injEq, Sum.inr.injEq, Prod.mk.injEq, Value.int.injEq, Value.ref.injEq, Value.long.injEq, exists_eq', Option.toList_some, Option.toList_none, List.cons_append, List.nil_append, Bool.not_false, Bool.not_true, Bool.and_true, Bool.and_false, Bool.true_and, Bool.false_and, hS_s, hS_n, ne_eq, not_false_eq_true, Classical.not_not, Nat.reduceAdd, eq_self, forall_const, false_implies, true_implies, not_true_eq_false, implies_true, lkk_s, lkk_n, sto1_e, sto1_s, sto1_i, sto1_r, sto1_l, stf_e, stf_i, stf_r, stf_l, h0, e0]
  refine bX7_put_49 ?_
  simp +decide (disch := omega) only [lv_args, Value.category, sto2, List.filter_cons, List.filter_nil, if_true, if_false, tPush, tIld, tLld, tAld, tIst, tAst, tLst, tInc, tB, tBn, tU, tLB, tLBn, tLS, tI2l, tL2i, tLcmp, tDup, tPop, tDup2, tDupx1, tIf, tIf2, tNul, tAcm, tRetI, tRetZ, tRetC, tRetL, tRetV, tRetA, tGetf, tPutf, isI, isL, isA, isZ, tXald, tXast, tZast, tJald, tJast, tRald, tLen, tCV0, tCV1, tCV2, tCV3, tCV4, tCV5, tCS1, tCS2, tCS3, tCS4, tCS5, tCS6, tCS7, tCpyI, tCpyJ, tMax, tMin, tAbs, tSw, tTab, tLook, tLk, Int32.reduceAdd, List.map_cons, List.map_nil, List.sum_cons, List.sum_nil, List.getElem?_cons_succ, List.getElem?_cons_zero, List.set_cons_succ, List.set_cons_zero, true_and, and_true, Option.some.injEq, Sum.inl.injEq, Sum.inr.injEq, Prod.mk.injEq, Value.int.injEq, Value.ref.injEq, Value.long.injEq, exists_eq', Option.toList_some, Option.toList_none, List.cons_append, List.nil_append, Bool.not_false, Bool.not_true, Bool.and_true, Bool.and_false, Bool.true_and, Bool.false_and, hS_s, hS_n, ne_eq, not_false_eq_true, Classical.not_not, Nat.reduceAdd, eq_self, forall_const, false_implies, true_implies, not_true_eq_false, implies_true, lkk_s, lkk_n, sto1_e, sto1_s, sto1_i, sto1_r, sto1_l, stf_e, stf_i, stf_r, stf_l, h0, e0]
  try rfl
theorem ct_sput {G : Gt} {h : Hp} {a k : Nat} {sg nb : Int32} {z : Sx} {it : It} (hz : HasZ G h a z) (hl : z.1.2.1 = 0 → z.2.2.length < 40 ∧ it.1 = k ∧ sg = nI it.2.2.2 ∧ nb = nI (nbI it)) (hk : k < 25) : Mt G 1 0 0 mX7_put [.ref a, .ref (adW G k), .int sg, .int nb] h (Qpt G h a (z.1, z.2.1, z.2.2 ++ [it])) := by
  by_cases hs : z.1.2.1 = 0
  · obtain ⟨l1, rfl, rfl, rfl⟩ := hl hs
    obtain ⟨wf, sf, nf, pf, ht, q1, q2, q3, q4⟩ := hz.1 hs
    refine sput_core q1 l1 hk (fun h' hn hF => ⟨rfl, ?_, hF⟩)
    have hse : HasSe G h' a z.2.1 (z.2.2 ++ [it]) := ⟨_, _, _, _, _, by rw [List.length_append]; exact hn, by rw [List.length_append]; exact l1, q3.up hk, q4.add hk⟩
    exact ⟨fun _ => hse, hse.s0⟩
  · obtain ⟨v, c, wf, sf, nf, pf, ht, q1, q2, q3⟩ := hz.2
    rcases Nat.lt_or_eq_of_le q2 with q | q
    · exact sput_core q1 q hk (fun h' hn hF => ⟨rfl, ⟨fun z => absurd z hs, _, _, _, _, _, _, _, hn, q, q3.up hk⟩, hF⟩)
    · subst q
      exact (sput_full q1).post (by rintro v h' ⟨rfl, rfl⟩; exact ⟨rfl, ⟨fun z => absurd z hs, hz.2⟩, Fm.rf⟩)
theorem tTab_of {F : Nat → Prop} {x : Int32} {td : Nat} : ∀ (ts : List Nat) (v : Int32), (∀ j t, ts[j]? = some t → x = v + nI j → F t) → ((∀ j, j < ts.length → ¬ x = v + nI j) → F td) → tTab F x v ts td
  | [], v, _, h2 => h2 (fun j hj => absurd hj (Nat.not_lt_zero j))
  | t :: ts, v, h1, h2 => by
    have e : ∀ j, v + 1 + nI j = v + nI (j + 1) := fun j => by rw [Int32.add_assoc, show (1 : Int32) = nI 1 from rfl, nI_add, Nat.add_comm 1 j]
    have e0 : v + nI 0 = v := Int32.add_zero v
    refine ⟨fun q => h1 0 t rfl (by rw [e0]; exact q), fun q => tTab_of ts (v + 1) (fun j t' hj q' => h1 (j + 1) t' hj (by rw [← e]; exact q')) (fun hn => h2 (fun j hj => ?_))⟩
    cases j with
    | zero => rw [e0]; exact q
    | succ j => rw [← e]; exact hn j (Nat.lt_of_succ_lt_succ hj)
theorem op_sw : ∀ k, k < 25 → ∀ j, j < 11 → swM.getD k 0 = 6 + nI j → opw k = true := by decide +kernel
theorem op_no : ∀ k, k < 25 → (∀ j, j < 11 → ¬ swM.getD k 0 = 6 + nI j) → opw k = false := by decide +kernel
theorem ct_opensOne {G : Gt} {h : Hp} {k : Nat} (hk : k < 25) : Mt G 2 0 0 mX7_opensOne [.ref (adW G k)] h (fun r h' => r = some (.int (b2i (opw k = true))) ∧ h' = h) := by
  refine Mt.of (by decide +kernel) (Nat.le_of_ble_eq_true rfl) ?_
  refine bX7_opensOne_0 ?_
  simp +decide (disch := omega) only [lv_args, Value.category, sto2, List.filter_cons, List.filter_nil, if_true, if_false, tPush, tIld, tLld, tAld, tIst, tAst, tLst, tInc, tB, tBn, tU, tLB, tLBn, tLS, tI2l, tL2i, tLcmp, tDup, tPop, tDup2, tDupx1, tIf, tIf2, tNul, tAcm, tRetI, tRetZ, tRetC, tRetL, tRetV, tRetA, tGetf, tPutf, isI, isL, isA, isZ, tXald, tXast, tZast, tJald, tJast, tRald, tLen, tCV0, tCV1, tCV2, tCV3, tCV4, tCV5, tCS1, tCS2, tCS3, tCS4, tCS5, tCS6, tCS7, tCpyI, tCpyJ, tMax, tMin, tAbs, tSw, tTab, tLook, tLk, Int32.reduceAdd, List.map_cons, List.map_nil, List.sum_cons, List.sum_nil, List.getElem?_cons_succ, List.getElem?_cons_zero, List.set_cons_succ, List.set_cons_zero, true_and, and_true, Option.some.injEq, Sum.inl.injEq, Sum.inr.injEq, Prod.mk.injEq, Value.int.injEq, Value.ref.injEq, Value.long.injEq, exists_eq', Option.toList_some, Option.toList_none, List.cons_append, List.nil_append, Bool.not_false, Bool.not_true, Bool.and_true, Bool.and_false, Bool.true_and, Bool.false_and, hS_s, hS_n, ne_eq, not_false_eq_true, Classical.not_not, Nat.reduceAdd, eq_self, forall_const, false_implies, true_implies, not_true_eq_false, implies_true, lkk_s, lkk_n, sto1_e, sto1_s, sto1_i, sto1_r, sto1_l, stf_e, stf_i, stf_r, stf_l]
  refine ⟨Nat.le_of_ble_eq_true rfl, by decide, k, hk, rfl, ?_⟩
  refine bX7_opensOne_7 ?_
  refine tald_k hk ?_
  refine tTab_of _ _ (fun j t hj q => ?_) (fun hn => ?_)
  · have hj11 : j < 11 := (List.getElem?_eq_some_iff.mp hj).1
    have e := op_sw k hk j hj11 q
    have et : t = 68 := by
      have := List.mem_of_getElem? hj
      simpa using this
    subst et
    rw [b2i_t e]
    refine bX7_opensOne_68 ?_
    simp +decide (disch := omega) only [lv_args, Value.category, sto2, List.filter_cons, List.filter_nil, if_true, if_false, tPush, tIld, tLld, tAld, tIst, tAst, tLst, tInc, tB, tBn, tU, tLB, tLBn, tLS, tI2l, tL2i, tLcmp, tDup, tPop, tDup2, tDupx1, tIf, tIf2, tNul, tAcm, tRetI, tRetZ, tRetC, tRetL, tRetV, tRetA, tGetf, tPutf, isI, isL, isA, isZ, tXald, tXast, tZast, tJald, tJast, tRald, tLen, tCV0, tCV1, tCV2, tCV3, tCV4, tCV5, tCS1, tCS2, tCS3, tCS4, tCS5, tCS6, tCS7, tCpyI, tCpyJ, tMax, tMin, tAbs, tSw, tTab, tLook, tLk, Int32.reduceAdd, List.map_cons, List.map_nil, List.sum_cons, List.sum_nil, List.getElem?_cons_succ, List.getElem?_cons_zero, List.set_cons_succ, List.set_cons_zero, true_and, and_true, Option.some.injEq, Sum.inl.injEq, Sum.inr.injEq, Prod.mk.injEq, Value.int.injEq, Value.ref.injEq, Value.long.injEq, exists_eq', Option.toList_some, Option.toList_none, List.cons_append, List.nil_append, Bool.not_false, Bool.not_true, Bool.and_true, Bool.and_false, Bool.true_and, Bool.false_and, hS_s, hS_n, ne_eq, not_false_eq_true, Classical.not_not, Nat.reduceAdd, eq_self, forall_const, false_implies, true_implies, not_true_eq_false, implies_true, lkk_s, lkk_n, sto1_e, sto1_s, sto1_i, sto1_r, sto1_l, stf_e, stf_i, stf_r, stf_l, nb1]
    try rfl
  · rw [b2i_f (by rw [op_no k hk (fun j hj => hn j hj)]; decide)]
    refine bX7_opensOne_70 ?_
    simp +decide (disch := omega) only [lv_args, Value.category, sto2, List.filter_cons, List.filter_nil, if_true, if_false, tPush, tIld, tLld, tAld, tIst, tAst, tLst, tInc, tB, tBn, tU, tLB, tLBn, tLS, tI2l, tL2i, tLcmp, tDup, tPop, tDup2, tDupx1, tIf, tIf2, tNul, tAcm, tRetI, tRetZ, tRetC, tRetL, tRetV, tRetA, tGetf, tPutf, isI, isL, isA, isZ, tXald, tXast, tZast, tJald, tJast, tRald, tLen, tCV0, tCV1, tCV2, tCV3, tCV4, tCV5, tCS1, tCS2, tCS3, tCS4, tCS5, tCS6, tCS7, tCpyI, tCpyJ, tMax, tMin, tAbs, tSw, tTab, tLook, tLk, Int32.reduceAdd, List.map_cons, List.map_nil, List.sum_cons, List.sum_nil, List.getElem?_cons_succ, List.getElem?_cons_zero, List.set_cons_succ, List.set_cons_zero, true_and, and_true, Option.some.injEq, Sum.inl.injEq, Sum.inr.injEq, Prod.mk.injEq, Value.int.injEq, Value.ref.injEq, Value.long.injEq, exists_eq', Option.toList_some, Option.toList_none, List.cons_append, List.nil_append, Bool.not_false, Bool.not_true, Bool.and_true, Bool.and_false, Bool.true_and, Bool.false_and, hS_s, hS_n, ne_eq, not_false_eq_true, Classical.not_not, Nat.reduceAdd, eq_self, forall_const, false_implies, true_implies, not_true_eq_false, implies_true, lkk_s, lkk_n, sto1_e, sto1_s, sto1_i, sto1_r, sto1_l, stf_e, stf_i, stf_r, stf_l, nb0]
    try rfl

