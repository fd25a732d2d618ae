/-! ===== the class's reader of bridges: lines ===== -/
theorem stp_0 {x : Tx} {st : St} : (stp x st).2.1 = st.2.1 := by unfold stp; split <;> rfl
theorem nNm_0 {x : Tx} {w : Wd} {st : St} (h : (nNm x w st).2.1 = 0) : st.2.1 = 0 ∧ isW x 0 st = true ∧ (fnd (wN w 1) (nm32 (tkx x st.1).2.2.1) (wPe w) = -1 ∧ fnd (wN w 0) (nm32 (tkx x st.1).2.2.1) (wTh w) = -1) ∧ nNm x w st = st := by
  unfold nNm at h ⊢
  split at h
  · rename_i q
    split at h
    · rename_i q2
      exact ⟨h, q, q2, by rw [if_pos q, if_pos q2]⟩
    · exact (flt_n0 (by decide) h).elim
  · exact (flt_n0 (by decide) h).elim
theorem pHr_0 {x : Tx} {w : Wd} {st : St} (h : (pHr x w st).2.1 = 0) : st.2.1 = 0 ∧ isW x 0 st = true ∧ ¬ vPr x w st = -1 ∧ pHr x w st = st := by
  unfold pHr at h ⊢
  split at h
  · rename_i q
    split at h
    · exact (flt_n0 (by decide) h).elim
    · rename_i q2
      exact ⟨h, q, q2, by rw [if_pos q, if_neg q2]⟩
  · exact (flt_n0 (by decide) h).elim
theorem tHr_0 {x : Tx} {w : Wd} {st : St} (h : (tHr x w st).2.1 = 0) : st.2.1 = 0 ∧ isW x 0 st = true ∧ ¬ vTr x w st = -1 ∧ tHr x w st = st := by
  unfold tHr at h ⊢
  split at h
  · rename_i q
    split at h
    · exact (flt_n0 (by decide) h).elim
    · rename_i q2
      exact ⟨h, q, q2, by rw [if_pos q, if_neg q2]⟩
  · exact (flt_n0 (by decide) h).elim
theorem fndA_or (f : Nat → Int64) (v : Int64) : ∀ k i, fndA f v i k = -1 ∨ ∃ j, i ≤ j ∧ j < i + k ∧ fndA f v i k = nI j ∧ f j = v
  | 0, i => Or.inl rfl
  | k + 1, i => by
    rw [fndA]
    by_cases h : f i = v
    · rw [if_pos h]; exact Or.inr ⟨i, Nat.le_refl _, by omega, rfl, h⟩
    · rw [if_neg h]
      rcases fndA_or f v k (i + 1) with e | ⟨j, h1, h2, h3, h4⟩
      · exact Or.inl e
      · exact Or.inr ⟨j, by omega, by omega, h3, h4⟩
theorem fnd_or (f : Nat → Int64) (v : Int64) (n : Nat) : fnd f v n = -1 ∨ ∃ j, j < n ∧ fnd f v n = nI j := by
  rcases fndA_or f v n 0 with e | ⟨j, h1, h2, h3, h4⟩
  · exact Or.inl e
  · exact Or.inr ⟨j, by omega, h3⟩
/-- thing -/
def th1 (x : Tx) (w : Wd) (st : St) : St := stp x (if wTh w < 6 then st else flt x 4 st)
def th2 (x : Tx) (w : Wd) (st : St) : St := nNm x w (th1 x w st)
def th3 (x : Tx) (w : Wd) (st : St) : St := stp x (th2 x w st)
def th4 (x : Tx) (w : Wd) (st : St) : St := tEn x (th3 x w st)
def th5 (x : Tx) (w : Wd) (st : St) : St := tNm x 1 9 (th4 x w st)
def rTh (x : Tx) (w : Wd) (st : St) : St × Wd := (th5 x w st, if (th5 x w st).2.1 = 0 then addTh w (nm32 (tkx x (th1 x w st).1).2.2.1) (nI (vEn x (th3 x w st))) (nI (tkx x (th4 x w st).1).2.2.2) else w)
/-- person -/
def pe1 (x : Tx) (w : Wd) (st : St) : St := stp x (if wPe w < 8 then st else flt x 4 st)
def pe2 (x : Tx) (w : Wd) (st : St) : St := nNm x w (pe1 x w st)
def pe3 (x : Tx) (w : Wd) (st : St) : St := stp x (pe2 x w st)
def pe4 (x : Tx) (w : Wd) (st : St) : St := tPl x (pe3 x w st)
def pe5 (x : Tx) (w : Wd) (st : St) : St := tEn x (pe4 x w st)
def rPe (x : Tx) (w : Wd) (st : St) : St × Wd := (pe5 x w st, if (pe5 x w st).2.1 = 0 then addPe w (nm32 (tkx x (pe1 x w st).1).2.2.1) (nI (vPl x (pe3 x w st))) (nI (vEn x (pe4 x w st))) else w)
/-- has -/
def ha2 (x : Tx) (w : Wd) (st : St) : St := pHr x w (stp x st)
def ha3 (x : Tx) (w : Wd) (st : St) : St := stp x (ha2 x w st)
def ha4 (x : Tx) (w : Wd) (st : St) : St := tHr x w (ha3 x w st)
def haP (x : Tx) (w : Wd) (st : St) : Nat := (vPr x w (stp x st)).toNatClampNeg
def haT (x : Tx) (w : Wd) (st : St) : Nat := (vTr x w (ha3 x w st)).toNatClampNeg
def ha5 (x : Tx) (w : Wd) (st : St) : St := if (ha4 x w st).2.1 = 0 ∧ ¬ hld w (haP x w st) (haT x w st) = 0 then flt x 3 (ha4 x w st) else ha4 x w st
def ha6 (x : Tx) (w : Wd) (st : St) : St := stp x (ha5 x w st)
def ha7 (x : Tx) (w : Wd) (st : St) : St := tNm x 1 12 (ha6 x w st)
def rHa (x : Tx) (w : Wd) (st : St) : St × Wd := (ha7 x w st, if (ha7 x w st).2.1 = 0 then wHeld w (haP x w st) (haT x w st) (nI (tkx x (ha6 x w st).1).2.2.2) else w)
/-- asks -/
def as2 (x : Tx) (w : Wd) (st : St) : St := tEn x (stp x st)
def as3 (x : Tx) (w : Wd) (st : St) : St := tHr x w (as2 x w st)
def asE (x : Tx) (st : St) : Nat := vEn x (stp x st)
def asT (x : Tx) (w : Wd) (st : St) : Nat := (vTr x w (as2 x w st)).toNatClampNeg
def as4 (x : Tx) (w : Wd) (st : St) : St := if (as3 x w st).2.1 = 0 ∧ ¬ tol w (asE x st) (asT x w st) = 0 then flt x 3 (as3 x w st) else as3 x w st
def as5 (x : Tx) (w : Wd) (st : St) : St := stp x (as4 x w st)
def as6 (x : Tx) (w : Wd) (st : St) : St := tNm x 1 12 (as5 x w st)
def rAs (x : Tx) (w : Wd) (st : St) : St × Wd := (as6 x w st, if (as6 x w st).2.1 = 0 then wToll w (asE x st) (asT x w st) (nI (tkx x (as5 x w st).1).2.2.2) else w)
/-- meets -/
def pMt (x : Tx) (w : Wd) (st : St) : St := if (pHr x w st).2.1 = 0 ∧ ¬ wI w 6 (vPr x w st).toNatClampNeg = -1 then flt x 3 (pHr x w st) else pHr x w st
def me2 (x : Tx) (w : Wd) (st : St) : St := pMt x w (stp x st)
def me3 (x : Tx) (w : Wd) (st : St) : St := stp x (me2 x w st)
def me4 (x : Tx) (w : Wd) (st : St) : St := pMt x w (me3 x w st)
def me5 (x : Tx) (w : Wd) (st : St) : St := if (me4 x w st).2.1 = 0 ∧ vPr x w (stp x st) = vPr x w (me3 x w st) then flt x 3 (me4 x w st) else me4 x w st
def me6 (x : Tx) (w : Wd) (st : St) : St := stp x (me5 x w st)
def rMe (x : Tx) (w : Wd) (st : St) : St × Wd := (me6 x w st, if (me6 x w st).2.1 = 0 then pairW w (vPr x w (stp x st)).toNatClampNeg (vPr x w (me3 x w st)).toNatClampNeg else w)
def rLn (x : Tx) (w : Wd) (st : St) : St × Wd := if isW x 1 st = true then rTh x w st else if isW x 2 st = true then rPe x w st else if isW x 3 st = true then rHa x w st else if isW x 4 st = true then rAs x w st else if isW x 5 st = true then rMe x w st else (flt x 1 st, w)
theorem th1_lt {x : Tx} {w : Wd} {st : St} (h : (th1 x w st).2.1 = 0) : st.2.1 = 0 ∧ wTh w < 6 := by
  unfold th1 at h
  rw [stp_0] at h
  split at h
  · rename_i z; exact ⟨h, z⟩
  · exact (flt_n0 (by decide) h).elim
theorem pe1_lt {x : Tx} {w : Wd} {st : St} (h : (pe1 x w st).2.1 = 0) : st.2.1 = 0 ∧ wPe w < 8 := by
  unfold pe1 at h
  rw [stp_0] at h
  split at h
  · rename_i z; exact ⟨h, z⟩
  · exact (flt_n0 (by decide) h).elim
theorem tEn_0 {x : Tx} {st : St} (h : (tEn x st).2.1 = 0) : st.2.1 = 0 ∧ (isW x 6 st || isW x 8 st) = true := by
  unfold tEn at h
  exact or_0 h
theorem tPl_0 {x : Tx} {st : St} (h : (tPl x st).2.1 = 0) : st.2.1 = 0 ∧ (isW x 6 st || (isW x 7 st || isW x 8 st)) = true := by
  unfold tPl at h
  exact or_0 h
theorem th_ok {x : Tx} {w : Wd} {st : St} (h : (th5 x w st).2.1 = 0) : (th4 x w st).2.1 = 0 ∧ (th3 x w st).2.1 = 0 ∧ (th2 x w st).2.1 = 0 ∧ (th1 x w st).2.1 = 0 ∧ st.2.1 = 0 ∧ wTh w < 6 := by
  unfold th5 at h
  have h4 := (tNm_0 h).1
  have h3 := h4
  unfold th4 at h3
  have h3 := (tEn_0 h3).1
  have h2 := h3
  unfold th3 at h2
  rw [stp_0] at h2
  have h1 := h2
  unfold th2 at h1
  have h1 := (nNm_0 h1).1
  exact ⟨h4, h3, h2, h1, th1_lt h1⟩
theorem pe_ok {x : Tx} {w : Wd} {st : St} (h : (pe5 x w st).2.1 = 0) : (pe4 x w st).2.1 = 0 ∧ (pe3 x w st).2.1 = 0 ∧ (pe2 x w st).2.1 = 0 ∧ (pe1 x w st).2.1 = 0 ∧ st.2.1 = 0 ∧ wPe w < 8 := by
  unfold pe5 at h
  have h4 := (tEn_0 h).1
  have h3 := h4
  unfold pe4 at h3
  have h3 := (tPl_0 h3).1
  have h2 := h3
  unfold pe3 at h2
  rw [stp_0] at h2
  have h1 := h2
  unfold pe2 at h1
  have h1 := (nNm_0 h1).1
  exact ⟨h4, h3, h2, h1, pe1_lt h1⟩
theorem rTh_1 {x : Tx} {w : Wd} {st : St} : (rTh x w st).1 = th5 x w st := by
  unfold rTh
  dsimp only
theorem rTh_y {x : Tx} {w : Wd} {st : St} (h : (th5 x w st).2.1 = 0) : (rTh x w st).2 = addTh w (nm32 (tkx x (th1 x w st).1).2.2.1) (nI (vEn x (th3 x w st))) (nI (tkx x (th4 x w st).1).2.2.2) := by
  unfold rTh
  dsimp only
  rw [if_pos h]
theorem rTh_n {x : Tx} {w : Wd} {st : St} (h : ¬ (th5 x w st).2.1 = 0) : (rTh x w st).2 = w := by
  unfold rTh
  dsimp only
  rw [if_neg h]
theorem rPe_1 {x : Tx} {w : Wd} {st : St} : (rPe x w st).1 = pe5 x w st := by
  unfold rPe
  dsimp only
theorem rPe_y {x : Tx} {w : Wd} {st : St} (h : (pe5 x w st).2.1 = 0) : (rPe x w st).2 = addPe w (nm32 (tkx x (pe1 x w st).1).2.2.1) (nI (vPl x (pe3 x w st))) (nI (vEn x (pe4 x w st))) := by
  unfold rPe
  dsimp only
  rw [if_pos h]
theorem rPe_n {x : Tx} {w : Wd} {st : St} (h : ¬ (pe5 x w st).2.1 = 0) : (rPe x w st).2 = w := by
  unfold rPe
  dsimp only
  rw [if_neg h]
theorem rHa_1 {x : Tx} {w : Wd} {st : St} : (rHa x w st).1 = ha7 x w st := by
  unfold rHa
  dsimp only
theorem rHa_y {x : Tx} {w : Wd} {st : St} (h : (ha7 x w st).2.1 = 0) : (rHa x w st).2 = wHeld w (haP x w st) (haT x w st) (nI (tkx x (ha6 x w st).1).2.2.2) := by
  unfold rHa
  dsimp only
  rw [if_pos h]
theorem rHa_n {x : Tx} {w : Wd} {st : St} (h : ¬ (ha7 x w st).2.1 = 0) : (rHa x w st).2 = w := by
  unfold rHa
  dsimp only
  rw [if_neg h]
theorem rAs_1 {x : Tx} {w : Wd} {st : St} : (rAs x w st).1 = as6 x w st := by
  unfold rAs
  dsimp only
theorem rAs_y {x : Tx} {w : Wd} {st : St} (h : (as6 x w st).2.1 = 0) : (rAs x w st).2 = wToll w (asE x st) (asT x w st) (nI (tkx x (as5 x w st).1).2.2.2) := by
  unfold rAs
  dsimp only
  rw [if_pos h]
theorem rAs_n {x : Tx} {w : Wd} {st : St} (h : ¬ (as6 x w st).2.1 = 0) : (rAs x w st).2 = w := by
  unfold rAs
  dsimp only
  rw [if_neg h]
theorem rMe_1 {x : Tx} {w : Wd} {st : St} : (rMe x w st).1 = me6 x w st := by
  unfold rMe
  dsimp only
theorem rMe_y {x : Tx} {w : Wd} {st : St} (h : (me6 x w st).2.1 = 0) : (rMe x w st).2 = pairW w (vPr x w (stp x st)).toNatClampNeg (vPr x w (me3 x w st)).toNatClampNeg := by
  unfold rMe
  dsimp only
  rw [if_pos h]
theorem rMe_n {x : Tx} {w : Wd} {st : St} (h : ¬ (me6 x w st).2.1 = 0) : (rMe x w st).2 = w := by
  unfold rMe
  dsimp only
  rw [if_neg h]
theorem HasR.world {G : Gt} {h h' : Hp} {b t : Nat} {x : Tx} {st : St} {w w' : Wd} (hR : HasR G h b t x st w) (hW : HasW h' (b + 6) w') (hF : Fm (b + 6) (b + 6 + 11) h h') : HasR G h' b t x st w' ∧ Fm b (b + 17) h h' := ⟨⟨(hF.2 _ (by omega)).trans hR.1, hR.2.1.frame hF (Or.inl (by omega)), hW⟩, hF.wide (by omega) (by omega)⟩
theorem ct_rdThing {G : Gt} {h : Hp} {b t : Nat} {x : Tx} {st : St} {w : Wd} (hR : HasR G h b t x st w) (hth : wTh w ≤ 6) (hpe : wPe w ≤ 8) : Mt G 3 0 0 mX2_readThing [.ref (b + 5)] h (QR G h b t x (rTh x w st).1 (rTh x w st).2 (fun r => r = none)) := by
  refine Mt.of (by decide +kernel) (Nat.le_of_ble_eq_true rfl) ?_
  have r0 := hR.1
  have k0 := hR.c0
  have w0 := hR.2.2.1
  have e0 : (nI (wTh w) < 6) = (wTh w < 6) := propext (nI_ltI (b := 6) (by omega) (by decide))
  have cont : ∀ (h1 : Hp) (s0 : St), HasR G h1 b t x s0 w → Fm b (b + 17) h h1 → s0 = (if wTh w < 6 then st else flt x 4 st) → T G 3 0 0 mX2_readThing 20 [(0, .ref (b + 5))] [] h1 (QR G h b t x (rTh x w st).1 (rTh x w st).2 (fun r => r = none)) := by
    intro h1 s0 hR1 hF1 hs0
    have r1 := hR1.1
    have k1 := hR1.c0
    have w1 := hR1.2.2.1
    refine bX2_readThing_20 ?_
    simp +decide (disch := omega) only [lv_args, Value.category, lk, sto1, sto2, List.filter_cons, List.filter_nil, if_true, if_false, tPush, tIld, tLld, tAld, tIst, tAst, tLst, tInc, tB, tBn, tU, tLB, tLBn, tLS, tI2l, tL2i, tLcmp, tDup, tPop, tDup2, tDupx1, tIf, tIf2, tNul, tAcm, tRetI, tRetZ, tRetC, tRetL, tRetV, tRetA, tGetf, tPutf, isI, isL, isA, isZ, tXald, tXast, tZast, tJald, tJast, tRald, tLen, tCV0, tCV1, tCV2, tCV3, tCV4, tCV5, tCS1, tCS2, tCS3, tCS4, tCS5, tCS6, tCS7, tCpyI, tCpyJ, tMax, tMin, tAbs, tSw, tTab, tLook, tLk, Int32.reduceAdd, List.map_cons, List.map_nil, List.sum_cons, List.sum_nil, List.getElem?_cons_succ, List.getElem?_cons_zero, List.set_cons_succ, List.set_cons_zero, true_and, and_true, Option.some.injEq, Sum.inl.injEq, Sum.inr.injEq, Prod.mk.injEq, Value.int.injEq, Value.ref.injEq, Value.long.injEq, exists_eq', Option.toList_some, Option.toList_none, List.cons_append, List.nil_append, Bool.not_false, Bool.not_true, Bool.and_true, Bool.and_false, Bool.true_and, Bool.false_and, hS_s, hS_n, ne_eq, not_false_eq_true, Classical.not_not, Nat.reduceAdd, eq_self, forall_const, false_implies, true_implies, not_true_eq_false, implies_true, r1, k1, w1]
    refine calq (Nat.le_of_ble_eq_true rfl) (by first | decide | omega) (cr_step hR1) ?_
    rintro v h2 ⟨rfl, hR2, hF2⟩
    rw [hs0, show stp x (if wTh w < 6 then st else flt x 4 st) = th1 x w st from rfl] at hR2
    have r2 := hR2.1
    have k2 := hR2.c0
    have w2 := hR2.2.2.1
    refine bX2_readThing_27 ?_
    simp +decide (disch := omega) only [lv_args, Value.category, lk, sto1, sto2, List.filter_cons, List.filter_nil, if_true, if_false, tPush, tIld, tLld, tAld, tIst, tAst, tLst, tInc, tB, tBn, tU, tLB, tLBn, tLS, tI2l, tL2i, tLcmp, tDup, tPop, tDup2, tDupx1, tIf, tIf2, tNul, tAcm, tRetI, tRetZ, tRetC, tRetL, tRetV, tRetA, tGetf, tPutf, isI, isL, isA, isZ, tXald, tXast, tZast, tJald, tJast, tRald, tLen, tCV0, tCV1, tCV2, tCV3, tCV4, tCV5, tCS1, tCS2, tCS3, tCS4, tCS5, tCS6, tCS7, tCpyI, tCpyJ, tMax, tMin, tAbs, tSw, tTab, tLook, tLk, Int32.reduceAdd, List.map_cons, List.map_nil, List.sum_cons, List.sum_nil, List.getElem?_cons_succ, List.getElem?_cons_zero, List.set_cons_succ, List.set_cons_zero, true_and, and_true, Option.some.injEq, Sum.inl.injEq, Sum.inr.injEq, Prod.mk.injEq, Value.int.injEq, Value.ref.injEq, Value.long.injEq, exists_eq', Option.toList_some, Option.toList_none, List.cons_append, List.nil_append, Bool.not_false, Bool.not_true, Bool.and_true, Bool.and_false, Bool.true_and, Bool.false_and, hS_s, hS_n, ne_eq, not_false_eq_true, Classical.not_not, Nat.reduceAdd, eq_self, forall_const, false_implies, true_implies, not_true_eq_false, implies_true, r2, k2, w2]
    refine calq (Nat.le_of_ble_eq_true rfl) (by first | decide | omega) (cr_newName hR2 hth hpe) ?_
    rintro v h3 ⟨⟨u, rfl, hu⟩, hR3, hF3⟩
    rw [show nNm x w (th1 x w st) = th2 x w st from rfl] at hR3 hu
    have r3 := hR3.1
    have k3 := hR3.c0
    have w3 := hR3.2.2.1
    refine bX2_readThing_38 ?_
    simp +decide (disch := omega) only [lv_args, Value.category, lk, sto1, sto2, List.filter_cons, List.filter_nil, if_true, if_false, tPush, tIld, tLld, tAld, tIst, tAst, tLst, tInc, tB, tBn, tU, tLB, tLBn, tLS, tI2l, tL2i, tLcmp, tDup, tPop, tDup2, tDupx1, tIf, tIf2, tNul, tAcm, tRetI, tRetZ, tRetC, tRetL, tRetV, tRetA, tGetf, tPutf, isI, isL, isA, isZ, tXald, tXast, tZast, tJald, tJast, tRald, tLen, tCV0, tCV1, tCV2, tCV3, tCV4, tCV5, tCS1, tCS2, tCS3, tCS4, tCS5, tCS6, tCS7, tCpyI, tCpyJ, tMax, tMin, tAbs, tSw, tTab, tLook, tLk, Int32.reduceAdd, List.map_cons, List.map_nil, List.sum_cons, List.sum_nil, List.getElem?_cons_succ, List.getElem?_cons_zero, List.set_cons_succ, List.set_cons_zero, true_and, and_true, Option.some.injEq, Sum.inl.injEq, Sum.inr.injEq, Prod.mk.injEq, Value.int.injEq, Value.ref.injEq, Value.long.injEq, exists_eq', Option.toList_some, Option.toList_none, List.cons_append, List.nil_append, Bool.not_false, Bool.not_true, Bool.and_true, Bool.and_false, Bool.true_and, Bool.false_and, hS_s, hS_n, ne_eq, not_false_eq_true, Classical.not_not, Nat.reduceAdd, eq_self, forall_const, false_implies, true_implies, not_true_eq_false, implies_true, r3, k3, w3]
    refine calq (Nat.le_of_ble_eq_true rfl) (by first | decide | omega) (cr_step hR3) ?_
    rintro v h4 ⟨rfl, hR4, hF4⟩
    rw [show stp x (th2 x w st) = th3 x w st from rfl] at hR4
    have r4 := hR4.1
    have k4 := hR4.c0
    have w4 := hR4.2.2.1
    refine bX2_readThing_46 ?_
    simp +decide (disch := omega) only [lv_args, Value.category, lk, sto1, sto2, List.filter_cons, List.filter_nil, if_true, if_false, tPush, tIld, tLld, tAld, tIst, tAst, tLst, tInc, tB, tBn, tU, tLB, tLBn, tLS, tI2l, tL2i, tLcmp, tDup, tPop, tDup2, tDupx1, tIf, tIf2, tNul, tAcm, tRetI, tRetZ, tRetC, tRetL, tRetV, tRetA, tGetf, tPutf, isI, isL, isA, isZ, tXald, tXast, tZast, tJald, tJast, tRald, tLen, tCV0, tCV1, tCV2, tCV3, tCV4, tCV5, tCS1, tCS2, tCS3, tCS4, tCS5, tCS6, tCS7, tCpyI, tCpyJ, tMax, tMin, tAbs, tSw, tTab, tLook, tLk, Int32.reduceAdd, List.map_cons, List.map_nil, List.sum_cons, List.sum_nil, List.getElem?_cons_succ, List.getElem?_cons_zero, List.set_cons_succ, List.set_cons_zero, true_and, and_true, Option.some.injEq, Sum.inl.injEq, Sum.inr.injEq, Prod.mk.injEq, Value.int.injEq, Value.ref.injEq, Value.long.injEq, exists_eq', Option.toList_some, Option.toList_none, List.cons_append, List.nil_append, Bool.not_false, Bool.not_true, Bool.and_true, Bool.and_false, Bool.true_and, Bool.false_and, hS_s, hS_n, ne_eq, not_false_eq_true, Classical.not_not, Nat.reduceAdd, eq_self, forall_const, false_implies, true_implies, not_true_eq_false, implies_true, r4, k4, w4]
    refine calq (Nat.le_of_ble_eq_true rfl) (by first | decide | omega) (cr_takeEnd hR4) ?_
    rintro v h5 ⟨⟨u5, rfl, hu5⟩, hR5, hF5⟩
    rw [show tEn x (th3 x w st) = th4 x w st from rfl] at hR5 hu5
    have r5 := hR5.1
    have k5 := hR5.c0
    have w5 := hR5.2.2.1
    refine bX2_readThing_53 ?_
    simp +decide (disch := omega) only [lv_args, Value.category, lk, sto1, sto2, List.filter_cons, List.filter_nil, if_true, if_false, tPush, tIld, tLld, tAld, tIst, tAst, tLst, tInc, tB, tBn, tU, tLB, tLBn, tLS, tI2l, tL2i, tLcmp, tDup, tPop, tDup2, tDupx1, tIf, tIf2, tNul, tAcm, tRetI, tRetZ, tRetC, tRetL, tRetV, tRetA, tGetf, tPutf, isI, isL, isA, isZ, tXald, tXast, tZast, tJald, tJast, tRald, tLen, tCV0, tCV1, tCV2, tCV3, tCV4, tCV5, tCS1, tCS2, tCS3, tCS4, tCS5, tCS6, tCS7, tCpyI, tCpyJ, tMax, tMin, tAbs, tSw, tTab, tLook, tLk, Int32.reduceAdd, List.map_cons, List.map_nil, List.sum_cons, List.sum_nil, List.getElem?_cons_succ, List.getElem?_cons_zero, List.set_cons_succ, List.set_cons_zero, true_and, and_true, Option.some.injEq, Sum.inl.injEq, Sum.inr.injEq, Prod.mk.injEq, Value.int.injEq, Value.ref.injEq, Value.long.injEq, exists_eq', Option.toList_some, Option.toList_none, List.cons_append, List.nil_append, Bool.not_false, Bool.not_true, Bool.and_true, Bool.and_false, Bool.true_and, Bool.false_and, hS_s, hS_n, ne_eq, not_false_eq_true, Classical.not_not, Nat.reduceAdd, eq_self, forall_const, false_implies, true_implies, not_true_eq_false, implies_true, r5, k5, w5]
    refine calq (Nat.le_of_ble_eq_true rfl) (by first | decide | omega) (cr_takeNumber (lo := 1) (hi := 9) hR5 (by decide) (by decide)) ?_
    rintro v h6 ⟨⟨u6, rfl, hu6⟩, hR6, hF6⟩
    rw [show tNm x 1 9 (th4 x w st) = th5 x w st from rfl] at hR6 hu6
    have r6 := hR6.1
    have k6 := hR6.c0
    have w6 := hR6.2.2.1
    have hF := hF1.trans (hF2.trans (hF3.trans (hF4.trans (hF5.trans hF6))))
    refine bX2_readThing_64 ?_
    simp +decide (disch := omega) only [lv_args, Value.category, lk, sto1, sto2, List.filter_cons, List.filter_nil, if_true, if_false, tPush, tIld, tLld, tAld, tIst, tAst, tLst, tInc, tB, tBn, tU, tLB, tLBn, tLS, tI2l, tL2i, tLcmp, tDup, tPop, tDup2, tDupx1, tIf, tIf2, tNul, tAcm, tRetI, tRetZ, tRetC, tRetL, tRetV, tRetA, tGetf, tPutf, isI, isL, isA, isZ, tXald, tXast, tZast, tJald, tJast, tRald, tLen, tCV0, tCV1, tCV2, tCV3, tCV4, tCV5, tCS1, tCS2, tCS3, tCS4, tCS5, tCS6, tCS7, tCpyI, tCpyJ, tMax, tMin, tAbs, tSw, tTab, tLook, tLk, Int32.reduceAdd, List.map_cons, List.map_nil, List.sum_cons, List.sum_nil, List.getElem?_cons_succ, List.getElem?_cons_zero, List.set_cons_succ, List.set_cons_zero, true_and, and_true, Option.some.injEq, Sum.inl.injEq, Sum.inr.injEq, Prod.mk.injEq, Value.int.injEq, Value.ref.injEq, Value.long.injEq, exists_eq', Option.toList_some, Option.toList_none, List.cons_append, List.nil_append, Bool.not_false, Bool.not_true, Bool.and_true, Bool.and_false, Bool.true_and, Bool.false_and, hS_s, hS_n, ne_eq, not_false_eq_true, Classical.not_not, Nat.reduceAdd, eq_self, forall_const, false_implies, true_implies, not_true_eq_false, implies_true, r6, k6, w6, b2i_0]
    refine calp (Nat.le_of_ble_eq_true rfl) (by first | decide | omega) (ct_isSound hR6.2.1) ?_
    refine bX2_readThing_73 ?_
    simp +decide (disch := omega) only [lv_args, Value.category, lk, sto1, sto2, List.filter_cons, List.filter_nil, if_true, if_false, tPush, tIld, tLld, tAld, tIst, tAst, tLst, tInc, tB, tBn, tU, tLB, tLBn, tLS, tI2l, tL2i, tLcmp, tDup, tPop, tDup2, tDupx1, tIf, tIf2, tNul, tAcm, tRetI, tRetZ, tRetC, tRetL, tRetV, tRetA, tGetf, tPutf, isI, isL, isA, isZ, tXald, tXast, tZast, tJald, tJast, tRald, tLen, tCV0, tCV1, tCV2, tCV3, tCV4, tCV5, tCS1, tCS2, tCS3, tCS4, tCS5, tCS6, tCS7, tCpyI, tCpyJ, tMax, tMin, tAbs, tSw, tTab, tLook, tLk, Int32.reduceAdd, List.map_cons, List.map_nil, List.sum_cons, List.sum_nil, List.getElem?_cons_succ, List.getElem?_cons_zero, List.set_cons_succ, List.set_cons_zero, true_and, and_true, Option.some.injEq, Sum.inl.injEq, Sum.inr.injEq, Prod.mk.injEq, Value.int.injEq, Value.ref.injEq, Value.long.injEq, exists_eq', Option.toList_some, Option.toList_none, List.cons_append, List.nil_append, Bool.not_false, Bool.not_true, Bool.and_true, Bool.and_false, Bool.true_and, Bool.false_and, hS_s, hS_n, ne_eq, not_false_eq_true, Classical.not_not, Nat.reduceAdd, eq_self, forall_const, false_implies, true_implies, not_true_eq_false, implies_true, r6, k6, w6, b2i_0]
    refine ⟨fun c73 => ?_, fun c73 => ?_⟩
    · refine bX2_readThing_87 ?_
      simp +decide (disch := omega) only [lv_args, Value.category, lk, sto1, sto2, List.filter_cons, List.filter_nil, if_true, if_false, tPush, tIld, tLld, tAld, tIst, tAst, tLst, tInc, tB, tBn, tU, tLB, tLBn, tLS, tI2l, tL2i, tLcmp, tDup, tPop, tDup2, tDupx1, tIf, tIf2, tNul, tAcm, tRetI, tRetZ, tRetC, tRetL, tRetV, tRetA, tGetf, tPutf, isI, isL, isA, isZ, tXald, tXast, tZast, tJald, tJast, tRald, tLen, tCV0, tCV1, tCV2, tCV3, tCV4, tCV5, tCS1, tCS2, tCS3, tCS4, tCS5, tCS6, tCS7, tCpyI, tCpyJ, tMax, tMin, tAbs, tSw, tTab, tLook, tLk, Int32.reduceAdd, List.map_cons, List.map_nil, List.sum_cons, List.sum_nil, List.getElem?_cons_succ, List.getElem?_cons_zero, List.set_cons_succ, List.set_cons_zero, true_and, and_true, Option.some.injEq, Sum.inl.injEq, Sum.inr.injEq, Prod.mk.injEq, Value.int.injEq, Value.ref.injEq, Value.long.injEq, exists_eq', Option.toList_some, Option.toList_none, List.cons_append, List.nil_append, Bool.not_false, Bool.not_true, Bool.and_true, Bool.and_false, Bool.true_and, Bool.false_and, hS_s, hS_n, ne_eq, not_false_eq_true, Classical.not_not, Nat.reduceAdd, eq_self, forall_const, false_implies, true_implies, not_true_eq_false, implies_true, r6, k6, w6, b2i_0]
      first | exact ⟨rfl, by rw [rTh_1, rTh_y c73]; exact hR7, hF.trans hF8⟩ | exact ⟨rfl, by rw [rTh_1, rTh_n c73]; exact hR6, hF⟩
    · refine bX2_readThing_76 ?_
      simp +decide (disch := omega) only [lv_args, Value.category, lk, sto1, sto2, List.filter_cons, List.filter_nil, if_true, if_false, tPush, tIld, tLld, tAld, tIst, tAst, tLst, tInc, tB, tBn, tU, tLB, tLBn, tLS, tI2l, tL2i, tLcmp, tDup, tPop, tDup2, tDupx1, tIf, tIf2, tNul, tAcm, tRetI, tRetZ, tRetC, tRetL, tRetV, tRetA, tGetf, tPutf, isI, isL, isA, isZ, tXald, tXast, tZast, tJald, tJast, tRald, tLen, tCV0, tCV1, tCV2, tCV3, tCV4, tCV5, tCS1, tCS2, tCS3, tCS4, tCS5, tCS6, tCS7, tCpyI, tCpyJ, tMax, tMin, tAbs, tSw, tTab, tLook, tLk, Int32.reduceAdd, List.map_cons, List.map_nil, List.sum_cons, List.sum_nil, List.getElem?_cons_succ, List.getElem?_cons_zero, List.set_cons_succ, List.set_cons_zero, true_and, and_true, Option.some.injEq, Sum.inl.injEq, Sum.inr.injEq, Prod.mk.injEq, Value.int.injEq, Value.ref.injEq, Value.long.injEq, exists_eq', Option.toList_some, Option.toList_none, List.cons_append, List.nil_append, Bool.not_false, Bool.not_true, Bool.and_true, Bool.and_false, Bool.true_and, Bool.false_and, hS_s, hS_n, ne_eq, not_false_eq_true, Classical.not_not, Nat.reduceAdd, eq_self, forall_const, false_implies, true_implies, not_true_eq_false, implies_true, r6, k6, w6, b2i_0]
      obtain ⟨q4, q3, q2, q1, q0, hlt⟩ := th_ok c73
      rw [hu q2, hu5 q4, hu6 c73]
      refine calq (Nat.le_of_ble_eq_true rfl) (by decide) (ct_addThing hR6.2.2 hlt) ?_
      rintro v h7 ⟨rfl, hW7, hF7⟩
      obtain ⟨hR7, hF8⟩ := hR6.world hW7 hF7
      refine bX2_readThing_87 ?_
      simp +decide (disch := omega) only [lv_args, Value.category, lk, sto1, sto2, List.filter_cons, List.filter_nil, if_true, if_false, tPush, tIld, tLld, tAld, tIst, tAst, tLst, tInc, tB, tBn, tU, tLB, tLBn, tLS, tI2l, tL2i, tLcmp, tDup, tPop, tDup2, tDupx1, tIf, tIf2, tNul, tAcm, tRetI, tRetZ, tRetC, tRetL, tRetV, tRetA, tGetf, tPutf, isI, isL, isA, isZ, tXald, tXast, tZast, tJald, tJast, tRald, tLen, tCV0, tCV1, tCV2, tCV3, tCV4, tCV5, tCS1, tCS2, tCS3, tCS4, tCS5, tCS6, tCS7, tCpyI, tCpyJ, tMax, tMin, tAbs, tSw, tTab, tLook, tLk, Int32.reduceAdd, List.map_cons, List.map_nil, List.sum_cons, List.sum_nil, List.getElem?_cons_succ, List.getElem?_cons_zero, List.set_cons_succ, List.set_cons_zero, true_and, and_true, Option.some.injEq, Sum.inl.injEq, Sum.inr.injEq, Prod.mk.injEq, Value.int.injEq, Value.ref.injEq, Value.long.injEq, exists_eq', Option.toList_some, Option.toList_none, List.cons_append, List.nil_append, Bool.not_false, Bool.not_true, Bool.and_true, Bool.and_false, Bool.true_and, Bool.false_and, hS_s, hS_n, ne_eq, not_false_eq_true, Classical.not_not, Nat.reduceAdd, eq_self, forall_const, false_implies, true_implies, not_true_eq_false, implies_true, r6, k6, w6, b2i_0]
      first | exact ⟨rfl, by rw [rTh_1, rTh_y c73]; exact hR7, hF.trans hF8⟩ | exact ⟨rfl, by rw [rTh_1, rTh_n c73]; exact hR6, hF⟩
  refine bX2_readThing_0 ?_
  simp +decide (disch := omega) only [lv_args, Value.category, lk, sto1, sto2, List.filter_cons, List.filter_nil, if_true, if_false, tPush, tIld, tLld, tAld, tIst, tAst, tLst, tInc, tB, tBn, tU, tLB, tLBn, tLS, tI2l, tL2i, tLcmp, tDup, tPop, tDup2, tDupx1, tIf, tIf2, tNul, tAcm, tRetI, tRetZ, tRetC, tRetL, tRetV, tRetA, tGetf, tPutf, isI, isL, isA, isZ, tXald, tXast, tZast, tJald, tJast, tRald, tLen, tCV0, tCV1, tCV2, tCV3, tCV4, tCV5, tCS1, tCS2, tCS3, tCS4, tCS5, tCS6, tCS7, tCpyI, tCpyJ, tMax, tMin, tAbs, tSw, tTab, tLook, tLk, Int32.reduceAdd, List.map_cons, List.map_nil, List.sum_cons, List.sum_nil, List.getElem?_cons_succ, List.getElem?_cons_zero, List.set_cons_succ, List.set_cons_zero, true_and, and_true, Option.some.injEq, Sum.inl.injEq, Sum.inr.injEq, Prod.mk.injEq, Value.int.injEq, Value.ref.injEq, Value.long.injEq, exists_eq', Option.toList_some, Option.toList_none, List.cons_append, List.nil_append, Bool.not_false, Bool.not_true, Bool.and_true, Bool.and_false, Bool.true_and, Bool.false_and, hS_s, hS_n, ne_eq, not_false_eq_true, Classical.not_not, Nat.reduceAdd, eq_self, forall_const, false_implies, true_implies, not_true_eq_false, implies_true, r0, k0, w0, e0]
  refine ⟨fun c0 => ?_, fun c0 => ?_⟩
  · first | exact cont h1 _ hR1 hF1 (by rw [if_neg c0]) | exact cont h _ hR Fm.rf (by rw [if_pos c0])
  · refine bX2_readThing_12 ?_
    simp +decide (disch := omega) only [lv_args, Value.category, lk, sto1, sto2, List.filter_cons, List.filter_nil, if_true, if_false, tPush, tIld, tLld, tAld, tIst, tAst, tLst, tInc, tB, tBn, tU, tLB, tLBn, tLS, tI2l, tL2i, tLcmp, tDup, tPop, tDup2, tDupx1, tIf, tIf2, tNul, tAcm, tRetI, tRetZ, tRetC, tRetL, tRetV, tRetA, tGetf, tPutf, isI, isL, isA, isZ, tXald, tXast, tZast, tJald, tJast, tRald, tLen, tCV0, tCV1, tCV2, tCV3, tCV4, tCV5, tCS1, tCS2, tCS3, tCS4, tCS5, tCS6, tCS7, tCpyI, tCpyJ, tMax, tMin, tAbs, tSw, tTab, tLook, tLk, Int32.reduceAdd, List.map_cons, List.map_nil, List.sum_cons, List.sum_nil, List.getElem?_cons_succ, List.getElem?_cons_zero, List.set_cons_succ, List.set_cons_zero, true_and, and_true, Option.some.injEq, Sum.inl.injEq, Sum.inr.injEq, Prod.mk.injEq, Value.int.injEq, Value.ref.injEq, Value.long.injEq, exists_eq', Option.toList_some, Option.toList_none, List.cons_append, List.nil_append, Bool.not_false, Bool.not_true, Bool.and_true, Bool.and_false, Bool.true_and, Bool.false_and, hS_s, hS_n, ne_eq, not_false_eq_true, Classical.not_not, Nat.reduceAdd, eq_self, forall_const, false_implies, true_implies, not_true_eq_false, implies_true, r0, k0, w0, e0]
    refine calq (Nat.le_of_ble_eq_true rfl) (by first | decide | omega) (cr_fail (c := 4) hR (by decide)) ?_
    rintro v h1 ⟨rfl, hR1, hF1⟩
    first | exact cont h1 _ hR1 hF1 (by rw [if_neg c0]) | exact cont h _ hR Fm.rf (by rw [if_pos c0])
theorem ct_rdPerson {G : Gt} {h : Hp} {b t : Nat} {x : Tx} {st : St} {w : Wd} (hR : HasR G h b t x st w) (hth : wTh w ≤ 6) (hpe : wPe w ≤ 8) : Mt G 3 0 0 mX2_readPerson [.ref (b + 5)] h (QR G h b t x (rPe x w st).1 (rPe x w st).2 (fun r => r = none)) := by
  refine Mt.of (by decide +kernel) (Nat.le_of_ble_eq_true rfl) ?_
  have r0 := hR.1
  have k0 := hR.c0
  have w0 := hR.2.2.1
  have e0 : (nI (wPe w) < 8) = (wPe w < 8) := propext (nI_ltI (b := 8) (by omega) (by decide))
  have cont : ∀ (h1 : Hp) (s0 : St), HasR G h1 b t x s0 w → Fm b (b + 17) h h1 → s0 = (if wPe w < 8 then st else flt x 4 st) → T G 3 0 0 mX2_readPerson 20 [(0, .ref (b + 5))] [] h1 (QR G h b t x (rPe x w st).1 (rPe x w st).2 (fun r => r = none)) := by
    intro h1 s0 hR1 hF1 hs0
    have r1 := hR1.1
    have k1 := hR1.c0
    have w1 := hR1.2.2.1
    refine bX2_readPerson_20 ?_
    simp +decide (disch := omega) only [lv_args, Value.category, lk, sto1, sto2, List.filter_cons, List.filter_nil, if_true, if_false, tPush, tIld, tLld, tAld, tIst, tAst, tLst, tInc, tB, tBn, tU, tLB, tLBn, tLS, tI2l, tL2i, tLcmp, tDup, tPop, tDup2, tDupx1, tIf, tIf2, tNul, tAcm, tRetI, tRetZ, tRetC, tRetL, tRetV, tRetA, tGetf, tPutf, isI, isL, isA, isZ, tXald, tXast, tZast, tJald, tJast, tRald, tLen, tCV0, tCV1, tCV2, tCV3, tCV4, tCV5, tCS1, tCS2, tCS3, tCS4, tCS5, tCS6, tCS7, tCpyI, tCpyJ, tMax, tMin, tAbs, tSw, tTab, tLook, tLk, Int32.reduceAdd, List.map_cons, List.map_nil, List.sum_cons, List.sum_nil, List.getElem?_cons_succ, List.getElem?_cons_zero, List.set_cons_succ, List.set_cons_zero, true_and, and_true, Option.some.injEq, Sum.inl.injEq, Sum.inr.injEq, Prod.mk.injEq, Value.int.injEq, Value.ref.injEq, Value.long.injEq, exists_eq', Option.toList_some, Option.toList_none, List.cons_append, List.nil_append, Bool.not_false, Bool.not_true, Bool.and_true, Bool.and_false, Bool.true_and, Bool.false_and, hS_s, hS_n, ne_eq, not_false_eq_true, Classical.not_not, Nat.reduceAdd, eq_self, forall_const, false_implies, true_implies, not_true_eq_false, implies_true, r1, k1, w1]
    refine calq (Nat.le_of_ble_eq_true rfl) (by first | decide | omega) (cr_step hR1) ?_
    rintro v h2 ⟨rfl, hR2, hF2⟩
    rw [hs0, show stp x (if wPe w < 8 then st else flt x 4 st) = pe1 x w st from rfl] at hR2
    have r2 := hR2.1
    have k2 := hR2.c0
    have w2 := hR2.2.2.1
    refine bX2_readPerson_27 ?_
    simp +decide (disch := omega) only [lv_args, Value.category, lk, sto1, sto2, List.filter_cons, List.filter_nil, if_true, if_false, tPush, tIld, tLld, tAld, tIst, tAst, tLst, tInc, tB, tBn, tU, tLB, tLBn, tLS, tI2l, tL2i, tLcmp, tDup, tPop, tDup2, tDupx1, tIf, tIf2, tNul, tAcm, tRetI, tRetZ, tRetC, tRetL, tRetV, tRetA, tGetf, tPutf, isI, isL, isA, isZ, tXald, tXast, tZast, tJald, tJast, tRald, tLen, tCV0, tCV1, tCV2, tCV3, tCV4, tCV5, tCS1, tCS2, tCS3, tCS4, tCS5, tCS6, tCS7, tCpyI, tCpyJ, tMax, tMin, tAbs, tSw, tTab, tLook, tLk, Int32.reduceAdd, List.map_cons, List.map_nil, List.sum_cons, List.sum_nil, List.getElem?_cons_succ, List.getElem?_cons_zero, List.set_cons_succ, List.set_cons_zero, true_and, and_true, Option.some.injEq, Sum.inl.injEq, Sum.inr.injEq, Prod.mk.injEq, Value.int.injEq, Value.ref.injEq, Value.long.injEq, exists_eq', Option.toList_some, Option.toList_none, List.cons_append, List.nil_append, Bool.not_false, Bool.not_true, Bool.and_true, Bool.and_false, Bool.true_and, Bool.false_and, hS_s, hS_n, ne_eq, not_false_eq_true, Classical.not_not, Nat.reduceAdd, eq_self, forall_const, false_implies, true_implies, not_true_eq_false, implies_true, r2, k2, w2]
    refine calq (Nat.le_of_ble_eq_true rfl) (by first | decide | omega) (cr_newName hR2 hth hpe) ?_
    rintro v h3 ⟨⟨u, rfl, hu⟩, hR3, hF3⟩
    rw [show nNm x w (pe1 x w st) = pe2 x w st from rfl] at hR3 hu
    have r3 := hR3.1
    have k3 := hR3.c0
    have w3 := hR3.2.2.1
    refine bX2_readPerson_38 ?_
    simp +decide (disch := omega) only [lv_args, Value.category, lk, sto1, sto2, List.filter_cons, List.filter_nil, if_true, if_false, tPush, tIld, tLld, tAld, tIst, tAst, tLst, tInc, tB, tBn, tU, tLB, tLBn, tLS, tI2l, tL2i, tLcmp, tDup, tPop, tDup2, tDupx1, tIf, tIf2, tNul, tAcm, tRetI, tRetZ, tRetC, tRetL, tRetV, tRetA, tGetf, tPutf, isI, isL, isA, isZ, tXald, tXast, tZast, tJald, tJast, tRald, tLen, tCV0, tCV1, tCV2, tCV3, tCV4, tCV5, tCS1, tCS2, tCS3, tCS4, tCS5, tCS6, tCS7, tCpyI, tCpyJ, tMax, tMin, tAbs, tSw, tTab, tLook, tLk, Int32.reduceAdd, List.map_cons, List.map_nil, List.sum_cons, List.sum_nil, List.getElem?_cons_succ, List.getElem?_cons_zero, List.set_cons_succ, List.set_cons_zero, true_and, and_true, Option.some.injEq, Sum.inl.injEq, Sum.inr.injEq, Prod.mk.injEq, Value.int.injEq, Value.ref.injEq, Value.long.injEq, exists_eq', Option.toList_some, Option.toList_none, List.cons_append, List.nil_append, Bool.not_false, Bool.not_true, Bool.and_true, Bool.and_false, Bool.true_and, Bool.false_and, hS_s, hS_n, ne_eq, not_false_eq_true, Classical.not_not, Nat.reduceAdd, eq_self, forall_const, false_implies, true_implies, not_true_eq_false, implies_true, r3, k3, w3]
    refine calq (Nat.le_of_ble_eq_true rfl) (by first | decide | omega) (cr_step hR3) ?_
    rintro v h4 ⟨rfl, hR4, hF4⟩
    rw [show stp x (pe2 x w st) = pe3 x w st from rfl] at hR4
    have r4 := hR4.1
    have k4 := hR4.c0
    have w4 := hR4.2.2.1
    refine bX2_readPerson_46 ?_
    simp +decide (disch := omega) only [lv_args, Value.category, lk, sto1, sto2, List.filter_cons, List.filter_nil, if_true, if_false, tPush, tIld, tLld, tAld, tIst, tAst, tLst, tInc, tB, tBn, tU, tLB, tLBn, tLS, tI2l, tL2i, tLcmp, tDup, tPop, tDup2, tDupx1, tIf, tIf2, tNul, tAcm, tRetI, tRetZ, tRetC, tRetL, tRetV, tRetA, tGetf, tPutf, isI, isL, isA, isZ, tXald, tXast, tZast, tJald, tJast, tRald, tLen, tCV0, tCV1, tCV2, tCV3, tCV4, tCV5, tCS1, tCS2, tCS3, tCS4, tCS5, tCS6, tCS7, tCpyI, tCpyJ, tMax, tMin, tAbs, tSw, tTab, tLook, tLk, Int32.reduceAdd, List.map_cons, List.map_nil, List.sum_cons, List.sum_nil, List.getElem?_cons_succ, List.getElem?_cons_zero, List.set_cons_succ, List.set_cons_zero, true_and, and_true, Option.some.injEq, Sum.inl.injEq, Sum.inr.injEq, Prod.mk.injEq, Value.int.injEq, Value.ref.injEq, Value.long.injEq, exists_eq', Option.toList_some, Option.toList_none, List.cons_append, List.nil_append, Bool.not_false, Bool.not_true, Bool.and_true, Bool.and_false, Bool.true_and, Bool.false_and, hS_s, hS_n, ne_eq, not_false_eq_true, Classical.not_not, Nat.reduceAdd, eq_self, forall_const, false_implies, true_implies, not_true_eq_false, implies_true, r4, k4, w4]
    refine calq (Nat.le_of_ble_eq_true rfl) (by first | decide | omega) (cr_takePlace hR4) ?_
    rintro v h5 ⟨⟨u5, rfl, hu5⟩, hR5, hF5⟩
    rw [show tPl x (pe3 x w st) = pe4 x w st from rfl] at hR5 hu5
    have r5 := hR5.1
    have k5 := hR5.c0
    have w5 := hR5.2.2.1
    refine bX2_readPerson_53 ?_
    simp +decide (disch := omega) only [lv_args, Value.category, lk, sto1, sto2, List.filter_cons, List.filter_nil, if_true, if_false, tPush, tIld, tLld, tAld, tIst, tAst, tLst, tInc, tB, tBn, tU, tLB, tLBn, tLS, tI2l, tL2i, tLcmp, tDup, tPop, tDup2, tDupx1, tIf, tIf2, tNul, tAcm, tRetI, tRetZ, tRetC, tRetL, tRetV, tRetA, tGetf, tPutf, isI, isL, isA, isZ, tXald, tXast, tZast, tJald, tJast, tRald, tLen, tCV0, tCV1, tCV2, tCV3, tCV4, tCV5, tCS1, tCS2, tCS3, tCS4, tCS5, tCS6, tCS7, tCpyI, tCpyJ, tMax, tMin, tAbs, tSw, tTab, tLook, tLk, Int32.reduceAdd, List.map_cons, List.map_nil, List.sum_cons, List.sum_nil, List.getElem?_cons_succ, List.getElem?_cons_zero, List.set_cons_succ, List.set_cons_zero, true_and, and_true, Option.some.injEq, Sum.inl.injEq, Sum.inr.injEq, Prod.mk.injEq, Value.int.injEq, Value.ref.injEq, Value.long.injEq, exists_eq', Option.toList_some, Option.toList_none, List.cons_append, List.nil_append, Bool.not_false, Bool.not_true, Bool.and_true, Bool.and_false, Bool.true_and, Bool.false_and, hS_s, hS_n, ne_eq, not_false_eq_true, Classical.not_not, Nat.reduceAdd, eq_self, forall_const, false_implies, true_implies, not_true_eq_false, implies_true, r5, k5, w5]
    refine calq (Nat.le_of_ble_eq_true rfl) (by first | decide | omega) (cr_takeEnd hR5) ?_
    rintro v h6 ⟨⟨u6, rfl, hu6⟩, hR6, hF6⟩
    rw [show tEn x (pe4 x w st) = pe5 x w st from rfl] at hR6 hu6
    have r6 := hR6.1
    have k6 := hR6.c0
    have w6 := hR6.2.2.1
    have hF := hF1.trans (hF2.trans (hF3.trans (hF4.trans (hF5.trans hF6))))
    refine bX2_readPerson_61 ?_
    simp +decide (disch := omega) only [lv_args, Value.category, lk, sto1, sto2, List.filter_cons, List.filter_nil, if_true, if_false, tPush, tIld, tLld, tAld, tIst, tAst, tLst, tInc, tB, tBn, tU, tLB, tLBn, tLS, tI2l, tL2i, tLcmp, tDup, tPop, tDup2, tDupx1, tIf, tIf2, tNul, tAcm, tRetI, tRetZ, tRetC, tRetL, tRetV, tRetA, tGetf, tPutf, isI, isL, isA, isZ, tXald, tXast, tZast, tJald, tJast, tRald, tLen, tCV0, tCV1, tCV2, tCV3, tCV4, tCV5, tCS1, tCS2, tCS3, tCS4, tCS5, tCS6, tCS7, tCpyI, tCpyJ, tMax, tMin, tAbs, tSw, tTab, tLook, tLk, Int32.reduceAdd, List.map_cons, List.map_nil, List.sum_cons, List.sum_nil, List.getElem?_cons_succ, List.getElem?_cons_zero, List.set_cons_succ, List.set_cons_zero, true_and, and_true, Option.some.injEq, Sum.inl.injEq, Sum.inr.injEq, Prod.mk.injEq, Value.int.injEq, Value.ref.injEq, Value.long.injEq, exists_eq', Option.toList_some, Option.toList_none, List.cons_append, List.nil_append, Bool.not_false, Bool.not_true, Bool.and_true, Bool.and_false, Bool.true_and, Bool.false_and, hS_s, hS_n, ne_eq, not_false_eq_true, Classical.not_not, Nat.reduceAdd, eq_self, forall_const, false_implies, true_implies, not_true_eq_false, implies_true, r6, k6, w6, b2i_0]
    refine calp (Nat.le_of_ble_eq_true rfl) (by first | decide | omega) (ct_isSound hR6.2.1) ?_
    refine bX2_readPerson_70 ?_
    simp +decide (disch := omega) only [lv_args, Value.category, lk, sto1, sto2, List.filter_cons, List.filter_nil, if_true, if_false, tPush, tIld, tLld, tAld, tIst, tAst, tLst, tInc, tB, tBn, tU, tLB, tLBn, tLS, tI2l, tL2i, tLcmp, tDup, tPop, tDup2, tDupx1, tIf, tIf2, tNul, tAcm, tRetI, tRetZ, tRetC, tRetL, tRetV, tRetA, tGetf, tPutf, isI, isL, isA, isZ, tXald, tXast, tZast, tJald, tJast, tRald, tLen, tCV0, tCV1, tCV2, tCV3, tCV4, tCV5, tCS1, tCS2, tCS3, tCS4, tCS5, tCS6, tCS7, tCpyI, tCpyJ, tMax, tMin, tAbs, tSw, tTab, tLook, tLk, Int32.reduceAdd, List.map_cons, List.map_nil, List.sum_cons, List.sum_nil, List.getElem?_cons_succ, List.getElem?_cons_zero, List.set_cons_succ, List.set_cons_zero, true_and, and_true, Option.some.injEq, Sum.inl.injEq, Sum.inr.injEq, Prod.mk.injEq, Value.int.injEq, Value.ref.injEq, Value.long.injEq, exists_eq', Option.toList_some, Option.toList_none, List.cons_append, List.nil_append, Bool.not_false, Bool.not_true, Bool.and_true, Bool.and_false, Bool.true_and, Bool.false_and, hS_s, hS_n, ne_eq, not_false_eq_true, Classical.not_not, Nat.reduceAdd, eq_self, forall_const, false_implies, true_implies, not_true_eq_false, implies_true, r6, k6, w6, b2i_0]
    refine ⟨fun c70 => ?_, fun c70 => ?_⟩
    · refine bX2_readPerson_84 ?_
      simp +decide (disch := omega) only [lv_args, Value.category, lk, sto1, sto2, List.filter_cons, List.filter_nil, if_true, if_false, tPush, tIld, tLld, tAld, tIst, tAst, tLst, tInc, tB, tBn, tU, tLB, tLBn, tLS, tI2l, tL2i, tLcmp, tDup, tPop, tDup2, tDupx1, tIf, tIf2, tNul, tAcm, tRetI, tRetZ, tRetC, tRetL, tRetV, tRetA, tGetf, tPutf, isI, isL, isA, isZ, tXald, tXast, tZast, tJald, tJast, tRald, tLen, tCV0, tCV1, tCV2, tCV3, tCV4, tCV5, tCS1, tCS2, tCS3, tCS4, tCS5, tCS6, tCS7, tCpyI, tCpyJ, tMax, tMin, tAbs, tSw, tTab, tLook, tLk, Int32.reduceAdd, List.map_cons, List.map_nil, List.sum_cons, List.sum_nil, List.getElem?_cons_succ, List.getElem?_cons_zero, List.set_cons_succ, List.set_cons_zero, true_and, and_true, Option.some.injEq, Sum.inl.injEq, Sum.inr.injEq, Prod.mk.injEq, Value.int.injEq, Value.ref.injEq, Value.long.injEq, exists_eq', Option.toList_some, Option.toList_none, List.cons_append, List.nil_append, Bool.not_false, Bool.not_true, Bool.and_true, Bool.and_false, Bool.true_and, Bool.false_and, hS_s, hS_n, ne_eq, not_false_eq_true, Classical.not_not, Nat.reduceAdd, eq_self, forall_const, false_implies, true_implies, not_true_eq_false, implies_true, r6, k6, w6, b2i_0]
      first | exact ⟨rfl, by rw [rPe_1, rPe_y c70]; exact hR7, hF.trans hF8⟩ | exact ⟨rfl, by rw [rPe_1, rPe_n c70]; exact hR6, hF⟩
    · refine bX2_readPerson_73 ?_
      simp +decide (disch := omega) only [lv_args, Value.category, lk, sto1, sto2, List.filter_cons, List.filter_nil, if_true, if_false, tPush, tIld, tLld, tAld, tIst, tAst, tLst, tInc, tB, tBn, tU, tLB, tLBn, tLS, tI2l, tL2i, tLcmp, tDup, tPop, tDup2, tDupx1, tIf, tIf2, tNul, tAcm, tRetI, tRetZ, tRetC, tRetL, tRetV, tRetA, tGetf, tPutf, isI, isL, isA, isZ, tXald, tXast, tZast, tJald, tJast, tRald, tLen, tCV0, tCV1, tCV2, tCV3, tCV4, tCV5, tCS1, tCS2, tCS3, tCS4, tCS5, tCS6, tCS7, tCpyI, tCpyJ, tMax, tMin, tAbs, tSw, tTab, tLook, tLk, Int32.reduceAdd, List.map_cons, List.map_nil, List.sum_cons, List.sum_nil, List.getElem?_cons_succ, List.getElem?_cons_zero, List.set_cons_succ, List.set_cons_zero, true_and, and_true, Option.some.injEq, Sum.inl.injEq, Sum.inr.injEq, Prod.mk.injEq, Value.int.injEq, Value.ref.injEq, Value.long.injEq, exists_eq', Option.toList_some, Option.toList_none, List.cons_append, List.nil_append, Bool.not_false, Bool.not_true, Bool.and_true, Bool.and_false, Bool.true_and, Bool.false_and, hS_s, hS_n, ne_eq, not_false_eq_true, Classical.not_not, Nat.reduceAdd, eq_self, forall_const, false_implies, true_implies, not_true_eq_false, implies_true, r6, k6, w6, b2i_0]
      obtain ⟨q4, q3, q2, q1, q0, hlt⟩ := pe_ok c70
      rw [hu q2, hu5 q4, hu6 c70]
      refine calq (Nat.le_of_ble_eq_true rfl) (by decide) (ct_addPerson hR6.2.2 hlt) ?_
      rintro v h7 ⟨rfl, hW7, hF7⟩
      obtain ⟨hR7, hF8⟩ := hR6.world hW7 hF7
      refine bX2_readPerson_84 ?_
      simp +decide (disch := omega) only [lv_args, Value.category, lk, sto1, sto2, List.filter_cons, List.filter_nil, if_true, if_false, tPush, tIld, tLld, tAld, tIst, tAst, tLst, tInc, tB, tBn, tU, tLB, tLBn, tLS, tI2l, tL2i, tLcmp, tDup, tPop, tDup2, tDupx1, tIf, tIf2, tNul, tAcm, tRetI, tRetZ, tRetC, tRetL, tRetV, tRetA, tGetf, tPutf, isI, isL, isA, isZ, tXald, tXast, tZast, tJald, tJast, tRald, tLen, tCV0, tCV1, tCV2, tCV3, tCV4, tCV5, tCS1, tCS2, tCS3, tCS4, tCS5, tCS6, tCS7, tCpyI, tCpyJ, tMax, tMin, tAbs, tSw, tTab, tLook, tLk, Int32.reduceAdd, List.map_cons, List.map_nil, List.sum_cons, List.sum_nil, List.getElem?_cons_succ, List.getElem?_cons_zero, List.set_cons_succ, List.set_cons_zero, true_and, and_true, Option.some.injEq, Sum.inl.injEq, Sum.inr.injEq, Prod.mk.injEq, Value.int.injEq, Value.ref.injEq, Value.long.injEq, exists_eq', Option.toList_some, Option.toList_none, List.cons_append, List.nil_append, Bool.not_false, Bool.not_true, Bool.and_true, Bool.and_false, Bool.true_and, Bool.false_and, hS_s, hS_n, ne_eq, not_false_eq_true, Classical.not_not, Nat.reduceAdd, eq_self, forall_const, false_implies, true_implies, not_true_eq_false, implies_true, r6, k6, w6, b2i_0]
      first | exact ⟨rfl, by rw [rPe_1, rPe_y c70]; exact hR7, hF.trans hF8⟩ | exact ⟨rfl, by rw [rPe_1, rPe_n c70]; exact hR6, hF⟩
  refine bX2_readPerson_0 ?_
  simp +decide (disch := omega) only [lv_args, Value.category, lk, sto1, sto2, List.filter_cons, List.filter_nil, if_true, if_false, tPush, tIld, tLld, tAld, tIst, tAst, tLst, tInc, tB, tBn, tU, tLB, tLBn, tLS, tI2l, tL2i, tLcmp, tDup, tPop, tDup2, tDupx1, tIf, tIf2, tNul, tAcm, tRetI, tRetZ, tRetC, tRetL, tRetV, tRetA, tGetf, tPutf, isI, isL, isA, isZ, tXald, tXast, tZast, tJald, tJast, tRald, tLen, tCV0, tCV1, tCV2, tCV3, tCV4, tCV5, tCS1, tCS2, tCS3, tCS4, tCS5, tCS6, tCS7, tCpyI, tCpyJ, tMax, tMin, tAbs, tSw, tTab, tLook, tLk, Int32.reduceAdd, List.map_cons, List.map_nil, List.sum_cons, List.sum_nil, List.getElem?_cons_succ, List.getElem?_cons_zero, List.set_cons_succ, List.set_cons_zero, true_and, and_true, Option.some.injEq, Sum.inl.injEq, Sum.inr.injEq, Prod.mk.injEq, Value.int.injEq, Value.ref.injEq, Value.long.injEq, exists_eq', Option.toList_some, Option.toList_none, List.cons_append, List.nil_append, Bool.not_false, Bool.not_true, Bool.and_true, Bool.and_false, Bool.true_and, Bool.false_and, hS_s, hS_n, ne_eq, not_false_eq_true, Classical.not_not, Nat.reduceAdd, eq_self, forall_const, false_implies, true_implies, not_true_eq_false, implies_true, r0, k0, w0, e0]
  refine ⟨fun c0 => ?_, fun c0 => ?_⟩
  · first | exact cont h1 _ hR1 hF1 (by rw [if_neg c0]) | exact cont h _ hR Fm.rf (by rw [if_pos c0])
  · refine bX2_readPerson_12 ?_
    simp +decide (disch := omega) only [lv_args, Value.category, lk, sto1, sto2, List.filter_cons, List.filter_nil, if_true, if_false, tPush, tIld, tLld, tAld, tIst, tAst, tLst, tInc, tB, tBn, tU, tLB, tLBn, tLS, tI2l, tL2i, tLcmp, tDup, tPop, tDup2, tDupx1, tIf, tIf2, tNul, tAcm, tRetI, tRetZ, tRetC, tRetL, tRetV, tRetA, tGetf, tPutf, isI, isL, isA, isZ, tXald, tXast, tZast, tJald, tJast, tRald, tLen, tCV0, tCV1, tCV2, tCV3, tCV4, tCV5, tCS1, tCS2, tCS3, tCS4, tCS5, tCS6, tCS7, tCpyI, tCpyJ, tMax, tMin, tAbs, tSw, tTab, tLook, tLk, Int32.reduceAdd, List.map_cons, List.map_nil, List.sum_cons, List.sum_nil, List.getElem?_cons_succ, List.getElem?_cons_zero, List.set_cons_succ, List.set_cons_zero, true_and, and_true, Option.some.injEq, Sum.inl.injEq, Sum.inr.injEq, Prod.mk.injEq, Value.int.injEq, Value.ref.injEq, Value.long.injEq, exists_eq', Option.toList_some, Option.toList_none, List.cons_append, List.nil_append, Bool.not_false, Bool.not_true, Bool.and_true, Bool.and_false, Bool.true_and, Bool.false_and, hS_s, hS_n, ne_eq, not_false_eq_true, Classical.not_not, Nat.reduceAdd, eq_self, forall_const, false_implies, true_implies, not_true_eq_false, implies_true, r0, k0, w0, e0]
    refine calq (Nat.le_of_ble_eq_true rfl) (by first | decide | omega) (cr_fail (c := 4) hR (by decide)) ?_
    rintro v h1 ⟨rfl, hR1, hF1⟩
    first | exact cont h1 _ hR1 hF1 (by rw [if_neg c0]) | exact cont h _ hR Fm.rf (by rw [if_pos c0])

