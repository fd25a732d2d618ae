/-! ===== rows out of kit/laws/BITS.to-paste, then: the class scans a run ===== -/
theorem wb_tb (n : Nat) : (lN n).toBitVec = BitVec.ofNat 64 n := rfl
theorem wb_inj {a b : Int64} (h : a.toBitVec = b.toBitVec) : a = b := Int64.toBitVec_inj.mp h
theorem wb_c : ∀ k, k < 64 → ((nI k).toInt64 &&& 63) = lN k := by decide +kernel
theorem wb_sm : ∀ k, k < 64 → (BitVec.ofNat 64 k).smod 64 = BitVec.ofNat 64 k := by decide +kernel
theorem wb_shl (n : Nat) {k : Nat} (hk : k < 64) : lN n <<< ((nI k).toInt64 &&& 63) = lN (n * 2 ^ k) := by
  rw [wb_c k hk]
  apply wb_inj
  rw [Int64.toBitVec_shiftLeft, wb_tb, wb_tb, wb_tb, wb_sm k hk]
  apply BitVec.eq_of_toNat_eq
  rw [BitVec.shiftLeft_eq', BitVec.toNat_shiftLeft, BitVec.toNat_ofNat, BitVec.toNat_ofNat, BitVec.toNat_ofNat, Nat.mod_eq_of_lt (show k < 2 ^ 64 by omega), Nat.shiftLeft_eq, Nat.mul_mod, Nat.mod_mod, ← Nat.mul_mod]
theorem pf_lI {a : Nat} (h : a < 2 ^ 63) : (lN a).toInt = (a : Int) := lg_ofNat_toInt h
theorem pf_shr {a d : Nat} {D : Int64} (hD : (D.toBitVec.smod 64).toNat = d) (h : a < 2 ^ 62) : lN a >>> D = lN (a / 2 ^ d) := by
  have hd : a / 2 ^ d ≤ a := Nat.div_le_self _ _
  apply Int64.toInt_inj.mp
  have e : (lN a >>> D).toInt = (lN a).toInt >>> d := by
    rw [← hD]
    exact BitVec.toInt_sshiftRight ..
  rw [e, Int.shiftRight_eq_div_pow, pf_lI (by omega), pf_lI (by omega)]
  rfl
def nmA (f : Nat → Int32) (a : Nat) : Nat → Int64
  | 0 => 0
  | k + 1 => if isLt (bN f (a + k)) = true then (nmA f a k <<< ((5 : Int32).toInt64 &&& 63)) + (nI (bN f (a + k)) - 97 + 1).toInt64 else nmA f a k
def nbA (f : Nat → Int32) (a : Nat) : Nat → Int64
  | 0 => 0
  | k + 1 => if isLt (bN f (a + k)) = true then nbA f a k else nbA f a k * 10 + (nI (bN f (a + k)) - 48).toInt64
theorem nmA_ok {f : Nat → Int32} {a : Nat} : ∀ {k}, allL f a k = true → nmA f a k = nm32 (ltR f a k)
  | 0, _ => rfl
  | k + 1, h => by
    obtain ⟨h1, h2, h3⟩ := allL_s h
    have hb : isLt (bN f (a + k)) = true := (Bool.and_eq_true_iff.mp h).2
    rw [nmA, if_pos hb, nmA_ok h1]
    have e1 : nm32 (ltR f a k) <<< ((5 : Int32).toInt64 &&& 63) = lN (enc 32 (ltR f a k) * 2 ^ 5) := wb_shl _ (k := 5) (by decide)
    have e2 : nI (bN f (a + k)) - 97 + 1 = nI (bN f (a + k) - 96) := by
      rw [show (97 : Int32) = nI 97 from rfl, pk_sub (by omega), nI_1]
      congr 1
      omega
    rw [e1, e2, nI_l (by omega), lN_add]
    show lN _ = lN (32 * enc 32 (ltR f a k) + (bN f (a + k) - 96))
    congr 1
    omega
theorem nbA_ok {f : Nat → Int32} {a : Nat} : ∀ {k}, allD f a k = true → nbA f a k = lN (dgV f a k)
  | 0, _ => rfl
  | k + 1, h => by
    obtain ⟨h1, h2, h3⟩ := allD_s h
    have hb : ¬ isLt (bN f (a + k)) = true := by rw [lt_iff]; omega
    rw [nbA, if_neg hb, nbA_ok h1, show (48 : Int32) = nI 48 from rfl, pk_sub (by omega), nI_l (by omega), show (10 : Int64) = lN 10 from rfl, lN_mul, lN_add]
    show lN _ = lN (10 * dgV f a k + (bN f (a + k) - 48))
    congr 1
    omega
theorem cnB_all {g : Nat → Bool} : ∀ n, (cnB g n = n) = (alB g n = true)
  | 0 => by simp [cnB, alB]
  | n + 1 => by
    have ih := cnB_all (g := g) n
    have hle := cnB_le (f := g) n
    rw [cnB, alB]
    refine propext ⟨fun h => ?_, fun h => ?_⟩
    · cases e : g n
      · rw [e] at h; simp at h; omega
      · rw [e] at h
        simp at h
        have h2 : cnB g n = n := h
        rw [ih] at h2
        rw [h2]; rfl
    · obtain ⟨h1, h2⟩ := Bool.and_eq_true_iff.mp h
      rw [← ih] at h1
      rw [h1, h2]; rfl
theorem cnB_0 {g : Nat → Bool} : ∀ n, (cnB g n = 0) = (∀ j, j < n → g j = false)
  | 0 => by
    refine propext ⟨fun _ j hj => absurd hj (Nat.not_lt_zero j), fun _ => rfl⟩
  | n + 1 => by
    have ih := cnB_0 (g := g) n
    rw [cnB]
    refine propext ⟨fun h j hj => ?_, fun h => ?_⟩
    · have h1 : cnB g n = 0 := by omega
      rw [ih] at h1
      by_cases e : j = n
      · cases e2 : g n
        · rw [e]; exact e2
        · rw [e2] at h; simp at h
      · exact h1 j (by omega)
    · have h1 : cnB g n = 0 := by rw [ih]; exact fun j hj => h j (by omega)
      rw [h1, h n (by omega)]; rfl
theorem cnL {f : Nat → Int32} {a k : Nat} : (cnB (fun j => isLt (bN f (a + j))) k = k) = (allL f a k = true) := cnB_all k
theorem cnD {f : Nat → Int32} {a k : Nat} (hal : ∀ j, j < k → isAl (bN f (a + j)) = true) : (cnB (fun j => isLt (bN f (a + j))) k = 0) = (allD f a k = true) := by
  rw [cnB_0]
  refine propext ⟨fun h => alB_t.mpr (fun j hj => ?_), fun h j hj => ?_⟩
  · have h1 := hal j hj
    unfold isAl at h1
    rw [h j hj] at h1
    simpa using h1
  · cases e : isLt (bN f (a + j))
    · rfl
    · have := alB_t.mp h j hj
      rw [lt_dg e] at this
      cases this
/-- behind a scan: one token more -/
def QS (G : Gt) (h : Hp) (b t k : Nat) (f : Nat → Int32) (n lim : Nat) (a6 a7 : Int32) (a8 : Nat) (v : Option Value) : QT := fun r h' => r = v ∧ Fm b (b + 4) h h' ∧ ∃ kf pf vf wf, HasB h' b t (k + 1) kf pf vf wf a6 a7 a8 ∧ Tkt G f n lim kf pf vf wf (k + 1)
theorem sr_end {G : Gt} {h : Hp} {b t k n a r lim : Nat} {kf pf f : Nat → Int32} {vf : Nat → Int64} {wf : Nat → Option Nat} {a6 a7 : Int32} {a8 : Nat} (hB : HasB h b t k kf pf vf wf a6 a7 a8) (hT : HasTp h t n f) (hf : TpOK f) (hn : n ≤ 940) (hk : k < 941) (har : a + r ≤ n) (hr0 : 0 < r) (hal : ∀ j, j < r → isAl (bN f (a + j)) = true) (hX : Tkt G f n lim kf pf vf wf k) (htk : tkn f n lim k = rtok f a r) : T G 7 0 0 mX9_scanRun 112 [(0, .ref b), (1, .int (nI a)), (2, .int (nI (a + r))), (3, .int (nI (cnB (fun j => isLt (bN f (a + j))) r))), (4, .long (nmA f a r)), (6, .long (nbA f a r))] [] h (QS G h b t k f n lim a6 a7 a8 (some (.int (nI (a + r))))) := by
  have h0 := hB.1
  have hle := cnB_le (f := fun j => isLt (bN f (a + j))) r
  have es : nI (a + r) - nI a = nI r := by rw [pk_sub (by omega), show a + r - a = r by omega]
  have e1 : (nI (cnB (fun j => isLt (bN f (a + j))) r) = nI r) = (allL f a r = true) := (propext (nI_eq (by omega) (by omega))).trans cnL
  have e2 : (nI (cnB (fun j => isLt (bN f (a + j))) r) = 0) = (allD f a r = true) := (propext (nI_eq (b := 0) (by omega) (by decide))).trans (cnD hal)
  have e7 : (7 < nI r) = (7 < r) := propext (nI_ltI (a := 7) (by decide) (by omega))
  have e3 : (3 < nI r) = (3 < r) := propext (nI_ltI (a := 3) (by decide) (by omega))
  have DL : allD f a r = true → allL f a r = true → False := fun d l => by
    have q1 := alB_t.mp d 0 hr0
    have q2 := alB_t.mp l 0 hr0
    rw [lt_dg q2] at q1
    cases q1
  have fin2 : allL f a r = true → r ≤ 7 → ∀ h1, HasB h1 b t (k + 1) (upd kf k 2) (upd pf k (nI a)) (vp_updL vf k (nmA f a r)) (va_up wf k (some (adW G (wix (ltR f a r))))) a6 a7 a8 → Fm b (b + 4) h h1 → QS G h b t k f n lim a6 a7 a8 (some (.int (nI (a + r)))) (some (.int (nI (a + r)))) h1 := by
    intro c1 c2 h1 hB1 hF1
    have e : tkn f n lim k = (2, a, ltR f a r, 0) := by rw [htk]; unfold rtok; rw [if_pos ⟨c1, c2⟩]
    exact ⟨rfl, hF1, _, _, _, _, hB1, hX.put (by rw [e]; rfl) (by rw [e]) (by rw [e]; exact ⟨fun _ => nmA_ok c1, (fun e => by cases e), (fun e => by cases e)⟩) (by rw [e]; rfl)⟩
  have fin3 : allD f a r = true → r ≤ 3 → ∀ h1, HasB h1 b t (k + 1) (upd kf k 3) (upd pf k (nI a)) (vp_updL vf k (nbA f a r)) (va_up wf k (some (adW G 0))) a6 a7 a8 → Fm b (b + 4) h h1 → QS G h b t k f n lim a6 a7 a8 (some (.int (nI (a + r)))) (some (.int (nI (a + r)))) h1 := by
    intro c1 c2 h1 hB1 hF1
    have e : tkn f n lim k = (3, a, [], dgV f a r) := by rw [htk]; unfold rtok; rw [if_neg (fun q => DL c1 q.1), if_pos ⟨c1, c2⟩]
    exact ⟨rfl, hF1, _, _, _, _, hB1, hX.put (by rw [e]; rfl) (by rw [e]) (by rw [e]; exact ⟨(fun e => by cases e), fun _ => nbA_ok c1, (fun e => by cases e)⟩) (by rw [e]; rfl)⟩
  have fin1 : ¬ (allL f a r = true ∧ r ≤ 7) → ¬ (allD f a r = true ∧ r ≤ 3) → ∀ h1, HasB h1 b t (k + 1) (upd kf k 0) (upd pf k (nI a)) (vp_updL vf k 0) (va_up wf k (some (adW G 0))) a6 a7 a8 → Fm b (b + 4) h h1 → QS G h b t k f n lim a6 a7 a8 (some (.int (nI (a + r)))) (some (.int (nI (a + r)))) h1 := by
    intro c1 c2 h1 hB1 hF1
    have e : tkn f n lim k = (1, a, [], 0) := by rw [htk]; unfold rtok; rw [if_neg c1, if_neg c2]
    exact ⟨rfl, hF1, _, _, _, _, hB1, hX.put (by rw [e]; rfl) (by rw [e]) (by rw [e]; exact ⟨(fun e => by cases e), (fun e => by cases e), (fun e => by cases e)⟩) (by rw [e]; rfl)⟩
  generalize hc : nI (cnB (fun j => isLt (bN f (a + j))) r) = cc at *
  refine bX9_scanRun_112 ?_
  simp +decide (disch := omega) only [lv_args, Value.category, lk, sto1, sto2, List.filter_cons, List.filter_nil, if_true, if_false, tPush, tIld, tLld, tAld, tIst, tAst, tLst, tInc, tB, tBn, tU, tLB, tLBn, tLS, tI2l, tL2i, tLcmp, tDup, tPop, tDup2, tDupx1, tIf, tIf2, tNul, tAcm, tRetI, tRetZ, tRetC, tRetL, tRetV, tRetA, tGetf, tPutf, isI, isL, isA, isZ, tXald, tXast, tZast, tJald, tJast, tRald, tLen, tCV0, tCV1, tCV2, tCV3, tCV4, tCV5, tCS1, tCS2, tCS3, tCS4, tCS5, tCS6, tCS7, tCpyI, tCpyJ, tMax, tMin, tAbs, tSw, tTab, tLook, tLk, Int32.reduceAdd, List.map_cons, List.map_nil, List.sum_cons, List.sum_nil, List.getElem?_cons_succ, List.getElem?_cons_zero, List.set_cons_succ, List.set_cons_zero, true_and, and_true, Option.some.injEq, Sum.inl.injEq, Sum.inr.injEq, Prod.mk.injEq, Value.int.injEq, Value.ref.injEq, Value.long.injEq, exists_eq', Option.toList_some, Option.toList_none, List.cons_append, List.nil_append, Bool.not_false, Bool.not_true, Bool.and_true, Bool.and_false, Bool.true_and, Bool.false_and, hS_s, hS_n, ne_eq, not_false_eq_true, Classical.not_not, Nat.reduceAdd, eq_self, forall_const, false_implies, true_implies, not_true_eq_false, implies_true, h0, es, e1, e2, e7, e3]
  refine ⟨fun c112 => ?_, fun c112 => ?_⟩
  · refine bX9_scanRun_123 ?_
    simp +decide (disch := omega) only [lv_args, Value.category, lk, sto1, sto2, List.filter_cons, List.filter_nil, if_true, if_false, tPush, tIld, tLld, tAld, tIst, tAst, tLst, tInc, tB, tBn, tU, tLB, tLBn, tLS, tI2l, tL2i, tLcmp, tDup, tPop, tDup2, tDupx1, tIf, tIf2, tNul, tAcm, tRetI, tRetZ, tRetC, tRetL, tRetV, tRetA, tGetf, tPutf, isI, isL, isA, isZ, tXald, tXast, tZast, tJald, tJast, tRald, tLen, tCV0, tCV1, tCV2, tCV3, tCV4, tCV5, tCS1, tCS2, tCS3, tCS4, tCS5, tCS6, tCS7, tCpyI, tCpyJ, tMax, tMin, tAbs, tSw, tTab, tLook, tLk, Int32.reduceAdd, List.map_cons, List.map_nil, List.sum_cons, List.sum_nil, List.getElem?_cons_succ, List.getElem?_cons_zero, List.set_cons_succ, List.set_cons_zero, true_and, and_true, Option.some.injEq, Sum.inl.injEq, Sum.inr.injEq, Prod.mk.injEq, Value.int.injEq, Value.ref.injEq, Value.long.injEq, exists_eq', Option.toList_some, Option.toList_none, List.cons_append, List.nil_append, Bool.not_false, Bool.not_true, Bool.and_true, Bool.and_false, Bool.true_and, Bool.false_and, hS_s, hS_n, ne_eq, not_false_eq_true, Classical.not_not, Nat.reduceAdd, eq_self, forall_const, false_implies, true_implies, not_true_eq_false, implies_true, h0, es, e1, e2, e7, e3]
    refine ⟨fun c123 => ?_, fun c123 => ?_⟩
    · refine bX9_scanRun_148 ?_
      simp +decide (disch := omega) only [lv_args, Value.category, lk, sto1, sto2, List.filter_cons, List.filter_nil, if_true, if_false, tPush, tIld, tLld, tAld, tIst, tAst, tLst, tInc, tB, tBn, tU, tLB, tLBn, tLS, tI2l, tL2i, tLcmp, tDup, tPop, tDup2, tDupx1, tIf, tIf2, tNul, tAcm, tRetI, tRetZ, tRetC, tRetL, tRetV, tRetA, tGetf, tPutf, isI, isL, isA, isZ, tXald, tXast, tZast, tJald, tJast, tRald, tLen, tCV0, tCV1, tCV2, tCV3, tCV4, tCV5, tCS1, tCS2, tCS3, tCS4, tCS5, tCS6, tCS7, tCpyI, tCpyJ, tMax, tMin, tAbs, tSw, tTab, tLook, tLk, Int32.reduceAdd, List.map_cons, List.map_nil, List.sum_cons, List.sum_nil, List.getElem?_cons_succ, List.getElem?_cons_zero, List.set_cons_succ, List.set_cons_zero, true_and, and_true, Option.some.injEq, Sum.inl.injEq, Sum.inr.injEq, Prod.mk.injEq, Value.int.injEq, Value.ref.injEq, Value.long.injEq, exists_eq', Option.toList_some, Option.toList_none, List.cons_append, List.nil_append, Bool.not_false, Bool.not_true, Bool.and_true, Bool.and_false, Bool.true_and, Bool.false_and, hS_s, hS_n, ne_eq, not_false_eq_true, Classical.not_not, Nat.reduceAdd, eq_self, forall_const, false_implies, true_implies, not_true_eq_false, implies_true, h0, es, e1, e2, e7, e3]
      refine ⟨fun c148 => ?_, fun c148 => ?_⟩
      · refine bX9_scanRun_152 ?_
        simp +decide (disch := omega) only [lv_args, Value.category, lk, sto1, sto2, List.filter_cons, List.filter_nil, if_true, if_false, tPush, tIld, tLld, tAld, tIst, tAst, tLst, tInc, tB, tBn, tU, tLB, tLBn, tLS, tI2l, tL2i, tLcmp, tDup, tPop, tDup2, tDupx1, tIf, tIf2, tNul, tAcm, tRetI, tRetZ, tRetC, tRetL, tRetV, tRetA, tGetf, tPutf, isI, isL, isA, isZ, tXald, tXast, tZast, tJald, tJast, tRald, tLen, tCV0, tCV1, tCV2, tCV3, tCV4, tCV5, tCS1, tCS2, tCS3, tCS4, tCS5, tCS6, tCS7, tCpyI, tCpyJ, tMax, tMin, tAbs, tSw, tTab, tLook, tLk, Int32.reduceAdd, List.map_cons, List.map_nil, List.sum_cons, List.sum_nil, List.getElem?_cons_succ, List.getElem?_cons_zero, List.set_cons_succ, List.set_cons_zero, true_and, and_true, Option.some.injEq, Sum.inl.injEq, Sum.inr.injEq, Prod.mk.injEq, Value.int.injEq, Value.ref.injEq, Value.long.injEq, exists_eq', Option.toList_some, Option.toList_none, List.cons_append, List.nil_append, Bool.not_false, Bool.not_true, Bool.and_true, Bool.and_false, Bool.true_and, Bool.false_and, hS_s, hS_n, ne_eq, not_false_eq_true, Classical.not_not, Nat.reduceAdd, eq_self, forall_const, false_implies, true_implies, not_true_eq_false, implies_true, h0, es, e1, e2, e7, e3]
        refine ⟨fun c152 => ?_, fun c152 => ?_⟩
        · refine bX9_scanRun_172 ?_
          simp +decide (disch := omega) only [lv_args, Value.category, lk, sto1, sto2, List.filter_cons, List.filter_nil, if_true, if_false, tPush, tIld, tLld, tAld, tIst, tAst, tLst, tInc, tB, tBn, tU, tLB, tLBn, tLS, tI2l, tL2i, tLcmp, tDup, tPop, tDup2, tDupx1, tIf, tIf2, tNul, tAcm, tRetI, tRetZ, tRetC, tRetL, tRetV, tRetA, tGetf, tPutf, isI, isL, isA, isZ, tXald, tXast, tZast, tJald, tJast, tRald, tLen, tCV0, tCV1, tCV2, tCV3, tCV4, tCV5, tCS1, tCS2, tCS3, tCS4, tCS5, tCS6, tCS7, tCpyI, tCpyJ, tMax, tMin, tAbs, tSw, tTab, tLook, tLk, Int32.reduceAdd, List.map_cons, List.map_nil, List.sum_cons, List.sum_nil, List.getElem?_cons_succ, List.getElem?_cons_zero, List.set_cons_succ, List.set_cons_zero, true_and, and_true, Option.some.injEq, Sum.inl.injEq, Sum.inr.injEq, Prod.mk.injEq, Value.int.injEq, Value.ref.injEq, Value.long.injEq, exists_eq', Option.toList_some, Option.toList_none, List.cons_append, List.nil_append, Bool.not_false, Bool.not_true, Bool.and_true, Bool.and_false, Bool.true_and, Bool.false_and, hS_s, hS_n, ne_eq, not_false_eq_true, Classical.not_not, Nat.reduceAdd, eq_self, forall_const, false_implies, true_implies, not_true_eq_false, implies_true, h0, es, e1, e2, e7, e3]
          refine calq (Nat.le_of_ble_eq_true rfl) (by first | decide | omega) (ct_put hB hk (q := 0) (by decide)) ?_
          rintro v h1 ⟨rfl, hB1, hF1⟩
          refine bX9_scanRun_182 ?_
          simp +decide (disch := omega) only [lv_args, Value.category, lk, sto1, sto2, List.filter_cons, List.filter_nil, if_true, if_false, tPush, tIld, tLld, tAld, tIst, tAst, tLst, tInc, tB, tBn, tU, tLB, tLBn, tLS, tI2l, tL2i, tLcmp, tDup, tPop, tDup2, tDupx1, tIf, tIf2, tNul, tAcm, tRetI, tRetZ, tRetC, tRetL, tRetV, tRetA, tGetf, tPutf, isI, isL, isA, isZ, tXald, tXast, tZast, tJald, tJast, tRald, tLen, tCV0, tCV1, tCV2, tCV3, tCV4, tCV5, tCS1, tCS2, tCS3, tCS4, tCS5, tCS6, tCS7, tCpyI, tCpyJ, tMax, tMin, tAbs, tSw, tTab, tLook, tLk, Int32.reduceAdd, List.map_cons, List.map_nil, List.sum_cons, List.sum_nil, List.getElem?_cons_succ, List.getElem?_cons_zero, List.set_cons_succ, List.set_cons_zero, true_and, and_true, Option.some.injEq, Sum.inl.injEq, Sum.inr.injEq, Prod.mk.injEq, Value.int.injEq, Value.ref.injEq, Value.long.injEq, exists_eq', Option.toList_some, Option.toList_none, List.cons_append, List.nil_append, Bool.not_false, Bool.not_true, Bool.and_true, Bool.and_false, Bool.true_and, Bool.false_and, hS_s, hS_n, ne_eq, not_false_eq_true, Classical.not_not, Nat.reduceAdd, eq_self, forall_const, false_implies, true_implies, not_true_eq_false, implies_true, h0, es, e1, e2, e7, e3]
          first | exact fin2 c112 (by omega) h1 hB1 hF1 | exact fin3 c148 (by omega) h1 hB1 hF1 | exact fin1 (fun q => by first | exact c112 q.1 | omega) (fun q => by first | exact c148 q.1 | omega) h1 hB1 hF1
        · refine bX9_scanRun_158 ?_
          simp +decide (disch := omega) only [lv_args, Value.category, lk, sto1, sto2, List.filter_cons, List.filter_nil, if_true, if_false, tPush, tIld, tLld, tAld, tIst, tAst, tLst, tInc, tB, tBn, tU, tLB, tLBn, tLS, tI2l, tL2i, tLcmp, tDup, tPop, tDup2, tDupx1, tIf, tIf2, tNul, tAcm, tRetI, tRetZ, tRetC, tRetL, tRetV, tRetA, tGetf, tPutf, isI, isL, isA, isZ, tXald, tXast, tZast, tJald, tJast, tRald, tLen, tCV0, tCV1, tCV2, tCV3, tCV4, tCV5, tCS1, tCS2, tCS3, tCS4, tCS5, tCS6, tCS7, tCpyI, tCpyJ, tMax, tMin, tAbs, tSw, tTab, tLook, tLk, Int32.reduceAdd, List.map_cons, List.map_nil, List.sum_cons, List.sum_nil, List.getElem?_cons_succ, List.getElem?_cons_zero, List.set_cons_succ, List.set_cons_zero, true_and, and_true, Option.some.injEq, Sum.inl.injEq, Sum.inr.injEq, Prod.mk.injEq, Value.int.injEq, Value.ref.injEq, Value.long.injEq, exists_eq', Option.toList_some, Option.toList_none, List.cons_append, List.nil_append, Bool.not_false, Bool.not_true, Bool.and_true, Bool.and_false, Bool.true_and, Bool.false_and, hS_s, hS_n, ne_eq, not_false_eq_true, Classical.not_not, Nat.reduceAdd, eq_self, forall_const, false_implies, true_implies, not_true_eq_false, implies_true, h0, es, e1, e2, e7, e3]
          refine calq (Nat.le_of_ble_eq_true rfl) (by first | decide | omega) (ct_put hB hk (q := 0) (by decide)) ?_
          rintro v h1 ⟨rfl, hB1, hF1⟩
          refine bX9_scanRun_169 ?_
          refine bX9_scanRun_182 ?_
          simp +decide (disch := omega) only [lv_args, Value.category, lk, sto1, sto2, List.filter_cons, List.filter_nil, if_true, if_false, tPush, tIld, tLld, tAld, tIst, tAst, tLst, tInc, tB, tBn, tU, tLB, tLBn, tLS, tI2l, tL2i, tLcmp, tDup, tPop, tDup2, tDupx1, tIf, tIf2, tNul, tAcm, tRetI, tRetZ, tRetC, tRetL, tRetV, tRetA, tGetf, tPutf, isI, isL, isA, isZ, tXald, tXast, tZast, tJald, tJast, tRald, tLen, tCV0, tCV1, tCV2, tCV3, tCV4, tCV5, tCS1, tCS2, tCS3, tCS4, tCS5, tCS6, tCS7, tCpyI, tCpyJ, tMax, tMin, tAbs, tSw, tTab, tLook, tLk, Int32.reduceAdd, List.map_cons, List.map_nil, List.sum_cons, List.sum_nil, List.getElem?_cons_succ, List.getElem?_cons_zero, List.set_cons_succ, List.set_cons_zero, true_and, and_true, Option.some.injEq, Sum.inl.injEq, Sum.inr.injEq, Prod.mk.injEq, Value.int.injEq, Value.ref.injEq, Value.long.injEq, exists_eq', Option.toList_some, Option.toList_none, List.cons_append, List.nil_append, Bool.not_false, Bool.not_true, Bool.and_true, Bool.and_false, Bool.true_and, Bool.false_and, hS_s, hS_n, ne_eq, not_false_eq_true, Classical.not_not, Nat.reduceAdd, eq_self, forall_const, false_implies, true_implies, not_true_eq_false, implies_true, h0, es, e1, e2, e7, e3]
          first | exact fin2 c112 (by omega) h1 hB1 hF1 | exact fin3 c148 (by omega) h1 hB1 hF1 | exact fin1 (fun q => by first | exact c112 q.1 | omega) (fun q => by first | exact c148 q.1 | omega) h1 hB1 hF1
      · refine bX9_scanRun_172 ?_
        simp +decide (disch := omega) only [lv_args, Value.category, lk, sto1, sto2, List.filter_cons, List.filter_nil, if_true, if_false, tPush, tIld, tLld, tAld, tIst, tAst, tLst, tInc, tB, tBn, tU, tLB, tLBn, tLS, tI2l, tL2i, tLcmp, tDup, tPop, tDup2, tDupx1, tIf, tIf2, tNul, tAcm, tRetI, tRetZ, tRetC, tRetL, tRetV, tRetA, tGetf, tPutf, isI, isL, isA, isZ, tXald, tXast, tZast, tJald, tJast, tRald, tLen, tCV0, tCV1, tCV2, tCV3, tCV4, tCV5, tCS1, tCS2, tCS3, tCS4, tCS5, tCS6, tCS7, tCpyI, tCpyJ, tMax, tMin, tAbs, tSw, tTab, tLook, tLk, Int32.reduceAdd, List.map_cons, List.map_nil, List.sum_cons, List.sum_nil, List.getElem?_cons_succ, List.getElem?_cons_zero, List.set_cons_succ, List.set_cons_zero, true_and, and_true, Option.some.injEq, Sum.inl.injEq, Sum.inr.injEq, Prod.mk.injEq, Value.int.injEq, Value.ref.injEq, Value.long.injEq, exists_eq', Option.toList_some, Option.toList_none, List.cons_append, List.nil_append, Bool.not_false, Bool.not_true, Bool.and_true, Bool.and_false, Bool.true_and, Bool.false_and, hS_s, hS_n, ne_eq, not_false_eq_true, Classical.not_not, Nat.reduceAdd, eq_self, forall_const, false_implies, true_implies, not_true_eq_false, implies_true, h0, es, e1, e2, e7, e3]
        refine calq (Nat.le_of_ble_eq_true rfl) (by first | decide | omega) (ct_put hB hk (q := 0) (by decide)) ?_
        rintro v h1 ⟨rfl, hB1, hF1⟩
        refine bX9_scanRun_182 ?_
        simp +decide (disch := omega) only [lv_args, Value.category, lk, sto1, sto2, List.filter_cons, List.filter_nil, if_true, if_false, tPush, tIld, tLld, tAld, tIst, tAst, tLst, tInc, tB, tBn, tU, tLB, tLBn, tLS, tI2l, tL2i, tLcmp, tDup, tPop, tDup2, tDupx1, tIf, tIf2, tNul, tAcm, tRetI, tRetZ, tRetC, tRetL, tRetV, tRetA, tGetf, tPutf, isI, isL, isA, isZ, tXald, tXast, tZast, tJald, tJast, tRald, tLen, tCV0, tCV1, tCV2, tCV3, tCV4, tCV5, tCS1, tCS2, tCS3, tCS4, tCS5, tCS6, tCS7, tCpyI, tCpyJ, tMax, tMin, tAbs, tSw, tTab, tLook, tLk, Int32.reduceAdd, List.map_cons, List.map_nil, List.sum_cons, List.sum_nil, List.getElem?_cons_succ, List.getElem?_cons_zero, List.set_cons_succ, List.set_cons_zero, true_and, and_true, Option.some.injEq, Sum.inl.injEq, Sum.inr.injEq, Prod.mk.injEq, Value.int.injEq, Value.ref.injEq, Value.long.injEq, exists_eq', Option.toList_some, Option.toList_none, List.cons_append, List.nil_append, Bool.not_false, Bool.not_true, Bool.and_true, Bool.and_false, Bool.true_and, Bool.false_and, hS_s, hS_n, ne_eq, not_false_eq_true, Classical.not_not, Nat.reduceAdd, eq_self, forall_const, false_implies, true_implies, not_true_eq_false, implies_true, h0, es, e1, e2, e7, e3]
        first | exact fin2 c112 (by omega) h1 hB1 hF1 | exact fin3 c148 (by omega) h1 hB1 hF1 | exact fin1 (fun q => by first | exact c112 q.1 | omega) (fun q => by first | exact c148 q.1 | omega) h1 hB1 hF1
    · refine bX9_scanRun_130 ?_
      simp +decide (disch := omega) only [lv_args, Value.category, lk, sto1, sto2, List.filter_cons, List.filter_nil, if_true, if_false, tPush, tIld, tLld, tAld, tIst, tAst, tLst, tInc, tB, tBn, tU, tLB, tLBn, tLS, tI2l, tL2i, tLcmp, tDup, tPop, tDup2, tDupx1, tIf, tIf2, tNul, tAcm, tRetI, tRetZ, tRetC, tRetL, tRetV, tRetA, tGetf, tPutf, isI, isL, isA, isZ, tXald, tXast, tZast, tJald, tJast, tRald, tLen, tCV0, tCV1, tCV2, tCV3, tCV4, tCV5, tCS1, tCS2, tCS3, tCS4, tCS5, tCS6, tCS7, tCpyI, tCpyJ, tMax, tMin, tAbs, tSw, tTab, tLook, tLk, Int32.reduceAdd, List.map_cons, List.map_nil, List.sum_cons, List.sum_nil, List.getElem?_cons_succ, List.getElem?_cons_zero, List.set_cons_succ, List.set_cons_zero, true_and, and_true, Option.some.injEq, Sum.inl.injEq, Sum.inr.injEq, Prod.mk.injEq, Value.int.injEq, Value.ref.injEq, Value.long.injEq, exists_eq', Option.toList_some, Option.toList_none, List.cons_append, List.nil_append, Bool.not_false, Bool.not_true, Bool.and_true, Bool.and_false, Bool.true_and, Bool.false_and, hS_s, hS_n, ne_eq, not_false_eq_true, Classical.not_not, Nat.reduceAdd, eq_self, forall_const, false_implies, true_implies, not_true_eq_false, implies_true, h0, es, e1, e2, e7, e3]
      refine calp (Nat.le_of_ble_eq_true rfl) (by decide) (ct_wordAt hB hT hf hn c112 har hr0) ?_
      refine bX9_scanRun_142 ?_
      simp +decide (disch := omega) only [lv_args, Value.category, lk, sto1, sto2, List.filter_cons, List.filter_nil, if_true, if_false, tPush, tIld, tLld, tAld, tIst, tAst, tLst, tInc, tB, tBn, tU, tLB, tLBn, tLS, tI2l, tL2i, tLcmp, tDup, tPop, tDup2, tDupx1, tIf, tIf2, tNul, tAcm, tRetI, tRetZ, tRetC, tRetL, tRetV, tRetA, tGetf, tPutf, isI, isL, isA, isZ, tXald, tXast, tZast, tJald, tJast, tRald, tLen, tCV0, tCV1, tCV2, tCV3, tCV4, tCV5, tCS1, tCS2, tCS3, tCS4, tCS5, tCS6, tCS7, tCpyI, tCpyJ, tMax, tMin, tAbs, tSw, tTab, tLook, tLk, Int32.reduceAdd, List.map_cons, List.map_nil, List.sum_cons, List.sum_nil, List.getElem?_cons_succ, List.getElem?_cons_zero, List.set_cons_succ, List.set_cons_zero, true_and, and_true, Option.some.injEq, Sum.inl.injEq, Sum.inr.injEq, Prod.mk.injEq, Value.int.injEq, Value.ref.injEq, Value.long.injEq, exists_eq', Option.toList_some, Option.toList_none, List.cons_append, List.nil_append, Bool.not_false, Bool.not_true, Bool.and_true, Bool.and_false, Bool.true_and, Bool.false_and, hS_s, hS_n, ne_eq, not_false_eq_true, Classical.not_not, Nat.reduceAdd, eq_self, forall_const, false_implies, true_implies, not_true_eq_false, implies_true, h0, es, e1, e2, e7, e3]
      refine calq (Nat.le_of_ble_eq_true rfl) (by first | decide | omega) (ct_put hB hk (wix_lt _)) ?_
      rintro v h1 ⟨rfl, hB1, hF1⟩
      refine bX9_scanRun_145 ?_
      refine bX9_scanRun_182 ?_
      simp +decide (disch := omega) only [lv_args, Value.category, lk, sto1, sto2, List.filter_cons, List.filter_nil, if_true, if_false, tPush, tIld, tLld, tAld, tIst, tAst, tLst, tInc, tB, tBn, tU, tLB, tLBn, tLS, tI2l, tL2i, tLcmp, tDup, tPop, tDup2, tDupx1, tIf, tIf2, tNul, tAcm, tRetI, tRetZ, tRetC, tRetL, tRetV, tRetA, tGetf, tPutf, isI, isL, isA, isZ, tXald, tXast, tZast, tJald, tJast, tRald, tLen, tCV0, tCV1, tCV2, tCV3, tCV4, tCV5, tCS1, tCS2, tCS3, tCS4, tCS5, tCS6, tCS7, tCpyI, tCpyJ, tMax, tMin, tAbs, tSw, tTab, tLook, tLk, Int32.reduceAdd, List.map_cons, List.map_nil, List.sum_cons, List.sum_nil, List.getElem?_cons_succ, List.getElem?_cons_zero, List.set_cons_succ, List.set_cons_zero, true_and, and_true, Option.some.injEq, Sum.inl.injEq, Sum.inr.injEq, Prod.mk.injEq, Value.int.injEq, Value.ref.injEq, Value.long.injEq, exists_eq', Option.toList_some, Option.toList_none, List.cons_append, List.nil_append, Bool.not_false, Bool.not_true, Bool.and_true, Bool.and_false, Bool.true_and, Bool.false_and, hS_s, hS_n, ne_eq, not_false_eq_true, Classical.not_not, Nat.reduceAdd, eq_self, forall_const, false_implies, true_implies, not_true_eq_false, implies_true, h0, es, e1, e2, e7, e3]
      first | exact fin2 c112 (by omega) h1 hB1 hF1 | exact fin3 c148 (by omega) h1 hB1 hF1 | exact fin1 (fun q => by first | exact c112 q.1 | omega) (fun q => by first | exact c148 q.1 | omega) h1 hB1 hF1
  · refine bX9_scanRun_148 ?_
    simp +decide (disch := omega) only [lv_args, Value.category, lk, sto1, sto2, List.filter_cons, List.filter_nil, if_true, if_false, tPush, tIld, tLld, tAld, tIst, tAst, tLst, tInc, tB, tBn, tU, tLB, tLBn, tLS, tI2l, tL2i, tLcmp, tDup, tPop, tDup2, tDupx1, tIf, tIf2, tNul, tAcm, tRetI, tRetZ, tRetC, tRetL, tRetV, tRetA, tGetf, tPutf, isI, isL, isA, isZ, tXald, tXast, tZast, tJald, tJast, tRald, tLen, tCV0, tCV1, tCV2, tCV3, tCV4, tCV5, tCS1, tCS2, tCS3, tCS4, tCS5, tCS6, tCS7, tCpyI, tCpyJ, tMax, tMin, tAbs, tSw, tTab, tLook, tLk, Int32.reduceAdd, List.map_cons, List.map_nil, List.sum_cons, List.sum_nil, List.getElem?_cons_succ, List.getElem?_cons_zero, List.set_cons_succ, List.set_cons_zero, true_and, and_true, Option.some.injEq, Sum.inl.injEq, Sum.inr.injEq, Prod.mk.injEq, Value.int.injEq, Value.ref.injEq, Value.long.injEq, exists_eq', Option.toList_some, Option.toList_none, List.cons_append, List.nil_append, Bool.not_false, Bool.not_true, Bool.and_true, Bool.and_false, Bool.true_and, Bool.false_and, hS_s, hS_n, ne_eq, not_false_eq_true, Classical.not_not, Nat.reduceAdd, eq_self, forall_const, false_implies, true_implies, not_true_eq_false, implies_true, h0, es, e1, e2, e7, e3]
    refine ⟨fun c148 => ?_, fun c148 => ?_⟩
    · refine bX9_scanRun_152 ?_
      simp +decide (disch := omega) only [lv_args, Value.category, lk, sto1, sto2, List.filter_cons, List.filter_nil, if_true, if_false, tPush, tIld, tLld, tAld, tIst, tAst, tLst, tInc, tB, tBn, tU, tLB, tLBn, tLS, tI2l, tL2i, tLcmp, tDup, tPop, tDup2, tDupx1, tIf, tIf2, tNul, tAcm, tRetI, tRetZ, tRetC, tRetL, tRetV, tRetA, tGetf, tPutf, isI, isL, isA, isZ, tXald, tXast, tZast, tJald, tJast, tRald, tLen, tCV0, tCV1, tCV2, tCV3, tCV4, tCV5, tCS1, tCS2, tCS3, tCS4, tCS5, tCS6, tCS7, tCpyI, tCpyJ, tMax, tMin, tAbs, tSw, tTab, tLook, tLk, Int32.reduceAdd, List.map_cons, List.map_nil, List.sum_cons, List.sum_nil, List.getElem?_cons_succ, List.getElem?_cons_zero, List.set_cons_succ, List.set_cons_zero, true_and, and_true, Option.some.injEq, Sum.inl.injEq, Sum.inr.injEq, Prod.mk.injEq, Value.int.injEq, Value.ref.injEq, Value.long.injEq, exists_eq', Option.toList_some, Option.toList_none, List.cons_append, List.nil_append, Bool.not_false, Bool.not_true, Bool.and_true, Bool.and_false, Bool.true_and, Bool.false_and, hS_s, hS_n, ne_eq, not_false_eq_true, Classical.not_not, Nat.reduceAdd, eq_self, forall_const, false_implies, true_implies, not_true_eq_false, implies_true, h0, es, e1, e2, e7, e3]
      refine ⟨fun c152 => ?_, fun c152 => ?_⟩
      · refine bX9_scanRun_172 ?_
        simp +decide (disch := omega) only [lv_args, Value.category, lk, sto1, sto2, List.filter_cons, List.filter_nil, if_true, if_false, tPush, tIld, tLld, tAld, tIst, tAst, tLst, tInc, tB, tBn, tU, tLB, tLBn, tLS, tI2l, tL2i, tLcmp, tDup, tPop, tDup2, tDupx1, tIf, tIf2, tNul, tAcm, tRetI, tRetZ, tRetC, tRetL, tRetV, tRetA, tGetf, tPutf, isI, isL, isA, isZ, tXald, tXast, tZast, tJald, tJast, tRald, tLen, tCV0, tCV1, tCV2, tCV3, tCV4, tCV5, tCS1, tCS2, tCS3, tCS4, tCS5, tCS6, tCS7, tCpyI, tCpyJ, tMax, tMin, tAbs, tSw, tTab, tLook, tLk, Int32.reduceAdd, List.map_cons, List.map_nil, List.sum_cons, List.sum_nil, List.getElem?_cons_succ, List.getElem?_cons_zero, List.set_cons_succ, List.set_cons_zero, true_and, and_true, Option.some.injEq, Sum.inl.injEq, Sum.inr.injEq, Prod.mk.injEq, Value.int.injEq, Value.ref.injEq, Value.long.injEq, exists_eq', Option.toList_some, Option.toList_none, List.cons_append, List.nil_append, Bool.not_false, Bool.not_true, Bool.and_true, Bool.and_false, Bool.true_and, Bool.false_and, hS_s, hS_n, ne_eq, not_false_eq_true, Classical.not_not, Nat.reduceAdd, eq_self, forall_const, false_implies, true_implies, not_true_eq_false, implies_true, h0, es, e1, e2, e7, e3]
        refine calq (Nat.le_of_ble_eq_true rfl) (by first | decide | omega) (ct_put hB hk (q := 0) (by decide)) ?_
        rintro v h1 ⟨rfl, hB1, hF1⟩
        refine bX9_scanRun_182 ?_
        simp +decide (disch := omega) only [lv_args, Value.category, lk, sto1, sto2, List.filter_cons, List.filter_nil, if_true, if_false, tPush, tIld, tLld, tAld, tIst, tAst, tLst, tInc, tB, tBn, tU, tLB, tLBn, tLS, tI2l, tL2i, tLcmp, tDup, tPop, tDup2, tDupx1, tIf, tIf2, tNul, tAcm, tRetI, tRetZ, tRetC, tRetL, tRetV, tRetA, tGetf, tPutf, isI, isL, isA, isZ, tXald, tXast, tZast, tJald, tJast, tRald, tLen, tCV0, tCV1, tCV2, tCV3, tCV4, tCV5, tCS1, tCS2, tCS3, tCS4, tCS5, tCS6, tCS7, tCpyI, tCpyJ, tMax, tMin, tAbs, tSw, tTab, tLook, tLk, Int32.reduceAdd, List.map_cons, List.map_nil, List.sum_cons, List.sum_nil, List.getElem?_cons_succ, List.getElem?_cons_zero, List.set_cons_succ, List.set_cons_zero, true_and, and_true, Option.some.injEq, Sum.inl.injEq, Sum.inr.injEq, Prod.mk.injEq, Value.int.injEq, Value.ref.injEq, Value.long.injEq, exists_eq', Option.toList_some, Option.toList_none, List.cons_append, List.nil_append, Bool.not_false, Bool.not_true, Bool.and_true, Bool.and_false, Bool.true_and, Bool.false_and, hS_s, hS_n, ne_eq, not_false_eq_true, Classical.not_not, Nat.reduceAdd, eq_self, forall_const, false_implies, true_implies, not_true_eq_false, implies_true, h0, es, e1, e2, e7, e3]
        first | exact fin2 c112 (by omega) h1 hB1 hF1 | exact fin3 c148 (by omega) h1 hB1 hF1 | exact fin1 (fun q => by first | exact c112 q.1 | omega) (fun q => by first | exact c148 q.1 | omega) h1 hB1 hF1
      · refine bX9_scanRun_158 ?_
        simp +decide (disch := omega) only [lv_args, Value.category, lk, sto1, sto2, List.filter_cons, List.filter_nil, if_true, if_false, tPush, tIld, tLld, tAld, tIst, tAst, tLst, tInc, tB, tBn, tU, tLB, tLBn, tLS, tI2l, tL2i, tLcmp, tDup, tPop, tDup2, tDupx1, tIf, tIf2, tNul, tAcm, tRetI, tRetZ, tRetC, tRetL, tRetV, tRetA, tGetf, tPutf, isI, isL, isA, isZ, tXald, tXast, tZast, tJald, tJast, tRald, tLen, tCV0, tCV1, tCV2, tCV3, tCV4, tCV5, tCS1, tCS2, tCS3, tCS4, tCS5, tCS6, tCS7, tCpyI, tCpyJ, tMax, tMin, tAbs, tSw, tTab, tLook, tLk, Int32.reduceAdd, List.map_cons, List.map_nil, List.sum_cons, List.sum_nil, List.getElem?_cons_succ, List.getElem?_cons_zero, List.set_cons_succ, List.set_cons_zero, true_and, and_true, Option.some.injEq, Sum.inl.injEq, Sum.inr.injEq, Prod.mk.injEq, Value.int.injEq, Value.ref.injEq, Value.long.injEq, exists_eq', Option.toList_some, Option.toList_none, List.cons_append, List.nil_append, Bool.not_false, Bool.not_true, Bool.and_true, Bool.and_false, Bool.true_and, Bool.false_and, hS_s, hS_n, ne_eq, not_false_eq_true, Classical.not_not, Nat.reduceAdd, eq_self, forall_const, false_implies, true_implies, not_true_eq_false, implies_true, h0, es, e1, e2, e7, e3]
        refine calq (Nat.le_of_ble_eq_true rfl) (by first | decide | omega) (ct_put hB hk (q := 0) (by decide)) ?_
        rintro v h1 ⟨rfl, hB1, hF1⟩
        refine bX9_scanRun_169 ?_
        refine bX9_scanRun_182 ?_
        simp +decide (disch := omega) only [lv_args, Value.category, lk, sto1, sto2, List.filter_cons, List.filter_nil, if_true, if_false, tPush, tIld, tLld, tAld, tIst, tAst, tLst, tInc, tB, tBn, tU, tLB, tLBn, tLS, tI2l, tL2i, tLcmp, tDup, tPop, tDup2, tDupx1, tIf, tIf2, tNul, tAcm, tRetI, tRetZ, tRetC, tRetL, tRetV, tRetA, tGetf, tPutf, isI, isL, isA, isZ, tXald, tXast, tZast, tJald, tJast, tRald, tLen, tCV0, tCV1, tCV2, tCV3, tCV4, tCV5, tCS1, tCS2, tCS3, tCS4, tCS5, tCS6, tCS7, tCpyI, tCpyJ, tMax, tMin, tAbs, tSw, tTab, tLook, tLk, Int32.reduceAdd, List.map_cons, List.map_nil, List.sum_cons, List.sum_nil, List.getElem?_cons_succ, List.getElem?_cons_zero, List.set_cons_succ, List.set_cons_zero, true_and, and_true, Option.some.injEq, Sum.inl.injEq, Sum.inr.injEq, Prod.mk.injEq, Value.int.injEq, Value.ref.injEq, Value.long.injEq, exists_eq', Option.toList_some, Option.toList_none, List.cons_append, List.nil_append, Bool.not_false, Bool.not_true, Bool.and_true, Bool.and_false, Bool.true_and, Bool.false_and, hS_s, hS_n, ne_eq, not_false_eq_true, Classical.not_not, Nat.reduceAdd, eq_self, forall_const, false_implies, true_implies, not_true_eq_false, implies_true, h0, es, e1, e2, e7, e3]
        first | exact fin2 c112 (by omega) h1 hB1 hF1 | exact fin3 c148 (by omega) h1 hB1 hF1 | exact fin1 (fun q => by first | exact c112 q.1 | omega) (fun q => by first | exact c148 q.1 | omega) h1 hB1 hF1
    · refine bX9_scanRun_172 ?_
      simp +decide (disch := omega) only [lv_args, Value.category, lk, sto1, sto2, List.filter_cons, List.filter_nil, if_true, if_false, tPush, tIld, tLld, tAld, tIst, tAst, tLst, tInc, tB, tBn, tU, tLB, tLBn, tLS, tI2l, tL2i, tLcmp, tDup, tPop, tDup2, tDupx1, tIf, tIf2, tNul, tAcm, tRetI, tRetZ, tRetC, tRetL, tRetV, tRetA, tGetf, tPutf, isI, isL, isA, isZ, tXald, tXast, tZast, tJald, tJast, tRald, tLen, tCV0, tCV1, tCV2, tCV3, tCV4, tCV5, tCS1, tCS2, tCS3, tCS4, tCS5, tCS6, tCS7, tCpyI, tCpyJ, tMax, tMin, tAbs, tSw, tTab, tLook, tLk, Int32.reduceAdd, List.map_cons, List.map_nil, List.sum_cons, List.sum_nil, List.getElem?_cons_succ, List.getElem?_cons_zero, List.set_cons_succ, List.set_cons_zero, true_and, and_true, Option.some.injEq, Sum.inl.injEq, Sum.inr.injEq, Prod.mk.injEq, Value.int.injEq, Value.ref.injEq, Value.long.injEq, exists_eq', Option.toList_some, Option.toList_none, List.cons_append, List.nil_append, Bool.not_false, Bool.not_true, Bool.and_true, Bool.and_false, Bool.true_and, Bool.false_and, hS_s, hS_n, ne_eq, not_false_eq_true, Classical.not_not, Nat.reduceAdd, eq_self, forall_const, false_implies, true_implies, not_true_eq_false, implies_true, h0, es, e1, e2, e7, e3]
      refine calq (Nat.le_of_ble_eq_true rfl) (by first | decide | omega) (ct_put hB hk (q := 0) (by decide)) ?_
      rintro v h1 ⟨rfl, hB1, hF1⟩
      refine bX9_scanRun_182 ?_
      simp +decide (disch := omega) only [lv_args, Value.category, lk, sto1, sto2, List.filter_cons, List.filter_nil, if_true, if_false, tPush, tIld, tLld, tAld, tIst, tAst, tLst, tInc, tB, tBn, tU, tLB, tLBn, tLS, tI2l, tL2i, tLcmp, tDup, tPop, tDup2, tDupx1, tIf, tIf2, tNul, tAcm, tRetI, tRetZ, tRetC, tRetL, tRetV, tRetA, tGetf, tPutf, isI, isL, isA, isZ, tXald, tXast, tZast, tJald, tJast, tRald, tLen, tCV0, tCV1, tCV2, tCV3, tCV4, tCV5, tCS1, tCS2, tCS3, tCS4, tCS5, tCS6, tCS7, tCpyI, tCpyJ, tMax, tMin, tAbs, tSw, tTab, tLook, tLk, Int32.reduceAdd, List.map_cons, List.map_nil, List.sum_cons, List.sum_nil, List.getElem?_cons_succ, List.getElem?_cons_zero, List.set_cons_succ, List.set_cons_zero, true_and, and_true, Option.some.injEq, Sum.inl.injEq, Sum.inr.injEq, Prod.mk.injEq, Value.int.injEq, Value.ref.injEq, Value.long.injEq, exists_eq', Option.toList_some, Option.toList_none, List.cons_append, List.nil_append, Bool.not_false, Bool.not_true, Bool.and_true, Bool.and_false, Bool.true_and, Bool.false_and, hS_s, hS_n, ne_eq, not_false_eq_true, Classical.not_not, Nat.reduceAdd, eq_self, forall_const, false_implies, true_implies, not_true_eq_false, implies_true, h0, es, e1, e2, e7, e3]
      first | exact fin2 c112 (by omega) h1 hB1 hF1 | exact fin3 c148 (by omega) h1 hB1 hF1 | exact fin1 (fun q => by first | exact c112 q.1 | omega) (fun q => by first | exact c148 q.1 | omega) h1 hB1 hF1

