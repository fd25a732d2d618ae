/-! ===== constructors: the model ===== -/
section Ini5
variable {G : Gt} {h : Hp} {m : Nat}
def s0M : Ms := ((fun k => if k = 27 ∨ k = 34 ∨ k = 35 ∨ k = 36 then -1 else 0), 0, fun _ _ => 0, fun _ _ => 0)
theorem hM_of {s : Ms} (p : ∀ k, k ≤ 20 → h.2 (m + k) = some (cM s m k)) : hM h m s = h := by
  refine Prod.ext rfl (funext fun q => ?_)
  by_cases c : m ≤ q ∧ q ≤ m + 20
  · obtain ⟨k, hk, rfl⟩ : ∃ k, k ≤ 20 ∧ q = m + k := ⟨q - m, by omega, by omega⟩
    rw [hM_at hk, p k hk]
  · exact hM_out (by omega)
def Qmi (h : Hp) (m : Nat) : QT := fun r h' => r = none ∧ (∀ k, k ≤ 20 → h'.2 (m + k) = some (cM s0M m k)) ∧ h'.1 = m + 21 ∧ ∀ q : Nat, q < m → h'.2 q = h.2 q
def mP (h : Hp) (m i : Nat) (fs : List Value) (h1 : Hp) : Prop := h1.1 = m + 1 + i ∧ h1.2 m = some (.inl (11, fs)) ∧ (∀ j, 1 ≤ j → j ≤ i → h1.2 (m + j) = some (cM s0M m j)) ∧ ∀ q : Nat, q < m → h1.2 q = h.2 q
theorem mP.new {i : Nat} {fs gs : List Value} {h1 : Hp} {e : Ce} (p : mP h m i fs h1) (he : e = cM s0M m (i + 1)) : mP h m (i + 1) gs (hSet (hNew h1 e) m (.inl (11, gs))) := by
  obtain ⟨p1, p2, p3, p4⟩ := p
  refine ⟨by rw [hS_1, hN_1, p1]; omega, hS_s, fun j j1 j2 => ?_, fun q hq => ?_⟩
  · rw [hS_n (by omega)]
    by_cases c : j = i + 1
    · rw [hN_e (by omega), c, he]
    · rw [hN_n (by omega)]; exact p3 j j1 (by omega)
  · rw [hS_n (by omega), hN_n (by omega)]; exact p4 q hq
theorem mP.put {i : Nat} {fs gs : List Value} {h1 : Hp} (p : mP h m i fs h1) : mP h m i gs (hSet h1 m (.inl (11, gs))) := by
  obtain ⟨p1, p2, p3, p4⟩ := p
  exact ⟨p1, hS_s, fun j j1 j2 => (hS_n (by omega)).trans (p3 j j1 j2), fun q hq => (hS_n (by omega)).trans (p4 q hq)⟩
theorem mi_I {i kd N f : Nat} {x : Int32} {fs : List Value} {h1 : Hp} {K : KT} (p : mP h m i fs h1) (he : (.inr (.inl (kd, N, fun _ => 0)) : Ce) = cM s0M m (i + 1)) (hx : x.toNatClampNeg = N) (hx0 : ¬ x < 0) (k : ∀ h2, mP h m (i + 1) (fs.set f (.ref (m + 1 + i))) h2 → K [(0, .ref m)] [] h2) : (tAld 0 (tPush (.int x) (tNewI kd N (tPutf isA 11 f K)))) [(0, .ref m)] [] h1 := by
  have q := k _ (p.new (e := .inr (.inl (kd, N, fun _ => 0))) he)
  have p1 := p.1
  have p2 : (hNew h1 (.inr (.inl (kd, N, fun _ => 0)))).2 m = some (.inl (11, fs)) := (hN_n (by omega)).trans p.2.1
  simp +decide (disch := omega) only [lv_args, Value.category, sto2, List.filter_cons, List.filter_nil, if_true, if_false, tPush, tIld, tLld, tAld, tIst, tAst, tLst, tInc, tB, tBn, tU, tLB, tLBn, tLS, tI2l, tL2i, tLcmp, tDup, tPop, tDup2, tDupx1, tIf, tIf2, tNul, tAcm, tRetI, tRetZ, tRetC, tRetL, tRetV, tRetA, tGetf, tPutf, isI, isL, isA, isZ, tXald, tXast, tZast, tJald, tJast, tRald, tLen, tCV0, tCV1, tCV2, tCV3, tCV4, tCV5, tCS1, tCS2, tCS3, tCS4, tCS5, tCS6, tCS7, tCpyI, tCpyJ, tMax, tMin, tAbs, tSw, tTab, tLook, tLk, Int32.reduceAdd, List.map_cons, List.map_nil, List.sum_cons, List.sum_nil, List.getElem?_cons_succ, List.getElem?_cons_zero, List.set_cons_succ, List.set_cons_zero, true_and, and_true, Option.some.injEq, Sum.inl.injEq, Sum.inr.injEq, Prod.mk.injEq, Value.int.injEq, Value.ref.injEq, Value.long.injEq, exists_eq', Option.toList_some, Option.toList_none, List.cons_append, List.nil_append, Bool.not_false, Bool.not_true, Bool.and_true, Bool.and_false, Bool.true_and, Bool.false_and, hS_s, hS_n, ne_eq, not_false_eq_true, Classical.not_not, Nat.reduceAdd, eq_self, forall_const, false_implies, true_implies, not_true_eq_false, implies_true, lkk_s, lkk_n, sto1_e, sto1_s, sto1_i, sto1_r, sto1_l, stf_e, stf_i, stf_r, stf_l, p1, p2, tNewI, isA, hx, hx0, true_or, true_and]
  exact q
theorem mi_J {i N f : Nat} {x : Int32} {fs : List Value} {h1 : Hp} {K : KT} (p : mP h m i fs h1) (he : (.inr (.inr (.inl (N, fun _ => 0))) : Ce) = cM s0M m (i + 1)) (hx : x.toNatClampNeg = N) (hx0 : ¬ x < 0) (k : ∀ h2, mP h m (i + 1) (fs.set f (.ref (m + 1 + i))) h2 → K [(0, .ref m)] [] h2) : (tAld 0 (tPush (.int x) (tNewJ N (tPutf isA 11 f K)))) [(0, .ref m)] [] h1 := by
  have q := k _ (p.new (e := .inr (.inr (.inl (N, fun _ => 0)))) he)
  have p1 := p.1
  have p2 : (hNew h1 (.inr (.inr (.inl (N, fun _ => 0))))).2 m = some (.inl (11, fs)) := (hN_n (by omega)).trans p.2.1
  simp +decide (disch := omega) only [lv_args, Value.category, sto2, List.filter_cons, List.filter_nil, if_true, if_false, tPush, tIld, tLld, tAld, tIst, tAst, tLst, tInc, tB, tBn, tU, tLB, tLBn, tLS, tI2l, tL2i, tLcmp, tDup, tPop, tDup2, tDupx1, tIf, tIf2, tNul, tAcm, tRetI, tRetZ, tRetC, tRetL, tRetV, tRetA, tGetf, tPutf, isI, isL, isA, isZ, tXald, tXast, tZast, tJald, tJast, tRald, tLen, tCV0, tCV1, tCV2, tCV3, tCV4, tCV5, tCS1, tCS2, tCS3, tCS4, tCS5, tCS6, tCS7, tCpyI, tCpyJ, tMax, tMin, tAbs, tSw, tTab, tLook, tLk, Int32.reduceAdd, List.map_cons, List.map_nil, List.sum_cons, List.sum_nil, List.getElem?_cons_succ, List.getElem?_cons_zero, List.set_cons_succ, List.set_cons_zero, true_and, and_true, Option.some.injEq, Sum.inl.injEq, Sum.inr.injEq, Prod.mk.injEq, Value.int.injEq, Value.ref.injEq, Value.long.injEq, exists_eq', Option.toList_some, Option.toList_none, List.cons_append, List.nil_append, Bool.not_false, Bool.not_true, Bool.and_true, Bool.and_false, Bool.true_and, Bool.false_and, hS_s, hS_n, ne_eq, not_false_eq_true, Classical.not_not, Nat.reduceAdd, eq_self, forall_const, false_implies, true_implies, not_true_eq_false, implies_true, lkk_s, lkk_n, sto1_e, sto1_s, sto1_i, sto1_r, sto1_l, stf_e, stf_i, stf_r, stf_l, p1, p2, tNewJ, isA, hx, hx0, true_or, true_and]
  exact q
theorem mi_P {i f : Nat} {x : Int32} {fs : List Value} {h1 : Hp} {K : KT} (p : mP h m i fs h1) (k : ∀ h2, mP h m i (fs.set f (.int x)) h2 → K [(0, .ref m)] [] h2) : (tAld 0 (tPush (.int x) (tPutf isI 11 f K))) [(0, .ref m)] [] h1 := by
  have q := k _ p.put
  have p2 := p.2.1
  simp +decide (disch := omega) only [lv_args, Value.category, sto2, List.filter_cons, List.filter_nil, if_true, if_false, tPush, tIld, tLld, tAld, tIst, tAst, tLst, tInc, tB, tBn, tU, tLB, tLBn, tLS, tI2l, tL2i, tLcmp, tDup, tPop, tDup2, tDupx1, tIf, tIf2, tNul, tAcm, tRetI, tRetZ, tRetC, tRetL, tRetV, tRetA, tGetf, tPutf, isI, isL, isA, isZ, tXald, tXast, tZast, tJald, tJast, tRald, tLen, tCV0, tCV1, tCV2, tCV3, tCV4, tCV5, tCS1, tCS2, tCS3, tCS4, tCS5, tCS6, tCS7, tCpyI, tCpyJ, tMax, tMin, tAbs, tSw, tTab, tLook, tLk, Int32.reduceAdd, List.map_cons, List.map_nil, List.sum_cons, List.sum_nil, List.getElem?_cons_succ, List.getElem?_cons_zero, List.set_cons_succ, List.set_cons_zero, true_and, and_true, Option.some.injEq, Sum.inl.injEq, Sum.inr.injEq, Prod.mk.injEq, Value.int.injEq, Value.ref.injEq, Value.long.injEq, exists_eq', Option.toList_some, Option.toList_none, List.cons_append, List.nil_append, Bool.not_false, Bool.not_true, Bool.and_true, Bool.and_false, Bool.true_and, Bool.false_and, hS_s, hS_n, ne_eq, not_false_eq_true, Classical.not_not, Nat.reduceAdd, eq_self, forall_const, false_implies, true_implies, not_true_eq_false, implies_true, lkk_s, lkk_n, sto1_e, sto1_s, sto1_i, sto1_r, sto1_l, stf_e, stf_i, stf_r, stf_l, p2, isI, true_or, true_and]
  exact q
theorem ct_mini (ha : h.1 = m + 1) (h0 : h.2 m = some (.inl (11, [.int 0, .null, .int 0, .int 0, .int 0, .int 0, .int 0, .int 0, .int 0, .int 0, .int 0, .int 0, .long 0, .int 0, .null, .null, .null, .null, .null, .null, .null, .null, .null, .null, .null, .null, .int 0, .int 0, .null, .null, .int 0, .int 0, .int 0, .null, .int 0, .int 0, .int 0, .null, .int 0, .int 0, .null, .null, .int 0, .int 0, .null, .int 0, .int 0, .int 0, .int 0]))) : Mt G 1 20 3973 mX13_init [.ref m] h (Qmi h m) := by
  refine Mt.of (by decide +kernel) (Nat.le_of_ble_eq_true rfl) ?_
  have hP_ : mP h m 0 _ h := ⟨ha, h0, fun j a b => by omega, fun _ _ => rfl⟩
  refine bX13_init_0 (by first | decide | omega) ?_
  simp +decide (disch := omega) only [lv_args, Value.category, sto2, List.filter_cons, List.filter_nil, if_true, if_false, tPush, tIld, tLld, tAld, tIst, tAst, tLst, tInc, tB, tBn, tU, tLB, tLBn, tLS, tI2l, tL2i, tLcmp, tDup, tPop, tDup2, tDupx1, tIf, tIf2, tNul, tAcm, tRetI, tRetZ, tRetC, tRetL, tRetV, tRetA, tGetf, tPutf, isI, isL, isA, isZ, tXald, tXast, tZast, tJald, tJast, tRald, tLen, tCV0, tCV1, tCV2, tCV3, tCV4, tCV5, tCS1, tCS2, tCS3, tCS4, tCS5, tCS6, tCS7, tCpyI, tCpyJ, tMax, tMin, tAbs, tSw, tTab, tLook, tLk, Int32.reduceAdd, List.map_cons, List.map_nil, List.sum_cons, List.sum_nil, List.getElem?_cons_succ, List.getElem?_cons_zero, List.set_cons_succ, List.set_cons_zero, true_and, and_true, Option.some.injEq, Sum.inl.injEq, Sum.inr.injEq, Prod.mk.injEq, Value.int.injEq, Value.ref.injEq, Value.long.injEq, exists_eq', Option.toList_some, Option.toList_none, List.cons_append, List.nil_append, Bool.not_false, Bool.not_true, Bool.and_true, Bool.and_false, Bool.true_and, Bool.false_and, hS_s, hS_n, ne_eq, not_false_eq_true, Classical.not_not, Nat.reduceAdd, eq_self, forall_const, false_implies, true_implies, not_true_eq_false, implies_true, lkk_s, lkk_n, sto1_e, sto1_s, sto1_i, sto1_r, sto1_l, stf_e, stf_i, stf_r, stf_l, tObj, true_and]
  refine bX13_init_4 ?_
  refine mi_I hP_ (by rfl) (by decide) (by decide) (fun _ hP_ => ?_)
  simp only [List.set_cons_succ, List.set_cons_zero] at hP_
  refine mi_I hP_ (by rfl) (by decide) (by decide) (fun _ hP_ => ?_)
  simp only [List.set_cons_succ, List.set_cons_zero] at hP_
  refine mi_I hP_ (by rfl) (by decide) (by decide) (fun _ hP_ => ?_)
  simp only [List.set_cons_succ, List.set_cons_zero] at hP_
  refine mi_I hP_ (by rfl) (by decide) (by decide) (fun _ hP_ => ?_)
  simp only [List.set_cons_succ, List.set_cons_zero] at hP_
  refine mi_I hP_ (by rfl) (by decide) (by decide) (fun _ hP_ => ?_)
  simp only [List.set_cons_succ, List.set_cons_zero] at hP_
  refine mi_I hP_ (by rfl) (by decide) (by decide) (fun _ hP_ => ?_)
  simp only [List.set_cons_succ, List.set_cons_zero] at hP_
  refine mi_I hP_ (by rfl) (by decide) (by decide) (fun _ hP_ => ?_)
  simp only [List.set_cons_succ, List.set_cons_zero] at hP_
  refine mi_J hP_ (by rfl) (by decide) (by decide) (fun _ hP_ => ?_)
  simp only [List.set_cons_succ, List.set_cons_zero] at hP_
  refine mi_J hP_ (by rfl) (by decide) (by decide) (fun _ hP_ => ?_)
  simp only [List.set_cons_succ, List.set_cons_zero] at hP_
  refine mi_J hP_ (by rfl) (by decide) (by decide) (fun _ hP_ => ?_)
  simp only [List.set_cons_succ, List.set_cons_zero] at hP_
  refine mi_I hP_ (by rfl) (by decide) (by decide) (fun _ hP_ => ?_)
  simp only [List.set_cons_succ, List.set_cons_zero] at hP_
  refine mi_I hP_ (by rfl) (by decide) (by decide) (fun _ hP_ => ?_)
  simp only [List.set_cons_succ, List.set_cons_zero] at hP_
  refine mi_I hP_ (by rfl) (by decide) (by decide) (fun _ hP_ => ?_)
  simp only [List.set_cons_succ, List.set_cons_zero] at hP_
  refine mi_P hP_ (fun _ hP_ => ?_)
  simp only [List.set_cons_succ, List.set_cons_zero] at hP_
  refine mi_I hP_ (by rfl) (by decide) (by decide) (fun _ hP_ => ?_)
  simp only [List.set_cons_succ, List.set_cons_zero] at hP_
  refine mi_I hP_ (by rfl) (by decide) (by decide) (fun _ hP_ => ?_)
  simp only [List.set_cons_succ, List.set_cons_zero] at hP_
  refine mi_I hP_ (by rfl) (by decide) (by decide) (fun _ hP_ => ?_)
  simp only [List.set_cons_succ, List.set_cons_zero] at hP_
  refine mi_P hP_ (fun _ hP_ => ?_)
  simp only [List.set_cons_succ, List.set_cons_zero] at hP_
  refine mi_P hP_ (fun _ hP_ => ?_)
  simp only [List.set_cons_succ, List.set_cons_zero] at hP_
  refine mi_P hP_ (fun _ hP_ => ?_)
  simp only [List.set_cons_succ, List.set_cons_zero] at hP_
  refine mi_I hP_ (by rfl) (by decide) (by decide) (fun _ hP_ => ?_)
  simp only [List.set_cons_succ, List.set_cons_zero] at hP_
  refine mi_I hP_ (by rfl) (by decide) (by decide) (fun _ hP_ => ?_)
  simp only [List.set_cons_succ, List.set_cons_zero] at hP_
  refine mi_I hP_ (by rfl) (by decide) (by decide) (fun _ hP_ => ?_)
  simp only [List.set_cons_succ, List.set_cons_zero] at hP_
  refine mi_I hP_ (by rfl) (by decide) (by decide) (fun _ hP_ => ?_)
  simp only [List.set_cons_succ, List.set_cons_zero] at hP_
  simp +decide (disch := omega) only [lv_args, Value.category, sto2, List.filter_cons, List.filter_nil, if_true, if_false, tPush, tIld, tLld, tAld, tIst, tAst, tLst, tInc, tB, tBn, tU, tLB, tLBn, tLS, tI2l, tL2i, tLcmp, tDup, tPop, tDup2, tDupx1, tIf, tIf2, tNul, tAcm, tRetI, tRetZ, tRetC, tRetL, tRetV, tRetA, tGetf, tPutf, isI, isL, isA, isZ, tXald, tXast, tZast, tJald, tJast, tRald, tLen, tCV0, tCV1, tCV2, tCV3, tCV4, tCV5, tCS1, tCS2, tCS3, tCS4, tCS5, tCS6, tCS7, tCpyI, tCpyJ, tMax, tMin, tAbs, tSw, tTab, tLook, tLk, Int32.reduceAdd, List.map_cons, List.map_nil, List.sum_cons, List.sum_nil, List.getElem?_cons_succ, List.getElem?_cons_zero, List.set_cons_succ, List.set_cons_zero, true_and, and_true, Option.some.injEq, Sum.inl.injEq, Sum.inr.injEq, Prod.mk.injEq, Value.int.injEq, Value.ref.injEq, Value.long.injEq, exists_eq', Option.toList_some, Option.toList_none, List.cons_append, List.nil_append, Bool.not_false, Bool.not_true, Bool.and_true, Bool.and_false, Bool.true_and, Bool.false_and, hS_s, hS_n, ne_eq, not_false_eq_true, Classical.not_not, Nat.reduceAdd, eq_self, forall_const, false_implies, true_implies, not_true_eq_false, implies_true, lkk_s, lkk_n, sto1_e, sto1_s, sto1_i, sto1_r, sto1_l, stf_e, stf_i, stf_r, stf_l, true_and]
  refine ⟨rfl, fun k hk => ?_, hP_.1, hP_.2.2.2⟩
  by_cases c : k = 0
  · subst c; exact hP_.2.1.trans rfl
  · exact hP_.2.2.1 k (by omega) hk
end Ini5

