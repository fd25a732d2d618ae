/-! ===== the law: its start ===== -/
abbrev c0C : Cs := (0, fun _ => 0, w0, [], 0, [], [], 0, filF (-1) (fun _ => 0) 4, -1, -1, filF (-1) (fun _ => 0) 8, -1, -1, fun _ => none, fun _ => none, fun _ => (w0, 0, []))
theorem WOK0 : WOK w0 := by
  refine ⟨by decide, by decide, fun p hp => absurd hp (Nat.not_lt_zero p), fun _ _ _ _ _ => rfl, fun _ _ _ _ _ => rfl, fun p hp => absurd hp (Nat.not_lt_zero p), fun p hp => absurd hp (Nat.not_lt_zero p), fun p hp => absurd hp (Nat.not_lt_zero p), fun _ _ _ _ => ⟨0, by decide, rfl⟩, fun _ _ _ _ => ⟨0, by decide, rfl⟩, 0, by decide, rfl⟩
theorem TpOK0 : TpOK (fun _ => 0) := fun j => ⟨by show bN (fun _ => 0) 0 < 256; decide, by show (0 : Int32) = nI (bN (fun _ => 0) 0); decide⟩
theorem RC0 : RC c0C s0M := by
  refine ⟨Nat.zero_le _, TpOK0, rfl, rfl, WOK0, ?_, ⟨fun t ht => absurd ht (Nat.not_lt_zero t), fun p hp => absurd hp (Nat.not_lt_zero p)⟩, Or.inl ⟨rfl, rfl⟩, rfl, PastR.nil, Nat.zero_le _, rfl, fun i hi => absurd hi (Nat.not_lt_zero i), rfl, rfl, rfl, rfl, rfl, Or.inl ⟨rfl, fun i hi => if_pos hi⟩, ⟨0, by decide, rfl, Or.inl ⟨rfl, fun j hj => if_pos hj⟩⟩, fun k hk => Or.inl ⟨rfl, rfl⟩⟩
  exact ⟨rfl, rfl, rfl, fun t ht => absurd ht (Nat.not_lt_zero t), fun p hp => absurd hp (Nat.not_lt_zero p), fun _ _ => rfl, fun _ _ => rfl, fun _ _ _ => rfl⟩
section Lws
variable {G : Gt} {X : Sc} {B : Nat} {h0 h1 h2 : Hp}
theorem inv0 {r1 r2 : Option Value} (q1 : Qxi G h0 B r1 h1) (q2 : Qmi (hNew h1 (.inl (11, [.int 0, .null, .int 0, .int 0, .int 0, .int 0, .int 0, .int 0, .int 0, .int 0, .int 0, .int 0, .long 0, .int 0, .null, .null, .null, .null, .null, .null, .null, .null, .null, .null, .null, .null, .int 0, .int 0, .null, .null, .int 0, .int 0, .int 0, .null, .int 0, .int 0, .int 0, .null, .int 0, .int 0, .null, .null, .int 0, .int 0, .null, .int 0, .int 0, .int 0, .int 0]))) (B + 240) r2 h2) : Inv G (hNew h2 (.inr (.inr (.inl (1, fun _ => 0))))) B := by
  obtain ⟨-, a1, a2, a3, a4, a5, a6, a7, a8, a9, a10, a11, a12, a13, a14, a15, a16, a17, a18, a19, a20, -⟩ := q1
  obtain ⟨-, b1, b2, b3⟩ := q2
  generalize hh : hNew h2 (.inr (.inr (.inl (1, fun _ => 0)))) = h3
  have f1 : h3.1 = B + 262 := by rw [← hh]; show h2.1 + 1 = _; rw [b2]
  have e2 : ∀ q : Nat, q < B + 261 → h3.2 q = h2.2 q := fun q hq => by rw [← hh]; exact if_neg (by rw [b2]; omega)
  have fr : ∀ q : Nat, q < B + 240 → h3.2 q = h1.2 q := fun q hq => by
    rw [e2 q (by omega), b3 q hq]
    exact if_neg (by rw [a20]; omega)
  have fo : h3.2 (B + 261) = some (.inr (.inr (.inl (1, fun _ => 0)))) := by rw [← hh]; exact if_pos (by rw [b2])
  refine ⟨c0C, s0M, ⟨⟨(fr _ (by omega)).trans a1, _, (fr _ (by omega)).trans a19, fun i hi => absurd hi (Nat.not_lt_zero i)⟩, a2.on (fun q a b => fr q (by omega)), a3.on (fun q a b => fr q (by omega)), (fr _ (by omega)).trans a4, ⟨_, a5.on (fun q a b => fr q (by omega))⟩, a6.on (fun q a b => fr q (by omega)), ⟨_, a7.on (fun q a b => fr q (by omega))⟩, (fr _ (by omega)).trans a8, a9.on (fun q a b => fr q (by omega)), a10.on (fun q a b => fr q (by omega)), a11.on (fun q a b => fr q (by omega)), (a12.on (fun q a b => fr q (by omega))).s0, (fr _ (by omega)).trans a13, (fr _ (by omega)).trans a14, ⟨_, a15.on (fun q a b => fr q (by omega))⟩, ⟨_, _, _, _, a16.ont (fun q a => fr q (by omega))⟩, ⟨_, a17.on (fun q a b => fr q (by omega))⟩, ⟨_, _, a18.on (fun q a b => fr q (by omega))⟩, ⟨_, fo⟩, fun k hk => Or.inl rfl, fun N N' z => (by cases z), by rw [f1]; exact Nat.le_refl _⟩, RC0, hM_of (fun k hk => (e2 _ (by omega)).trans (b1 k hk))⟩
theorem lw_enter (hL : X.2.1 ≤ 3072) (hB : h0.1 = B) : TG G (CL' G X) ZL 100 (17 * 512 + 1 + 20 + 1 + 239 + 1) (307 * 512 + 1 + 3973 + 49 + 7336 + 16) mL_law 0 [(0, .ref X.1)] [] h0 := by
  subst hB
  refine bL_law_0 ?_
  simp +decide (disch := first | (simp only [hN_1, hS_1]; omega) | omega) only [lv_args, Value.category, sto2, List.filter_cons, List.filter_nil, if_true, if_false, tPush, tIld, tLld, tAld, tIst, tAst, tLst, tInc, tB, tBn, tU, tLB, tLBn, tLS, tI2l, tL2i, tLcmp, tDup, tPop, tDup2, tDupx1, tIf, tIf2, tNul, tAcm, tRetI, tRetZ, tRetC, tRetL, tRetV, tRetA, tGetf, tPutf, isI, isL, isA, isZ, tXald, tXast, tZast, tJald, tJast, tRald, tLen, tCV0, tCV1, tCV2, tCV3, tCV4, tCV5, tCS1, tCS2, tCS3, tCS4, tCS5, tCS6, tCS7, tCpyI, tCpyJ, tMax, tMin, tAbs, tSw, tTab, tLook, tLk, Int32.reduceAdd, List.map_cons, List.map_nil, List.sum_cons, List.sum_nil, List.getElem?_cons_succ, List.getElem?_cons_zero, List.set_cons_succ, List.set_cons_zero, true_and, and_true, Option.some.injEq, Sum.inl.injEq, Sum.inr.injEq, Prod.mk.injEq, Value.int.injEq, Value.ref.injEq, Value.long.injEq, exists_eq', Option.toList_some, Option.toList_none, List.cons_append, List.nil_append, Bool.not_false, Bool.not_true, Bool.and_true, Bool.and_false, Bool.true_and, Bool.false_and, hS_s, hS_n, ne_eq, not_false_eq_true, Classical.not_not, Nat.reduceAdd, eq_self, forall_const, false_implies, true_implies, not_true_eq_false, implies_true, lkk_s, lkk_n, sto1_e, sto1_s, sto1_i, sto1_r, sto1_l, stf_e, stf_i, stf_r, stf_l, tNew, tNewJ, tCI0]
  refine calq (Nat.le_of_ble_eq_true rfl) (by decide) (ct_xini (by rfl) (if_pos rfl)) (fun v h1 q1 => ?_)
  have e1 : v = none := q1.1
  have ea : h1.1 = h0.1 + 240 := q1.2.2.2.2.2.2.2.2.2.2.2.2.2.2.2.2.2.2.2.2.1
  subst e1
  refine bL_law_7 ?_
  simp +decide (disch := first | (simp only [hN_1, hS_1]; omega) | omega) only [lv_args, Value.category, sto2, List.filter_cons, List.filter_nil, if_true, if_false, tPush, tIld, tLld, tAld, tIst, tAst, tLst, tInc, tB, tBn, tU, tLB, tLBn, tLS, tI2l, tL2i, tLcmp, tDup, tPop, tDup2, tDupx1, tIf, tIf2, tNul, tAcm, tRetI, tRetZ, tRetC, tRetL, tRetV, tRetA, tGetf, tPutf, isI, isL, isA, isZ, tXald, tXast, tZast, tJald, tJast, tRald, tLen, tCV0, tCV1, tCV2, tCV3, tCV4, tCV5, tCS1, tCS2, tCS3, tCS4, tCS5, tCS6, tCS7, tCpyI, tCpyJ, tMax, tMin, tAbs, tSw, tTab, tLook, tLk, Int32.reduceAdd, List.map_cons, List.map_nil, List.sum_cons, List.sum_nil, List.getElem?_cons_succ, List.getElem?_cons_zero, List.set_cons_succ, List.set_cons_zero, true_and, and_true, Option.some.injEq, Sum.inl.injEq, Sum.inr.injEq, Prod.mk.injEq, Value.int.injEq, Value.ref.injEq, Value.long.injEq, exists_eq', Option.toList_some, Option.toList_none, List.cons_append, List.nil_append, Bool.not_false, Bool.not_true, Bool.and_true, Bool.and_false, Bool.true_and, Bool.false_and, hS_s, hS_n, ne_eq, not_false_eq_true, Classical.not_not, Nat.reduceAdd, eq_self, forall_const, false_implies, true_implies, not_true_eq_false, implies_true, lkk_s, lkk_n, sto1_e, sto1_s, sto1_i, sto1_r, sto1_l, stf_e, stf_i, stf_r, stf_l, tNew, tNewJ, tCI0]
  rw [ea]
  refine calq (Nat.le_of_ble_eq_true rfl) (by decide) (ct_mini (by show h1.1 + 1 = _; rw [ea]) (if_pos ea.symm)) (fun v2 h2 q2 => ?_)
  have e2 : v2 = none := q2.1
  have eb : h2.1 = h0.1 + 240 + 21 := q2.2.2.1
  subst e2
  have hI := inv0 q1 q2
  refine bL_law_15 ?_
  simp +decide (disch := first | (simp only [hN_1, hS_1]; omega) | omega) only [lv_args, Value.category, sto2, List.filter_cons, List.filter_nil, if_true, if_false, tPush, tIld, tLld, tAld, tIst, tAst, tLst, tInc, tB, tBn, tU, tLB, tLBn, tLS, tI2l, tL2i, tLcmp, tDup, tPop, tDup2, tDupx1, tIf, tIf2, tNul, tAcm, tRetI, tRetZ, tRetC, tRetL, tRetV, tRetA, tGetf, tPutf, isI, isL, isA, isZ, tXald, tXast, tZast, tJald, tJast, tRald, tLen, tCV0, tCV1, tCV2, tCV3, tCV4, tCV5, tCS1, tCS2, tCS3, tCS4, tCS5, tCS6, tCS7, tCpyI, tCpyJ, tMax, tMin, tAbs, tSw, tTab, tLook, tLk, Int32.reduceAdd, List.map_cons, List.map_nil, List.sum_cons, List.sum_nil, List.getElem?_cons_succ, List.getElem?_cons_zero, List.set_cons_succ, List.set_cons_zero, true_and, and_true, Option.some.injEq, Sum.inl.injEq, Sum.inr.injEq, Prod.mk.injEq, Value.int.injEq, Value.ref.injEq, Value.long.injEq, exists_eq', Option.toList_some, Option.toList_none, List.cons_append, List.nil_append, Bool.not_false, Bool.not_true, Bool.and_true, Bool.and_false, Bool.true_and, Bool.false_and, hS_s, hS_n, ne_eq, not_false_eq_true, Classical.not_not, Nat.reduceAdd, eq_self, forall_const, false_implies, true_implies, not_true_eq_false, implies_true, lkk_s, lkk_n, sto1_e, sto1_s, sto1_i, sto1_r, sto1_l, stf_e, stf_i, stf_r, stf_l, tNew, tNewJ, tCI0]
  rw [eb]
  exact lw_loop hL 512 0 _ (Nat.zero_le _) (by omega) hI
end Lws

