/-! ===== the model reads a bridge: what it has read ===== -/
def NmR (c : Nat → Nat → Int64) (g : Nat → Int64) (th pe : Nat) : Prop := (∀ t, t < th → ∃ R, nmV R ∧ c 0 t = nm32 R ∧ g t = nm27 R) ∧ ∀ p, p < pe → ∃ R, nmV R ∧ c 1 p = nm32 R ∧ g (6 + p) = nm27 R
/-- the rows of the model's reader tell of w -/
def RdV (w : Wd) (r : Nat → Int32) (g : Nat → Int64) (hd ak : Nat → Int32) : Prop :=
  r 0 = nI (wTh w) ∧ r 1 = nI (wPe w) ∧ (∀ t, t < wTh w → r (2 + t) = wI w 0 t ∧ r (8 + t) = wI w 1 t) ∧ (∀ p, p < wPe w → r (14 + p) = wI w 3 p ∧ r (22 + p) = wI w 2 p ∧ r (90 + p) = wI w 6 p) ∧
  (∀ i, i < 48 → r (30 + i) = wI w 7 i) ∧ (∀ i, i < 12 → r (78 + i) = wI w 8 i) ∧ NmR (wN w) g (wTh w) (wPe w) ∧ (∀ i, i < 48 → hd i = if wI w 7 i = 0 then 0 else 1) ∧ (∀ i, i < 12 → ak i = if wI w 8 i = 0 then 0 else 1)
theorem RdV.th {w : Wd} {r hd ak : Nat → Int32} {g : Nat → Int64} (h : RdV w r g hd ak) (hth : wTh w < 6) (hpe : wPe w ≤ 8) {R : List Nat} (hR : nmV R) (e d : Int32) : RdV (addTh w (nm32 R) e d) (upd (upd (upd r (2 + wTh w) e) (8 + wTh w) d) 0 (nI (wTh w + 1))) (vp_updL g (wTh w) (nm27 R)) hd ak := by
  obtain ⟨a0, a1, a2, a3, a4, a5, a6, a7, a8⟩ := h
  refine ⟨upd_s, ?_, fun t ht => ?_, fun p hp => ?_, fun i hi => ?_, fun i hi => ?_, ⟨fun t ht => ?_, fun p hp => ?_⟩, a7, a8⟩
  · rw [upd_n (by omega), upd_n (by omega), upd_n (by omega)]; exact a1
  · have ht : t < wTh w + 1 := ht
    rw [show wI (addTh w (nm32 R) e d) 0 = upd (wI w 0) (wTh w) e from rfl, show wI (addTh w (nm32 R) e d) 1 = upd (wI w 1) (wTh w) d from rfl]
    by_cases z : t = wTh w
    · subst z
      refine ⟨?_, ?_⟩
      · rw [upd_n (by omega), upd_n (by omega), upd_s, upd_s]
      · rw [upd_n (by omega), upd_s, upd_s]
    · have b := a2 t (by omega)
      refine ⟨?_, ?_⟩
      · rw [upd_n (by omega), upd_n (by omega), upd_n (by omega), upd_n z]; exact b.1
      · rw [upd_n (by omega), upd_n (by omega), upd_n (by omega), upd_n z]; exact b.2
  · have hp : p < wPe w := hp
    rw [upd_n (by omega), upd_n (by omega), upd_n (by omega), upd_n (by omega), upd_n (by omega), upd_n (by omega), upd_n (by omega), upd_n (by omega), upd_n (by omega)]
    exact a3 p hp
  · rw [upd_n (by omega), upd_n (by omega), upd_n (by omega)]; exact a4 i hi
  · rw [upd_n (by omega), upd_n (by omega), upd_n (by omega)]; exact a5 i hi
  · have ht : t < wTh w + 1 := ht
    rw [show wN (addTh w (nm32 R) e d) 0 = vp_updL (wN w 0) (wTh w) (nm32 R) from rfl]
    by_cases z : t = wTh w
    · subst z
      exact ⟨R, hR, pk_uLs, pk_uLs⟩
    · rw [pk_uLn z, pk_uLn z]; exact a6.1 t (by omega)
  · have hp : p < wPe w := hp
    rw [show wN (addTh w (nm32 R) e d) 1 = wN w 1 from rfl, pk_uLn (by omega)]
    exact a6.2 p hp
theorem RdV.pe {w : Wd} {r hd ak : Nat → Int32} {g : Nat → Int64} (h : RdV w r g hd ak) (hth : wTh w ≤ 6) (hpe : wPe w < 8) {R : List Nat} (hR : nmV R) (pl e : Int32) : RdV (addPe w (nm32 R) pl e) (upd (upd (upd (upd r (14 + wPe w) pl) (22 + wPe w) e) (90 + wPe w) (-1)) 1 (nI (wPe w + 1))) (vp_updL g (6 + wPe w) (nm27 R)) hd ak := by
  obtain ⟨a0, a1, a2, a3, a4, a5, a6, a7, a8⟩ := h
  refine ⟨?_, upd_s, fun t ht => ?_, fun p hp => ?_, fun i hi => ?_, fun i hi => ?_, ⟨fun t ht => ?_, fun p hp => ?_⟩, a7, a8⟩
  · rw [upd_n (by omega), upd_n (by omega), upd_n (by omega), upd_n (by omega)]; exact a0
  · have ht : t < wTh w := ht
    rw [upd_n (by omega), upd_n (by omega), upd_n (by omega), upd_n (by omega), upd_n (by omega), upd_n (by omega), upd_n (by omega), upd_n (by omega)]
    exact a2 t ht
  · have hp : p < wPe w + 1 := hp
    rw [show wI (addPe w (nm32 R) pl e) 3 = upd (wI w 3) (wPe w) pl from rfl, show wI (addPe w (nm32 R) pl e) 2 = upd (wI w 2) (wPe w) e from rfl, show wI (addPe w (nm32 R) pl e) 6 = upd (wI w 6) (wPe w) (-1) from rfl]
    by_cases z : p = wPe w
    · subst z
      refine ⟨?_, ?_, ?_⟩
      · rw [upd_n (by omega), upd_n (by omega), upd_n (by omega), upd_s, upd_s]
      · rw [upd_n (by omega), upd_n (by omega), upd_s, upd_s]
      · rw [upd_n (by omega), upd_s, upd_s]
    · have b := a3 p (by omega)
      refine ⟨?_, ?_, ?_⟩
      · rw [upd_n (by omega), upd_n (by omega), upd_n (by omega), upd_n (by omega), upd_n z]; exact b.1
      · rw [upd_n (by omega), upd_n (by omega), upd_n (by omega), upd_n (by omega), upd_n z]; exact b.2.1
      · rw [upd_n (by omega), upd_n (by omega), upd_n (by omega), upd_n (by omega), upd_n z]; exact b.2.2
  · rw [upd_n (by omega), upd_n (by omega), upd_n (by omega), upd_n (by omega)]; exact a4 i hi
  · rw [upd_n (by omega), upd_n (by omega), upd_n (by omega), upd_n (by omega)]; exact a5 i hi
  · have ht : t < wTh w := ht
    rw [show wN (addPe w (nm32 R) pl e) 0 = wN w 0 from rfl, pk_uLn (by omega)]
    exact a6.1 t ht
  · have hp : p < wPe w + 1 := hp
    rw [show wN (addPe w (nm32 R) pl e) 1 = vp_updL (wN w 1) (wPe w) (nm32 R) from rfl]
    by_cases z : p = wPe w
    · subst z
      exact ⟨R, hR, pk_uLs, pk_uLs⟩
    · rw [pk_uLn z, pk_uLn (by omega)]; exact a6.2 p (by omega)
theorem RdV.ha {w : Wd} {r hd ak : Nat → Int32} {g : Nat → Int64} (h : RdV w r g hd ak) (hth : wTh w ≤ 6) (hpe : wPe w ≤ 8) {p t n : Nat} (hp : p < 8) (ht : t < 6) (h0 : 0 < n) (hn : n ≤ 12) : RdV (wHeld w p t (nI n)) (upd r (30 + (6 * p + t)) (nI n)) g (upd hd (6 * p + t) 1) ak := by
  obtain ⟨a0, a1, a2, a3, a4, a5, a6, a7, a8⟩ := h
  have e7 : wI (wHeld w p t (nI n)) 7 = upd (wI w 7) (6 * p + t) (nI n) := by
    unfold wHeld
    rw [wI_s, cap_le hn, show p * 6 + t = 6 * p + t by omega]
  refine ⟨?_, ?_, fun q hq => ?_, fun q hq => ?_, fun i hi => ?_, fun i hi => ?_, a6, fun i hi => ?_, a8⟩
  · rw [upd_n (by omega)]; exact a0
  · rw [upd_n (by omega)]; exact a1
  · have hq : q < wTh w := hq
    rw [upd_n (by omega), upd_n (by omega)]; exact a2 q hq
  · have hq : q < wPe w := hq
    rw [upd_n (by omega), upd_n (by omega), upd_n (by omega)]; exact a3 q hq
  · rw [e7]
    by_cases z : i = 6 * p + t
    · rw [z, upd_s, upd_s]
    · rw [upd_n (by omega), upd_n z]; exact a4 i hi
  · rw [upd_n (by omega)]; exact a5 i hi
  · rw [e7]
    by_cases z : i = 6 * p + t
    · rw [z, upd_s, upd_s, if_neg (nI_ne0 h0 (by omega))]
    · rw [upd_n z, upd_n z]; exact a7 i hi
theorem RdV.ak {w : Wd} {r hd ak : Nat → Int32} {g : Nat → Int64} (h : RdV w r g hd ak) (hth : wTh w ≤ 6) (hpe : wPe w ≤ 8) {p t n : Nat} (hp : p < 2) (ht : t < 6) (h0 : 0 < n) (hn : n ≤ 12) : RdV (wToll w p t (nI n)) (upd r (78 + (6 * p + t)) (nI n)) g hd (upd ak (6 * p + t) 1) := by
  obtain ⟨a0, a1, a2, a3, a4, a5, a6, a7, a8⟩ := h
  have e7 : wI (wToll w p t (nI n)) 8 = upd (wI w 8) (6 * p + t) (nI n) := by
    unfold wToll
    rw [wI_s, show p * 6 + t = 6 * p + t by omega]
  refine ⟨?_, ?_, fun q hq => ?_, fun q hq => ?_, fun i hi => ?_, fun i hi => ?_, a6, a7, fun i hi => ?_⟩
  · rw [upd_n (by omega)]; exact a0
  · rw [upd_n (by omega)]; exact a1
  · have hq : q < wTh w := hq
    rw [upd_n (by omega), upd_n (by omega)]; exact a2 q hq
  · have hq : q < wPe w := hq
    rw [upd_n (by omega), upd_n (by omega), upd_n (by omega)]; exact a3 q hq
  · rw [upd_n (by omega)]; exact a4 i hi
  · rw [e7]
    by_cases z : i = 6 * p + t
    · rw [z, upd_s, upd_s]
    · rw [upd_n (by omega), upd_n z]; exact a5 i hi
  · rw [e7]
    by_cases z : i = 6 * p + t
    · rw [z, upd_s, upd_s, if_neg (nI_ne0 h0 (by omega))]
    · rw [upd_n z, upd_n z]; exact a8 i hi
theorem RdV.me {w : Wd} {r hd ak : Nat → Int32} {g : Nat → Int64} (h : RdV w r g hd ak) (hth : wTh w ≤ 6) (hpe : wPe w ≤ 8) {p q : Nat} (hp : p < wPe w) (hq : q < wPe w) : RdV (meetM w p q) (upd (upd r (90 + p) (nI q)) (90 + q) (nI p)) g hd ak := by
  obtain ⟨a0, a1, a2, a3, a4, a5, a6, a7, a8⟩ := h
  refine ⟨?_, ?_, fun t ht => ?_, fun i hi => ?_, fun i hi => ?_, fun i hi => ?_, a6, a7, a8⟩
  · rw [upd_n (by omega), upd_n (by omega)]; exact a0
  · rw [upd_n (by omega), upd_n (by omega)]; exact a1
  · have ht : t < wTh w := ht
    rw [upd_n (by omega), upd_n (by omega), upd_n (by omega), upd_n (by omega)]; exact a2 t ht
  · have hi : i < wPe w := hi
    have b := a3 i hi
    rw [upd_n (by omega), upd_n (by omega), upd_n (by omega), upd_n (by omega)]
    refine ⟨b.1, b.2.1, ?_⟩
    unfold meetM
    rw [wI_s]
    by_cases z : i = q
    · rw [z, upd_s, upd_s]
    · rw [upd_n (by omega), upd_n z]
      by_cases z2 : i = p
      · rw [z2, upd_s, upd_s]
      · rw [upd_n (by omega), upd_n z2]; exact b.2.2
  · rw [upd_n (by omega), upd_n (by omega)]; exact a4 i hi
  · rw [upd_n (by omega), upd_n (by omega)]; exact a5 i hi
theorem fndA_eq {f g : Nat → Int64} {u v : Int64} : ∀ k i, (∀ j, i ≤ j → j < i + k → (f j = u) = (g j = v)) → fndA f u i k = fndA g v i k
  | 0, _, _ => rfl
  | k + 1, i, h => by
    have e := h i (Nat.le_refl _) (by omega)
    rw [fndA, fndA, fndA_eq k (i + 1) (fun j h1 h2 => h j (by omega) (by omega))]
    by_cases z : f i = u
    · rw [if_pos z, if_pos (by rw [← e]; exact z)]
    · rw [if_neg z, if_neg (by rw [← e]; exact z)]
theorem fnd_th {c : Nat → Nat → Int64} {g : Nat → Int64} {th pe : Nat} (h : NmR c g th pe) {R : List Nat} (hR : nmV R) : fnd g (nm27 R) th = fnd (c 0) (nm32 R) th := by
  refine fndA_eq th 0 (fun j _ hj => ?_)
  obtain ⟨R', hR', e1, e2⟩ := h.1 j (by omega)
  rw [e1, e2, nm27_eq hR' hR, nm32_eq hR' hR]
theorem fnd_pe {c : Nat → Nat → Int64} {g : Nat → Int64} {th pe : Nat} (h : NmR c g th pe) {R : List Nat} (hR : nmV R) : fnd (fun k => g (6 + k)) (nm27 R) pe = fnd (c 1) (nm32 R) pe := by
  refine fndA_eq pe 0 (fun j _ hj => ?_)
  obtain ⟨R', hR', e1, e2⟩ := h.2 j (by omega)
  rw [e1, e2, nm27_eq hR' hR, nm32_eq hR' hR]
theorem cm_findIn {G : Gt} {h : Hp} {a base n : Nat} {g : Nat → Int64} {v : Int64} (ha : h.2 a = some (.inr (.inr (.inl (14, g))))) (hb : base + n ≤ 14) : Mt G 1 0 0 mX13_findIn [.ref a, .int (nI base), .int (nI n), .long v] h (fun r h' => r = some (.int (fnd (fun k => g (base + k)) v n)) ∧ h' = h) := by
  refine Mt.of (by decide +kernel) (Nat.le_of_ble_eq_true rfl) ?_
  refine bX13_findIn_0 ?_
  simp +decide (disch := omega) only [lv_args, Value.category, lk, sto1, sto2, List.filter_cons, List.filter_nil, if_true, if_false, tPush, tIld, tLld, tAld, tIst, tAst, tLst, tInc, tB, tBn, tU, tLB, tLBn, tLS, tI2l, tL2i, tLcmp, tDup, tPop, tDup2, tDupx1, tIf, tIf2, tNul, tAcm, tRetI, tRetZ, tRetC, tRetL, tRetV, tRetA, tGetf, tPutf, isI, isL, isA, isZ, tXald, tXast, tZast, tJald, tJast, tRald, tLen, tCV0, tCV1, tCV2, tCV3, tCV4, tCV5, tCS1, tCS2, tCS3, tCS4, tCS5, tCS6, tCS7, tCpyI, tCpyJ, tMax, tMin, tAbs, tSw, tTab, tLook, tLk, Int32.reduceAdd, List.map_cons, List.map_nil, List.sum_cons, List.sum_nil, List.getElem?_cons_succ, List.getElem?_cons_zero, List.set_cons_succ, List.set_cons_zero, true_and, and_true, Option.some.injEq, Sum.inl.injEq, Sum.inr.injEq, Prod.mk.injEq, Value.int.injEq, Value.ref.injEq, Value.long.injEq, exists_eq', Option.toList_some, Option.toList_none, List.cons_append, List.nil_append, Bool.not_false, Bool.not_true, Bool.and_true, Bool.and_false, Bool.true_and, Bool.false_and, hS_s, hS_n, ne_eq, not_false_eq_true, Classical.not_not, Nat.reduceAdd, eq_self, forall_const, false_implies, true_implies, not_true_eq_false, implies_true, ha, nI_add, vp_in_nI, nI_clamp, lgc0, nI_1]
  have key := down (P := fun i => fnd (fun k => g (base + k)) v n = fndA (fun k => g (base + k)) v i (n - i) → T G 1 0 0 mX13_findIn 3 [(0, .ref a), (1, .int (nI base)), (2, .int (nI n)), (3, .long v), (5, .int (nI i))] [] h (fun r h' => r = some (.int (fnd (fun k => g (base + k)) v n)) ∧ h' = h)) n ?_ ?_
  · exact key rfl
  · intro hn
    rw [Nat.sub_self] at hn
    refine bX13_findIn_3 ?_
    simp +decide (disch := omega) only [lv_args, Value.category, lk, sto1, sto2, List.filter_cons, List.filter_nil, if_true, if_false, tPush, tIld, tLld, tAld, tIst, tAst, tLst, tInc, tB, tBn, tU, tLB, tLBn, tLS, tI2l, tL2i, tLcmp, tDup, tPop, tDup2, tDupx1, tIf, tIf2, tNul, tAcm, tRetI, tRetZ, tRetC, tRetL, tRetV, tRetA, tGetf, tPutf, isI, isL, isA, isZ, tXald, tXast, tZast, tJald, tJast, tRald, tLen, tCV0, tCV1, tCV2, tCV3, tCV4, tCV5, tCS1, tCS2, tCS3, tCS4, tCS5, tCS6, tCS7, tCpyI, tCpyJ, tMax, tMin, tAbs, tSw, tTab, tLook, tLk, Int32.reduceAdd, List.map_cons, List.map_nil, List.sum_cons, List.sum_nil, List.getElem?_cons_succ, List.getElem?_cons_zero, List.set_cons_succ, List.set_cons_zero, true_and, and_true, Option.some.injEq, Sum.inl.injEq, Sum.inr.injEq, Prod.mk.injEq, Value.int.injEq, Value.ref.injEq, Value.long.injEq, exists_eq', Option.toList_some, Option.toList_none, List.cons_append, List.nil_append, Bool.not_false, Bool.not_true, Bool.and_true, Bool.and_false, Bool.true_and, Bool.false_and, hS_s, hS_n, ne_eq, not_false_eq_true, Classical.not_not, Nat.reduceAdd, eq_self, forall_const, false_implies, true_implies, not_true_eq_false, implies_true, ha, nI_add, vp_in_nI, nI_clamp, lgc0, nI_1]
    refine ⟨fun c3 => ?_, fun c3 => absurd (le_rf _) c3⟩
    refine bX13_findIn_29 ?_
    simp +decide (disch := omega) only [lv_args, Value.category, lk, sto1, sto2, List.filter_cons, List.filter_nil, if_true, if_false, tPush, tIld, tLld, tAld, tIst, tAst, tLst, tInc, tB, tBn, tU, tLB, tLBn, tLS, tI2l, tL2i, tLcmp, tDup, tPop, tDup2, tDupx1, tIf, tIf2, tNul, tAcm, tRetI, tRetZ, tRetC, tRetL, tRetV, tRetA, tGetf, tPutf, isI, isL, isA, isZ, tXald, tXast, tZast, tJald, tJast, tRald, tLen, tCV0, tCV1, tCV2, tCV3, tCV4, tCV5, tCS1, tCS2, tCS3, tCS4, tCS5, tCS6, tCS7, tCpyI, tCpyJ, tMax, tMin, tAbs, tSw, tTab, tLook, tLk, Int32.reduceAdd, List.map_cons, List.map_nil, List.sum_cons, List.sum_nil, List.getElem?_cons_succ, List.getElem?_cons_zero, List.set_cons_succ, List.set_cons_zero, true_and, and_true, Option.some.injEq, Sum.inl.injEq, Sum.inr.injEq, Prod.mk.injEq, Value.int.injEq, Value.ref.injEq, Value.long.injEq, exists_eq', Option.toList_some, Option.toList_none, List.cons_append, List.nil_append, Bool.not_false, Bool.not_true, Bool.and_true, Bool.and_false, Bool.true_and, Bool.false_and, hS_s, hS_n, ne_eq, not_false_eq_true, Classical.not_not, Nat.reduceAdd, eq_self, forall_const, false_implies, true_implies, not_true_eq_false, implies_true, ha, nI_add, vp_in_nI, nI_clamp, lgc0, nI_1]
    rw [hn]; rfl
  · intro i hi ih hn
    rw [show n - i = (n - (i + 1)) + 1 by omega, fndA] at hn
    have hl : base + i < 14 := by omega
    refine bX13_findIn_3 ?_
    simp +decide (disch := omega) only [lv_args, Value.category, lk, sto1, sto2, List.filter_cons, List.filter_nil, if_true, if_false, tPush, tIld, tLld, tAld, tIst, tAst, tLst, tInc, tB, tBn, tU, tLB, tLBn, tLS, tI2l, tL2i, tLcmp, tDup, tPop, tDup2, tDupx1, tIf, tIf2, tNul, tAcm, tRetI, tRetZ, tRetC, tRetL, tRetV, tRetA, tGetf, tPutf, isI, isL, isA, isZ, tXald, tXast, tZast, tJald, tJast, tRald, tLen, tCV0, tCV1, tCV2, tCV3, tCV4, tCV5, tCS1, tCS2, tCS3, tCS4, tCS5, tCS6, tCS7, tCpyI, tCpyJ, tMax, tMin, tAbs, tSw, tTab, tLook, tLk, Int32.reduceAdd, List.map_cons, List.map_nil, List.sum_cons, List.sum_nil, List.getElem?_cons_succ, List.getElem?_cons_zero, List.set_cons_succ, List.set_cons_zero, true_and, and_true, Option.some.injEq, Sum.inl.injEq, Sum.inr.injEq, Prod.mk.injEq, Value.int.injEq, Value.ref.injEq, Value.long.injEq, exists_eq', Option.toList_some, Option.toList_none, List.cons_append, List.nil_append, Bool.not_false, Bool.not_true, Bool.and_true, Bool.and_false, Bool.true_and, Bool.false_and, hS_s, hS_n, ne_eq, not_false_eq_true, Classical.not_not, Nat.reduceAdd, eq_self, forall_const, false_implies, true_implies, not_true_eq_false, implies_true, ha, nI_add, vp_in_nI, nI_clamp, lgc0, nI_1]
    refine ⟨fun c3 => absurd c3 (nI_ge hi (by omega)), fun c3 => ?_⟩
    refine bX13_findIn_9 ?_
    simp +decide (disch := omega) only [lv_args, Value.category, lk, sto1, sto2, List.filter_cons, List.filter_nil, if_true, if_false, tPush, tIld, tLld, tAld, tIst, tAst, tLst, tInc, tB, tBn, tU, tLB, tLBn, tLS, tI2l, tL2i, tLcmp, tDup, tPop, tDup2, tDupx1, tIf, tIf2, tNul, tAcm, tRetI, tRetZ, tRetC, tRetL, tRetV, tRetA, tGetf, tPutf, isI, isL, isA, isZ, tXald, tXast, tZast, tJald, tJast, tRald, tLen, tCV0, tCV1, tCV2, tCV3, tCV4, tCV5, tCS1, tCS2, tCS3, tCS4, tCS5, tCS6, tCS7, tCpyI, tCpyJ, tMax, tMin, tAbs, tSw, tTab, tLook, tLk, Int32.reduceAdd, List.map_cons, List.map_nil, List.sum_cons, List.sum_nil, List.getElem?_cons_succ, List.getElem?_cons_zero, List.set_cons_succ, List.set_cons_zero, true_and, and_true, Option.some.injEq, Sum.inl.injEq, Sum.inr.injEq, Prod.mk.injEq, Value.int.injEq, Value.ref.injEq, Value.long.injEq, exists_eq', Option.toList_some, Option.toList_none, List.cons_append, List.nil_append, Bool.not_false, Bool.not_true, Bool.and_true, Bool.and_false, Bool.true_and, Bool.false_and, hS_s, hS_n, ne_eq, not_false_eq_true, Classical.not_not, Nat.reduceAdd, eq_self, forall_const, false_implies, true_implies, not_true_eq_false, implies_true, ha, nI_add, vp_in_nI, nI_clamp, lgc0, nI_1]
    refine ⟨fun c9 => ?_, fun c9 => ?_⟩
    · refine bX13_findIn_20 ?_
      simp +decide (disch := omega) only [lv_args, Value.category, lk, sto1, sto2, List.filter_cons, List.filter_nil, if_true, if_false, tPush, tIld, tLld, tAld, tIst, tAst, tLst, tInc, tB, tBn, tU, tLB, tLBn, tLS, tI2l, tL2i, tLcmp, tDup, tPop, tDup2, tDupx1, tIf, tIf2, tNul, tAcm, tRetI, tRetZ, tRetC, tRetL, tRetV, tRetA, tGetf, tPutf, isI, isL, isA, isZ, tXald, tXast, tZast, tJald, tJast, tRald, tLen, tCV0, tCV1, tCV2, tCV3, tCV4, tCV5, tCS1, tCS2, tCS3, tCS4, tCS5, tCS6, tCS7, tCpyI, tCpyJ, tMax, tMin, tAbs, tSw, tTab, tLook, tLk, Int32.reduceAdd, List.map_cons, List.map_nil, List.sum_cons, List.sum_nil, List.getElem?_cons_succ, List.getElem?_cons_zero, List.set_cons_succ, List.set_cons_zero, true_and, and_true, Option.some.injEq, Sum.inl.injEq, Sum.inr.injEq, Prod.mk.injEq, Value.int.injEq, Value.ref.injEq, Value.long.injEq, exists_eq', Option.toList_some, Option.toList_none, List.cons_append, List.nil_append, Bool.not_false, Bool.not_true, Bool.and_true, Bool.and_false, Bool.true_and, Bool.false_and, hS_s, hS_n, ne_eq, not_false_eq_true, Classical.not_not, Nat.reduceAdd, eq_self, forall_const, false_implies, true_implies, not_true_eq_false, implies_true, ha, nI_add, vp_in_nI, nI_clamp, lgc0, nI_1]
      rw [hn, if_pos c9]
    · refine bX13_findIn_23 ?_
      simp +decide (disch := omega) only [lv_args, Value.category, lk, sto1, sto2, List.filter_cons, List.filter_nil, if_true, if_false, tPush, tIld, tLld, tAld, tIst, tAst, tLst, tInc, tB, tBn, tU, tLB, tLBn, tLS, tI2l, tL2i, tLcmp, tDup, tPop, tDup2, tDupx1, tIf, tIf2, tNul, tAcm, tRetI, tRetZ, tRetC, tRetL, tRetV, tRetA, tGetf, tPutf, isI, isL, isA, isZ, tXald, tXast, tZast, tJald, tJast, tRald, tLen, tCV0, tCV1, tCV2, tCV3, tCV4, tCV5, tCS1, tCS2, tCS3, tCS4, tCS5, tCS6, tCS7, tCpyI, tCpyJ, tMax, tMin, tAbs, tSw, tTab, tLook, tLk, Int32.reduceAdd, List.map_cons, List.map_nil, List.sum_cons, List.sum_nil, List.getElem?_cons_succ, List.getElem?_cons_zero, List.set_cons_succ, List.set_cons_zero, true_and, and_true, Option.some.injEq, Sum.inl.injEq, Sum.inr.injEq, Prod.mk.injEq, Value.int.injEq, Value.ref.injEq, Value.long.injEq, exists_eq', Option.toList_some, Option.toList_none, List.cons_append, List.nil_append, Bool.not_false, Bool.not_true, Bool.and_true, Bool.and_false, Bool.true_and, Bool.false_and, hS_s, hS_n, ne_eq, not_false_eq_true, Classical.not_not, Nat.reduceAdd, eq_self, forall_const, false_implies, true_implies, not_true_eq_false, implies_true, ha, nI_add, vp_in_nI, nI_clamp, lgc0, nI_1]
      exact ih (by rw [hn, if_neg c9])

