/-! ===== the model's acts, in World's words ===== -/
/-- the head and the SENTENCE are as they were -/
def Hd (f f' : Nat → Int32) : Prop := ∀ j, (j < 98 ∨ 191 ≤ j) → f' j = f j
theorem Hd.rf {f : Nat → Int32} : Hd f f := fun _ _ => rfl
theorem Hd.trans {a b c : Nat → Int32} (h : Hd a b) (k : Hd b c) : Hd a c := fun j hj => (k j hj).trans (h j hj)
theorem Hd.put {f : Nat → Int32} {i : Nat} {v : Int32} (h1 : 98 ≤ i) (h2 : i < 191) : Hd f (upd f i v) := fun j hj => if_neg (by omega)
theorem upd_s {f : Nat → Int32} {i : Nat} {v : Int32} : upd f i v i = v := if_pos rfl
theorem upd_n {f : Nat → Int32} {i j : Nat} {v : Int32} (h : j ≠ i) : upd f i v j = f j := if_neg h
theorem NWv.r2 {w : Wd} {f : Nat → Int32} (hn : NWv w f) (hth : wTh w ≤ 6) (hpe : wPe w ≤ 8) {p : Nat} (hp : p < wPe w) (v : Int32) : NWv (wSetI w 2 (upd (wI w 2) p v)) (upd f (22 + p) v) := by
  obtain ⟨a0, a1, a2, a3, a4, a5, a6, a7⟩ := hn
  refine ⟨by rw [upd_n (by omega)]; exact a0, by rw [upd_n (by omega)]; exact a1, by rw [upd_n (by omega)]; exact a2, fun t ht => ?_, fun q hq => ?_, fun i hi => ?_, fun i hi => ?_, fun q h1 h2 => ?_⟩
  · have ht : t < wTh w := ht
    exact ⟨by rw [upd_n (by omega), wI_n (by decide)]; exact (a3 t ht).1, by rw [upd_n (by omega), wI_n (by decide)]; exact (a3 t ht).2⟩
  · have hq : q < wPe w := hq
    refine ⟨?_, ?_, ?_, ?_, ?_⟩
    · rw [wI_s]
      by_cases e : q = p
      · rw [e, upd_s, upd_s]
      · rw [upd_n (by omega), upd_n e]
        exact (a4 q hq).1
    · rw [upd_n (by omega), wI_n (by decide)]
      exact (a4 q hq).2.1
    · rw [upd_n (by omega), wI_n (by decide)]
      exact (a4 q hq).2.2.1
    · rw [upd_n (by omega), wI_n (by decide)]
      exact (a4 q hq).2.2.2.1
    · rw [upd_n (by omega), wI_n (by decide)]
      exact (a4 q hq).2.2.2.2
  · rw [upd_n (by omega), wI_n (by decide)]; exact a5 i hi
  · rw [upd_n (by omega), wI_n (by decide)]; exact a6 i hi
  · have h1 : wPe w ≤ q := h1
    rw [upd_n (by omega)]; exact a7 q h1 h2
theorem NWv.r3 {w : Wd} {f : Nat → Int32} (hn : NWv w f) (hth : wTh w ≤ 6) (hpe : wPe w ≤ 8) {p : Nat} (hp : p < wPe w) (v : Int32) : NWv (wSetI w 3 (upd (wI w 3) p v)) (upd f (99 + p) v) := by
  obtain ⟨a0, a1, a2, a3, a4, a5, a6, a7⟩ := hn
  refine ⟨by rw [upd_n (by omega)]; exact a0, by rw [upd_n (by omega)]; exact a1, by rw [upd_n (by omega)]; exact a2, fun t ht => ?_, fun q hq => ?_, fun i hi => ?_, fun i hi => ?_, fun q h1 h2 => ?_⟩
  · have ht : t < wTh w := ht
    exact ⟨by rw [upd_n (by omega), wI_n (by decide)]; exact (a3 t ht).1, by rw [upd_n (by omega), wI_n (by decide)]; exact (a3 t ht).2⟩
  · have hq : q < wPe w := hq
    refine ⟨?_, ?_, ?_, ?_, ?_⟩
    · rw [upd_n (by omega), wI_n (by decide)]
      exact (a4 q hq).1
    · rw [wI_s]
      by_cases e : q = p
      · rw [e, upd_s, upd_s]
      · rw [upd_n (by omega), upd_n e]
        exact (a4 q hq).2.1
    · rw [upd_n (by omega), wI_n (by decide)]
      exact (a4 q hq).2.2.1
    · rw [upd_n (by omega), wI_n (by decide)]
      exact (a4 q hq).2.2.2.1
    · rw [upd_n (by omega), wI_n (by decide)]
      exact (a4 q hq).2.2.2.2
  · rw [upd_n (by omega), wI_n (by decide)]; exact a5 i hi
  · rw [upd_n (by omega), wI_n (by decide)]; exact a6 i hi
  · have h1 : wPe w ≤ q := h1
    rw [upd_n (by omega)]; exact a7 q h1 h2
theorem NWv.r4 {w : Wd} {f : Nat → Int32} (hn : NWv w f) (hth : wTh w ≤ 6) (hpe : wPe w ≤ 8) {p : Nat} (hp : p < wPe w) (v : Int32) : NWv (wSetI w 4 (upd (wI w 4) p v)) (upd f (107 + p) v) := by
  obtain ⟨a0, a1, a2, a3, a4, a5, a6, a7⟩ := hn
  refine ⟨by rw [upd_n (by omega)]; exact a0, by rw [upd_n (by omega)]; exact a1, by rw [upd_n (by omega)]; exact a2, fun t ht => ?_, fun q hq => ?_, fun i hi => ?_, fun i hi => ?_, fun q h1 h2 => ?_⟩
  · have ht : t < wTh w := ht
    exact ⟨by rw [upd_n (by omega), wI_n (by decide)]; exact (a3 t ht).1, by rw [upd_n (by omega), wI_n (by decide)]; exact (a3 t ht).2⟩
  · have hq : q < wPe w := hq
    refine ⟨?_, ?_, ?_, ?_, ?_⟩
    · rw [upd_n (by omega), wI_n (by decide)]
      exact (a4 q hq).1
    · rw [upd_n (by omega), wI_n (by decide)]
      exact (a4 q hq).2.1
    · rw [wI_s]
      by_cases e : q = p
      · rw [e, upd_s, upd_s]
      · rw [upd_n (by omega), upd_n e]
        exact (a4 q hq).2.2.1
    · rw [upd_n (by omega), wI_n (by decide)]
      exact (a4 q hq).2.2.2.1
    · rw [upd_n (by omega), wI_n (by decide)]
      exact (a4 q hq).2.2.2.2
  · rw [upd_n (by omega), wI_n (by decide)]; exact a5 i hi
  · rw [upd_n (by omega), wI_n (by decide)]; exact a6 i hi
  · have h1 : wPe w ≤ q := h1
    rw [upd_n (by omega)]; exact a7 q h1 h2
theorem NWv.r5 {w : Wd} {f : Nat → Int32} (hn : NWv w f) (hth : wTh w ≤ 6) (hpe : wPe w ≤ 8) {p : Nat} (hp : p < wPe w) (v : Int32) : NWv (wSetI w 5 (upd (wI w 5) p v)) (upd f (115 + p) v) := by
  obtain ⟨a0, a1, a2, a3, a4, a5, a6, a7⟩ := hn
  refine ⟨by rw [upd_n (by omega)]; exact a0, by rw [upd_n (by omega)]; exact a1, by rw [upd_n (by omega)]; exact a2, fun t ht => ?_, fun q hq => ?_, fun i hi => ?_, fun i hi => ?_, fun q h1 h2 => ?_⟩
  · have ht : t < wTh w := ht
    exact ⟨by rw [upd_n (by omega), wI_n (by decide)]; exact (a3 t ht).1, by rw [upd_n (by omega), wI_n (by decide)]; exact (a3 t ht).2⟩
  · have hq : q < wPe w := hq
    refine ⟨?_, ?_, ?_, ?_, ?_⟩
    · rw [upd_n (by omega), wI_n (by decide)]
      exact (a4 q hq).1
    · rw [upd_n (by omega), wI_n (by decide)]
      exact (a4 q hq).2.1
    · rw [upd_n (by omega), wI_n (by decide)]
      exact (a4 q hq).2.2.1
    · rw [wI_s]
      by_cases e : q = p
      · rw [e, upd_s, upd_s]
      · rw [upd_n (by omega), upd_n e]
        exact (a4 q hq).2.2.2.1
    · rw [upd_n (by omega), wI_n (by decide)]
      exact (a4 q hq).2.2.2.2
  · rw [upd_n (by omega), wI_n (by decide)]; exact a5 i hi
  · rw [upd_n (by omega), wI_n (by decide)]; exact a6 i hi
  · have h1 : wPe w ≤ q := h1
    rw [upd_n (by omega)]; exact a7 q h1 h2
theorem NWv.r6 {w : Wd} {f : Nat → Int32} (hn : NWv w f) (hth : wTh w ≤ 6) (hpe : wPe w ≤ 8) {p : Nat} (hp : p < wPe w) (v : Int32) : NWv (wSetI w 6 (upd (wI w 6) p v)) (upd f (183 + p) v) := by
  obtain ⟨a0, a1, a2, a3, a4, a5, a6, a7⟩ := hn
  refine ⟨by rw [upd_n (by omega)]; exact a0, by rw [upd_n (by omega)]; exact a1, by rw [upd_n (by omega)]; exact a2, fun t ht => ?_, fun q hq => ?_, fun i hi => ?_, fun i hi => ?_, fun q h1 h2 => ?_⟩
  · have ht : t < wTh w := ht
    exact ⟨by rw [upd_n (by omega), wI_n (by decide)]; exact (a3 t ht).1, by rw [upd_n (by omega), wI_n (by decide)]; exact (a3 t ht).2⟩
  · have hq : q < wPe w := hq
    refine ⟨?_, ?_, ?_, ?_, ?_⟩
    · rw [upd_n (by omega), wI_n (by decide)]
      exact (a4 q hq).1
    · rw [upd_n (by omega), wI_n (by decide)]
      exact (a4 q hq).2.1
    · rw [upd_n (by omega), wI_n (by decide)]
      exact (a4 q hq).2.2.1
    · rw [upd_n (by omega), wI_n (by decide)]
      exact (a4 q hq).2.2.2.1
    · rw [wI_s]
      by_cases e : q = p
      · rw [e, upd_s, upd_s]
      · rw [upd_n (by omega), upd_n e]
        exact (a4 q hq).2.2.2.2
  · rw [upd_n (by omega), wI_n (by decide)]; exact a5 i hi
  · rw [upd_n (by omega), wI_n (by decide)]; exact a6 i hi
  · have h1 : wPe w ≤ q := h1
    rw [upd_n (by omega)]; exact a7 q h1 h2
theorem NWv.r7 {w : Wd} {f : Nat → Int32} (hn : NWv w f) (hth : wTh w ≤ 6) (hpe : wPe w ≤ 8) {b : Nat} (hb : b < 48) (v : Int32) : NWv (wSetI w 7 (upd (wI w 7) b v)) (upd f (123 + b) v) := by
  obtain ⟨a0, a1, a2, a3, a4, a5, a6, a7⟩ := hn
  refine ⟨by rw [upd_n (by omega)]; exact a0, by rw [upd_n (by omega)]; exact a1, by rw [upd_n (by omega)]; exact a2, fun t ht => ?_, fun q hq => ?_, fun i hi => ?_, fun i hi => ?_, fun q h1 h2 => ?_⟩
  · have ht : t < wTh w := ht
    exact ⟨by rw [upd_n (by omega), wI_n (by decide)]; exact (a3 t ht).1, by rw [upd_n (by omega), wI_n (by decide)]; exact (a3 t ht).2⟩
  · have hq : q < wPe w := hq
    have a := a4 q hq
    exact ⟨by rw [upd_n (by omega), wI_n (by decide)]; exact a.1, by rw [upd_n (by omega), wI_n (by decide)]; exact a.2.1, by rw [upd_n (by omega), wI_n (by decide)]; exact a.2.2.1, by rw [upd_n (by omega), wI_n (by decide)]; exact a.2.2.2.1, by rw [upd_n (by omega), wI_n (by decide)]; exact a.2.2.2.2⟩
  · rw [wI_s]
    by_cases e : i = b
    · rw [e, upd_s, upd_s]
    · rw [upd_n (by omega), upd_n e]
      exact a5 i hi
  · rw [upd_n (by omega), wI_n (by decide)]
    exact a6 i hi
  · rw [upd_n (by omega)]; exact a7 q h1 h2
theorem NWv.r8 {w : Wd} {f : Nat → Int32} (hn : NWv w f) (hth : wTh w ≤ 6) (hpe : wPe w ≤ 8) {b : Nat} (hb : b < 12) (v : Int32) : NWv (wSetI w 8 (upd (wI w 8) b v)) (upd f (171 + b) v) := by
  obtain ⟨a0, a1, a2, a3, a4, a5, a6, a7⟩ := hn
  refine ⟨by rw [upd_n (by omega)]; exact a0, by rw [upd_n (by omega)]; exact a1, by rw [upd_n (by omega)]; exact a2, fun t ht => ?_, fun q hq => ?_, fun i hi => ?_, fun i hi => ?_, fun q h1 h2 => ?_⟩
  · have ht : t < wTh w := ht
    exact ⟨by rw [upd_n (by omega), wI_n (by decide)]; exact (a3 t ht).1, by rw [upd_n (by omega), wI_n (by decide)]; exact (a3 t ht).2⟩
  · have hq : q < wPe w := hq
    have a := a4 q hq
    exact ⟨by rw [upd_n (by omega), wI_n (by decide)]; exact a.1, by rw [upd_n (by omega), wI_n (by decide)]; exact a.2.1, by rw [upd_n (by omega), wI_n (by decide)]; exact a.2.2.1, by rw [upd_n (by omega), wI_n (by decide)]; exact a.2.2.2.1, by rw [upd_n (by omega), wI_n (by decide)]; exact a.2.2.2.2⟩
  · rw [upd_n (by omega), wI_n (by decide)]
    exact a5 i hi
  · rw [wI_s]
    by_cases e : i = b
    · rw [e, upd_s, upd_s]
    · rw [upd_n (by omega), upd_n e]
      exact a6 i hi
  · rw [upd_n (by omega)]; exact a7 q h1 h2
theorem NWv.day {w : Wd} {f : Nat → Int32} (hn : NWv w f) (hth : wTh w ≤ 6) (hpe : wPe w ≤ 8) (v : Int32) : NWv (w.1, w.2.1, v, w.2.2.2) (upd f 98 v) := by
  obtain ⟨a0, a1, a2, a3, a4, a5, a6, a7⟩ := hn
  refine ⟨by rw [upd_n (by omega)]; exact a0, by rw [upd_n (by omega)]; exact a1, by rw [upd_s], fun t ht => ?_, fun q hq => ?_, fun i hi => ?_, fun i hi => ?_, fun q h1 h2 => ?_⟩
  · have ht : t < wTh w := ht
    exact ⟨by rw [upd_n (by omega)]; exact (a3 t ht).1, by rw [upd_n (by omega)]; exact (a3 t ht).2⟩
  · have hq : q < wPe w := hq
    have a := a4 q hq
    exact ⟨by rw [upd_n (by omega)]; exact a.1, by rw [upd_n (by omega)]; exact a.2.1, by rw [upd_n (by omega)]; exact a.2.2.1, by rw [upd_n (by omega)]; exact a.2.2.2.1, by rw [upd_n (by omega)]; exact a.2.2.2.2⟩
  · rw [upd_n (by omega)]; exact a5 i hi
  · rw [upd_n (by omega)]; exact a6 i hi
  · rw [upd_n (by omega)]; exact a7 q h1 h2
theorem NWv.go {w : Wd} {f : Nat → Int32} (hn : NWv w f) (hth : wTh w ≤ 6) (hpe : wPe w ≤ 8) {p : Nat} (hp : p < wPe w) (to : Int32) : NWv (goW w p to) (upd (upd (upd f (99 + p) to) (107 + p) 0) (115 + p) (f (115 + p) + 1)) := by
  have h := ((hn.r3 hth hpe hp to).r4 hth hpe hp 0).r5 hth hpe hp (f (115 + p) + 1)
  rw [(hn.2.2.2.2.1 p hp).2.2.2.1] at h ⊢
  exact h
theorem Hd.go {f : Nat → Int32} {p : Nat} (hp : p < 8) {a b c : Int32} : Hd f (upd (upd (upd f (99 + p) a) (107 + p) b) (115 + p) c) := (Hd.put (by omega) (by omega)).trans ((Hd.put (by omega) (by omega)).trans (Hd.put (by omega) (by omega)))
theorem walkR_eq {w : Wd} (hw : WOK w) {p k : Nat} (hp : p < wPe w) (hk : k < 3) : walkR w p (nI k) = if ¬ (if 0 ≤ wI w 3 p - nI k then wI w 3 p - nI k else -(wI w 3 p - nI k)) = 1 then 1 else if ¬ nI k = 1 ∧ ¬ lack w p (k / 2) = 0 then 2 else 0 := by
  obtain ⟨a, ha, e⟩ := hw.2.2.2.2.2.1 p hp
  unfold walkR absI
  rw [e]
  rcases (show a = 0 ∨ a = 1 ∨ a = 2 by omega) with rfl | rfl | rfl <;> rcases (show k = 0 ∨ k = 1 ∨ k = 2 by omega) with rfl | rfl | rfl <;> simp +decide [endN]
theorem cm_whyGo {G : Gt} {h : Hp} {m : Nat} {s : Ms} {w : Wd} {p k : Nat} (hn : NWv w (mA s 2)) (hw : WOK w) (hp : p < wPe w) (hk : k < 3) : Mt G 4 0 0 mX13_whyGo [.ref m, .int (nI p), .int (nI k)] (hM h m s) (fun r h' => r = some (.int (walkR w p (nI k))) ∧ h' = hM h m s) := by
  refine Mt.of (by decide +kernel) (Nat.le_of_ble_eq_true rfl) ?_
  have hpe := hw.2.1
  have n3 := (hn.2.2.2.2.1 p hp).2.1
  have hk1 : True := trivial
  rw [walkR_eq hw hp hk]
  refine bX13_whyGo_0 ?_
  simp +decide (disch := omega) only [lv_args, Value.category, lk, sto1, sto2, List.filter_cons, List.filter_nil, if_true, if_false, tPush, tIld, tLld, tAld, tIst, tAst, tLst, tInc, tB, tBn, tU, tLB, tLBn, tLS, tI2l, tL2i, tLcmp, tDup, tPop, tDup2, tDupx1, tIf, tIf2, tNul, tAcm, tRetI, tRetZ, tRetC, tRetL, tRetV, tRetA, tGetf, tPutf, isI, isL, isA, isZ, tXald, tXast, tZast, tJald, tJast, tRald, tLen, tCV0, tCV1, tCV2, tCV3, tCV4, tCV5, tCS1, tCS2, tCS3, tCS4, tCS5, tCS6, tCS7, tCpyI, tCpyJ, tMax, tMin, tAbs, tSw, tTab, tLook, tLk, Int32.reduceAdd, List.map_cons, List.map_nil, List.sum_cons, List.sum_nil, List.getElem?_cons_succ, List.getElem?_cons_zero, List.set_cons_succ, List.set_cons_zero, true_and, and_true, Option.some.injEq, Sum.inl.injEq, Sum.inr.injEq, Prod.mk.injEq, Value.int.injEq, Value.ref.injEq, Value.long.injEq, exists_eq', Option.toList_some, Option.toList_none, List.cons_append, List.nil_append, Bool.not_false, Bool.not_true, Bool.and_true, Bool.and_false, Bool.true_and, Bool.false_and, hS_s, hS_n, ne_eq, not_false_eq_true, Classical.not_not, Nat.reduceAdd, eq_self, forall_const, false_implies, true_implies, not_true_eq_false, implies_true, oM_0, oM_1, oM_2, oM_3, oM_4, oM_5, oM_6, oM_7, oM_8, oM_9, oM_10, oM_11, oM_12, oM_13, oM_14, oM_15, oM_16, oM_17, oM_18, oM_19, oM_20, oM_21, oM_22, oM_23, oM_24, oM_25, oM_26, oM_27, oM_28, oM_29, oM_30, oM_31, oM_32, oM_33, oM_34, oM_35, oM_36, oM_37, oM_38, oM_39, oM_40, oM_41, oM_42, oM_43, oM_44, oM_45, oM_46, oM_47, oM_48, oMs_0, oMs_2, oMs_3, oMs_4, oMs_5, oMs_6, oMs_7, oMs_8, oMs_9, oMs_10, oMs_11, oMs_12, oMs_13, oMs_26, oMs_27, oMs_30, oMs_31, oMs_32, oMs_34, oMs_35, oMs_36, oMs_38, oMs_39, oMs_42, oMs_43, oMs_45, oMs_46, oMs_47, oMs_48, hM_0, hMf, hMw, hM_1a, hM_1s, hM_2a, hM_2s, hM_3a, hM_3s, hM_4a, hM_4s, hM_5a, hM_5s, hM_6a, hM_6s, hM_7a, hM_7s, hM_8a, hM_8s, hM_9a, hM_9s, hM_10a, hM_10s, hM_11a, hM_11s, hM_12a, hM_12s, hM_13a, hM_13s, hM_14a, hM_14s, hM_15a, hM_15s, hM_16a, hM_16s, hM_17a, hM_17s, hM_18a, hM_18s, hM_19a, hM_19s, hM_20a, hM_20s, mF_s, mF_n, mF_A, mF_N, mF_W, mA_F, mA_W, mA_N, mA_s, mA_n, mN_F, mN_W, mN_A, mN_s, mN_n, mW_F, mW_A, mW_N, mW_s, sF2, sA2, vp_in_nI, nI_clamp, i99, nI_add, n3, pk_div, i2, hk1, b2i_0]
  refine calp (Nat.le_of_ble_eq_true rfl) (by decide) (cm_size) ?_
  refine bX13_whyGo_14 ?_
  simp +decide (disch := omega) only [lv_args, Value.category, lk, sto1, sto2, List.filter_cons, List.filter_nil, if_true, if_false, tPush, tIld, tLld, tAld, tIst, tAst, tLst, tInc, tB, tBn, tU, tLB, tLBn, tLS, tI2l, tL2i, tLcmp, tDup, tPop, tDup2, tDupx1, tIf, tIf2, tNul, tAcm, tRetI, tRetZ, tRetC, tRetL, tRetV, tRetA, tGetf, tPutf, isI, isL, isA, isZ, tXald, tXast, tZast, tJald, tJast, tRald, tLen, tCV0, tCV1, tCV2, tCV3, tCV4, tCV5, tCS1, tCS2, tCS3, tCS4, tCS5, tCS6, tCS7, tCpyI, tCpyJ, tMax, tMin, tAbs, tSw, tTab, tLook, tLk, Int32.reduceAdd, List.map_cons, List.map_nil, List.sum_cons, List.sum_nil, List.getElem?_cons_succ, List.getElem?_cons_zero, List.set_cons_succ, List.set_cons_zero, true_and, and_true, Option.some.injEq, Sum.inl.injEq, Sum.inr.injEq, Prod.mk.injEq, Value.int.injEq, Value.ref.injEq, Value.long.injEq, exists_eq', Option.toList_some, Option.toList_none, List.cons_append, List.nil_append, Bool.not_false, Bool.not_true, Bool.and_true, Bool.and_false, Bool.true_and, Bool.false_and, hS_s, hS_n, ne_eq, not_false_eq_true, Classical.not_not, Nat.reduceAdd, eq_self, forall_const, false_implies, true_implies, not_true_eq_false, implies_true, oM_0, oM_1, oM_2, oM_3, oM_4, oM_5, oM_6, oM_7, oM_8, oM_9, oM_10, oM_11, oM_12, oM_13, oM_14, oM_15, oM_16, oM_17, oM_18, oM_19, oM_20, oM_21, oM_22, oM_23, oM_24, oM_25, oM_26, oM_27, oM_28, oM_29, oM_30, oM_31, oM_32, oM_33, oM_34, oM_35, oM_36, oM_37, oM_38, oM_39, oM_40, oM_41, oM_42, oM_43, oM_44, oM_45, oM_46, oM_47, oM_48, oMs_0, oMs_2, oMs_3, oMs_4, oMs_5, oMs_6, oMs_7, oMs_8, oMs_9, oMs_10, oMs_11, oMs_12, oMs_13, oMs_26, oMs_27, oMs_30, oMs_31, oMs_32, oMs_34, oMs_35, oMs_36, oMs_38, oMs_39, oMs_42, oMs_43, oMs_45, oMs_46, oMs_47, oMs_48, hM_0, hMf, hMw, hM_1a, hM_1s, hM_2a, hM_2s, hM_3a, hM_3s, hM_4a, hM_4s, hM_5a, hM_5s, hM_6a, hM_6s, hM_7a, hM_7s, hM_8a, hM_8s, hM_9a, hM_9s, hM_10a, hM_10s, hM_11a, hM_11s, hM_12a, hM_12s, hM_13a, hM_13s, hM_14a, hM_14s, hM_15a, hM_15s, hM_16a, hM_16s, hM_17a, hM_17s, hM_18a, hM_18s, hM_19a, hM_19s, hM_20a, hM_20s, mF_s, mF_n, mF_A, mF_N, mF_W, mA_F, mA_W, mA_N, mA_s, mA_n, mN_F, mN_W, mN_A, mN_s, mN_n, mW_F, mW_A, mW_N, mW_s, sF2, sA2, vp_in_nI, nI_clamp, i99, nI_add, n3, pk_div, i2, hk1, b2i_0]
  refine ⟨fun c14 => ?_, fun c14 => ?_⟩
  · refine bX13_whyGo_20 ?_
    simp +decide (disch := omega) only [lv_args, Value.category, lk, sto1, sto2, List.filter_cons, List.filter_nil, if_true, if_false, tPush, tIld, tLld, tAld, tIst, tAst, tLst, tInc, tB, tBn, tU, tLB, tLBn, tLS, tI2l, tL2i, tLcmp, tDup, tPop, tDup2, tDupx1, tIf, tIf2, tNul, tAcm, tRetI, tRetZ, tRetC, tRetL, tRetV, tRetA, tGetf, tPutf, isI, isL, isA, isZ, tXald, tXast, tZast, tJald, tJast, tRald, tLen, tCV0, tCV1, tCV2, tCV3, tCV4, tCV5, tCS1, tCS2, tCS3, tCS4, tCS5, tCS6, tCS7, tCpyI, tCpyJ, tMax, tMin, tAbs, tSw, tTab, tLook, tLk, Int32.reduceAdd, List.map_cons, List.map_nil, List.sum_cons, List.sum_nil, List.getElem?_cons_succ, List.getElem?_cons_zero, List.set_cons_succ, List.set_cons_zero, true_and, and_true, Option.some.injEq, Sum.inl.injEq, Sum.inr.injEq, Prod.mk.injEq, Value.int.injEq, Value.ref.injEq, Value.long.injEq, exists_eq', Option.toList_some, Option.toList_none, List.cons_append, List.nil_append, Bool.not_false, Bool.not_true, Bool.and_true, Bool.and_false, Bool.true_and, Bool.false_and, hS_s, hS_n, ne_eq, not_false_eq_true, Classical.not_not, Nat.reduceAdd, eq_self, forall_const, false_implies, true_implies, not_true_eq_false, implies_true, oM_0, oM_1, oM_2, oM_3, oM_4, oM_5, oM_6, oM_7, oM_8, oM_9, oM_10, oM_11, oM_12, oM_13, oM_14, oM_15, oM_16, oM_17, oM_18, oM_19, oM_20, oM_21, oM_22, oM_23, oM_24, oM_25, oM_26, oM_27, oM_28, oM_29, oM_30, oM_31, oM_32, oM_33, oM_34, oM_35, oM_36, oM_37, oM_38, oM_39, oM_40, oM_41, oM_42, oM_43, oM_44, oM_45, oM_46, oM_47, oM_48, oMs_0, oMs_2, oMs_3, oMs_4, oMs_5, oMs_6, oMs_7, oMs_8, oMs_9, oMs_10, oMs_11, oMs_12, oMs_13, oMs_26, oMs_27, oMs_30, oMs_31, oMs_32, oMs_34, oMs_35, oMs_36, oMs_38, oMs_39, oMs_42, oMs_43, oMs_45, oMs_46, oMs_47, oMs_48, hM_0, hMf, hMw, hM_1a, hM_1s, hM_2a, hM_2s, hM_3a, hM_3s, hM_4a, hM_4s, hM_5a, hM_5s, hM_6a, hM_6s, hM_7a, hM_7s, hM_8a, hM_8s, hM_9a, hM_9s, hM_10a, hM_10s, hM_11a, hM_11s, hM_12a, hM_12s, hM_13a, hM_13s, hM_14a, hM_14s, hM_15a, hM_15s, hM_16a, hM_16s, hM_17a, hM_17s, hM_18a, hM_18s, hM_19a, hM_19s, hM_20a, hM_20s, mF_s, mF_n, mF_A, mF_N, mF_W, mA_F, mA_W, mA_N, mA_s, mA_n, mN_F, mN_W, mN_A, mN_s, mN_n, mW_F, mW_A, mW_N, mW_s, sF2, sA2, vp_in_nI, nI_clamp, i99, nI_add, n3, pk_div, i2, hk1, b2i_0]
    refine ⟨fun c20 => ?_, fun c20 => ?_⟩
    · refine bX13_whyGo_40 ?_
      simp +decide (disch := omega) only [lv_args, Value.category, lk, sto1, sto2, List.filter_cons, List.filter_nil, if_true, if_false, tPush, tIld, tLld, tAld, tIst, tAst, tLst, tInc, tB, tBn, tU, tLB, tLBn, tLS, tI2l, tL2i, tLcmp, tDup, tPop, tDup2, tDupx1, tIf, tIf2, tNul, tAcm, tRetI, tRetZ, tRetC, tRetL, tRetV, tRetA, tGetf, tPutf, isI, isL, isA, isZ, tXald, tXast, tZast, tJald, tJast, tRald, tLen, tCV0, tCV1, tCV2, tCV3, tCV4, tCV5, tCS1, tCS2, tCS3, tCS4, tCS5, tCS6, tCS7, tCpyI, tCpyJ, tMax, tMin, tAbs, tSw, tTab, tLook, tLk, Int32.reduceAdd, List.map_cons, List.map_nil, List.sum_cons, List.sum_nil, List.getElem?_cons_succ, List.getElem?_cons_zero, List.set_cons_succ, List.set_cons_zero, true_and, and_true, Option.some.injEq, Sum.inl.injEq, Sum.inr.injEq, Prod.mk.injEq, Value.int.injEq, Value.ref.injEq, Value.long.injEq, exists_eq', Option.toList_some, Option.toList_none, List.cons_append, List.nil_append, Bool.not_false, Bool.not_true, Bool.and_true, Bool.and_false, Bool.true_and, Bool.false_and, hS_s, hS_n, ne_eq, not_false_eq_true, Classical.not_not, Nat.reduceAdd, eq_self, forall_const, false_implies, true_implies, not_true_eq_false, implies_true, oM_0, oM_1, oM_2, oM_3, oM_4, oM_5, oM_6, oM_7, oM_8, oM_9, oM_10, oM_11, oM_12, oM_13, oM_14, oM_15, oM_16, oM_17, oM_18, oM_19, oM_20, oM_21, oM_22, oM_23, oM_24, oM_25, oM_26, oM_27, oM_28, oM_29, oM_30, oM_31, oM_32, oM_33, oM_34, oM_35, oM_36, oM_37, oM_38, oM_39, oM_40, oM_41, oM_42, oM_43, oM_44, oM_45, oM_46, oM_47, oM_48, oMs_0, oMs_2, oMs_3, oMs_4, oMs_5, oMs_6, oMs_7, oMs_8, oMs_9, oMs_10, oMs_11, oMs_12, oMs_13, oMs_26, oMs_27, oMs_30, oMs_31, oMs_32, oMs_34, oMs_35, oMs_36, oMs_38, oMs_39, oMs_42, oMs_43, oMs_45, oMs_46, oMs_47, oMs_48, hM_0, hMf, hMw, hM_1a, hM_1s, hM_2a, hM_2s, hM_3a, hM_3s, hM_4a, hM_4s, hM_5a, hM_5s, hM_6a, hM_6s, hM_7a, hM_7s, hM_8a, hM_8s, hM_9a, hM_9s, hM_10a, hM_10s, hM_11a, hM_11s, hM_12a, hM_12s, hM_13a, hM_13s, hM_14a, hM_14s, hM_15a, hM_15s, hM_16a, hM_16s, hM_17a, hM_17s, hM_18a, hM_18s, hM_19a, hM_19s, hM_20a, hM_20s, mF_s, mF_n, mF_A, mF_N, mF_W, mA_F, mA_W, mA_N, mA_s, mA_n, mN_F, mN_W, mN_A, mN_s, mN_n, mW_F, mW_A, mW_N, mW_s, sF2, sA2, vp_in_nI, nI_clamp, i99, nI_add, n3, pk_div, i2, hk1, b2i_0]
      refine bX13_whyGo_41 ?_
      simp +decide (disch := omega) only [lv_args, Value.category, lk, sto1, sto2, List.filter_cons, List.filter_nil, if_true, if_false, tPush, tIld, tLld, tAld, tIst, tAst, tLst, tInc, tB, tBn, tU, tLB, tLBn, tLS, tI2l, tL2i, tLcmp, tDup, tPop, tDup2, tDupx1, tIf, tIf2, tNul, tAcm, tRetI, tRetZ, tRetC, tRetL, tRetV, tRetA, tGetf, tPutf, isI, isL, isA, isZ, tXald, tXast, tZast, tJald, tJast, tRald, tLen, tCV0, tCV1, tCV2, tCV3, tCV4, tCV5, tCS1, tCS2, tCS3, tCS4, tCS5, tCS6, tCS7, tCpyI, tCpyJ, tMax, tMin, tAbs, tSw, tTab, tLook, tLk, Int32.reduceAdd, List.map_cons, List.map_nil, List.sum_cons, List.sum_nil, List.getElem?_cons_succ, List.getElem?_cons_zero, List.set_cons_succ, List.set_cons_zero, true_and, and_true, Option.some.injEq, Sum.inl.injEq, Sum.inr.injEq, Prod.mk.injEq, Value.int.injEq, Value.ref.injEq, Value.long.injEq, exists_eq', Option.toList_some, Option.toList_none, List.cons_append, List.nil_append, Bool.not_false, Bool.not_true, Bool.and_true, Bool.and_false, Bool.true_and, Bool.false_and, hS_s, hS_n, ne_eq, not_false_eq_true, Classical.not_not, Nat.reduceAdd, eq_self, forall_const, false_implies, true_implies, not_true_eq_false, implies_true, oM_0, oM_1, oM_2, oM_3, oM_4, oM_5, oM_6, oM_7, oM_8, oM_9, oM_10, oM_11, oM_12, oM_13, oM_14, oM_15, oM_16, oM_17, oM_18, oM_19, oM_20, oM_21, oM_22, oM_23, oM_24, oM_25, oM_26, oM_27, oM_28, oM_29, oM_30, oM_31, oM_32, oM_33, oM_34, oM_35, oM_36, oM_37, oM_38, oM_39, oM_40, oM_41, oM_42, oM_43, oM_44, oM_45, oM_46, oM_47, oM_48, oMs_0, oMs_2, oMs_3, oMs_4, oMs_5, oMs_6, oMs_7, oMs_8, oMs_9, oMs_10, oMs_11, oMs_12, oMs_13, oMs_26, oMs_27, oMs_30, oMs_31, oMs_32, oMs_34, oMs_35, oMs_36, oMs_38, oMs_39, oMs_42, oMs_43, oMs_45, oMs_46, oMs_47, oMs_48, hM_0, hMf, hMw, hM_1a, hM_1s, hM_2a, hM_2s, hM_3a, hM_3s, hM_4a, hM_4s, hM_5a, hM_5s, hM_6a, hM_6s, hM_7a, hM_7s, hM_8a, hM_8s, hM_9a, hM_9s, hM_10a, hM_10s, hM_11a, hM_11s, hM_12a, hM_12s, hM_13a, hM_13s, hM_14a, hM_14s, hM_15a, hM_15s, hM_16a, hM_16s, hM_17a, hM_17s, hM_18a, hM_18s, hM_19a, hM_19s, hM_20a, hM_20s, mF_s, mF_n, mF_A, mF_N, mF_W, mA_F, mA_W, mA_N, mA_s, mA_n, mN_F, mN_W, mN_A, mN_s, mN_n, mW_F, mW_A, mW_N, mW_s, sF2, sA2, vp_in_nI, nI_clamp, i99, nI_add, n3, pk_div, i2, hk1, b2i_0]
      simp_all
    · refine bX13_whyGo_25 ?_
      simp +decide (disch := omega) only [lv_args, Value.category, lk, sto1, sto2, List.filter_cons, List.filter_nil, if_true, if_false, tPush, tIld, tLld, tAld, tIst, tAst, tLst, tInc, tB, tBn, tU, tLB, tLBn, tLS, tI2l, tL2i, tLcmp, tDup, tPop, tDup2, tDupx1, tIf, tIf2, tNul, tAcm, tRetI, tRetZ, tRetC, tRetL, tRetV, tRetA, tGetf, tPutf, isI, isL, isA, isZ, tXald, tXast, tZast, tJald, tJast, tRald, tLen, tCV0, tCV1, tCV2, tCV3, tCV4, tCV5, tCS1, tCS2, tCS3, tCS4, tCS5, tCS6, tCS7, tCpyI, tCpyJ, tMax, tMin, tAbs, tSw, tTab, tLook, tLk, Int32.reduceAdd, List.map_cons, List.map_nil, List.sum_cons, List.sum_nil, List.getElem?_cons_succ, List.getElem?_cons_zero, List.set_cons_succ, List.set_cons_zero, true_and, and_true, Option.some.injEq, Sum.inl.injEq, Sum.inr.injEq, Prod.mk.injEq, Value.int.injEq, Value.ref.injEq, Value.long.injEq, exists_eq', Option.toList_some, Option.toList_none, List.cons_append, List.nil_append, Bool.not_false, Bool.not_true, Bool.and_true, Bool.and_false, Bool.true_and, Bool.false_and, hS_s, hS_n, ne_eq, not_false_eq_true, Classical.not_not, Nat.reduceAdd, eq_self, forall_const, false_implies, true_implies, not_true_eq_false, implies_true, oM_0, oM_1, oM_2, oM_3, oM_4, oM_5, oM_6, oM_7, oM_8, oM_9, oM_10, oM_11, oM_12, oM_13, oM_14, oM_15, oM_16, oM_17, oM_18, oM_19, oM_20, oM_21, oM_22, oM_23, oM_24, oM_25, oM_26, oM_27, oM_28, oM_29, oM_30, oM_31, oM_32, oM_33, oM_34, oM_35, oM_36, oM_37, oM_38, oM_39, oM_40, oM_41, oM_42, oM_43, oM_44, oM_45, oM_46, oM_47, oM_48, oMs_0, oMs_2, oMs_3, oMs_4, oMs_5, oMs_6, oMs_7, oMs_8, oMs_9, oMs_10, oMs_11, oMs_12, oMs_13, oMs_26, oMs_27, oMs_30, oMs_31, oMs_32, oMs_34, oMs_35, oMs_36, oMs_38, oMs_39, oMs_42, oMs_43, oMs_45, oMs_46, oMs_47, oMs_48, hM_0, hMf, hMw, hM_1a, hM_1s, hM_2a, hM_2s, hM_3a, hM_3s, hM_4a, hM_4s, hM_5a, hM_5s, hM_6a, hM_6s, hM_7a, hM_7s, hM_8a, hM_8s, hM_9a, hM_9s, hM_10a, hM_10s, hM_11a, hM_11s, hM_12a, hM_12s, hM_13a, hM_13s, hM_14a, hM_14s, hM_15a, hM_15s, hM_16a, hM_16s, hM_17a, hM_17s, hM_18a, hM_18s, hM_19a, hM_19s, hM_20a, hM_20s, mF_s, mF_n, mF_A, mF_N, mF_W, mA_F, mA_W, mA_N, mA_s, mA_n, mN_F, mN_W, mN_A, mN_s, mN_n, mW_F, mW_A, mW_N, mW_s, sF2, sA2, vp_in_nI, nI_clamp, i99, nI_add, n3, pk_div, i2, hk1, b2i_0]
      refine calp (Nat.le_of_ble_eq_true rfl) (by decide) (cm_pays hn hw.1 (by omega) (by omega)) ?_
      refine bX13_whyGo_33 ?_
      simp +decide (disch := omega) only [lv_args, Value.category, lk, sto1, sto2, List.filter_cons, List.filter_nil, if_true, if_false, tPush, tIld, tLld, tAld, tIst, tAst, tLst, tInc, tB, tBn, tU, tLB, tLBn, tLS, tI2l, tL2i, tLcmp, tDup, tPop, tDup2, tDupx1, tIf, tIf2, tNul, tAcm, tRetI, tRetZ, tRetC, tRetL, tRetV, tRetA, tGetf, tPutf, isI, isL, isA, isZ, tXald, tXast, tZast, tJald, tJast, tRald, tLen, tCV0, tCV1, tCV2, tCV3, tCV4, tCV5, tCS1, tCS2, tCS3, tCS4, tCS5, tCS6, tCS7, tCpyI, tCpyJ, tMax, tMin, tAbs, tSw, tTab, tLook, tLk, Int32.reduceAdd, List.map_cons, List.map_nil, List.sum_cons, List.sum_nil, List.getElem?_cons_succ, List.getElem?_cons_zero, List.set_cons_succ, List.set_cons_zero, true_and, and_true, Option.some.injEq, Sum.inl.injEq, Sum.inr.injEq, Prod.mk.injEq, Value.int.injEq, Value.ref.injEq, Value.long.injEq, exists_eq', Option.toList_some, Option.toList_none, List.cons_append, List.nil_append, Bool.not_false, Bool.not_true, Bool.and_true, Bool.and_false, Bool.true_and, Bool.false_and, hS_s, hS_n, ne_eq, not_false_eq_true, Classical.not_not, Nat.reduceAdd, eq_self, forall_const, false_implies, true_implies, not_true_eq_false, implies_true, oM_0, oM_1, oM_2, oM_3, oM_4, oM_5, oM_6, oM_7, oM_8, oM_9, oM_10, oM_11, oM_12, oM_13, oM_14, oM_15, oM_16, oM_17, oM_18, oM_19, oM_20, oM_21, oM_22, oM_23, oM_24, oM_25, oM_26, oM_27, oM_28, oM_29, oM_30, oM_31, oM_32, oM_33, oM_34, oM_35, oM_36, oM_37, oM_38, oM_39, oM_40, oM_41, oM_42, oM_43, oM_44, oM_45, oM_46, oM_47, oM_48, oMs_0, oMs_2, oMs_3, oMs_4, oMs_5, oMs_6, oMs_7, oMs_8, oMs_9, oMs_10, oMs_11, oMs_12, oMs_13, oMs_26, oMs_27, oMs_30, oMs_31, oMs_32, oMs_34, oMs_35, oMs_36, oMs_38, oMs_39, oMs_42, oMs_43, oMs_45, oMs_46, oMs_47, oMs_48, hM_0, hMf, hMw, hM_1a, hM_1s, hM_2a, hM_2s, hM_3a, hM_3s, hM_4a, hM_4s, hM_5a, hM_5s, hM_6a, hM_6s, hM_7a, hM_7s, hM_8a, hM_8s, hM_9a, hM_9s, hM_10a, hM_10s, hM_11a, hM_11s, hM_12a, hM_12s, hM_13a, hM_13s, hM_14a, hM_14s, hM_15a, hM_15s, hM_16a, hM_16s, hM_17a, hM_17s, hM_18a, hM_18s, hM_19a, hM_19s, hM_20a, hM_20s, mF_s, mF_n, mF_A, mF_N, mF_W, mA_F, mA_W, mA_N, mA_s, mA_n, mN_F, mN_W, mN_A, mN_s, mN_n, mW_F, mW_A, mW_N, mW_s, sF2, sA2, vp_in_nI, nI_clamp, i99, nI_add, n3, pk_div, i2, hk1, b2i_0]
      refine ⟨fun c33 => ?_, fun c33 => ?_⟩
      · refine bX13_whyGo_36 ?_
        simp +decide (disch := omega) only [lv_args, Value.category, lk, sto1, sto2, List.filter_cons, List.filter_nil, if_true, if_false, tPush, tIld, tLld, tAld, tIst, tAst, tLst, tInc, tB, tBn, tU, tLB, tLBn, tLS, tI2l, tL2i, tLcmp, tDup, tPop, tDup2, tDupx1, tIf, tIf2, tNul, tAcm, tRetI, tRetZ, tRetC, tRetL, tRetV, tRetA, tGetf, tPutf, isI, isL, isA, isZ, tXald, tXast, tZast, tJald, tJast, tRald, tLen, tCV0, tCV1, tCV2, tCV3, tCV4, tCV5, tCS1, tCS2, tCS3, tCS4, tCS5, tCS6, tCS7, tCpyI, tCpyJ, tMax, tMin, tAbs, tSw, tTab, tLook, tLk, Int32.reduceAdd, List.map_cons, List.map_nil, List.sum_cons, List.sum_nil, List.getElem?_cons_succ, List.getElem?_cons_zero, List.set_cons_succ, List.set_cons_zero, true_and, and_true, Option.some.injEq, Sum.inl.injEq, Sum.inr.injEq, Prod.mk.injEq, Value.int.injEq, Value.ref.injEq, Value.long.injEq, exists_eq', Option.toList_some, Option.toList_none, List.cons_append, List.nil_append, Bool.not_false, Bool.not_true, Bool.and_true, Bool.and_false, Bool.true_and, Bool.false_and, hS_s, hS_n, ne_eq, not_false_eq_true, Classical.not_not, Nat.reduceAdd, eq_self, forall_const, false_implies, true_implies, not_true_eq_false, implies_true, oM_0, oM_1, oM_2, oM_3, oM_4, oM_5, oM_6, oM_7, oM_8, oM_9, oM_10, oM_11, oM_12, oM_13, oM_14, oM_15, oM_16, oM_17, oM_18, oM_19, oM_20, oM_21, oM_22, oM_23, oM_24, oM_25, oM_26, oM_27, oM_28, oM_29, oM_30, oM_31, oM_32, oM_33, oM_34, oM_35, oM_36, oM_37, oM_38, oM_39, oM_40, oM_41, oM_42, oM_43, oM_44, oM_45, oM_46, oM_47, oM_48, oMs_0, oMs_2, oMs_3, oMs_4, oMs_5, oMs_6, oMs_7, oMs_8, oMs_9, oMs_10, oMs_11, oMs_12, oMs_13, oMs_26, oMs_27, oMs_30, oMs_31, oMs_32, oMs_34, oMs_35, oMs_36, oMs_38, oMs_39, oMs_42, oMs_43, oMs_45, oMs_46, oMs_47, oMs_48, hM_0, hMf, hMw, hM_1a, hM_1s, hM_2a, hM_2s, hM_3a, hM_3s, hM_4a, hM_4s, hM_5a, hM_5s, hM_6a, hM_6s, hM_7a, hM_7s, hM_8a, hM_8s, hM_9a, hM_9s, hM_10a, hM_10s, hM_11a, hM_11s, hM_12a, hM_12s, hM_13a, hM_13s, hM_14a, hM_14s, hM_15a, hM_15s, hM_16a, hM_16s, hM_17a, hM_17s, hM_18a, hM_18s, hM_19a, hM_19s, hM_20a, hM_20s, mF_s, mF_n, mF_A, mF_N, mF_W, mA_F, mA_W, mA_N, mA_s, mA_n, mN_F, mN_W, mN_A, mN_s, mN_n, mW_F, mW_A, mW_N, mW_s, sF2, sA2, vp_in_nI, nI_clamp, i99, nI_add, n3, pk_div, i2, hk1, b2i_0]
        refine bX13_whyGo_41 ?_
        simp +decide (disch := omega) only [lv_args, Value.category, lk, sto1, sto2, List.filter_cons, List.filter_nil, if_true, if_false, tPush, tIld, tLld, tAld, tIst, tAst, tLst, tInc, tB, tBn, tU, tLB, tLBn, tLS, tI2l, tL2i, tLcmp, tDup, tPop, tDup2, tDupx1, tIf, tIf2, tNul, tAcm, tRetI, tRetZ, tRetC, tRetL, tRetV, tRetA, tGetf, tPutf, isI, isL, isA, isZ, tXald, tXast, tZast, tJald, tJast, tRald, tLen, tCV0, tCV1, tCV2, tCV3, tCV4, tCV5, tCS1, tCS2, tCS3, tCS4, tCS5, tCS6, tCS7, tCpyI, tCpyJ, tMax, tMin, tAbs, tSw, tTab, tLook, tLk, Int32.reduceAdd, List.map_cons, List.map_nil, List.sum_cons, List.sum_nil, List.getElem?_cons_succ, List.getElem?_cons_zero, List.set_cons_succ, List.set_cons_zero, true_and, and_true, Option.some.injEq, Sum.inl.injEq, Sum.inr.injEq, Prod.mk.injEq, Value.int.injEq, Value.ref.injEq, Value.long.injEq, exists_eq', Option.toList_some, Option.toList_none, List.cons_append, List.nil_append, Bool.not_false, Bool.not_true, Bool.and_true, Bool.and_false, Bool.true_and, Bool.false_and, hS_s, hS_n, ne_eq, not_false_eq_true, Classical.not_not, Nat.reduceAdd, eq_self, forall_const, false_implies, true_implies, not_true_eq_false, implies_true, oM_0, oM_1, oM_2, oM_3, oM_4, oM_5, oM_6, oM_7, oM_8, oM_9, oM_10, oM_11, oM_12, oM_13, oM_14, oM_15, oM_16, oM_17, oM_18, oM_19, oM_20, oM_21, oM_22, oM_23, oM_24, oM_25, oM_26, oM_27, oM_28, oM_29, oM_30, oM_31, oM_32, oM_33, oM_34, oM_35, oM_36, oM_37, oM_38, oM_39, oM_40, oM_41, oM_42, oM_43, oM_44, oM_45, oM_46, oM_47, oM_48, oMs_0, oMs_2, oMs_3, oMs_4, oMs_5, oMs_6, oMs_7, oMs_8, oMs_9, oMs_10, oMs_11, oMs_12, oMs_13, oMs_26, oMs_27, oMs_30, oMs_31, oMs_32, oMs_34, oMs_35, oMs_36, oMs_38, oMs_39, oMs_42, oMs_43, oMs_45, oMs_46, oMs_47, oMs_48, hM_0, hMf, hMw, hM_1a, hM_1s, hM_2a, hM_2s, hM_3a, hM_3s, hM_4a, hM_4s, hM_5a, hM_5s, hM_6a, hM_6s, hM_7a, hM_7s, hM_8a, hM_8s, hM_9a, hM_9s, hM_10a, hM_10s, hM_11a, hM_11s, hM_12a, hM_12s, hM_13a, hM_13s, hM_14a, hM_14s, hM_15a, hM_15s, hM_16a, hM_16s, hM_17a, hM_17s, hM_18a, hM_18s, hM_19a, hM_19s, hM_20a, hM_20s, mF_s, mF_n, mF_A, mF_N, mF_W, mA_F, mA_W, mA_N, mA_s, mA_n, mN_F, mN_W, mN_A, mN_s, mN_n, mW_F, mW_A, mW_N, mW_s, sF2, sA2, vp_in_nI, nI_clamp, i99, nI_add, n3, pk_div, i2, hk1, b2i_0]
        simp_all
      · refine bX13_whyGo_40 ?_
        simp +decide (disch := omega) only [lv_args, Value.category, lk, sto1, sto2, List.filter_cons, List.filter_nil, if_true, if_false, tPush, tIld, tLld, tAld, tIst, tAst, tLst, tInc, tB, tBn, tU, tLB, tLBn, tLS, tI2l, tL2i, tLcmp, tDup, tPop, tDup2, tDupx1, tIf, tIf2, tNul, tAcm, tRetI, tRetZ, tRetC, tRetL, tRetV, tRetA, tGetf, tPutf, isI, isL, isA, isZ, tXald, tXast, tZast, tJald, tJast, tRald, tLen, tCV0, tCV1, tCV2, tCV3, tCV4, tCV5, tCS1, tCS2, tCS3, tCS4, tCS5, tCS6, tCS7, tCpyI, tCpyJ, tMax, tMin, tAbs, tSw, tTab, tLook, tLk, Int32.reduceAdd, List.map_cons, List.map_nil, List.sum_cons, List.sum_nil, List.getElem?_cons_succ, List.getElem?_cons_zero, List.set_cons_succ, List.set_cons_zero, true_and, and_true, Option.some.injEq, Sum.inl.injEq, Sum.inr.injEq, Prod.mk.injEq, Value.int.injEq, Value.ref.injEq, Value.long.injEq, exists_eq', Option.toList_some, Option.toList_none, List.cons_append, List.nil_append, Bool.not_false, Bool.not_true, Bool.and_true, Bool.and_false, Bool.true_and, Bool.false_and, hS_s, hS_n, ne_eq, not_false_eq_true, Classical.not_not, Nat.reduceAdd, eq_self, forall_const, false_implies, true_implies, not_true_eq_false, implies_true, oM_0, oM_1, oM_2, oM_3, oM_4, oM_5, oM_6, oM_7, oM_8, oM_9, oM_10, oM_11, oM_12, oM_13, oM_14, oM_15, oM_16, oM_17, oM_18, oM_19, oM_20, oM_21, oM_22, oM_23, oM_24, oM_25, oM_26, oM_27, oM_28, oM_29, oM_30, oM_31, oM_32, oM_33, oM_34, oM_35, oM_36, oM_37, oM_38, oM_39, oM_40, oM_41, oM_42, oM_43, oM_44, oM_45, oM_46, oM_47, oM_48, oMs_0, oMs_2, oMs_3, oMs_4, oMs_5, oMs_6, oMs_7, oMs_8, oMs_9, oMs_10, oMs_11, oMs_12, oMs_13, oMs_26, oMs_27, oMs_30, oMs_31, oMs_32, oMs_34, oMs_35, oMs_36, oMs_38, oMs_39, oMs_42, oMs_43, oMs_45, oMs_46, oMs_47, oMs_48, hM_0, hMf, hMw, hM_1a, hM_1s, hM_2a, hM_2s, hM_3a, hM_3s, hM_4a, hM_4s, hM_5a, hM_5s, hM_6a, hM_6s, hM_7a, hM_7s, hM_8a, hM_8s, hM_9a, hM_9s, hM_10a, hM_10s, hM_11a, hM_11s, hM_12a, hM_12s, hM_13a, hM_13s, hM_14a, hM_14s, hM_15a, hM_15s, hM_16a, hM_16s, hM_17a, hM_17s, hM_18a, hM_18s, hM_19a, hM_19s, hM_20a, hM_20s, mF_s, mF_n, mF_A, mF_N, mF_W, mA_F, mA_W, mA_N, mA_s, mA_n, mN_F, mN_W, mN_A, mN_s, mN_n, mW_F, mW_A, mW_N, mW_s, sF2, sA2, vp_in_nI, nI_clamp, i99, nI_add, n3, pk_div, i2, hk1, b2i_0]
        refine bX13_whyGo_41 ?_
        simp +decide (disch := omega) only [lv_args, Value.category, lk, sto1, sto2, List.filter_cons, List.filter_nil, if_true, if_false, tPush, tIld, tLld, tAld, tIst, tAst, tLst, tInc, tB, tBn, tU, tLB, tLBn, tLS, tI2l, tL2i, tLcmp, tDup, tPop, tDup2, tDupx1, tIf, tIf2, tNul, tAcm, tRetI, tRetZ, tRetC, tRetL, tRetV, tRetA, tGetf, tPutf, isI, isL, isA, isZ, tXald, tXast, tZast, tJald, tJast, tRald, tLen, tCV0, tCV1, tCV2, tCV3, tCV4, tCV5, tCS1, tCS2, tCS3, tCS4, tCS5, tCS6, tCS7, tCpyI, tCpyJ, tMax, tMin, tAbs, tSw, tTab, tLook, tLk, Int32.reduceAdd, List.map_cons, List.map_nil, List.sum_cons, List.sum_nil, List.getElem?_cons_succ, List.getElem?_cons_zero, List.set_cons_succ, List.set_cons_zero, true_and, and_true, Option.some.injEq, Sum.inl.injEq, Sum.inr.injEq, Prod.mk.injEq, Value.int.injEq, Value.ref.injEq, Value.long.injEq, exists_eq', Option.toList_some, Option.toList_none, List.cons_append, List.nil_append, Bool.not_false, Bool.not_true, Bool.and_true, Bool.and_false, Bool.true_and, Bool.false_and, hS_s, hS_n, ne_eq, not_false_eq_true, Classical.not_not, Nat.reduceAdd, eq_self, forall_const, false_implies, true_implies, not_true_eq_false, implies_true, oM_0, oM_1, oM_2, oM_3, oM_4, oM_5, oM_6, oM_7, oM_8, oM_9, oM_10, oM_11, oM_12, oM_13, oM_14, oM_15, oM_16, oM_17, oM_18, oM_19, oM_20, oM_21, oM_22, oM_23, oM_24, oM_25, oM_26, oM_27, oM_28, oM_29, oM_30, oM_31, oM_32, oM_33, oM_34, oM_35, oM_36, oM_37, oM_38, oM_39, oM_40, oM_41, oM_42, oM_43, oM_44, oM_45, oM_46, oM_47, oM_48, oMs_0, oMs_2, oMs_3, oMs_4, oMs_5, oMs_6, oMs_7, oMs_8, oMs_9, oMs_10, oMs_11, oMs_12, oMs_13, oMs_26, oMs_27, oMs_30, oMs_31, oMs_32, oMs_34, oMs_35, oMs_36, oMs_38, oMs_39, oMs_42, oMs_43, oMs_45, oMs_46, oMs_47, oMs_48, hM_0, hMf, hMw, hM_1a, hM_1s, hM_2a, hM_2s, hM_3a, hM_3s, hM_4a, hM_4s, hM_5a, hM_5s, hM_6a, hM_6s, hM_7a, hM_7s, hM_8a, hM_8s, hM_9a, hM_9s, hM_10a, hM_10s, hM_11a, hM_11s, hM_12a, hM_12s, hM_13a, hM_13s, hM_14a, hM_14s, hM_15a, hM_15s, hM_16a, hM_16s, hM_17a, hM_17s, hM_18a, hM_18s, hM_19a, hM_19s, hM_20a, hM_20s, mF_s, mF_n, mF_A, mF_N, mF_W, mA_F, mA_W, mA_N, mA_s, mA_n, mN_F, mN_W, mN_A, mN_s, mN_n, mW_F, mW_A, mW_N, mW_s, sF2, sA2, vp_in_nI, nI_clamp, i99, nI_add, n3, pk_div, i2, hk1, b2i_0]
        simp_all
  · refine bX13_whyGo_18 ?_
    simp +decide (disch := omega) only [lv_args, Value.category, lk, sto1, sto2, List.filter_cons, List.filter_nil, if_true, if_false, tPush, tIld, tLld, tAld, tIst, tAst, tLst, tInc, tB, tBn, tU, tLB, tLBn, tLS, tI2l, tL2i, tLcmp, tDup, tPop, tDup2, tDupx1, tIf, tIf2, tNul, tAcm, tRetI, tRetZ, tRetC, tRetL, tRetV, tRetA, tGetf, tPutf, isI, isL, isA, isZ, tXald, tXast, tZast, tJald, tJast, tRald, tLen, tCV0, tCV1, tCV2, tCV3, tCV4, tCV5, tCS1, tCS2, tCS3, tCS4, tCS5, tCS6, tCS7, tCpyI, tCpyJ, tMax, tMin, tAbs, tSw, tTab, tLook, tLk, Int32.reduceAdd, List.map_cons, List.map_nil, List.sum_cons, List.sum_nil, List.getElem?_cons_succ, List.getElem?_cons_zero, List.set_cons_succ, List.set_cons_zero, true_and, and_true, Option.some.injEq, Sum.inl.injEq, Sum.inr.injEq, Prod.mk.injEq, Value.int.injEq, Value.ref.injEq, Value.long.injEq, exists_eq', Option.toList_some, Option.toList_none, List.cons_append, List.nil_append, Bool.not_false, Bool.not_true, Bool.and_true, Bool.and_false, Bool.true_and, Bool.false_and, hS_s, hS_n, ne_eq, not_false_eq_true, Classical.not_not, Nat.reduceAdd, eq_self, forall_const, false_implies, true_implies, not_true_eq_false, implies_true, oM_0, oM_1, oM_2, oM_3, oM_4, oM_5, oM_6, oM_7, oM_8, oM_9, oM_10, oM_11, oM_12, oM_13, oM_14, oM_15, oM_16, oM_17, oM_18, oM_19, oM_20, oM_21, oM_22, oM_23, oM_24, oM_25, oM_26, oM_27, oM_28, oM_29, oM_30, oM_31, oM_32, oM_33, oM_34, oM_35, oM_36, oM_37, oM_38, oM_39, oM_40, oM_41, oM_42, oM_43, oM_44, oM_45, oM_46, oM_47, oM_48, oMs_0, oMs_2, oMs_3, oMs_4, oMs_5, oMs_6, oMs_7, oMs_8, oMs_9, oMs_10, oMs_11, oMs_12, oMs_13, oMs_26, oMs_27, oMs_30, oMs_31, oMs_32, oMs_34, oMs_35, oMs_36, oMs_38, oMs_39, oMs_42, oMs_43, oMs_45, oMs_46, oMs_47, oMs_48, hM_0, hMf, hMw, hM_1a, hM_1s, hM_2a, hM_2s, hM_3a, hM_3s, hM_4a, hM_4s, hM_5a, hM_5s, hM_6a, hM_6s, hM_7a, hM_7s, hM_8a, hM_8s, hM_9a, hM_9s, hM_10a, hM_10s, hM_11a, hM_11s, hM_12a, hM_12s, hM_13a, hM_13s, hM_14a, hM_14s, hM_15a, hM_15s, hM_16a, hM_16s, hM_17a, hM_17s, hM_18a, hM_18s, hM_19a, hM_19s, hM_20a, hM_20s, mF_s, mF_n, mF_A, mF_N, mF_W, mA_F, mA_W, mA_N, mA_s, mA_n, mN_F, mN_W, mN_A, mN_s, mN_n, mW_F, mW_A, mW_N, mW_s, sF2, sA2, vp_in_nI, nI_clamp, i99, nI_add, n3, pk_div, i2, hk1, b2i_0]
    simp_all

