/-! ===== what the coupling needs of numbers ===== -/
theorem NWv.congr {w : Wd} {f g : Nat → Int32} (h : NWv w f) (h6 : wTh w ≤ 6) (h8 : wPe w ≤ 8) (e : ∀ j, j < 191 → g j = f j) : NWv w g := by
  obtain ⟨a1, a2, a3, a4, a5, a6, a7, a8⟩ := h
  refine ⟨(e 0 (by omega)).trans a1, (e 1 (by omega)).trans a2, (e 98 (by omega)).trans a3, fun t ht => ⟨(e _ (by omega)).trans (a4 t ht).1, (e _ (by omega)).trans (a4 t ht).2⟩, fun p hp => ?_, fun i hi => (e _ (by omega)).trans (a6 i hi), fun i hi => (e _ (by omega)).trans (a7 i hi), fun p h1 h2 => (e _ (by omega)).trans (a8 p h1 h2)⟩
  obtain ⟨b1, b2, b3, b4, b5⟩ := a5 p hp
  exact ⟨(e _ (by omega)).trans b1, (e _ (by omega)).trans b2, (e _ (by omega)).trans b3, (e _ (by omega)).trans b4, (e _ (by omega)).trans b5⟩
theorem NoV.congr {I : List It} {f g : Nat → Int32} (h : NoV I f) (hl : I.length < 60) (e : ∀ j, j < 240 → g j = f j) : NoV I g := by
  intro i it hi
  have hlt := (List.getElem?_eq_some_iff.mp hi).1
  obtain ⟨b1, b2, b3, b4⟩ := h i it hi
  exact ⟨(e _ (by omega)).trans b1, (e _ (by omega)).trans b2, (e _ (by omega)).trans b3, (e _ (by omega)).trans b4⟩
theorem NoN.congr {n : Nat} {I : List It} {f g : Nat → Int32} (h : NoN n I f) (e : ∀ j, 191 ≤ j → j < 433 → g j = f j) : NoN n I g := by
  rcases h with ⟨h1, h2⟩ | ⟨h1, h2, h3, h4⟩
  · exact Or.inl ⟨h1, (e 191 (by omega) (by omega)).trans h2⟩
  · exact Or.inr ⟨h1, (e 191 (by omega) (by omega)).trans h2, (e 192 (by omega) (by omega)).trans h3, h4.congr (by have := h1.2.2.2.1; omega) (fun j hj => e _ (by omega) (by omega))⟩
theorem und_in {n : Nat} {g f : Nat → Int32} {i : Nat} (h1 : 98 ≤ i) (h2 : i < 191) : undF n g f i = g (93 * n + (i - 98)) := by
  unfold undF cpF
  rw [if_pos ⟨h1, by omega⟩]
theorem und_out {n : Nat} {g f : Nat → Int32} {i : Nat} (h : i < 98 ∨ 191 ≤ i) : undF n g f i = f i := by
  unfold undF cpF
  rw [if_neg (by omega)]
theorem und_new {n : Nat} {f g f' : Nat → Int32} (hH : Hd f f') : undF (snN n) (snG n f g) f' = f := by
  funext i
  by_cases h : 98 ≤ i ∧ i < 191
  · rw [und_in h.1 h.2]
    unfold snG
    rw [if_pos (by omega)]
    congr 1
    omega
  · rw [und_out (by omega)]
    exact hH i (by omega)
theorem und_old {n k : Nat} {f g f' : Nat → Int32} (hH : Hd f f') (hn : n < 8) (hk : k < n) : undF k (snG n f g) f' = undF k g f := by
  have e8 : snN n = n := if_neg (by omega)
  have e1 : snG1 n g = g := if_neg (by omega)
  funext i
  by_cases h : 98 ≤ i ∧ i < 191
  · rw [und_in h.1 h.2, und_in h.1 h.2]
    unfold snG
    rw [e8, e1, if_neg (by omega)]
  · rw [und_out (by omega), und_out (by omega)]
    exact hH i (by omega)
theorem und_old8 {k : Nat} {f g f' : Nat → Int32} (hH : Hd f f') (hk : k < 7) : undF k (snG 8 f g) f' = undF (k + 1) g f := by
  have e8 : snN 8 = 7 := rfl
  have e1 : snG1 8 g = fun j => if j < 651 then g (j + 93) else g j := if_pos rfl
  funext i
  by_cases h : 98 ≤ i ∧ i < 191
  · rw [und_in h.1 h.2, und_in h.1 h.2]
    unfold snG
    rw [e8, e1, if_neg (by omega)]
    dsimp only
    rw [if_pos (by omega)]
    congr 1
    omega
  · rw [und_out (by omega), und_out (by omega)]
    exact hH i (by omega)
theorem und_und {k n : Nat} {g f : Nat → Int32} : undF k g (undF n g f) = undF k g f := by
  funext i
  by_cases h : 98 ≤ i ∧ i < 191
  · rw [und_in h.1 h.2, und_in h.1 h.2]
  · rw [und_out (by omega), und_out (by omega), und_out (by omega)]
/-- the past, latest first -/
def PastR (L : List Wd) (c : Nat → Nat → Int64) (g f : Nat → Int32) : Prop := L.length ≤ 8 ∧ ∀ j v, L[j]? = some v → WOK v ∧ wN v = c ∧ NWv v (undF (L.length - 1 - j) g f)
theorem take_len {w : Wd} {L : List Wd} (h : L.length ≤ 8) : ((w :: L).take 8).length = snN L.length + 1 := by
  rw [List.length_take, List.length_cons]
  unfold snN
  split <;> omega
theorem PastR.keep {L : List Wd} {c : Nat → Nat → Int64} {g f f' : Nat → Int32} {w : Wd} (h : PastR L c g f) (hw : WOK w) (hc : wN w = c) (hn : NWv w f) (hH : Hd f f') : PastR ((w :: L).take 8) c (snG L.length f g) f' := by
  obtain ⟨h8, hp⟩ := h
  refine ⟨by rw [List.length_take]; omega, fun j v hj => ?_⟩
  rw [take_len h8]
  rw [List.getElem?_take] at hj
  split at hj
  · rename_i hj8
    cases j with
    | zero =>
      cases hj
      refine ⟨hw, hc, ?_⟩
      rw [show snN L.length + 1 - 1 - 0 = snN L.length by omega, und_new hH]
      exact hn
    | succ j =>
      rw [List.getElem?_cons_succ] at hj
      have hlt := (List.getElem?_eq_some_iff.mp hj).1
      obtain ⟨a1, a2, a3⟩ := hp j v hj
      refine ⟨a1, a2, ?_⟩
      by_cases e : L.length = 8
      · rw [e] at a3 hlt ⊢
        rw [show snN 8 + 1 - 1 - (j + 1) = 6 - j by unfold snN; simp, und_old8 hH (by omega), show 6 - j + 1 = 8 - 1 - j by omega]
        exact a3
      · rw [show snN L.length + 1 - 1 - (j + 1) = L.length - 1 - j by unfold snN; rw [if_neg e]; omega, und_old hH (by omega) (by omega)]
        exact a3
  · cases hj
theorem PastR.undo {L : List Wd} {c : Nat → Nat → Int64} {g f : Nat → Int32} {v : Wd} (h : PastR (v :: L) c g f) : PastR L c g (undF L.length g f) ∧ WOK v ∧ wN v = c ∧ NWv v (undF L.length g f) := by
  obtain ⟨h8, hp⟩ := h
  rw [List.length_cons] at h8
  obtain ⟨b1, b2, b3⟩ := hp 0 v rfl
  refine ⟨⟨by omega, fun j u hj => ?_⟩, b1, b2, ?_⟩
  · obtain ⟨a1, a2, a3⟩ := hp (j + 1) u (by rw [List.getElem?_cons_succ]; exact hj)
    have hlt := (List.getElem?_eq_some_iff.mp hj).1
    refine ⟨a1, a2, ?_⟩
    rw [und_und]
    rw [List.length_cons, show L.length + 1 - 1 - (j + 1) = L.length - 1 - j by omega] at a3
    exact a3
  · rw [List.length_cons, show L.length + 1 - 1 - 0 = L.length by omega] at b3
    exact b3
theorem PastR.nil {c : Nat → Nat → Int64} {g f : Nat → Int32} : PastR [] c g f := ⟨Nat.zero_le _, fun j v hj => by cases hj⟩
theorem PastR.hd {L : List Wd} {c : Nat → Nat → Int64} {g f f' : Nat → Int32} (h : PastR L c g f) (e : ∀ i, i < 98 → f' i = f i) : PastR L c g f' := by
  refine ⟨h.1, fun j v hj => ?_⟩
  obtain ⟨a1, a2, a3⟩ := h.2 j v hj
  refine ⟨a1, a2, a3.congr a1.1 a1.2.1 (fun i hi => ?_)⟩
  by_cases c : 98 ≤ i
  · rw [und_in c hi, und_in c hi]
  · rw [und_out (by omega), und_out (by omega)]
    exact e i (by omega)
theorem heads_eq {w v : Wd} {f g : Nat → Int32} (hw : WOK w) (hv : WOK v) (h1 : NWv w f) (h2 : NWv v g) (e : ∀ i, i < 98 → g i = f i) : wTh v = wTh w ∧ wPe v = wPe w := by
  have a := hw.1
  have b := hv.1
  have a8 := hw.2.1
  have b8 := hv.2.1
  exact ⟨(nI_eq (by omega) (by omega)).mp ((h2.1.symm.trans (e 0 (by omega))).trans h1.1), (nI_eq (by omega) (by omega)).mp ((h2.2.1.symm.trans (e 1 (by omega))).trans h1.2.1)⟩

