/-! ===== what is had grows ===== -/
def Gw (v u : Wd) : Prop := ∀ r t, r < 8 → t < 6 → hld v r t ≤ hld u r t
theorem Gw.rf {v : Wd} : Gw v v := fun _ _ _ _ => Int32.le_refl _
theorem Gw.trans {a b c : Wd} (h : Gw a b) (k : Gw b c) : Gw a c := fun r t hr ht => Int32.le_trans (h r t hr ht) (k r t hr ht)
theorem cap_ge {k : Nat} (h : k ≤ 12) : nI k ≤ cap (nI k + 1) := by
  rw [nI_1]
  by_cases e : k = 12
  · subst e; decide
  · rw [cap_le (by omega)]; exact nI_le (by omega) (by omega)
theorem Gw.add {v : Wd} (hv : WOK v) {p t : Nat} (hp : p < wPe v) (ht : t < wTh v) : Gw v (wHeld v p t (hld v p t + 1)) := by
  have h1 := hv.1
  have h2 := hv.2.1
  intro r s hr hs
  by_cases e : r * 6 + s = p * 6 + t
  · have e1 : r = p := by omega
    have e2 : s = t := by omega
    subst e1; subst e2
    rw [hld_s]
    obtain ⟨k, hk, ek⟩ := hv.2.2.2.2.2.2.2.2.1 r s (by omega) (by omega)
    rw [ek]
    exact cap_ge hk
  · rw [hld_n e]; exact Int32.le_refl _
theorem Gw.liv {v : Wd} (hv : WOK v) {p : Nat} (hp : p < wPe v) : Gw v (livW v p) := by
  have h0 : WOK (livO v p) := hv.r4 _
  unfold livW
  split
  · exact fun _ _ _ _ => Int32.le_refl _
  · refine (lp_indn (P := fun x => (WOK x ∧ Like x (livO v p)) ∧ Gw v x) ⟨⟨h0, Like.rf⟩, fun _ _ _ _ => Int32.le_refl _⟩ _ (fun i x hi hx => ?_)).2
    have a1 : i < wTh x := by rw [hx.1.2.1]; exact hi
    have a2 : p < wPe x := by rw [hx.1.2.2.1]; exact hp
    refine ⟨⟨?_, livF_like i x hx.1.2⟩, ?_⟩
    · unfold livF
      split
      · exact hx.1.1.heldadd a2 a1
      · exact hx.1.1
    · unfold livF
      split
      · exact hx.2.trans (Gw.add hx.1.1 a2 a1)
      · exact hx.2
theorem Gw.met {v : Wd} (hv : WOK v) {p q : Nat} (hp : p < wPe v) (hq : q < wPe v) : Gw v (metS v p q).2 := by
  refine (lp_indn (P := fun s : Int32 × Wd => (WOK s.2 ∧ (Like s.2 v ∧ (s.1 = 0 ∨ s.1 = 1))) ∧ Gw v s.2) (s := (0, v)) (f := metF p q) ⟨⟨hv, Like.rf, Or.inl rfl⟩, Gw.rf⟩ _ (fun i x hi hx => ?_)).2
  have a1 : i < wTh x.2 := by rw [hx.1.2.1.1]; exact hi
  have a2 : p < wPe x.2 := by rw [hx.1.2.1.2.1]; exact hp
  have a3 : q < wPe x.2 := by rw [hx.1.2.1.2.1]; exact hq
  refine ⟨⟨?_, metF_like i x hx.1.2⟩, ?_⟩
  · unfold metF
    split
    · exact hx.1.1.heldadd a3 a1
    · split
      · exact hx.1.1.heldadd a2 a1
      · exact hx.1.1
  · unfold metF
    split
    · exact hx.2.trans (Gw.add hx.1.1 a3 a1)
    · split
      · exact hx.2.trans (Gw.add hx.1.1 a2 a1)
      · exact hx.2
theorem Gw.mw {v : Wd} (hv : WOK v) {p : Nat} (hp : p < wPe v) (x : Int32) : Gw v (metW v p x) := by
  unfold metW
  split
  · rename_i hk
    obtain ⟨q, hq, hq2, rfl⟩ := isP_of hk.1
    rw [nI_clamp hq2]
    exact Gw.met hv hp hq
  · exact Gw.rf
theorem Gw.d1 {w : Wd} (hw : WOK w) (n : Nat) (hn : n ≤ wPe w) : Gw w (lp (fun p u => livW u p) w n) := (lp_indn (P := fun x => (WOK x ∧ Lik2 x w) ∧ Gw w x) ⟨⟨hw, Lik2.rf⟩, Gw.rf⟩ n (fun i x hi hx => ⟨⟨hx.1.1.liv (by rw [hx.1.2.2.1]; omega), (livW_like x i).trans hx.1.2⟩, hx.2.trans (Gw.liv hx.1.1 (by rw [hx.1.2.2.1]; omega))⟩)).2
theorem Gw.d2 {w u : Wd} (hu : WOK u) (hl : Lik2 u w) (n : Nat) (hn : n ≤ wPe w) : Gw u (lp day2F u n) := (lp_indn (P := fun x => (WOK x ∧ Lik2 x w) ∧ Gw u x) ⟨⟨hu, hl⟩, Gw.rf⟩ n (fun i x hi hx => ⟨⟨by
  unfold day2F
  split
  · exact hx.1.1
  · exact hx.1.1.mw (by rw [hx.1.2.2.1]; omega) _, (day2F_like i x).to2.trans hx.1.2⟩, by
  unfold day2F
  split
  · exact hx.2
  · exact hx.2.trans (Gw.mw hx.1.1 (by rw [hx.1.2.2.1]; omega) _)⟩)).2
theorem Gw.day {w : Wd} (hw : WOK w) : Gw w (dayW w) := by
  have h1 := Gw.d1 hw (wPe w) (Nat.le_refl _)
  have h2 := Gw.d2 (hw.d1 (wPe w) (Nat.le_refl _)) (day1_like w _) (wPe w) (Nat.le_refl _)
  exact h1.trans h2
theorem lack_0 {w : Wd} {p e : Nat} (hth : wTh w ≤ 6) : lack w p e = 0 ↔ ∀ t, t < wTh w → tol w e t ≤ hld w p t := by
  constructor
  · intro h t ht
    have k := lack_bt (w := w) (p := p) (e := e) (t := t) hth (by omega)
    rw [h, bt_0 t (by omega), decide_eq_true ht, Bool.true_and] at k
    unfold lkC at k
    by_cases c : tol w e t ≤ hld w p t
    · exact c
    · rw [decide_eq_false c] at k; cases k
  · intro h
    refine Classical.byContradiction (fun z => ?_)
    obtain ⟨t, ht, hb, -⟩ := lack_first hth z
    rw [lack_bt hth (by omega), decide_eq_true ht, Bool.true_and] at hb
    unfold lkC at hb
    rw [decide_eq_true (h t ht)] at hb
    cases hb
theorem lack_day {w : Wd} (hw : WOK w) {p e : Nat} (hp : p < wPe w) (h : lack w p e = 0) : lack (dayW w) p e = 0 := by
  have h8 := hw.2.1
  have h6 := hw.1
  rw [lack_0 (by rw [dayW_th]; exact h6)]
  rw [lack_0 h6] at h
  intro t ht
  rw [dayW_th] at ht
  have e8 : tol (dayW w) e t = tol w e t := by unfold tol; rw [dayW_row w 8 (by decide) (by decide)]
  rw [e8]
  exact Int32.le_trans (h t ht) (Gw.day hw p t (by omega) (by omega))
theorem lack_days {w : Wd} (hw : WOK w) {p e d : Nat} (hd : wDay w = nI d) (hp : p < wPe w) {i : Nat} (h : lack (daysW w i) p e = 0) : ∀ n, d + (i + n) ≤ 400 → lack (daysW w (i + n)) p e = 0
  | 0, _ => h
  | n + 1, hn => by
    have ih := lack_days hw hd hp h n (by omega)
    have k := lack_day (hw.days hd (i + n) (by omega)).1 (p := p) (e := e) (by rw [(daysW_th w (i + n)).2]; exact hp) ih
    exact k

