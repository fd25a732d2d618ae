/-! ===== days of two, and those on the bridge who learn no more ===== -/
theorem tws_free {p d : Nat} {w u : Wd} (h : Vw p w u) (hu : WOK u) (hd : wDay u = nI d) (hp : p < wPe u) (e : wI u 6 p = -1) : ∀ n, d + n ≤ 400 → Vw p (tws p (-1) w n) (daysW u n)
  | 0, _ => h
  | n + 1, hn => by
    have ih := tws_free h hu hd hp e n (by omega)
    have hw := (hu.days hd n (by omega)).1
    have hpe := (daysW_th u n).2
    have h6 : wI (daysW u n) 6 = wI u 6 := lp_ind (P := fun x => wI x 6 = wI u 6) rfl (fun _ x hx => (dayW_row x 6 (by decide) (by decide)).trans hx) n
    have k := tw1_free ih hw (by rw [hpe]; exact hp) (by rw [h6]; exact e)
    exact k
theorem tws_pair {p q d : Nat} {w u : Wd} (h : Vw p w u) (h2 : Vw q w u) (hu : WOK u) (hd : wDay u = nI d) (hp : p < wPe u) (hq : q < wPe u) (hpq : p ≠ q) (e : wI u 6 p = nI q) (e2 : wI u 6 q = nI p) : ∀ n, d + n ≤ 400 → Vw p (tws p (nI q) w n) (daysW u n) ∧ Vw q (tws p (nI q) w n) (daysW u n)
  | 0, _ => ⟨h, h2⟩
  | n + 1, hn => by
    have ih := tws_pair h h2 hu hd hp hq hpq e e2 n (by omega)
    have hw := (hu.days hd n (by omega)).1
    have hpe := (daysW_th u n).2
    have h6 : wI (daysW u n) 6 = wI u 6 := lp_ind (P := fun x => wI x 6 = wI u 6) rfl (fun _ x hx => (dayW_row x 6 (by decide) (by decide)).trans hx) n
    have k := tw1_pair ih.1 ih.2 hw (by rw [hpe]; exact hp) (by rw [hpe]; exact hq) hpq (by rw [h6]; exact e) (by rw [h6]; exact e2)
    exact k
/-- nothing is learned by meeting, and nothing by living -/
def stk (p : Nat) (Q : Int32) (v : Wd) : Prop := wI v 3 p = 1 ∧ metR (tw0 p Q v) p Q = 0
theorem liv_b {v : Wd} {p : Nat} (h : wI v 3 p = 1) : livW v p = livO v p := by unfold livW; rw [if_pos h]
theorem met_r7 {p q : Nat} {v u : Wd} (h : wI v 7 = wI u 7) : ∀ n, (lp (metF p q) (0, v) n).1 = (lp (metF p q) (0, u) n).1 ∧ wI (lp (metF p q) (0, v) n).2 7 = wI (lp (metF p q) (0, u) n).2 7
  | 0 => by rw [lp_0, lp_0]; exact ⟨rfl, h⟩
  | n + 1 => by
    have ih := met_r7 (p := p) (q := q) h n
    rw [lp_n, lp_n]
    generalize lp (metF p q) (0, v) n = sv at *
    generalize lp (metF p q) (0, u) n = su at *
    have hh : ∀ r t, hld sv.2 r t = hld su.2 r t := fun r t => congrFun ih.2 _
    have hu : ∀ r t n, wI (wHeld sv.2 r t n) 7 = wI (wHeld su.2 r t n) 7 := fun r t n => by
      unfold wHeld
      rw [wI_s, wI_s, ih.2]
    unfold metF
    rw [hh, hh]
    split
    · exact ⟨rfl, hu _ _ _⟩
    · split
      · exact ⟨rfl, hu _ _ _⟩
      · exact ih
theorem lack_r7 {p e : Nat} {v u : Wd} (h : wI v 7 = wI u 7) (h8 : wI v 8 = wI u 8) (ht : wTh v = wTh u) : lack v p e = lack u p e := by
  have e1 : lackF v p e = lackF u p e := by
    funext t acc
    unfold lackF tol hld
    rw [h, h8]
  unfold lack
  rw [e1, ht]
theorem stk_step {p : Nat} {Q : Int32} {v : Wd} (e : Nat) (hth : wTh v ≤ 6) (hp : p < 2 ^ 31) (hpq : Q ≠ nI p) (h : stk p Q v) : stk p Q (tw1 p Q v) ∧ lack (tw1 p Q v) p e = lack v p e := by
  obtain ⟨hb, hm⟩ := h
  have hl0 := tw0_like p Q v
  have hl1 := tw1_like p Q v
  have h3 : wI (tw0 p Q v) 3 = wI v 3 := hl0.2.2.2.2 3 (by decide) (by decide)
  have h31 : wI (tw1 p Q v) 3 = wI v 3 := hl1.2.2.2.2 3 (by decide) (by decide)
  have hl01 := tw0_like p Q (tw1 p Q v)
  have h301 : wI (tw0 p Q (tw1 p Q v)) 3 = wI v 3 := (hl01.2.2.2.2 3 (by decide) (by decide)).trans h31
  have hbo : wI (livO v p) 3 = wI v 3 := rfl
  have iff1 : metOk (tw0 p Q (tw1 p Q v)) p Q ↔ metOk (tw0 p Q v) p Q := by
    unfold metOk
    rw [h3, h301, hl01.2.1, hl1.2.1, hl0.2.1]
  by_cases c : metOk (tw0 p Q v) p Q
  · obtain ⟨q, hq, hq2, rfl⟩ := isP_of c.1
    have hbq : wI v 3 q = 1 := by
      have := c.2
      rw [nI_clamp hq2, h3] at this
      rw [← this]; exact hb
    have g : ∀ x, wI x 3 = wI v 3 → wPe x = wPe v → wI (tw0 p (nI q) x) 7 = wI x 7 := by
      intro x hx hpe
      unfold tw0
      rw [if_pos (by rw [hpe, ← hl0.2.1]; exact c.1), nI_clamp hq2, liv_b (v := x) (p := p) (by rw [hx]; exact hb), liv_b (v := livO x p) (p := q) (by rw [show wI (livO x p) 3 = wI x 3 from rfl, hx]; exact hbq)]
      rfl
    have r0 := g v rfl rfl
    have r1 := g (tw1 p (nI q) v) h31 hl1.2.1
    have em : metR (tw0 p (nI q) v) p (nI q) = (metS (tw0 p (nI q) v) p q).1 := by unfold metR; rw [if_pos c, nI_clamp hq2]
    have ew : tw1 p (nI q) v = tw0 p (nI q) v := by
      unfold tw1 metW
      rw [if_pos c, nI_clamp hq2]
      exact met_0 _ (em.symm.trans hm)
    have e7 : wI (tw1 p (nI q) v) 7 = wI v 7 := by rw [ew, r0]
    refine ⟨⟨by rw [h31]; exact hb, ?_⟩, lack_r7 e7 (hl1.2.2.2.2 8 (by decide) (by decide)) hl1.1⟩
    unfold metR
    rw [if_pos (iff1.mpr c), nI_clamp hq2]
    have k := (met_r7 (p := p) (q := q) (v := tw0 p (nI q) (tw1 p (nI q) v)) (u := tw0 p (nI q) v) (by rw [r1, r0, e7]) (wTh v)).1
    unfold metS at em ⊢
    rw [hl01.1, hl1.1, k]
    rw [hl0.1] at em
    exact em.symm.trans hm
  · refine ⟨⟨by rw [h31]; exact hb, ?_⟩, ?_⟩
    · unfold metR
      rw [if_neg (fun z => c (iff1.mp z))]
    · have ew : tw1 p Q v = tw0 p Q v := by unfold tw1 metW; rw [if_neg c]
      rw [ew]
      unfold tw0
      have k0 : lack (livW v p) p e = lack v p e := by
        rw [liv_b hb]
        exact lack_r7 rfl rfl rfl
      split
      · rename_i hv
        obtain ⟨q, hq, hq2, rfl⟩ := isP_of hv
        rw [nI_clamp hq2]
        have ht1 : wTh (livW v p) ≤ 6 := by rw [(livW_like v p).1]; exact hth
        rw [lack_vw (liv_off (p := q) (r := p) (v := livW v p) (fun z => hpq (by rw [z])) ht1) (by rw [(livW_like _ q).1]; exact ht1)]
        exact k0
      · exact k0
theorem tws_th (p : Nat) (Q : Int32) (w : Wd) (n : Nat) : wTh (tws p Q w n) = wTh w := (tws_like p Q w n).1
theorem stk_all {p : Nat} {Q : Int32} {w : Wd} {e : Nat} (hth : wTh w ≤ 6) (hp : p < 2 ^ 31) (hpq : Q ≠ nI p) (i : Nat) (h : stk p Q (tws p Q w i)) : ∀ n, stk p Q (tws p Q w (i + n)) ∧ lack (tws p Q w (i + n)) p e = lack (tws p Q w i) p e
  | 0 => ⟨h, rfl⟩
  | n + 1 => by
    have ih := stk_all (e := e) hth hp hpq i h n
    have k := stk_step (v := tws p Q w (i + n)) e (by rw [tws_th]; exact hth) hp hpq ih.1
    exact ⟨k.1, k.2.trans ih.2⟩
/-- DAYS till p could PAY at e, meeting Q -/
noncomputable def dtC (p : Nat) (Q : Int32) (e : Nat) (w : Wd) (k : Nat) : Bool := decide (lack (tws p Q w k) p e = 0)
noncomputable def dtp (p : Nat) (Q : Int32) (e : Nat) (w : Wd) (c d : Nat) : Option Nat := sk (dtC p Q e w) (lim c d)
theorem sk_eq {g g' : Nat → Bool} : ∀ {n}, (∀ j, j < n → g j = g' j) → sk g n = sk g' n
  | 0, _ => rfl
  | n + 1, h => by
    rw [sk, sk, sk_eq (fun j hj => h j (by omega)), h n (by omega)]
theorem dtp_free {p e d c : Nat} {w u : Wd} (h : Vw p w u) (hu : WOK u) (hd : wDay u = nI d) (hd4 : d ≤ 400) (hp : p < wPe u) (e6 : wI u 6 p = -1) : dtp p (-1) e w c d = sk (fun k => decide (lack (daysW u k) p e = 0)) (lim c d) := by
  have hl := lim_le (c := c) (d := d)
  refine sk_eq (fun j hj => ?_)
  unfold dtC
  rw [lack_vw (tws_free h hu hd hp e6 j (by omega)) (by rw [tws_th, h.1]; exact hu.1)]
theorem dtp_pair {p q e d c : Nat} {w u : Wd} (h : Vw p w u) (h2 : Vw q w u) (hu : WOK u) (hd : wDay u = nI d) (hd4 : d ≤ 400) (hp : p < wPe u) (hq : q < wPe u) (hpq : p ≠ q) (e6 : wI u 6 p = nI q) (e62 : wI u 6 q = nI p) : dtp p (nI q) e w c d = sk (fun k => decide (lack (daysW u k) p e = 0)) (lim c d) := by
  have hl := lim_le (c := c) (d := d)
  refine sk_eq (fun j hj => ?_)
  unfold dtC
  rw [lack_vw (tws_pair h h2 hu hd hp hq hpq e6 e62 j (by omega)).1 (by rw [tws_th, h.1]; exact hu.1)]

