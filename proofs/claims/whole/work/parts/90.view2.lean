/-! ===== a day of two PERSONS is their part of a day of all ===== -/
theorem d1_view {w : Wd} (hth : wTh w ≤ 6) : ∀ n r, Vw r (lp (fun p u => livW u p) w n) (if r < n then livW w r else w)
  | 0, r => by rw [lp_0, if_neg (Nat.not_lt_zero r)]; exact Vw.rf
  | n + 1, r => by
    have ih := d1_view hth n r
    have hl := day1_like w n
    rw [lp_n]
    generalize lp (fun p u => livW u p) w n = v at *
    have hv : wTh v ≤ 6 := by rw [hl.1]; exact hth
    by_cases e : r = n
    · subst e
      rw [if_neg (Nat.lt_irrefl r)] at ih
      rw [if_pos (Nat.lt_succ_self r)]
      exact ih.liv hv
    · have h1 := liv_off (p := n) (r := r) (v := v) e hv
      by_cases e2 : r < n
      · rw [if_pos e2] at ih; rw [if_pos (by omega)]; exact h1.trans ih
      · rw [if_neg e2] at ih; rw [if_neg (by omega)]; exact h1.trans ih
theorem day2F_off {x : Wd} {i r : Nat} (hth : wTh x ≤ 6) (h : wI x 6 i ≤ nI i ∨ (r ≠ i ∧ ∀ q, q < 2 ^ 31 → wI x 6 i = nI q → r ≠ q)) : Vw r (day2F i x) x := by
  unfold day2F
  rcases h with h | ⟨h1, h2⟩
  · rw [if_pos h]; exact Vw.rf
  · split
    · exact Vw.rf
    · unfold metW
      split
      · rename_i hk
        obtain ⟨q, hq, hq2, e⟩ := isP_of hk.1
        rw [e, nI_clamp hq2]
        exact met_off h1 (h2 q hq2 e) hth
      · exact Vw.rf
theorem metOk_vw {p q : Nat} {v u : Wd} {x : Int32} (h : Vw p v u) : metOk v p x ↔ metOk u p x := by
  unfold metOk
  rw [h.2.1, h.2.2.2.2.1]
theorem Vw.mw {p q : Nat} {v u : Wd} (hp : Vw p v u) (hq : Vw q v u) (hq2 : q < 2 ^ 31) (hth : wTh v ≤ 6) : Vw p (metW v p (nI q)) (metW u p (nI q)) ∧ Vw q (metW v p (nI q)) (metW u p (nI q)) := by
  unfold metW
  rw [nI_clamp hq2]
  by_cases c : metOk v p (nI q)
  · rw [if_pos c, if_pos ((metOk_vw (q := q) hp).mp c)]
    exact ⟨(hp.met hq hth).1, (hp.met hq hth).2.1⟩
  · rw [if_neg c, if_neg (fun z => c ((metOk_vw (q := q) hp).mpr z))]
    exact ⟨hp, hq⟩
theorem metW_sym {w : Wd} (hw : WOK w) {p q : Nat} (hp : p < wPe w) (hq : q < wPe w) : metW w p (nI q) = metW w q (nI p) := by
  have h8 := hw.2.1
  unfold metW
  rw [nI_clamp (by omega), nI_clamp (by omega), metS_sym hw hp hq]
  have e : metOk w p (nI q) ↔ metOk w q (nI p) := by
    unfold metOk
    rw [nI_clamp (by omega), nI_clamp (by omega)]
    constructor
    · rintro ⟨-, h⟩; exact ⟨⟨nI_pos (by omega), nI_ge hp (by omega)⟩, h.symm⟩
    · rintro ⟨-, h⟩; exact ⟨⟨nI_pos (by omega), nI_ge hq (by omega)⟩, h.symm⟩
  by_cases c : metOk w p (nI q)
  · rw [if_pos c, if_pos (e.mp c)]
  · rw [if_neg c, if_neg (fun z => c (e.mpr z))]
theorem d2_pair {v : Wd} (hv : WOK v) {a b : Nat} (hab : a < b) (hb : b < wPe v) (ea : wI v 6 a = nI b) (eb : wI v 6 b = nI a) : ∀ n, n ≤ wPe v → ∀ r, r = a ∨ r = b → Vw r (lp day2F v n) (if a < n then metW v a (nI b) else v)
  | 0, _, r, _ => by rw [lp_0, if_neg (Nat.not_lt_zero a)]; exact Vw.rf
  | n + 1, hn, r, hr => by
    have ih := d2_pair hv hab hb ea eb n (by omega)
    have hl := day2_like v v n Lik2.rf
    have h8 := hv.2.1
    rw [lp_n]
    generalize lp day2F v n = x at *
    have h6 : wI x 6 = wI v 6 := hl.2.2.2.2 6 (by decide) (by decide)
    have hth : wTh x ≤ 6 := by rw [hl.1]; exact hv.1
    by_cases e : n = a
    · subst e
      rw [if_pos (Nat.lt_succ_self n)]
      have i1 := ih n (Or.inl rfl)
      have i2 := ih b (Or.inr rfl)
      rw [if_neg (Nat.lt_irrefl n)] at i1 i2
      have k := i1.mw i2 (by omega) hth
      unfold day2F
      rw [h6, ea, if_neg (nI_ge hab (by omega))]
      rcases hr with rfl | rfl
      · exact k.1
      · exact k.2
    · have i1 := ih r hr
      have off : Vw r (day2F n x) x := by
        refine day2F_off hth ?_
        rw [h6]
        by_cases e2 : n = b
        · subst e2; left; rw [eb]; exact nI_le (by omega) (by omega)
        · right
          refine ⟨by omega, fun q hq eq => ?_⟩
          rintro rfl
          rcases hv.2.2.2.2.2.2.2.1 n (by omega) with k | ⟨q', hq', -, k1, k2⟩
          · rw [k] at eq; exact nI_ne1 hq eq.symm
          · have : q' = r := (nI_eq (by omega) (by omega)).mp (k1.symm.trans eq)
            subst this
            rcases hr with rfl | rfl
            · rw [ea] at k2; have := (nI_eq (by omega) (by omega)).mp k2; omega
            · rw [eb] at k2; have := (nI_eq (by omega) (by omega)).mp k2; omega
      by_cases e3 : a < n
      · rw [if_pos e3] at i1; rw [if_pos (by omega)]; exact off.trans i1
      · rw [if_neg e3] at i1; rw [if_neg (by omega)]; exact off.trans i1
theorem d2_free {v : Wd} (hv : WOK v) {r : Nat} (hr : r < wPe v) (er : wI v 6 r = -1) : ∀ n, n ≤ wPe v → Vw r (lp day2F v n) v
  | 0, _ => by rw [lp_0]; exact Vw.rf
  | n + 1, hn => by
    have ih := d2_free hv hr er n (by omega)
    have hl := day2_like v v n Lik2.rf
    have h8 := hv.2.1
    rw [lp_n]
    generalize lp day2F v n = x at *
    have h6 : wI x 6 = wI v 6 := hl.2.2.2.2 6 (by decide) (by decide)
    refine (day2F_off (by rw [hl.1]; exact hv.1) ?_).trans ih
    rw [h6]
    by_cases e : n = r
    · subst e; left; rw [er]; exact Int32.le_of_lt (Int32.lt_iff_toInt_lt.mpr (by rw [nI_toInt (by omega)]; show (-1 : Int) < _; omega))
    · right
      refine ⟨fun z => e z.symm, fun q hq eq => ?_⟩
      rintro rfl
      rcases hv.2.2.2.2.2.2.2.1 n (by omega) with k | ⟨q', hq', -, k1, k2⟩
      · rw [k] at eq; exact nI_ne1 hq eq.symm
      · have : q' = r := (nI_eq (by omega) (by omega)).mp (k1.symm.trans eq)
        subst this
        rw [er] at k2; exact nI_ne1 (by omega) k2.symm
theorem day_vw {r : Nat} {w : Wd} : Vw r (dayW w) (lp day2F (day1 w) (wPe w)) := ⟨rfl, rfl, fun _ _ => rfl, rfl, rfl, rfl, rfl, rfl⟩
/-- the two who are looked at, before and behind their meeting -/
noncomputable def tw0 (p : Nat) (Q : Int32) (v : Wd) : Wd := if vI (wPe v) Q then livW (livW v p) Q.toNatClampNeg else livW v p
noncomputable def tw1 (p : Nat) (Q : Int32) (v : Wd) : Wd := metW (tw0 p Q v) p Q
noncomputable def tws (p : Nat) (Q : Int32) (w : Wd) (n : Nat) : Wd := lp (fun _ v => tw1 p Q v) w n
theorem vI_m1 {n : Nat} : ¬ vI n (-1) := fun h => h.1 (by decide)
theorem metW_m1 {v : Wd} {p : Nat} : metW v p (-1) = v := if_neg (fun h => vI_m1 h.1)
theorem tw0_like (p : Nat) (Q : Int32) (v : Wd) : Lik2 (tw0 p Q v) v := by
  unfold tw0
  split
  · exact (livW_like _ _).trans (livW_like _ _)
  · exact livW_like _ _
theorem tw1_like (p : Nat) (Q : Int32) (v : Wd) : Lik2 (tw1 p Q v) v := (metW_like _ _ _).to2.trans (tw0_like p Q v)
theorem tws_like (p : Nat) (Q : Int32) (w : Wd) (n : Nat) : Lik2 (tws p Q w n) w := lp_ind (P := fun x => Lik2 x w) Lik2.rf (fun _ x hx => (tw1_like p Q x).trans hx) n
theorem tw1_free {p : Nat} {v u : Wd} (h : Vw p v u) (hu : WOK u) (hp : p < wPe u) (e : wI u 6 p = -1) : Vw p (tw1 p (-1) v) (dayW u) := by
  have hth : wTh v ≤ 6 := by rw [h.1]; exact hu.1
  have h1 : tw1 p (-1) v = livW v p := by unfold tw1 tw0; rw [metW_m1, if_neg vI_m1]
  rw [h1]
  have hl := day1_like u (wPe u)
  have hd := d1_view hu.1 (wPe u) p
  rw [if_pos hp] at hd
  have hw1 := hu.d1 (wPe u) (Nat.le_refl _)
  have k := d2_free hw1 (r := p) (by rw [hl.2.1]; exact hp) (by rw [hl.2.2.2.2 6 (by decide) (by decide)]; exact e) (wPe u) (by rw [hl.2.1]; exact Nat.le_refl _)
  exact (h.liv hth).trans (hd.symm.trans (k.symm.trans day_vw.symm))
theorem tw1_pair {p q : Nat} {v u : Wd} (h : Vw p v u) (h2 : Vw q v u) (hu : WOK u) (hp : p < wPe u) (hq : q < wPe u) (hpq : p ≠ q) (e : wI u 6 p = nI q) (e2 : wI u 6 q = nI p) : Vw p (tw1 p (nI q) v) (dayW u) ∧ Vw q (tw1 p (nI q) v) (dayW u) := by
  have h8 := hu.2.1
  have hth : wTh v ≤ 6 := by rw [h.1]; exact hu.1
  have h0 : tw0 p (nI q) v = livW (livW v p) q := by
    unfold tw0
    rw [h.2.1, if_pos ⟨nI_pos (by omega), nI_ge hq (by omega)⟩, nI_clamp (by omega)]
  have hth1 : wTh (livW v p) ≤ 6 := by rw [(livW_like v p).1]; exact hth
  have hth2 : wTh (livW (livW v p) q) ≤ 6 := by rw [(livW_like _ q).1]; exact hth1
  have hl := day1_like u (wPe u)
  have hw1 := hu.d1 (wPe u) (Nat.le_refl _)
  have dp := d1_view hu.1 (wPe u) p
  rw [if_pos hp] at dp
  have dq := d1_view hu.1 (wPe u) q
  rw [if_pos hq] at dq
  have ap : Vw p (livW (livW v p) q) (day1 u) := (liv_off hpq hth1).trans ((h.liv hth).trans dp.symm)
  have aq : Vw q (livW (livW v p) q) (day1 u) := (((liv_off (fun z => hpq z.symm) hth).trans h2).liv hth1).trans dq.symm
  have m := ap.mw aq (by omega) hth2
  have l6 : wI (day1 u) 6 = wI u 6 := hl.2.2.2.2 6 (by decide) (by decide)
  have lpe : wPe (day1 u) = wPe u := hl.2.1
  have both : ∀ r, r = p ∨ r = q → Vw r (lp day2F (day1 u) (wPe u)) (metW (day1 u) p (nI q)) := by
    intro r hr
    rcases Nat.lt_or_gt_of_ne hpq with c | c
    · have k := d2_pair hw1 (a := p) (b := q) c (by rw [hl.2.1]; exact hq) (by rw [show wI (lp (fun p u => livW u p) u (wPe u)) 6 = wI u 6 from l6]; exact e) (by rw [show wI (lp (fun p u => livW u p) u (wPe u)) 6 = wI u 6 from l6]; exact e2) (wPe u) (by rw [hl.2.1]; exact Nat.le_refl _) r hr
      rw [if_pos hp] at k
      exact k
    · have k := d2_pair hw1 (a := q) (b := p) c (by rw [hl.2.1]; exact hp) (by rw [show wI (lp (fun p u => livW u p) u (wPe u)) 6 = wI u 6 from l6]; exact e2) (by rw [show wI (lp (fun p u => livW u p) u (wPe u)) 6 = wI u 6 from l6]; exact e) (wPe u) (by rw [hl.2.1]; exact Nat.le_refl _) r hr.symm
      rw [if_pos hq] at k
      rw [metW_sym (w := day1 u) hw1 (by rw [lpe]; exact hp) (by rw [lpe]; exact hq)]
      exact k
  unfold tw1
  rw [h0]
  exact ⟨m.1.trans ((both p (Or.inl rfl)).symm.trans day_vw.symm), m.2.trans ((both q (Or.inr rfl)).symm.trans day_vw.symm)⟩

