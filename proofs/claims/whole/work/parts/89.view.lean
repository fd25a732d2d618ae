/-! ===== who learns from whom: one PERSON's part of a World ===== -/
theorem lp_0 {α : Type} {f : Nat → α → α} {s : α} : lp f s 0 = s := rfl
theorem lp_n {α : Type} {f : Nat → α → α} {s : α} {n : Nat} : lp f s (n + 1) = f n (lp f s n) := rfl
/-- v and u are alike in what p has and does -/
def Vw (p : Nat) (v u : Wd) : Prop := wTh v = wTh u ∧ wPe v = wPe u ∧ (∀ t, t < 6 → hld v p t = hld u p t) ∧ wI v 4 p = wI u 4 p ∧ wI v 3 = wI u 3 ∧ wI v 0 = wI u 0 ∧ wI v 1 = wI u 1 ∧ wI v 8 = wI u 8
theorem Vw.rf {p : Nat} {v : Wd} : Vw p v v := ⟨rfl, rfl, fun _ _ => rfl, rfl, rfl, rfl, rfl, rfl⟩
theorem Vw.trans {p : Nat} {a b c : Wd} (h : Vw p a b) (k : Vw p b c) : Vw p a c := ⟨h.1.trans k.1, h.2.1.trans k.2.1, fun t ht => (h.2.2.1 t ht).trans (k.2.2.1 t ht), h.2.2.2.1.trans k.2.2.2.1, h.2.2.2.2.1.trans k.2.2.2.2.1, h.2.2.2.2.2.1.trans k.2.2.2.2.2.1, h.2.2.2.2.2.2.1.trans k.2.2.2.2.2.2.1, h.2.2.2.2.2.2.2.trans k.2.2.2.2.2.2.2⟩
theorem Vw.symm {p : Nat} {a b : Wd} (h : Vw p a b) : Vw p b a := ⟨h.1.symm, h.2.1.symm, fun t ht => (h.2.2.1 t ht).symm, h.2.2.2.1.symm, h.2.2.2.2.1.symm, h.2.2.2.2.2.1.symm, h.2.2.2.2.2.2.1.symm, h.2.2.2.2.2.2.2.symm⟩
theorem Vw.held {p q t : Nat} {v u : Wd} {n : Int32} (h : Vw p v u) (ht : t < 6) : Vw p (wHeld v q t n) (wHeld u q t n) := by
  refine ⟨h.1, h.2.1, fun s hs => ?_, h.2.2.2.1, h.2.2.2.2.1, h.2.2.2.2.2.1, h.2.2.2.2.2.2.1, h.2.2.2.2.2.2.2⟩
  by_cases e : p * 6 + s = q * 6 + t
  · have e1 : p = q := by omega
    have e2 : s = t := by omega
    subst e1; subst e2
    rw [hld_s, hld_s]
  · rw [hld_n e, hld_n e]; exact h.2.2.1 s hs
theorem Vw.off {p q t : Nat} {v : Wd} {n : Int32} (hpq : p ≠ q) (ht : t < 6) : Vw p (wHeld v q t n) v := ⟨rfl, rfl, fun s hs => hld_n (by omega), rfl, rfl, rfl, rfl, rfl⟩
theorem Vw.lvO {p : Nat} {v u : Wd} (h : Vw p v u) : Vw p (livO v p) (livO u p) := by
  refine ⟨h.1, h.2.1, h.2.2.1, ?_, h.2.2.2.2.1, h.2.2.2.2.2.1, h.2.2.2.2.2.2.1, h.2.2.2.2.2.2.2⟩
  unfold livO
  rw [wI_s, wI_s, upd_s, upd_s, h.2.2.2.1]
theorem livC_eq {p t : Nat} {v u : Wd} (h : Vw p v u) : livC v p t = livC u p t := by
  unfold livC
  rw [h.2.2.2.2.2.1, h.2.2.2.2.1, h.2.2.2.2.2.2.1, h.2.2.2.1]
theorem Vw.liv {p : Nat} {v u : Wd} (h : Vw p v u) (hth : wTh v ≤ 6) : Vw p (livW v p) (livW u p) := by
  have h0 := h.lvO
  have hC : ∀ t, livC (livO v p) p t = livC (livO u p) p t := fun t => livC_eq h0
  unfold livW
  rw [h.2.2.2.2.1]
  split
  · exact h0
  · rw [h.1]
    have key : ∀ n, n ≤ 6 → Vw p (lp (livF (livO v p) p) (livO v p) n) (lp (livF (livO u p) p) (livO u p) n) := by
      intro n
      induction n with
      | zero => intro _; exact h0
      | succ n ih =>
        intro hn
        have ih := ih (by omega)
        rw [lp_n, lp_n]
        generalize lp (livF (livO v p) p) (livO v p) n = sv at *
        generalize lp (livF (livO u p) p) (livO u p) n = su at *
        unfold livF
        rw [hC n]
        split
        · rw [ih.2.2.1 n (by omega)]; exact ih.held (by omega)
        · exact ih
    exact key _ (by rw [← h.1]; exact hth)
theorem liv_off {p r : Nat} {v : Wd} (hr : r ≠ p) (hth : wTh v ≤ 6) : Vw r (livW v p) v := by
  have h0 : Vw r (livO v p) v := by
    refine ⟨rfl, rfl, fun _ _ => rfl, ?_, rfl, rfl, rfl, rfl⟩
    unfold livO
    rw [wI_s, upd_n hr]
  unfold livW
  split
  · exact h0
  · have key : ∀ n, n ≤ 6 → Vw r (lp (livF (livO v p) p) (livO v p) n) v := by
      intro n
      induction n with
      | zero => intro _; exact h0
      | succ n ih =>
        intro hn
        have ih := ih (by omega)
        rw [lp_n]
        generalize lp (livF (livO v p) p) (livO v p) n = sv at *
        unfold livF
        split
        · exact (Vw.off hr (by omega)).trans ih
        · exact ih
    exact key _ hth
theorem Vw.met {p q : Nat} {v u : Wd} (hp : Vw p v u) (hq : Vw q v u) (hth : wTh v ≤ 6) : Vw p (metS v p q).2 (metS u p q).2 ∧ Vw q (metS v p q).2 (metS u p q).2 ∧ (metS v p q).1 = (metS u p q).1 := by
  unfold metS
  rw [hp.1]
  have key : ∀ n, n ≤ 6 → Vw p (lp (metF p q) (0, v) n).2 (lp (metF p q) (0, u) n).2 ∧ Vw q (lp (metF p q) (0, v) n).2 (lp (metF p q) (0, u) n).2 ∧ (lp (metF p q) (0, v) n).1 = (lp (metF p q) (0, u) n).1 := by
    intro n
    induction n with
    | zero => intro _; exact ⟨hp, hq, rfl⟩
    | succ n ih =>
      intro hn
      obtain ⟨a, b, c⟩ := ih (by omega)
      show Vw p (metF p q n (lp _ _ n)).2 (metF p q n (lp _ _ n)).2 ∧ Vw q (metF p q n (lp _ _ n)).2 (metF p q n (lp _ _ n)).2 ∧ (metF p q n (lp _ _ n)).1 = (metF p q n (lp _ _ n)).1
      generalize lp (metF p q) (0, v) n = sv at *
      generalize lp (metF p q) (0, u) n = su at *
      unfold metF
      rw [a.2.2.1 n (by omega), b.2.2.1 n (by omega)]
      split
      · exact ⟨a.held (by omega), b.held (by omega), rfl⟩
      · split
        · exact ⟨a.held (by omega), b.held (by omega), rfl⟩
        · exact ⟨a, b, c⟩
  exact key _ (by rw [← hp.1]; exact hth)
theorem met_off {p q r : Nat} {v : Wd} (h1 : r ≠ p) (h2 : r ≠ q) (hth : wTh v ≤ 6) : Vw r (metS v p q).2 v := by
  unfold metS
  have key : ∀ n, n ≤ 6 → Vw r (lp (metF p q) (0, v) n).2 v := by
    intro n
    induction n with
    | zero => intro _; exact Vw.rf
    | succ n ih =>
      intro hn
      show Vw r (metF p q n (lp _ _ n)).2 v
      have ih := ih (by omega)
      generalize lp (metF p q) (0, v) n = sv at *
      unfold metF
      split
      · exact (Vw.off h2 (by omega)).trans ih
      · split
        · exact (Vw.off h1 (by omega)).trans ih
        · exact ih
  exact key _ hth
theorem met_0 {p q : Nat} {v : Wd} : ∀ n, (lp (metF p q) (0, v) n).1 = 0 → (lp (metF p q) (0, v) n).2 = v
  | 0, _ => rfl
  | n + 1, h => by
    have ih := met_0 (p := p) (q := q) (v := v) n
    rw [show lp (metF p q) (0, v) (n + 1) = metF p q n (lp (metF p q) (0, v) n) from rfl] at h ⊢
    generalize lp (metF p q) (0, v) n = sv at *
    unfold metF at h ⊢
    split at h
    · cases h
    · rename_i c1
      rw [if_neg c1]
      split at h
      · cases h
      · rename_i c2
        rw [if_neg c2]
        exact ih h
theorem metF_sym {p q t : Nat} {s : Int32 × Wd} {a b : Nat} (ha : a ≤ 12) (hb : b ≤ 12) (ea : hld s.2 p t = nI a) (eb : hld s.2 q t = nI b) : metF p q t s = metF q p t s := by
  unfold metF
  rw [ea, eb]
  have e1 : (nI a - nI b < 2) = (a < b + 2) := by
    rw [Int32.lt_iff_toInt_lt, pk_sub_toInt (by omega) (by omega)]
    show ((a : Int) - b < 2) = _
    exact propext (by omega)
  have e2 : (-2 < nI a - nI b) = (b < a + 2) := by
    rw [Int32.lt_iff_toInt_lt, pk_sub_toInt (by omega) (by omega)]
    show ((-2 : Int) < (a : Int) - b) = _
    exact propext (by omega)
  have e3 : (nI b - nI a < 2) = (b < a + 2) := by
    rw [Int32.lt_iff_toInt_lt, pk_sub_toInt (by omega) (by omega)]
    show ((b : Int) - a < 2) = _
    exact propext (by omega)
  have e4 : (-2 < nI b - nI a) = (a < b + 2) := by
    rw [Int32.lt_iff_toInt_lt, pk_sub_toInt (by omega) (by omega)]
    show ((-2 : Int) < (b : Int) - a) = _
    exact propext (by omega)
  by_cases c1 : a < b + 2
  · by_cases c2 : b < a + 2
    · rw [if_neg (by rw [e1]; exact fun z => z c1), if_neg (by rw [e2]; exact fun z => z c2), if_neg (by rw [e3]; exact fun z => z c2), if_neg (by rw [e4]; exact fun z => z c1)]
    · rw [if_neg (by rw [e1]; exact fun z => z c1), if_pos (by rw [e2]; exact c2), if_pos (by rw [e3]; exact c2)]
  · rw [if_pos (by rw [e1]; exact c1), if_neg (by rw [e3]; exact fun z => z (by omega)), if_pos (by rw [e4]; exact c1)]
theorem metS_sym {w : Wd} (hw : WOK w) {p q : Nat} (hp : p < wPe w) (hq : q < wPe w) : metS w p q = metS w q p := by
  have hth := hw.1
  have hpe := hw.2.1
  unfold metS
  have key : ∀ n, n ≤ wTh w → lp (metF p q) (0, w) n = lp (metF q p) (0, w) n := by
    intro n
    induction n with
    | zero => intro _; rw [lp_0, lp_0]
    | succ n ih =>
      intro hn
      have ih := ih (by omega)
      rw [lp_n, lp_n, ← ih]
      have e1 := met_later (w := w) (p := p) (q := q) (r := p) (t := n) (by omega) (by omega) (by omega) (by omega) n (Nat.le_refl _)
      have e2 := met_later (w := w) (p := p) (q := q) (r := q) (t := n) (by omega) (by omega) (by omega) (by omega) n (Nat.le_refl _)
      obtain ⟨a, ha, ea⟩ := hw.2.2.2.2.2.2.2.2.1 p n (by omega) (by omega)
      obtain ⟨b, hb, eb⟩ := hw.2.2.2.2.2.2.2.2.1 q n (by omega) (by omega)
      exact metF_sym ha hb (e1.trans ea) (e2.trans eb)
  exact key _ (Nat.le_refl _)
theorem lack_vw {p e : Nat} {v u : Wd} (h : Vw p v u) (hth : wTh v ≤ 6) : lack v p e = lack u p e := by
  unfold lack
  rw [← h.1]
  have key : ∀ n, n ≤ 6 → lp (lackF v p e) 0 n = lp (lackF u p e) 0 n := by
    intro n
    induction n with
    | zero => intro _; rw [lp_0, lp_0]
    | succ n ih =>
      intro hn
      rw [lp_n, lp_n, ih (by omega)]
      unfold lackF
      rw [h.2.2.1 n (by omega), show tol v e n = tol u e n from by unfold tol; rw [h.2.2.2.2.2.2.2]]
  exact key _ hth

