/-! ===== what is true of every World stays true ===== -/
theorem lp_indn {α : Type} {f : Nat → α → α} {s : α} {P : α → Prop} (h0 : P s) : ∀ n, (∀ i x, i < n → P x → P (f i x)) → P (lp f s n)
  | 0, _ => h0
  | n + 1, hs => hs n _ (Nat.lt_succ_self n) (lp_indn h0 n (fun i x hi hx => hs i x (Nat.lt_succ_of_lt hi) hx))
theorem WOK.held {w : Wd} (hw : WOK w) {p t : Nat} (hp : p < wPe w) (ht : t < wTh w) {n : Int32} (hn : ∃ k, k ≤ 12 ∧ cap n = nI k) : WOK (wHeld w p t n) := by
  obtain ⟨h1, h2, h3, h4, h5, h6, h7, h8, h9, h10, h11⟩ := hw
  refine ⟨h1, h2, h3, fun q u hq hu hz => ?_, h5, h6, h7, h8, fun q u hq hu => ?_, h10, h11⟩
  · have hz : wPe w ≤ q ∨ wTh w ≤ u := hz
    rw [hld_n (by omega)]
    exact h4 q u hq hu hz
  · by_cases e : q * 6 + u = p * 6 + t
    · have e1 : q = p := by omega
      have e2 : u = t := by omega
      subst e1; subst e2
      rw [hld_s]
      exact hn
    · rw [hld_n e]
      exact h9 q u hq hu
theorem WOK.r4 {w : Wd} (hw : WOK w) (f : Nat → Int32) : WOK (wSetI w 4 f) := hw
theorem WOK.r5 {w : Wd} (hw : WOK w) (f : Nat → Int32) : WOK (wSetI w 5 f) := hw
theorem WOK.r3 {w : Wd} (hw : WOK w) {p k : Nat} (hk : k < 3) : WOK (wSetI w 3 (upd (wI w 3) p (nI k))) := by
  obtain ⟨h1, h2, h3, h4, h5, h6, h7, h8, h9, h10, h11⟩ := hw
  refine ⟨h1, h2, h3, h4, h5, fun q hq => ?_, h7, h8, h9, h10, h11⟩
  rw [wI_s]
  by_cases e : q = p
  · rw [e, upd_s]; exact ⟨k, hk, rfl⟩
  · rw [upd_n e]; exact h6 q hq
theorem WOK.go {w : Wd} (hw : WOK w) {p k : Nat} (hk : k < 3) : WOK (goW w p (nI k)) := ((hw.r3 hk).r4 _).r5 _
theorem WOK.toll {w : Wd} (hw : WOK w) {e t : Nat} (ht : t < wTh w) {k : Nat} (hk : k ≤ 12) : WOK (wToll w e t (nI k)) := by
  obtain ⟨h1, h2, h3, h4, h5, h6, h7, h8, h9, h10, h11⟩ := hw
  have key : ∀ d u, tol (wToll w e t (nI k)) d u = if d * 6 + u = e * 6 + t then nI k else tol w d u := by
    intro d u
    unfold tol wToll
    rw [wI_s]
    rfl
  refine ⟨h1, h2, h3, h4, fun d u hd hu hz => ?_, h6, h7, h8, h9, fun d u hd hu => ?_, h11⟩
  · have hz : wTh w ≤ u := hz
    have ht6 := h1
    rw [key, if_neg]
    · exact h5 d u hd hu hz
    · omega
  · rw [key]
    split
    · exact ⟨k, hk, rfl⟩
    · exact h10 d u hd hu
theorem WOK.meet {w : Wd} (hw : WOK w) {p q : Nat} (hp : p < wPe w) (hq : q < wPe w) (hpq : p ≠ q) (e1 : wI w 6 p = -1) (e2 : wI w 6 q = -1) : WOK (meetM w p q) := by
  obtain ⟨h1, h2, h3, h4, h5, h6, h7, h8, h9, h10, h11⟩ := hw
  refine ⟨h1, h2, h3, h4, h5, h6, h7, fun r hr => ?_, h9, h10, h11⟩
  have hr : r < wPe w := hr
  unfold meetM
  rw [wI_s]
  by_cases a : r = q
  · subst a
    right
    exact ⟨p, hp, hpq, by rw [upd_s], by rw [upd_n hpq, upd_s]⟩
  · by_cases b : r = p
    · subst b
      right
      exact ⟨q, hq, Ne.symm hpq, by rw [upd_n a, upd_s], by rw [upd_s]⟩
    · rw [upd_n a, upd_n b]
      rcases h8 r hr with e | ⟨x, hx, hxr, ex, ex2⟩
      · exact Or.inl e
      · right
        have hxq : x ≠ q := by
          intro e; subst e
          rw [e2] at ex2
          exact nI_pos (n := r) (by omega) (by rw [← ex2]; decide)
        have hxp : x ≠ p := by
          intro e; subst e
          rw [e1] at ex2
          exact nI_pos (n := r) (by omega) (by rw [← ex2]; decide)
        exact ⟨x, hx, hxr, ex, by rw [upd_n hxq, upd_n hxp]; exact ex2⟩
theorem nI_inj8 {a b : Nat} (ha : a < 8) (hb : b < 8) (h : nI a = nI b) : a = b := (nI_eq (by omega) (by omega)).mp h
theorem WOK.part {w : Wd} (hw : WOK w) {p q : Nat} (hp : p < wPe w) (hq : q < wPe w) (e1 : wI w 6 p = nI q) (e2 : wI w 6 q = nI p) : WOK (partM w p q) := by
  obtain ⟨h1, h2, h3, h4, h5, h6, h7, h8, h9, h10, h11⟩ := hw
  refine ⟨h1, h2, h3, h4, h5, h6, h7, fun r hr => ?_, h9, h10, h11⟩
  have hr : r < wPe w := hr
  unfold partM
  rw [wI_s]
  by_cases a : r = q
  · subst a
    exact Or.inl (by rw [upd_s])
  · by_cases b : r = p
    · subst b
      exact Or.inl (by rw [upd_n a, upd_s])
    · rw [upd_n a, upd_n b]
      rcases h8 r hr with e | ⟨x, hx, hxr, ex, ex2⟩
      · exact Or.inl e
      · right
        have hxq : x ≠ q := by
          intro e; subst e
          rw [e2] at ex2
          exact b (nI_inj8 (by omega) (by omega) ex2.symm)
        have hxp : x ≠ p := by
          intro e; subst e
          rw [e1] at ex2
          exact a (nI_inj8 (by omega) (by omega) ex2.symm)
        exact ⟨x, hx, hxr, ex, by rw [upd_n hxq, upd_n hxp]; exact ex2⟩
theorem WOK.un {w : Wd} (hw : WOK w) {p : Nat} (hp : p < wPe w) : WOK (unW w p) := by
  have hpe := hw.2.1
  unfold unW
  rcases hw.2.2.2.2.2.2.2.1 p hp with e | ⟨q, hq, hqp, e, e2⟩
  · rw [if_neg (by rw [unR_no e]; decide)]; exact hw
  · rw [if_pos (unR_yes hpe hq e), e, nI_clamp (by omega)]
    exact hw.part hp hq e e2
theorem WOK.pair {w : Wd} (hw : WOK w) {p q : Nat} (hp : p < wPe w) (hq : q < wPe w) : WOK (pairW w p q) := by
  unfold pairW
  split
  · rename_i e
    unfold pairR at e
    split at e
    · exact absurd e (by decide)
    · rename_i hpq
      split at e
      · exact absurd e (by decide)
      · rename_i hm
        have hm := not_or.mp hm
        exact hw.meet hp hq hpq (Classical.not_not.mp hm.1) (Classical.not_not.mp hm.2)
  · exact hw
theorem cap_add {k : Nat} (h : k ≤ 12) : ∃ j, j ≤ 12 ∧ cap (nI k + 1) = nI j := by
  rw [nI_1]
  by_cases e : k = 12
  · subst e; exact ⟨12, by omega, rfl⟩
  · exact ⟨k + 1, by omega, cap_le (by omega)⟩
theorem WOK.heldadd {w : Wd} (hw : WOK w) {p t : Nat} (hp : p < wPe w) (ht : t < wTh w) : WOK (wHeld w p t (hld w p t + 1)) := by
  have h1 := hw.1
  have h2 := hw.2.1
  obtain ⟨k, hk, e⟩ := hw.2.2.2.2.2.2.2.2.1 p t (by omega) (by omega)
  exact hw.held hp ht (by rw [e]; exact cap_add hk)
theorem WOK.liv {w : Wd} (hw : WOK w) {p : Nat} (hp : p < wPe w) : WOK (livW w p) := by
  have h0 : WOK (livO w p) := hw.r4 _
  unfold livW
  split
  · exact h0
  · refine (lp_indn (P := fun x => WOK x ∧ Like x (livO w p)) ⟨h0, Like.rf⟩ _ (fun i x hi hx => ⟨?_, livF_like i x hx.2⟩)).1
    unfold livF
    split
    · exact hx.1.heldadd (by rw [hx.2.2.1]; exact hp) (by rw [hx.2.1]; exact hi)
    · exact hx.1
theorem WOK.met {w : Wd} (hw : WOK w) {p q : Nat} (hp : p < wPe w) (hq : q < wPe w) : WOK (metS w p q).2 := by
  refine (lp_indn (P := fun s : Int32 × Wd => WOK s.2 ∧ (Like s.2 w ∧ (s.1 = 0 ∨ s.1 = 1))) (s := (0, w)) (f := metF p q) ⟨hw, Like.rf, Or.inl rfl⟩ _ (fun i x hi hx => ⟨?_, metF_like i x hx.2⟩)).1
  unfold metF
  split
  · exact hx.1.heldadd (by rw [hx.2.1.2.1]; exact hq) (by rw [hx.2.1.1]; exact hi)
  · split
    · exact hx.1.heldadd (by rw [hx.2.1.2.1]; exact hp) (by rw [hx.2.1.1]; exact hi)
    · exact hx.1
theorem WOK.mw {w : Wd} (hw : WOK w) {p : Nat} (hp : p < wPe w) (x : Int32) : WOK (metW w p x) := by
  unfold metW
  split
  · rename_i hk
    obtain ⟨q, hq, hq2, rfl⟩ := isP_of hk.1
    rw [nI_clamp hq2]
    exact hw.met hp hq
  · exact hw
theorem WOK.d1 {w : Wd} (hw : WOK w) (n : Nat) (hn : n ≤ wPe w) : WOK (lp (fun p u => livW u p) w n) := (lp_indn (P := fun x => WOK x ∧ Lik2 x w) ⟨hw, Lik2.rf⟩ n (fun i x hi hx => ⟨hx.1.liv (by rw [hx.2.2.1]; omega), (livW_like x i).trans hx.2⟩)).1
theorem WOK.d2 {w u : Wd} (hu : WOK u) (hl : Lik2 u w) (n : Nat) (hn : n ≤ wPe w) : WOK (lp day2F u n) := (lp_indn (P := fun x => WOK x ∧ Lik2 x w) ⟨hu, hl⟩ n (fun i x hi hx => ⟨by
  unfold day2F
  split
  · exact hx.1
  · exact hx.1.mw (by rw [hx.2.2.1]; omega) _, (day2F_like i x).to2.trans hx.2⟩)).1
theorem WOK.setday {w : Wd} (hw : WOK w) {d : Nat} (hd : d ≤ 400) : WOK (w.1, w.2.1, nI d, w.2.2.2) := by
  obtain ⟨h1, h2, h3, h4, h5, h6, h7, h8, h9, h10, h11⟩ := hw
  exact ⟨h1, h2, h3, h4, h5, h6, h7, h8, h9, h10, d, hd, rfl⟩
theorem WOK.day {w : Wd} (hw : WOK w) {d : Nat} (hd : d < 400) (e : wDay w = nI d) : WOK (dayW w) := by
  have h1 := (hw.d1 (wPe w) (Nat.le_refl _)).d2 (day1_like w _) (wPe w) (Nat.le_refl _)
  have h2 : wDay (day2 w) = nI d := by rw [← e]; exact (day2_like w _ _ (day1_like w _)).2.2.1
  have h3 := h1.setday (d := d + 1) (by omega)
  unfold dayW
  rw [show (day2 w).2.2.1 = nI d from h2, nI_1]
  exact h3

