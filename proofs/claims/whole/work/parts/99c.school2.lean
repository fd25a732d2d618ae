/-! ===== the class's way through the pairings is the model's ===== -/
/-- with the least so far, and the worst of those fixed -/
def tq (D : Nat → Nat → Nat) (N : Int32) : Nat → Int32 → (Nat → Int32) → Nat → Sst → Sst
  | 0, _, pr, x, st => if st.1 ≤ x then st else (x, cpF 0 0 pr st.2.1 8, N)
  | f + 1, left, pr, x, st => if st.1 ≤ x then st else if bt left (7 - f) then tq D N f (clr left (7 - f)) pr (mx x (D (7 - f) (7 - f))) (lp (fun j s => if bt left (8 - f + j) then tq D N f (clr (clr left (7 - f)) (8 - f + j)) (upd (upd pr (7 - f) (nI (8 - f + j))) (8 - f + j) (nI (7 - f))) (mx x (D (7 - f) (8 - f + j))) s else s) st f) else tq D N f left pr x st
theorem lp_eq {α : Type} {f g : Nat → α → α} {s : α} {P : α → Prop} (h0 : P s) : ∀ n, (∀ i x, i < n → P x → f i x = g i x ∧ P (g i x)) → lp f s n = lp g s n ∧ P (lp g s n)
  | 0, _ => ⟨rfl, h0⟩
  | n + 1, h => by
    obtain ⟨e, p⟩ := lp_eq h0 n (fun i x hi hx => h i x (by omega) hx)
    rw [lp_n, lp_n, e]
    exact h n _ (by omega) p
theorem lp_id {α : Type} {f : Nat → α → α} {s : α} : ∀ n, (∀ i, i < n → f i s = s) → lp f s n = s
  | 0, _ => rfl
  | n + 1, h => by rw [lp_n, lp_id n (fun i hi => h i (by omega)), h n (by omega)]
/-- nothing is found where the worst is not less than the least -/
theorem cp_skip {w : Wd} (hw : WOK w) {d : Nat} (hday : wDay w = nI d) (hd : d ≤ 400) {st : Sst} (hst : st.1 ≤ 61) : ∀ (f : Nat) (left : Int32) (pr : Nat → Int32), f ≤ 8 → prOK w pr left → (∀ j, j < 8 → bt left j = true → 8 - f ≤ j ∧ bt (bitsOf (atC w 1) (wPe w)) j = true) → st.1 ≤ WX w d (bitsOf (atC w 1) (wPe w)) left pr → cp (mLf w d (bitsOf (atC w 1) (wPe w))) f left pr st = st
  | 0, left, pr, _, hpr, hl, hx => by
    have h0 : ∀ j, j < 8 → bt left j = false := fun j hj => by
      cases e : bt left j
      · rfl
      · have := (hl j hj e).1; omega
    rw [cp, mLf_M hw hday hd hpr h0 hst, if_pos hx]
  | f + 1, left, pr, hf, hpr, hl, hx => by
    rw [cp]
    by_cases hb : bt left (7 - f) = true
    · rw [if_pos hb]
      have ha := (hl (7 - f) (by omega) hb).2
      rw [lp_id]
      · refine cp_skip hw hday hd hst f _ pr (by omega) (hpr.one (by omega)) (fun j hj hbj => ?_) ?_
        · rw [bt_clr' _ (by omega) (by omega), Bool.and_eq_true] at hbj
          have h1 := hl j hj hbj.1
          have h2 : ¬ j = 7 - f := by simpa using hbj.2
          exact ⟨by omega, h1.2⟩
        · rw [WX_one (by omega) hb ha]
          exact Nat.le_trans hx ((mx_le (m := mx _ _)).mp (Nat.le_refl _)).1
      · intro i hi
        split
        · rename_i hbq
          have hq := hl (8 - f + i) (by omega) hbq
          refine cp_skip hw hday hd hst f _ _ (by omega) (hpr.two hw.2.1 (by omega) (by omega) (by omega) hb hbq) (fun j hj hbj => ?_) ?_
          · rw [bt_clr' _ (by omega) (by omega), bt_clr' _ (by omega) (by omega), Bool.and_eq_true, Bool.and_eq_true] at hbj
            have h1 := hl j hj hbj.1.1
            have h2 : ¬ j = 7 - f := by simpa using hbj.1.2
            exact ⟨by omega, h1.2⟩
          · rw [WX_two (by omega) (by omega) (by omega) hb hbq ha hq.2]
            exact Nat.le_trans hx ((mx_le (m := mx _ _)).mp (Nat.le_refl _)).1
        · rfl
    · rw [if_neg hb]
      refine cp_skip hw hday hd hst f left pr (by omega) hpr (fun j hj hbj => ?_) hx
      have h1 := hl j hj hbj
      have h2 : j ≠ 7 - f := fun z => hb (z ▸ hbj)
      exact ⟨by omega, h1.2⟩
/-- the DAYS of two -/
noncomputable def dgD (w : Wd) (d p q : Nat) : Nat := if p = q then fd w d p (-1) else mx (fd w d p (nI q)) (fd w d q (nI p))
theorem tq_cp {w : Wd} (hw : WOK w) {d : Nat} (hday : wDay w = nI d) (hd : d ≤ 400) : ∀ (f : Nat) (left : Int32) (pr : Nat → Int32) (st : Sst), st.1 ≤ 61 → f ≤ 8 → prOK w pr left → (∀ j, j < 8 → bt left j = true → 8 - f ≤ j ∧ bt (bitsOf (atC w 1) (wPe w)) j = true) → tq (dgD w d) (nI (wPe w)) f left pr (WX w d (bitsOf (atC w 1) (wPe w)) left pr) st = cp (mLf w d (bitsOf (atC w 1) (wPe w))) f left pr st
  | 0, left, pr, st, hst, _, hpr, hl => by
    have h0 : ∀ j, j < 8 → bt left j = false := fun j hj => by
      cases e : bt left j
      · rfl
      · have := (hl j hj e).1; omega
    rw [tq, cp, mLf_M hw hday hd hpr h0 hst]
  | f + 1, left, pr, st, hst, hf, hpr, hl => by
    rw [tq]
    by_cases hx : st.1 ≤ WX w d (bitsOf (atC w 1) (wPe w)) left pr
    · rw [if_pos hx, cp_skip hw hday hd hst (f + 1) left pr hf hpr hl hx]
    · rw [if_neg hx, cp]
      by_cases hb : bt left (7 - f) = true
      · rw [if_pos hb, if_pos hb]
        have ha := (hl (7 - f) (by omega) hb).2
        have e1 : mx (WX w d (bitsOf (atC w 1) (wPe w)) left pr) (dgD w d (7 - f) (7 - f)) = WX w d (bitsOf (atC w 1) (wPe w)) (clr left (7 - f)) pr := by
          rw [WX_one (by omega) hb ha, (hpr.2 (7 - f) (by omega) hb).1]
          unfold dgD
          rw [if_pos rfl]
        rw [e1]
        have hL := lp_eq (s := st) (P := fun x : Sst => x.1 ≤ 61) hst f (f := fun j s => if bt left (8 - f + j) then tq (dgD w d) (nI (wPe w)) f (clr (clr left (7 - f)) (8 - f + j)) (upd (upd pr (7 - f) (nI (8 - f + j))) (8 - f + j) (nI (7 - f))) (mx (WX w d (bitsOf (atC w 1) (wPe w)) left pr) (dgD w d (7 - f) (8 - f + j))) s else s) (g := fun j s => if bt left (8 - f + j) then cp (mLf w d (bitsOf (atC w 1) (wPe w))) f (clr (clr left (7 - f)) (8 - f + j)) (upd (upd pr (7 - f) (nI (8 - f + j))) (8 - f + j) (nI (7 - f))) s else s) (fun i x hi hx' => by
          split
          · rename_i hbq
            have hq := hl (8 - f + i) (by omega) hbq
            have e2 : mx (WX w d (bitsOf (atC w 1) (wPe w)) left pr) (dgD w d (7 - f) (8 - f + i)) = WX w d (bitsOf (atC w 1) (wPe w)) (clr (clr left (7 - f)) (8 - f + i)) (upd (upd pr (7 - f) (nI (8 - f + i))) (8 - f + i) (nI (7 - f))) := by
              rw [WX_two (by omega) (by omega) (by omega) hb hbq ha hq.2]
              unfold dgD
              rw [if_neg (by omega)]
            rw [e2]
            refine ⟨tq_cp hw hday hd f _ _ x hx' (by omega) (hpr.two hw.2.1 (by omega) (by omega) (by omega) hb hbq) (fun j hj hbj => ?_), Nat.le_trans (cp_le (fun _ _ => mLf_le) f _ _ x) hx'⟩
            rw [bt_clr' _ (by omega) (by omega), bt_clr' _ (by omega) (by omega), Bool.and_eq_true, Bool.and_eq_true] at hbj
            have h1 := hl j hj hbj.1.1
            have h2 : ¬ j = 7 - f := by simpa using hbj.1.2
            exact ⟨by omega, h1.2⟩
          · exact ⟨rfl, hx'⟩)
        rw [hL.1]
        refine tq_cp hw hday hd f _ pr _ hL.2 (by omega) (hpr.one (by omega)) (fun j hj hbj => ?_)
        rw [bt_clr' _ (by omega) (by omega), Bool.and_eq_true] at hbj
        have h1 := hl j hj hbj.1
        have h2 : ¬ j = 7 - f := by simpa using hbj.2
        exact ⟨by omega, h1.2⟩
      · rw [if_neg hb, if_neg hb]
        refine tq_cp hw hday hd f left pr st hst (by omega) hpr (fun j hj hbj => ?_)
        have h1 := hl j hj hbj
        have h2 : j ≠ 7 - f := fun z => hb (z ▸ hbj)
        exact ⟨by omega, h1.2⟩

