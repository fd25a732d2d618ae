/-! ===== the school: what a pairing costs ===== -/
/-- the DAYS of p, meeting Q; 1000: never -/
noncomputable def fd (w : Wd) (d p : Nat) (Q : Int32) : Nat := match dtp p Q (wE w p) w 61 d with
  | none => 1000
  | some k => k
theorem fd_n {w : Wd} {d p : Nat} {Q : Int32} (h : dtp p Q (wE w p) w 61 d = none) : fd w d p Q = 1000 := by unfold fd; rw [h]
theorem fd_s {w : Wd} {d p k : Nat} {Q : Int32} (h : dtp p Q (wE w p) w 61 d = some k) : fd w d p Q = k := by unfold fd; rw [h]
theorem fd_or (w : Wd) (d p : Nat) (Q : Int32) : fd w d p Q = 1000 ∨ fd w d p Q < lim 61 d := by
  cases h : dtp p Q (wE w p) w 61 d with
  | none => exact Or.inl (fd_n h)
  | some k => right; rw [fd_s h]; exact sk_lt h
/-- the most of those whose mate is fixed -/
noncomputable def wxF (w : Wd) (d : Nat) (all left : Int32) (pr : Nat → Int32) (p m : Nat) : Nat := if bt all p = true ∧ bt left p = false then (if m < fd w d p (pr p) then fd w d p (pr p) else m) else m
noncomputable def WX (w : Wd) (d : Nat) (all left : Int32) (pr : Nat → Int32) : Nat := lp (wxF w d all left pr) 0 8
theorem wx_le {w : Wd} {d m : Nat} {all left : Int32} {pr : Nat → Int32} : ∀ n, lp (wxF w d all left pr) 0 n ≤ m ↔ ∀ p, p < n → bt all p = true → bt left p = false → fd w d p (pr p) ≤ m
  | 0 => ⟨fun _ p hp => absurd hp (Nat.not_lt_zero p), fun _ => Nat.zero_le _⟩
  | n + 1 => by
    have ih := wx_le (w := w) (d := d) (m := m) (all := all) (left := left) (pr := pr) n
    rw [lp_n]
    generalize lp (wxF w d all left pr) 0 n = s at *
    unfold wxF
    constructor
    · intro h p hp ha hb
      split at h
      · split at h
        · rename_i c1 c2
          by_cases e : p = n
          · subst e; exact h
          · exact (ih.mp (by omega)) p (by omega) ha hb
        · rename_i c1 c2
          by_cases e : p = n
          · subst e; omega
          · exact (ih.mp h) p (by omega) ha hb
      · rename_i c1
        by_cases e : p = n
        · subst e; exact absurd ⟨ha, hb⟩ c1
        · exact (ih.mp h) p (by omega) ha hb
    · intro h
      have h1 := ih.mpr (fun p hp => h p (by omega))
      split
      · rename_i c1
        have := h n (by omega) c1.1 c1.2
        split <;> omega
      · exact h1
theorem WX_le {w : Wd} {d m : Nat} {all left : Int32} {pr : Nat → Int32} : WX w d all left pr ≤ m ↔ ∀ p, p < 8 → bt all p = true → bt left p = false → fd w d p (pr p) ≤ m := wx_le 8
theorem eq_of_le {a b : Nat} (h : ∀ m, a ≤ m ↔ b ≤ m) : a = b := by
  have h1 := (h a).mp (Nat.le_refl _)
  have h2 := (h b).mpr (Nat.le_refl _)
  omega
def mx (a b : Nat) : Nat := if a < b then b else a
theorem mx_le {a b m : Nat} : mx a b ≤ m ↔ a ≤ m ∧ b ≤ m := by unfold mx; split <;> omega
theorem WX_one {w : Wd} {d p : Nat} {all left : Int32} {pr : Nat → Int32} (hp : p < 8) (hb : bt left p = true) (ha : bt all p = true) : WX w d all (clr left p) pr = mx (WX w d all left pr) (fd w d p (pr p)) := by
  refine eq_of_le (fun m => ?_)
  rw [mx_le, WX_le, WX_le]
  constructor
  · intro h
    refine ⟨fun q hq a b => h q hq a (by rw [bt_clr' _ hp (by omega), b]; rfl), h p hp ha (by rw [bt_clr' _ hp (by omega)]; simp)⟩
  · rintro ⟨h1, h2⟩ q hq a b
    by_cases e : q = p
    · subst e; exact h2
    · refine h1 q hq a ?_
      rw [bt_clr' _ hp (by omega), decide_eq_false e] at b
      simpa using b
theorem WX_two {w : Wd} {d p q : Nat} {all left : Int32} {pr : Nat → Int32} (hp : p < 8) (hq : q < 8) (hpq : p ≠ q) (bp : bt left p = true) (bq : bt left q = true) (ap : bt all p = true) (aq : bt all q = true) : WX w d all (clr (clr left p) q) (upd (upd pr p (nI q)) q (nI p)) = mx (WX w d all left pr) (mx (fd w d p (nI q)) (fd w d q (nI p))) := by
  refine eq_of_le (fun m => ?_)
  rw [mx_le, mx_le, WX_le, WX_le]
  have ep : upd (upd pr p (nI q)) q (nI p) p = nI q := by rw [upd_n hpq, upd_s]
  have eq : upd (upd pr p (nI q)) q (nI p) q = nI p := upd_s
  constructor
  · intro h
    refine ⟨fun r hr a b => ?_, ?_, ?_⟩
    · have rp : r ≠ p := fun z => by rw [z, bp] at b; cases b
      have rq : r ≠ q := fun z => by rw [z, bq] at b; cases b
      have k := h r hr a (by rw [bt_clr' _ hq (by omega), bt_clr' _ hp (by omega), b]; rfl)
      rw [upd_n rq, upd_n rp] at k
      exact k
    · have k := h p hp ap (by rw [bt_clr' _ hq (by omega), bt_clr' _ hp (by omega)]; simp)
      rw [ep] at k; exact k
    · have k := h q hq aq (by rw [bt_clr' _ hq (by omega)]; simp)
      rw [eq] at k; exact k
  · rintro ⟨h1, h2, h3⟩ r hr a b
    by_cases rq : r = q
    · subst rq; rw [eq]; exact h3
    · by_cases rp : r = p
      · subst rp; rw [ep]; exact h2
      · rw [upd_n rq, upd_n rp]
        refine h1 r hr a ?_
        rw [bt_clr' _ hq (by omega), bt_clr' _ hp (by omega), decide_eq_false rq, decide_eq_false rp] at b
        simpa using b
/-- in a whole pairing, p could PAY on day k just if his DAYS are not more -/
theorem pay_fd {w : Wd} (hw : WOK w) {d : Nat} (hday : wDay w = nI d) (hd : d ≤ 400) {pr : Nat → Int32} {left : Int32} (hpr : prOK w pr left) {p k : Nat} (hp : p < wPe w) (hk : k < lim 61 d) : payC (daysW (wSetI w 6 pr) k) p = true ↔ fd w d p (pr p) ≤ k := by
  have hu := hw.mates hpr
  have h8 := hw.2.1
  have hlim := lim_le (c := 61) (d := d)
  have eS : dtp p (pr p) (wE w p) w 61 d = sk (fun k => decide (lack (daysW (wSetI w 6 pr) k) p (wE w p) = 0)) (lim 61 d) := by
    rcases hpr.1 p hp with e | ⟨q, hq, hqp, e1, e2⟩
    · rw [e]; exact dtp_free Vw.r6 hu hday hd hp e
    · rw [e1]; exact dtp_pair Vw.r6 Vw.r6 hu hday hd hp hq (fun z => hqp z.symm) e1 e2
  have eP : payC (daysW (wSetI w 6 pr) k) p = true ↔ lack (daysW (wSetI w 6 pr) k) p (wE w p) = 0 := by
    have h2 : wI (daysW (wSetI w 6 pr) k) 2 = wI w 2 := lp_ind (s := wSetI w 6 pr) (P := fun x => wI x 2 = wI w 2) rfl (fun _ x hx => (dayW_row x 2 (by decide) (by decide)).trans hx) k
    unfold payC wE
    rw [h2, beq_iff_eq]
  rw [eP]
  rcases sk_or (fun k => decide (lack (daysW (wSetI w 6 pr) k) p (wE w p) = 0)) (lim 61 d) with ⟨h1, h2⟩ | ⟨j, hj, h1, h2, h3⟩
  · rw [fd_n (eS.trans h1)]
    exact ⟨fun z => absurd z (of_decide_eq_false (h2 k hk)), fun z => by omega⟩
  · rw [fd_s (eS.trans h1)]
    constructor
    · intro z
      rcases Nat.lt_or_ge k j with c | c
      · exact absurd z (of_decide_eq_false (h3 k c))
      · exact c
    · intro z
      have m := lack_days hu (d := d) hday (p := p) (e := wE w p) hp (i := j) (of_decide_eq_true h2) (k - j) (by omega)
      rw [show j + (k - j) = k by omega] at m
      exact m
theorem mLf_M {w : Wd} (hw : WOK w) {d : Nat} (hday : wDay w = nI d) (hd : d ≤ 400) {pr : Nat → Int32} {left : Int32} (hpr : prOK w pr left) (hl : ∀ j, j < 8 → bt left j = false) {st : Sst} (hst : st.1 ≤ 61) : mLf w d (bitsOf (atC w 1) (wPe w)) pr st = if st.1 ≤ WX w d (bitsOf (atC w 1) (wPe w)) left pr then st else (WX w d (bitsOf (atC w 1) (wPe w)) left pr, cpF 0 0 pr st.2.1 8, nI (wPe w)) := by
  have h8 := hw.2.1
  have hlim := lim_le (c := 61) (d := d)
  have ba : ∀ p, p < 8 → bt (bitsOf (atC w 1) (wPe w)) p = (decide (p < wPe w) && atC w 1 p) := fun p hp => bt_bits _ _ h8 p (by omega)
  have g : ∀ k, k < lim 61 d → (gd (bitsOf (atC w 1) (wPe w)) (wSetI w 6 pr) k = true ↔ WX w d (bitsOf (atC w 1) (wPe w)) left pr ≤ k) := by
    intro k hk
    rw [WX_le]
    unfold gd
    rw [decide_eq_true_iff, show wPe (daysW (wSetI w 6 pr) k) = wPe w from (daysW_th _ k).2, sub_bits h8]
    constructor
    · intro h p hp a _
      rw [ba p hp, Bool.and_eq_true] at a
      have hpw := of_decide_eq_true a.1
      exact (pay_fd hw hday hd hpr hpw hk).mp (h p hpw a.2)
    · intro h p hp a
      exact (pay_fd hw hday hd hpr hp hk).mpr (h p (by omega) (by rw [ba p (by omega), decide_eq_true hp, a]; rfl) (hl p (by omega)))
  generalize hM : WX w d (bitsOf (atC w 1) (wPe w)) left pr = M at *
  have hlc : lim st.1 d ≤ lim 61 d := by unfold lim; split <;> split <;> omega
  have hMl : M < 61 → M < 401 - d := by
    intro h61
    rcases Nat.lt_or_ge M (401 - d) with c | c
    · exact c
    · have k : WX w d (bitsOf (atC w 1) (wPe w)) left pr ≤ 400 - d := by
        rw [WX_le]
        intro p hp a b
        have e1 : fd w d p (pr p) ≤ M := by rw [← hM] at *; exact (WX_le.mp (Nat.le_refl _)) p hp a b
        rcases fd_or w d p (pr p) with z | z <;> omega
      omega
  by_cases c : st.1 ≤ M
  · rw [if_pos c]
    refine mLf_n (sk_none (fun j hj => ?_))
    have := lim_le (c := st.1) (d := d)
    cases e : gd (bitsOf (atC w 1) (wPe w)) (wSetI w 6 pr) j
    · rfl
    · have := (g j (by omega)).mp e; omega
  · rw [if_neg c]
    have hML : M < lim st.1 d := by have := hMl (by omega); unfold lim; split <;> omega
    refine mLf_s (sk_some ((g M (by omega)).mpr (Nat.le_refl _)) (fun j hj => ?_) hML)
    cases e : gd (bitsOf (atC w 1) (wPe w)) (wSetI w 6 pr) j
    · rfl
    · have := (g j (by omega)).mp e; omega

