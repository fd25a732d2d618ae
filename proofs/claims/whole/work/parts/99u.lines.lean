/-! ===== what a line of a Book does ===== -/
theorem cap_ex {k : Nat} (hk : k < 2 ^ 31) : ∃ j, j ≤ 12 ∧ cap (nI k) = nI j := by
  unfold cap
  by_cases c : 12 ≤ k
  · exact ⟨12, Nat.le_refl _, if_pos (nI_le (a := 12) c hk)⟩
  · exact ⟨k, by omega, if_neg (nI_ge (b := 12) (by omega) (by decide))⟩
theorem WOK.sub {w : Wd} (hw : WOK w) {p t : Nat} (hp : p < wPe w) (ht : t < wTh w) : WOK (wHeld w p t (hld w p t - hld w p t / 2)) := by
  obtain ⟨k, hk, ek⟩ := hw.2.2.2.2.2.2.2.2.1 p t (by have := hw.2.1; omega) (by have := hw.1; omega)
  refine hw.held hp ht ?_
  rw [ek, half_nI hk, pk_sub (by omega)]
  exact cap_ex (by omega)
theorem WOK.addn {w : Wd} (hw : WOK w) {p t k : Nat} (hp : p < wPe w) (ht : t < wTh w) (hk : k ≤ 12) : WOK (wHeld w p t (hld w p t + nI k)) := by
  obtain ⟨j, hj, ej⟩ := hw.2.2.2.2.2.2.2.2.1 p t (by have := hw.2.1; omega) (by have := hw.1; omega)
  refine hw.held hp ht ?_
  rw [ej, nI_add]
  exact cap_ex (by omega)
theorem trD_e {w v1 v2 v3 : Wd} {p t q u : Nat} (e1 : v1 = wHeld w p t (hld w p t - hld w p t / 2)) (e2 : v2 = wHeld v1 q u (hld v1 q u - hld w q u / 2)) (e3 : v3 = wHeld v2 p u (hld v2 p u + hld w q u / 2)) : trD w p t q u = wHeld v3 q t (hld v3 q t + hld w p t / 2) := by
  subst e1
  subst e2
  subst e3
  rfl
theorem wH_l {w : Wd} {p t : Nat} {n : Int32} : wPe (wHeld w p t n) = wPe w ∧ wTh (wHeld w p t n) = wTh w := ⟨rfl, rfl⟩
theorem WOK.tr {w : Wd} (hw : WOK w) {p t q u : Nat} (hpq : p ≠ q) (hp : p < wPe w) (ht : t < wTh w) (hq : q < wPe w) (hu : u < wTh w) : WOK (trD w p t q u) := by
  have h6 := hw.1
  have h8 := hw.2.1
  obtain ⟨k1, hk1, ek1⟩ := hw.2.2.2.2.2.2.2.2.1 p t (by omega) (by omega)
  obtain ⟨k2, hk2, ek2⟩ := hw.2.2.2.2.2.2.2.2.1 q u (by omega) (by omega)
  have g1 : hld w p t / 2 = nI (k1 / 2) := by rw [ek1, half_nI hk1]
  have g2 : hld w q u / 2 = nI (k2 / 2) := by rw [ek2, half_nI hk2]
  obtain ⟨v1, e1⟩ : ∃ v, v = wHeld w p t (hld w p t - hld w p t / 2) := ⟨_, rfl⟩
  have w1 : WOK v1 := by rw [e1]; exact hw.sub hp ht
  have l1 : wPe v1 = wPe w ∧ wTh v1 = wTh w := by rw [e1]; exact wH_l
  have e12 : hld v1 q u = hld w q u := by rw [e1]; exact hld_n (by omega)
  obtain ⟨v2, e2⟩ : ∃ v, v = wHeld v1 q u (hld v1 q u - hld w q u / 2) := ⟨_, rfl⟩
  have w2 : WOK v2 := by
    rw [e2, ← e12]
    exact w1.sub (by omega) (by omega)
  have l2 : wPe v2 = wPe v1 ∧ wTh v2 = wTh v1 := by rw [e2]; exact wH_l
  obtain ⟨v3, e3⟩ : ∃ v, v = wHeld v2 p u (hld v2 p u + hld w q u / 2) := ⟨_, rfl⟩
  have w3 : WOK v3 := by
    rw [e3, g2]
    exact w2.addn (by omega) (by omega) (by omega)
  have l3 : wPe v3 = wPe v2 ∧ wTh v3 = wTh v2 := by rw [e3]; exact wH_l
  rw [trD_e e1 e2 e3, g1]
  exact w3.addn (by omega) (by omega) (by omega)
/-- a line is one of this World's -/
def LnV (w : Wd) (ln : Ln) : Prop := (ln.1 = 0 ∧ ln.2.1 < wPe w ∧ ln.2.2.1 < 3) ∨ (ln.1 = 1 ∧ ln.2.1 < wPe w ∧ ln.2.2.1 < wPe w) ∨ (ln.1 = 2 ∧ ln.2.1 < wPe w) ∨ (ln.1 = 3 ∧ ln.2.1 < wPe w ∧ ln.2.2.1 < wTh w ∧ ln.2.2.2.1 < wPe w ∧ ln.2.2.2.2 < wTh w) ∨ (ln.1 = 4 ∧ ln.2.1 < 2 ∧ ln.2.2.1 < wTh w ∧ ln.2.2.2.1 ≤ 12) ∨ (ln.1 = 5 ∧ 1 ≤ ln.2.1 ∧ ln.2.1 ≤ 60)
def rsd (why by1 : Int32) : Int32 := if why = 0 then 0 else why + by1
def dyN (w : Wd) : Nat := (wDay w).toNatClampNeg
def lvR (w : Wd) (ln : Ln) : Int32 := if ln.1 = 0 then walkR w ln.2.1 (nI ln.2.2.1) else if ln.1 = 1 then rsd (pairR w ln.2.1 ln.2.2.1) 10 else if ln.1 = 2 then rsd (unR w ln.2.1) 20 else if ln.1 = 3 then rsd (trR w ln.2.1 ln.2.2.1 ln.2.2.2.1 ln.2.2.2.2) 30 else if ln.1 = 4 then rsd (demR w ln.2.1 ln.2.2.1 (nI ln.2.2.2.1)) 40 else if 400 < dyN w + ln.2.1 then 51 else 0
noncomputable def lvW (w : Wd) (ln : Ln) : Wd := if ln.1 = 0 then walkW w ln.2.1 (nI ln.2.2.1) else if ln.1 = 1 then pairW w ln.2.1 ln.2.2.1 else if ln.1 = 2 then unW w ln.2.1 else if ln.1 = 3 then trW w ln.2.1 ln.2.2.1 ln.2.2.2.1 ln.2.2.2.2 else if ln.1 = 4 then demW w ln.2.1 ln.2.2.1 (nI ln.2.2.2.1) else if 400 < dyN w + ln.2.1 then w else daysW w ln.2.1
theorem dyN_e {w : Wd} (hw : WOK w) : wDay w = nI (dyN w) ∧ dyN w ≤ 400 := by
  obtain ⟨d, hd, e⟩ := hw.2.2.2.2.2.2.2.2.2.2
  unfold dyN
  rw [e, nI_clamp (by omega)]
  exact ⟨rfl, hd⟩
theorem WOK.lv {w : Wd} (hw : WOK w) {ln : Ln} (hl : LnV w ln) : WOK (lvW w ln) ∧ wTh (lvW w ln) = wTh w ∧ wPe (lvW w ln) = wPe w := by
  unfold lvW
  rcases hl with ⟨e, h1, h2⟩ | ⟨e, h1, h2⟩ | ⟨e, h1⟩ | ⟨e, h1, h2, h3, h4⟩ | ⟨e, h1, h2, h3⟩ | ⟨e, h1, h2⟩
  · rw [if_pos e]
    exact ⟨hw.walk, walk_D.1, walk_D.2.1⟩
  · rw [if_neg (by omega), if_pos e]
    exact ⟨hw.pair h1 h2, pair_D.1, pair_D.2.1⟩
  · rw [if_neg (by omega), if_neg (by omega), if_pos e]
    exact ⟨hw.un h1, un_D.1, un_D.2.1⟩
  · rw [if_neg (by omega), if_neg (by omega), if_neg (by omega), if_pos e]
    unfold trW
    by_cases c : trR w ln.2.1 ln.2.2.1 ln.2.2.2.1 ln.2.2.2.2 = 0
    · rw [if_pos c]
      refine ⟨hw.tr (fun z => ?_) h1 h2 h3 h4, rfl, rfl⟩
      unfold trR at c
      rw [if_pos z] at c
      exact absurd c (by decide)
    · rw [if_neg c]; exact ⟨hw, rfl, rfl⟩
  · rw [if_neg (by omega), if_neg (by omega), if_neg (by omega), if_neg (by omega), if_pos e]
    unfold demW
    split
    · exact ⟨hw, rfl, rfl⟩
    · exact ⟨hw.toll h2 h3, rfl, rfl⟩
  · rw [if_neg (by omega), if_neg (by omega), if_neg (by omega), if_neg (by omega), if_neg (by omega)]
    obtain ⟨d1, d2⟩ := dyN_e hw
    split
    · exact ⟨hw, rfl, rfl⟩
    · exact ⟨(hw.days d1 ln.2.1 (by omega)).1, daysW_th w _⟩
theorem lv_no {w : Wd} {ln : Ln} (h : ¬ lvR w ln = 0) : lvW w ln = w := by
  unfold lvR at h
  unfold lvW
  have rs : ∀ {a b : Int32}, ¬ rsd a b = 0 → ¬ a = 0 := fun {a b} q z => q (by unfold rsd; rw [if_pos z])
  split
  · rename_i e; rw [if_pos e] at h; unfold walkW; rw [if_neg h]
  rename_i e0
  rw [if_neg e0] at h
  split
  · rename_i e; rw [if_pos e] at h; unfold pairW; rw [if_neg (rs h)]
  rename_i e1
  rw [if_neg e1] at h
  split
  · rename_i e; rw [if_pos e] at h; unfold unW; rw [if_neg (rs h)]
  rename_i e2
  rw [if_neg e2] at h
  split
  · rename_i e; rw [if_pos e] at h; unfold trW; rw [if_neg (rs h)]
  rename_i e3
  rw [if_neg e3] at h
  split
  · rename_i e; rw [if_pos e] at h
    have h := rs h
    unfold demR at h
    unfold demW
    split
    · rfl
    · rename_i c; rw [if_neg c] at h; exact absurd rfl h
  rename_i e4
  rw [if_neg e4] at h
  split
  · rfl
  · rename_i c; rw [if_neg c] at h; exact absurd rfl h
/-- how a Book goes: why not, how many lines were right, what came of it -/
noncomputable def jg : List Ln → Nat → Wd → Int32 × Nat × Wd
  | [], k, u => (0, k, u)
  | ln :: L, k, u => if lvR u ln = 0 then jg L (k + 1) (lvW u ln) else (lvR u ln, k, u)

