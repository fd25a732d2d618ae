/-! ===== the model: school ===== -/
abbrev Sst : Type := Nat × (Nat → Int32) × Int32
def clr (x : Int32) (p : Nat) : Int32 := x &&& ((1 <<< (nI p &&& 31)) ^^^ -1)
/-- all pairings of those left, in their order; L at the end of each -/
def cp (L : (Nat → Int32) → Sst → Sst) : Nat → Int32 → (Nat → Int32) → Sst → Sst
  | 0, _, pr, st => L pr st
  | f + 1, left, pr, st => if bt left (7 - f) then cp L f (clr left (7 - f)) pr (lp (fun j s => if bt left (8 - f + j) then cp L f (clr (clr left (7 - f)) (8 - f + j)) (upd (upd pr (7 - f) (nI (8 - f + j))) (8 - f + j) (nI (7 - f))) s else s) st f) else cp L f left pr st
theorem cp_down {L : (Nat → Int32) → Sst → Sst} {left : Int32} {pr : Nat → Int32} {st : Sst} : ∀ (k f : Nat), k + f ≤ 8 → (∀ j, 8 - (k + f) ≤ j → j < 8 - f → bt left j = false) → cp L (k + f) left pr st = cp L f left pr st
  | 0, f, _, _ => by rw [Nat.zero_add]
  | k + 1, f, h, hb => by
    rw [show k + 1 + f = (k + f) + 1 by omega, cp, if_neg]
    · exact cp_down k f (by omega) (fun j h1 h2 => hb j (by omega) h2)
    · rw [hb (7 - (k + f)) (by omega) (by omega)]; decide
/-- the pairing is one -/
def prOK (w : Wd) (pr : Nat → Int32) (left : Int32) : Prop := (∀ r, r < wPe w → pr r = -1 ∨ ∃ q, q < wPe w ∧ q ≠ r ∧ pr r = nI q ∧ pr q = nI r) ∧ ∀ j, j < 8 → bt left j = true → pr j = -1 ∧ j < wPe w
theorem bt_clr' (x : Int32) {p j : Nat} (hp : p < 8) (hj : j < 32) : bt (clr x p) j = (bt x j && !decide (j = p)) := bt_clr x hp hj
theorem prOK.one {w : Wd} {pr : Nat → Int32} {left : Int32} (h : prOK w pr left) {p : Nat} (hp : p < 8) : prOK w pr (clr left p) := ⟨h.1, fun j hj hb => h.2 j hj (by rw [bt_clr' left hp (by omega)] at hb; simp at hb; exact hb.1)⟩
theorem prOK.two {w : Wd} {pr : Nat → Int32} {left : Int32} (hpe : wPe w ≤ 8) (h : prOK w pr left) {p q : Nat} (hp : p < 8) (hq : q < 8) (hpq : p ≠ q) (bp : bt left p = true) (bq : bt left q = true) : prOK w (upd (upd pr p (nI q)) q (nI p)) (clr (clr left p) q) := by
  obtain ⟨e1, l1⟩ := h.2 p hp bp
  obtain ⟨e2, l2⟩ := h.2 q hq bq
  refine ⟨fun r hr => ?_, fun j hj hb => ?_⟩
  · by_cases a : r = q
    · subst a
      right
      exact ⟨p, l1, hpq, upd_s, by rw [upd_n hpq, upd_s]⟩
    · by_cases b : r = p
      · subst b
        right
        exact ⟨q, l2, Ne.symm hpq, by rw [upd_n hpq, upd_s], upd_s⟩
      · rw [upd_n a, upd_n b]
        rcases h.1 r hr with e | ⟨x, hx, hxr, ex, ex2⟩
        · exact Or.inl e
        · right
          have xp : x ≠ p := by
            rintro rfl
            rw [e1] at ex2
            exact nI_ne1 (by omega) ex2.symm
          have xq : x ≠ q := by
            rintro rfl
            rw [e2] at ex2
            exact nI_ne1 (by omega) ex2.symm
          exact ⟨x, hx, hxr, ex, by rw [upd_n xq, upd_n xp]; exact ex2⟩
  · rw [bt_clr' _ hq (by omega), bt_clr' _ hp (by omega)] at hb
    simp at hb
    obtain ⟨⟨b1, b2⟩, b3⟩ := hb
    rw [upd_n b3, upd_n b2]
    exact h.2 j hj b1
theorem WOK.mates {w : Wd} (hw : WOK w) {pr : Nat → Int32} {left : Int32} (h : prOK w pr left) : WOK (wSetI w 6 pr) := by
  obtain ⟨h1, h2, h3, h4, h5, h6, h7, h8, h9, h10, h11⟩ := hw
  exact ⟨h1, h2, h3, h4, h5, h6, h7, fun r hr => h.1 r hr, h9, h10, h11⟩
theorem NWv.mates {w : Wd} {f p0 pr : Nat → Int32} (hn : NWv (wSetI w 6 p0) f) (hth : wTh w ≤ 6) (hpe : wPe w ≤ 8) : NWv (wSetI w 6 pr) (cpF 183 0 pr f 8) := by
  have hin : ∀ p, p < 8 → cpF 183 0 pr f 8 (183 + p) = pr p := fun p hp => by unfold cpF; rw [if_pos (by omega), show 0 + (183 + p - 183) = p by omega]
  have hout : ∀ j, j < 183 → cpF 183 0 pr f 8 j = f j := fun j hj => if_neg (by omega)
  obtain ⟨h1, h2, h3, h4, h5, h6, h7, h8⟩ := hn
  refine ⟨(hout _ (by omega)).trans h1, (hout _ (by omega)).trans h2, (hout _ (by omega)).trans h3, fun t ht => ?_, fun q hq => ?_, fun i hi => (hout _ (by omega)).trans (h6 i hi), fun i hi => (hout _ (by omega)).trans (h7 i hi), fun q h1 hq => (hout _ (by omega)).trans (h8 q h1 hq)⟩
  · have ht : t < wTh w := ht
    exact ⟨(hout _ (by omega)).trans (h4 t ht).1, (hout _ (by omega)).trans (h4 t ht).2⟩
  · have hq : q < wPe w := hq
    obtain ⟨a, b, c, d, e⟩ := h5 q hq
    exact ⟨(hout _ (by omega)).trans a, (hout _ (by omega)).trans b, (hout _ (by omega)).trans c, (hout _ (by omega)).trans d, hin q (by omega)⟩
/-- the end of a pairing, as the model has it -/
noncomputable def mLf (w : Wd) (d : Nat) (all : Int32) (pr : Nat → Int32) (st : Sst) : Sst := match sk (gd all (wSetI w 6 pr)) (lim st.1 d) with
  | none => st
  | some n => (n, cpF 0 0 pr st.2.1 8, nI (wPe w))
theorem mLf_n {w : Wd} {d : Nat} {all : Int32} {pr : Nat → Int32} {st : Sst} (h : sk (gd all (wSetI w 6 pr)) (lim st.1 d) = none) : mLf w d all pr st = st := by unfold mLf; rw [h]
theorem mLf_s {w : Wd} {d n : Nat} {all : Int32} {pr : Nat → Int32} {st : Sst} (h : sk (gd all (wSetI w 6 pr)) (lim st.1 d) = some n) : mLf w d all pr st = (n, cpF 0 0 pr st.2.1 8, nI (wPe w)) := by unfold mLf; rw [h]
theorem mLf_le {w : Wd} {d : Nat} {all : Int32} {pr : Nat → Int32} {st : Sst} : (mLf w d all pr st).1 ≤ st.1 := by
  cases e : sk (gd all (wSetI w 6 pr)) (lim st.1 d) with
  | none => rw [mLf_n e]; exact Nat.le_refl _
  | some n => rw [mLf_s e]; exact Nat.le_of_lt (Nat.lt_of_lt_of_le (sk_lt e) lim_le.1)
theorem cp_le {L : (Nat → Int32) → Sst → Sst} (hL : ∀ pr st, (L pr st).1 ≤ st.1) : ∀ f left pr st, (cp L f left pr st).1 ≤ st.1
  | 0, _, pr, st => hL pr st
  | f + 1, left, pr, st => by
    rw [cp]
    split
    · refine Nat.le_trans (cp_le hL f _ _ _) ?_
      refine lp_ind (P := fun x : Sst => x.1 ≤ st.1) (Nat.le_refl _) (fun i x hx => ?_) f
      split
      · exact Nat.le_trans (cp_le hL f _ _ _) hx
      · exact hx
    · exact cp_le hL f _ _ _
/-- the state within school -/
def pS (s : Ms) (f g pr : Nat → Int32) (st : Sst) : Ms := sF (sF (sA (sA (sA (sA s 2 f) 7 g) 14 pr) 15 st.2.1) 30 (nI st.1)) 31 st.2.2
theorem pS_2 {s : Ms} {f g pr : Nat → Int32} {st : Sst} : mA (pS s f g pr st) 2 = f := rfl
theorem pS_7 {s : Ms} {f g pr : Nat → Int32} {st : Sst} : mA (pS s f g pr st) 7 = g := rfl
theorem pS_14 {s : Ms} {f g pr : Nat → Int32} {st : Sst} : mA (pS s f g pr st) 14 = pr := rfl
theorem pS_15 {s : Ms} {f g pr : Nat → Int32} {st : Sst} : mA (pS s f g pr st) 15 = st.2.1 := rfl
theorem pS_30 {s : Ms} {f g pr : Nat → Int32} {st : Sst} : mF (pS s f g pr st) 30 = nI st.1 := rfl
theorem pS_w2 {s : Ms} {f g pr f' : Nat → Int32} {st : Sst} : sA (pS s f g pr st) 2 f' = pS s f' g pr st := by
  unfold pS sA sF
  refine Prod.ext rfl (Prod.ext rfl (Prod.ext (funext fun j => ?_) rfl))
  dsimp only
  by_cases e : j = 2
  · subst e; simp
  · simp only [if_neg e]
theorem pS_w7 {s : Ms} {f g pr f' : Nat → Int32} {st : Sst} : sA (pS s f g pr st) 7 f' = pS s f f' pr st := by
  unfold pS sA sF
  refine Prod.ext rfl (Prod.ext rfl (Prod.ext (funext fun j => ?_) rfl))
  dsimp only
  by_cases e : j = 7
  · subst e; simp
  · simp only [if_neg e]
theorem pS_w14 {s : Ms} {f g pr f' : Nat → Int32} {st : Sst} : sA (pS s f g pr st) 14 f' = pS s f g f' st := by
  unfold pS sA sF
  refine Prod.ext rfl (Prod.ext rfl (Prod.ext (funext fun j => ?_) rfl))
  dsimp only
  by_cases e : j = 14
  · subst e; simp
  · simp only [if_neg e]
theorem pS_end {s : Ms} {f g pr b : Nat → Int32} {st : Sst} {n : Nat} {k : Int32} : sF (sA (sF (pS s f g pr st) 30 (nI n)) 15 b) 31 k = pS s f g pr (n, b, k) := by
  unfold pS sA sF
  refine Prod.ext (funext fun j => ?_) (Prod.ext rfl (Prod.ext (funext fun j => ?_) rfl))
  · dsimp only
    by_cases e : j = 31
    · subst e; simp
    · by_cases e2 : j = 30
      · subst e2; simp
      · simp only [if_neg e, if_neg e2]
  · dsimp only
    by_cases e : j = 15
    · subst e; simp
    · simp only [if_neg e]
theorem cm_hasW {G : Gt} {h : Hp} {x : Int32} {k : Nat} (hk : k < 8) : Mt G 1 0 0 mX13_has [.int x, .int (nI k)] h (fun r h' => r = some (.int (b2i (bt x k = true))) ∧ h' = h) := by
  have e := cm_has (G := G) (h := h) (x := x) (k := nI k)
  have e2 : b2i ((x >>> (nI k &&& 31)) &&& 1 = 1) = b2i (bt x k = true) := by
    rw [bit_at x hk]
    cases bt x k <;> rfl
  rw [e2] at e
  exact e

