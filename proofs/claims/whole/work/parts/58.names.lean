/-! ===== names, words, tokens: what is so of them ===== -/
/-- a name by its letters, the last one first -/
def enc (B : Nat) : List Nat → Nat
  | [] => 0
  | x :: l => B * enc B l + x
def nmOK (R : List Nat) : Prop := ∀ x ∈ R, 1 ≤ x ∧ x ≤ 26
theorem nmOK.tl {x : Nat} {l : List Nat} (h : nmOK (x :: l)) : nmOK l := fun y hy => h y (List.mem_cons_of_mem _ hy)
theorem enc_inj {B : Nat} (hB : 27 ≤ B) : ∀ {R R' : List Nat}, nmOK R → nmOK R' → enc B R = enc B R' → R = R'
  | [], [], _, _, _ => rfl
  | [], x :: l, _, h, e => by
    have hx := h x List.mem_cons_self
    rw [enc, enc] at e
    omega
  | x :: l, [], h, _, e => by
    have hx := h x List.mem_cons_self
    rw [enc, enc] at e
    omega
  | x :: l, y :: l', h, h', e => by
    have hx := h x List.mem_cons_self
    have hy := h' y List.mem_cons_self
    rw [enc, enc] at e
    have e1 : x = y := by
      have h1 := congrArg (fun q => q % B) e
      rw [Nat.mul_add_mod, Nat.mul_add_mod, Nat.mod_eq_of_lt (by omega), Nat.mod_eq_of_lt (by omega)] at h1
      exact h1
    subst e1
    have e2 : enc B l = enc B l' := Nat.eq_of_mul_eq_mul_left (show 0 < B by omega) (by omega)
    rw [enc_inj hB h.tl h'.tl e2]
theorem enc_lt {B : Nat} (hB : 27 ≤ B) : ∀ {R : List Nat}, nmOK R → enc B R < B ^ R.length
  | [], _ => by rw [enc]; exact Nat.one_pos
  | x :: l, h => by
    have hx := h x List.mem_cons_self
    have ih := enc_lt hB h.tl
    rw [enc, List.length_cons, Nat.pow_succ, Nat.mul_comm (B ^ l.length) B]
    have := Nat.mul_le_mul_left B ih
    rw [Nat.mul_succ] at this
    omega
theorem enc27_lt {R : List Nat} (h : nmOK R) (h7 : R.length ≤ 7) : enc 27 R < 2 ^ 36 := Nat.lt_of_lt_of_le (enc_lt (by decide) h) (Nat.le_trans (Nat.pow_le_pow_right (by decide) h7) (by decide))
theorem enc32_lt {R : List Nat} (h : nmOK R) (h7 : R.length ≤ 7) : enc 32 R < 2 ^ 36 := Nat.lt_of_lt_of_le (enc_lt (by decide) h) (Nat.le_trans (Nat.pow_le_pow_right (by decide) h7) (by decide))
def nm27 (R : List Nat) : Int64 := lN (enc 27 R)
def nm32 (R : List Nat) : Int64 := lN (enc 32 R)
/-- a name of 1 to 7 letters -/
def nmV (R : List Nat) : Prop := nmOK R ∧ R.length ≤ 7 ∧ 1 ≤ R.length
theorem nm27_eq {R R' : List Nat} (h : nmV R) (h' : nmV R') : (nm27 R = nm27 R') = (R = R') := by
  have a := enc27_lt h.1 h.2.1
  have b := enc27_lt h'.1 h'.2.1
  refine propext ⟨fun e => enc_inj (B := 27) (by decide) h.1 h'.1 ((pk_lEQ (by omega) (by omega)).mp e), fun e => by rw [e]⟩
theorem nm32_eq {R R' : List Nat} (h : nmV R) (h' : nmV R') : (nm32 R = nm32 R') = (R = R') := by
  have a := enc32_lt h.1 h.2.1
  have b := enc32_lt h'.1 h'.2.1
  refine propext ⟨fun e => enc_inj (B := 32) (by decide) h.1 h'.1 ((pk_lEQ (by omega) (by omega)).mp e), fun e => by rw [e]⟩
/-- the words, by the class's numbers (0: none); the model's numbers -/
def wdL : List (List Nat) := [[], [7, 14, 9, 8, 20], [14, 15, 19, 18, 5, 16], [19, 1, 8], [19, 11, 19, 1], [19, 20, 5, 5, 13], [18, 1, 5, 14], [5, 7, 4, 9, 18, 2], [18, 1, 6], [19, 5, 15, 7], [19, 14, 9, 15, 10], [19, 20, 18, 1, 16], [19, 5, 4, 1, 18, 20], [11, 19, 1], [25, 1, 4], [18, 15], [4, 14, 1], [20, 15, 14], [19, 25, 1, 16], [20, 5, 13], [19, 20, 14, 1, 23], [12, 12, 1], [4, 5, 25, 1, 20, 19], [4, 5, 19, 19, 15, 18, 3], [18, 5, 2, 13, 21, 14]]
def mW : List Nat := [1, 2, 3, 4, 5, 9, 10, 11, 12, 13, 14, 15, 16, 17, 6, 7, 8, 19, 18, 20, 21, 22, 23, 24]
def wd (k : Nat) : List Nat := wdL.getD k []
def wixA (R : List Nat) : List (List Nat) → Nat → Nat
  | [], _ => 0
  | x :: l, i => if x = R then i else wixA R l (i + 1)
def wix (R : List Nat) : Nat := wixA R wdL.tail 1
theorem wixA_or (R : List Nat) : ∀ (l : List (List Nat)) (i : Nat), (wixA R l i = 0 ∧ ∀ j, j < l.length → l.getD j [] ≠ R) ∨ ∃ j, j < l.length ∧ l.getD j [] = R ∧ wixA R l i = i + j ∧ ∀ q, q < j → l.getD q [] ≠ R
  | [], i => Or.inl ⟨rfl, fun j hj => absurd hj (Nat.not_lt_zero j)⟩
  | x :: l, i => by
    rw [wixA]
    by_cases h : x = R
    · rw [if_pos h]
      exact Or.inr ⟨0, Nat.zero_lt_succ _, h, rfl, fun q hq => absurd hq (Nat.not_lt_zero q)⟩
    · rw [if_neg h]
      rcases wixA_or R l (i + 1) with ⟨h1, h2⟩ | ⟨j, h1, h2, h3, h4⟩
      · refine Or.inl ⟨h1, fun j hj => ?_⟩
        cases j with
        | zero => exact h
        | succ j => exact h2 j (Nat.lt_of_succ_lt_succ hj)
      · refine Or.inr ⟨j + 1, Nat.succ_lt_succ h1, h2, by omega, fun q hq => ?_⟩
        cases q with
        | zero => exact h
        | succ q => exact h4 q (by omega)
theorem wd_tail : ∀ j, j < 24 → wdL.tail.getD j [] = wd (1 + j) := by decide
theorem wix_wd : ∀ k, k < 25 → wix (wd k) = k := by decide
theorem wix_or (R : List Nat) : (wix R = 0 ∧ ∀ k, 0 < k → k < 25 → wd k ≠ R) ∨ (0 < wix R ∧ wix R < 25 ∧ wd (wix R) = R) := by
  rcases wixA_or R wdL.tail 1 with ⟨h1, h2⟩ | ⟨j, h1, h2, h3, -⟩
  · refine Or.inl ⟨h1, fun k h0 hk => ?_⟩
    have := h2 (k - 1) (show k - 1 < 24 by omega)
    rw [wd_tail (k - 1) (by omega), show 1 + (k - 1) = k by omega] at this
    exact this
  · have h1 : j < 24 := h1
    rw [wd_tail j h1] at h2
    refine Or.inr ?_
    unfold wix
    rw [h3]
    exact ⟨by omega, by omega, h2⟩
theorem wix_lt (R : List Nat) : wix R < 25 := by
  rcases wix_or R with ⟨h, -⟩ | ⟨-, h, -⟩
  · omega
  · exact h
theorem wix_eq {R : List Nat} {k : Nat} (h0 : 0 < k) (hk : k < 25) : (wix R = k) = (R = wd k) := by
  refine propext ⟨fun e => ?_, fun e => by rw [e]; exact wix_wd k hk⟩
  rcases wix_or R with ⟨h, -⟩ | ⟨-, -, h⟩
  · omega
  · rw [← e, h]
theorem wix_0 {R : List Nat} : (wix R = 0) = ∀ k, 0 < k → k < 25 → wd k ≠ R := by
  refine propext ⟨fun e => ?_, fun e => ?_⟩
  · rcases wix_or R with ⟨-, h⟩ | ⟨h, -, -⟩
    · exact h
    · omega
  · rcases wix_or R with ⟨h, -⟩ | ⟨h1, h2, h3⟩
    · exact h
    · exact absurd h3 (e _ h1 h2)
theorem wd_ok0 : ∀ k, k < 25 → 0 < k → (∀ x ∈ wd k, 1 ≤ x ∧ x ≤ 26) ∧ (wd k).length ≤ 7 ∧ 1 ≤ (wd k).length := by decide
theorem wd_ok (k : Nat) (h : 0 < k) (h2 : k < 25) : nmV (wd k) := wd_ok0 k h2 h
theorem mW_ok : ∀ k, k < 24 → 0 < mW.getD k 0 ∧ mW.getD k 0 < 25 := by decide
def mWi (k : Nat) : Nat := mW.idxOf k
theorem mW_all : ∀ k, k < 25 → 0 < k → mWi k < 24 ∧ mW.getD (mWi k) 0 = k := by decide
def wm (k : Nat) : List Nat := wd (mW.getD k 0)
theorem wm_ok {k : Nat} (hk : k < 24) : nmV (wm k) := wd_ok _ (mW_ok k hk).1 (mW_ok k hk).2
theorem wm_eq {R : List Nat} {k : Nat} (hR : nmV R) (hk : k < 24) : (nm27 R = nm27 (wm k)) = (wix R = mW.getD k 0) := by
  rw [nm27_eq hR (wm_ok hk), wix_eq (mW_ok k hk).1 (mW_ok k hk).2]
  rfl
/-- bytes -/
def bN (f : Nat → Int32) (j : Nat) : Nat := (f j).toNatClampNeg
def TpOK (f : Nat → Int32) : Prop := ∀ j, bN f j < 256 ∧ f j = nI (bN f j)
theorem TpOK.up {f : Nat → Int32} (h : TpOK f) {i b : Nat} (hb : b < 256) : TpOK (upd f i (nI b)) := by
  intro j
  unfold bN upd
  split
  · rw [nI_clamp (by omega)]; exact ⟨hb, rfl⟩
  · exact h j
theorem bw_ok (w k : Int32) : ∃ b, b < 256 ∧ bw w k = nI b := pk_andE _ 8 (by decide)
theorem TpOK.put {f : Nat → Int32} (h : TpOK f) (n : Nat) (w : Int32) : TpOK (putT f n w) := by
  unfold putT
  obtain ⟨a, ha, ea⟩ := bw_ok w 24
  obtain ⟨b, hb, eb⟩ := bw_ok w 16
  obtain ⟨c, hc, ec⟩ := bw_ok w 8
  obtain ⟨d, hd, ed⟩ := bw_ok w 0
  rw [ea, eb, ec, ed]
  exact (((h.up ha).up hb).up hc).up hd
theorem TpOK.fed {f : Nat → Int32} (h : TpOK f) (n : Nat) (a b c d e : Int32) : TpOK (fedT f n a b c d e) := ((((h.put _ _).put _ _).put _ _).put _ _).put _ _
def isLt (b : Nat) : Bool := decide (97 ≤ b) && decide (b ≤ 122)
def isDg (b : Nat) : Bool := decide (48 ≤ b) && decide (b ≤ 57)
def isAl (b : Nat) : Bool := isLt b || isDg b
def isBl (b : Nat) : Bool := decide (b = 32) || decide (b = 10)
def isSg (b : Nat) : Bool := decide (b = 59) || decide (b = 60) || decide (b = 61) || decide (b = 62) || decide (b = 40) || decide (b = 41)
def adv (g : Nat → Bool) : Nat → Nat → Nat
  | 0, i => i
  | k + 1, i => if g i then adv g k (i + 1) else i
def bsk (f : Nat → Int32) (n i : Nat) : Nat := adv (fun j => isBl (bN f j)) (n - i) i
def run (f : Nat → Int32) (n i : Nat) : Nat := adv (fun j => isAl (bN f j)) (n - i) i
theorem adv_ge {g : Nat → Bool} : ∀ k i, i ≤ adv g k i ∧ adv g k i ≤ i + k ∧ (∀ j, i ≤ j → j < adv g k i → g j = true) ∧ (adv g k i < i + k → g (adv g k i) = false)
  | 0, i => ⟨Nat.le_refl _, Nat.le_refl _, fun j h1 h2 => by rw [adv] at h2; omega, fun h => by rw [adv] at h; omega⟩
  | k + 1, i => by
    rw [adv]
    cases hg : g i
    · simp only [Bool.false_eq_true, if_false]
      exact ⟨Nat.le_refl _, by omega, fun j h1 h2 => by omega, fun _ => hg⟩
    · simp only [if_true]
      obtain ⟨h1, h2, h3, h4⟩ := adv_ge (g := g) k (i + 1)
      refine ⟨by omega, by omega, fun j a b => ?_, fun a => h4 (by omega)⟩
      by_cases e : j = i
      · rw [e]; exact hg
      · exact h3 j (by omega) b
theorem bsk_ge {f : Nat → Int32} {n i : Nat} (h : i ≤ n) : i ≤ bsk f n i ∧ bsk f n i ≤ n := by
  have := adv_ge (g := fun j => isBl (bN f j)) (n - i) i
  unfold bsk
  omega
theorem run_ge {f : Nat → Int32} {n i : Nat} (h : i ≤ n) : i ≤ run f n i ∧ run f n i ≤ n := by
  have := adv_ge (g := fun j => isAl (bN f j)) (n - i) i
  unfold run
  omega
theorem bsk_e {f : Nat → Int32} {n i : Nat} (h : n ≤ i) : bsk f n i = i := by unfold bsk; rw [show n - i = 0 by omega]; rfl
theorem bsk_y {f : Nat → Int32} {n i : Nat} (h : i < n) (hb : isBl (bN f i) = true) : bsk f n i = bsk f n (i + 1) := by
  unfold bsk
  rw [show n - i = (n - (i + 1)) + 1 by omega, adv, if_pos hb]
theorem bsk_n {f : Nat → Int32} {n i : Nat} (hb : isBl (bN f i) = false) : bsk f n i = i := by
  unfold bsk
  cases n - i with
  | zero => rfl
  | succ k => rw [adv, hb]; rfl
theorem run_e {f : Nat → Int32} {n i : Nat} (h : n ≤ i) : run f n i = i := by unfold run; rw [show n - i = 0 by omega]; rfl
theorem run_y {f : Nat → Int32} {n i : Nat} (h : i < n) (hb : isAl (bN f i) = true) : run f n i = run f n (i + 1) := by
  unfold run
  rw [show n - i = (n - (i + 1)) + 1 by omega, adv, if_pos hb]
theorem run_n {f : Nat → Int32} {n i : Nat} (hb : isAl (bN f i) = false) : run f n i = i := by
  unfold run
  cases n - i with
  | zero => rfl
  | succ k => rw [adv, hb]; rfl
def ltR (f : Nat → Int32) (a : Nat) : Nat → List Nat
  | 0 => []
  | k + 1 => (bN f (a + k) - 96) :: ltR f a k
def dgV (f : Nat → Int32) (a : Nat) : Nat → Nat
  | 0 => 0
  | k + 1 => 10 * dgV f a k + (bN f (a + k) - 48)
/-- kind (0 the end, 1 none, 2 a word, 3 a number, 4 a sign), place, letters, number or sign -/
abbrev Tok : Type := Nat × Nat × List Nat × Nat
def allL (f : Nat → Int32) (a k : Nat) : Bool := alB (fun j => isLt (bN f (a + j))) k
def allD (f : Nat → Int32) (a k : Nat) : Bool := alB (fun j => isDg (bN f (a + j))) k
def rtok (f : Nat → Int32) (a k : Nat) : Tok := if allL f a k = true ∧ k ≤ 7 then (2, a, ltR f a k, 0) else if allD f a k = true ∧ k ≤ 3 then (3, a, [], dgV f a k) else (1, a, [], 0)
def scn (f : Nat → Int32) (n lim i : Nat) : Tok × Nat :=
  if lim < n ∧ lim ≤ bsk f n i then ((1, lim, [], 0), bsk f n i)
  else if n ≤ bsk f n i then ((0, bsk f n i, [], 0), bsk f n i)
  else if isAl (bN f (bsk f n i)) = true then (rtok f (bsk f n i) (run f n (bsk f n i) - bsk f n i), run f n (bsk f n i))
  else ((if isSg (bN f (bsk f n i)) = true then 4 else 1, bsk f n i, [], bN f (bsk f n i)), bsk f n i + 1)
def psn (f : Nat → Int32) (n lim : Nat) : Nat → Nat
  | 0 => 0
  | k + 1 => (scn f n lim (psn f n lim k)).2
def tkn (f : Nat → Int32) (n lim k : Nat) : Tok := (scn f n lim (psn f n lim k)).1
theorem ltR_ok {f : Nat → Int32} {a : Nat} : ∀ {k}, allL f a k = true → nmOK (ltR f a k) ∧ (ltR f a k).length = k
  | 0, _ => ⟨fun x hx => absurd hx List.not_mem_nil, rfl⟩
  | k + 1, h => by
    have h1 : allL f a k = true ∧ isLt (bN f (a + k)) = true := Bool.and_eq_true_iff.mp h
    obtain ⟨i1, i2⟩ := ltR_ok h1.1
    have h2 := h1.2
    unfold isLt at h2
    simp at h2
    refine ⟨fun x hx => ?_, by rw [ltR, List.length_cons, i2]⟩
    rw [ltR] at hx
    rcases List.mem_cons.mp hx with e | hx
    · omega
    · exact i1 x hx
theorem scn_le {f : Nat → Int32} {n lim i : Nat} (h : i ≤ n) : i ≤ (scn f n lim i).2 ∧ (scn f n lim i).2 ≤ n := by
  have hb := bsk_ge (f := f) h
  have hr := run_ge (f := f) hb.2
  unfold scn
  split
  · exact hb
  · split
    · exact hb
    · split
      · exact ⟨by show i ≤ run f n (bsk f n i); omega, hr.2⟩
      · exact ⟨by show i ≤ bsk f n i + 1; omega, by show bsk f n i + 1 ≤ n; omega⟩
theorem psn_le {f : Nat → Int32} {n lim : Nat} : ∀ k, psn f n lim k ≤ n
  | 0 => Nat.zero_le _
  | k + 1 => (scn_le (psn_le k)).2
/-- a word of the text is a name's letters -/
theorem tok_wd {f : Nat → Int32} {n lim i : Nat} (h : i ≤ n) (hk : (scn f n lim i).1.1 = 2) : nmV (scn f n lim i).1.2.2.1 := by
  have hb := bsk_ge (f := f) h
  unfold scn at hk ⊢
  split at hk
  · cases hk
  · rename_i c1
    rw [if_neg c1]
    split at hk
    · cases hk
    · rename_i c2
      rw [if_neg c2]
      split at hk
      · rename_i c3
        rw [if_pos c3]
        dsimp only at hk ⊢
        unfold rtok at hk ⊢
        split at hk
        · rename_i c4
          rw [if_pos c4]
          obtain ⟨a, b⟩ := ltR_ok c4.1
          refine ⟨a, by rw [b]; exact c4.2, ?_⟩
          rw [b]
          have := run_y (f := f) (n := n) (i := bsk f n i) (by omega) c3
          have := (run_ge (f := f) (n := n) (i := bsk f n i + 1) (by omega)).1
          omega
        · split at hk <;> cases hk
      · rename_i c3
        dsimp only at hk
        split at hk <;> cases hk

