/-! ===== small things for walking ===== -/
theorem calp {G : Gt} {d d' : Nat} {M' : Mth} {As r : List Value} {l : Ls} {h : Hp} {x : Value} {K : KT} (hcat : (r.map fun v => v.category).sum ≤ 8) (hd : d' < d) (hm : Mt G d' 0 0 M' As h (fun v h' => v = some x ∧ h' = h)) (k : K l (x :: r) h) : Cal G d 0 0 M' As r l h K := ⟨hcat, d', _, hd, hm, fun v h' hq => by obtain ⟨rfl, rfl⟩ := hq; exact k⟩
theorem calq {G : Gt} {d d' cb cs : Nat} {M' : Mth} {As r : List Value} {l : Ls} {h : Hp} {Q1 : QT} {K : KT} (hcat : (r.map fun v => v.category).sum ≤ 8) (hd : d' < d) (hm : Mt G d' cb cs M' As h Q1) (k : ∀ v h', Q1 v h' → K l (v.toList ++ r) h') : Cal G d cb cs M' As r l h K := ⟨hcat, d', _, hd, hm, k⟩
theorem hS_s {h : Hp} {a : Nat} {e : Ce} : (hSet h a e).2 a = some e := if_pos rfl
theorem hS_n {h : Hp} {a b : Nat} {e : Ce} (hb : b ≠ a) : (hSet h a e).2 b = h.2 b := if_neg hb
theorem hS_1 {h : Hp} {a : Nat} {e : Ce} : (hSet h a e).1 = h.1 := rfl
/-- the loop: downward from n -/
theorem down {P : Nat → Prop} (n : Nat) (h0 : P n) (hs : ∀ i, i < n → P (i + 1) → P i) : P 0 := by
  have key : ∀ j i, i + j = n → P i := by
    intro j
    induction j with
    | zero => intro i h; rw [show i = n by omega]; exact h0
    | succ j ih => intro i h; exact hs i (by omega) (ih (i + 1) (by omega))
  exact key n 0 (by omega)
/-- a counted fold -/
def lp {α : Type} (f : Nat → α → α) (s : α) : Nat → α
  | 0 => s
  | n + 1 => f n (lp f s n)
/-- the same but for the cells from lo to hi -/
def Fm (lo hi : Nat) (h h' : Hp) : Prop := h'.1 = h.1 ∧ ∀ q : Nat, (q < lo ∨ hi < q) → h'.2 q = h.2 q
theorem Fm.rf {lo hi : Nat} {h : Hp} : Fm lo hi h h := ⟨rfl, fun _ _ => rfl⟩
theorem Fm.trans {lo hi : Nat} {h h1 h2 : Hp} (a : Fm lo hi h h1) (b : Fm lo hi h1 h2) : Fm lo hi h h2 := ⟨b.1.trans a.1, fun q hq => (b.2 q hq).trans (a.2 q hq)⟩
theorem Fm.wide {lo hi lo' hi' : Nat} {h h1 : Hp} (a : Fm lo hi h h1) (h1' : lo' ≤ lo) (h2 : hi ≤ hi') : Fm lo' hi' h h1 := ⟨a.1, fun q hq => a.2 q (by omega)⟩
theorem Fm.set {lo hi a : Nat} {h : Hp} {e : Ce} (h1 : lo ≤ a) (h2 : a ≤ hi) : Fm lo hi h (hSet h a e) := ⟨rfl, fun q hq => if_neg (by omega)⟩
def b2i (c : Prop) [Decidable c] : Int32 := if c then 1 else 0
theorem nb0 : narrow .boolean (.int 0) = .int 0 := by decide
theorem nb1 : narrow .boolean (.int 1) = .int 1 := by decide
theorem nl_le {a b : Int32} (h : ¬ a ≤ b) : b < a := Int32.not_le.mp h
theorem nl_lt {a b : Int32} (h : ¬ a < b) : b ≤ a := Int32.not_lt.mp h
theorem le_nlt {a b : Int32} (h : a ≤ b) : ¬ b < a := Int32.not_lt.mpr h
theorem lt_nle {a b : Int32} (h : a < b) : ¬ b ≤ a := Int32.not_le.mpr h
theorem le_rf (a : Int32) : a ≤ a := Int32.le_refl a
/-- a number that is none, or a place -/
theorem i_cases (x : Int32) : x < 0 ∨ ∃ j : Nat, j < 2 ^ 31 ∧ x = nI j := by
  by_cases h : x < 0
  · exact Or.inl h
  · exact Or.inr (nI_of h)

