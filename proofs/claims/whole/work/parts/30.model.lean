/-! ===== the picture of the model: int fields by their places, the word, rows by their cells ===== -/
abbrev Ms : Type := (Nat → Int32) × Int64 × (Nat → Nat → Int32) × (Nat → Nat → Int64)
def mF (s : Ms) (k : Nat) : Int32 := s.1 k
def mWd (s : Ms) : Int64 := s.2.1
def mA (s : Ms) (k : Nat) : Nat → Int32 := s.2.2.1 k
def mN (s : Ms) (k : Nat) : Nat → Int64 := s.2.2.2 k
def sF (s : Ms) (k : Nat) (v : Int32) : Ms := ((fun j => if j = k then v else s.1 j), s.2)
def sW (s : Ms) (v : Int64) : Ms := (s.1, v, s.2.2)
def sA (s : Ms) (k : Nat) (f : Nat → Int32) : Ms := (s.1, s.2.1, (fun j => if j = k then f else s.2.2.1 j), s.2.2.2)
def sN (s : Ms) (k : Nat) (f : Nat → Int64) : Ms := (s.1, s.2.1, s.2.2.1, (fun j => if j = k then f else s.2.2.2 j))
theorem mF_s {s : Ms} {k : Nat} {v : Int32} : mF (sF s k v) k = v := if_pos rfl
theorem mF_n {s : Ms} {k j : Nat} {v : Int32} (h : j ≠ k) : mF (sF s k v) j = mF s j := if_neg h
theorem mF_A {s : Ms} {k j : Nat} {f : Nat → Int32} : mF (sA s k f) j = mF s j := rfl
theorem mF_N {s : Ms} {k j : Nat} {f : Nat → Int64} : mF (sN s k f) j = mF s j := rfl
theorem mF_W {s : Ms} {j : Nat} {v : Int64} : mF (sW s v) j = mF s j := rfl
theorem mA_F {s : Ms} {k j : Nat} {v : Int32} : mA (sF s k v) j = mA s j := rfl
theorem mA_W {s : Ms} {j : Nat} {v : Int64} : mA (sW s v) j = mA s j := rfl
theorem mA_N {s : Ms} {k j : Nat} {f : Nat → Int64} : mA (sN s k f) j = mA s j := rfl
theorem mA_s {s : Ms} {k : Nat} {f : Nat → Int32} : mA (sA s k f) k = f := if_pos rfl
theorem mA_n {s : Ms} {k j : Nat} {f : Nat → Int32} (h : j ≠ k) : mA (sA s k f) j = mA s j := if_neg h
theorem mN_F {s : Ms} {k j : Nat} {v : Int32} : mN (sF s k v) j = mN s j := rfl
theorem mN_W {s : Ms} {j : Nat} {v : Int64} : mN (sW s v) j = mN s j := rfl
theorem mN_A {s : Ms} {k j : Nat} {f : Nat → Int32} : mN (sA s k f) j = mN s j := rfl
theorem mN_s {s : Ms} {k : Nat} {f : Nat → Int64} : mN (sN s k f) k = f := if_pos rfl
theorem mN_n {s : Ms} {k j : Nat} {f : Nat → Int64} (h : j ≠ k) : mN (sN s k f) j = mN s j := if_neg h
theorem mW_F {s : Ms} {k : Nat} {v : Int32} : mWd (sF s k v) = mWd s := rfl
theorem mW_A {s : Ms} {k : Nat} {f : Nat → Int32} : mWd (sA s k f) = mWd s := rfl
theorem mW_N {s : Ms} {k : Nat} {f : Nat → Int64} : mWd (sN s k f) = mWd s := rfl
theorem mW_s {s : Ms} {v : Int64} : mWd (sW s v) = v := rfl
theorem sF2 {s : Ms} {k : Nat} {v w : Int32} : sF (sF s k v) k w = sF s k w := by
  unfold sF
  refine Prod.ext (funext fun j => ?_) rfl
  dsimp only
  split <;> rfl
theorem sA2 {s : Ms} {k : Nat} {v w : Nat → Int32} : sA (sA s k v) k w = sA s k w := by
  unfold sA
  refine Prod.ext rfl (Prod.ext rfl (Prod.ext (funext fun j => ?_) rfl))
  dsimp only
  split <;> rfl
theorem sFA {s : Ms} {k j : Nat} {v : Int32} {f : Nat → Int32} : sA (sF s k v) j f = sF (sA s j f) k v := rfl
def oM (s : Ms) (m : Nat) : List Value := [.int (mF s 0), .ref (m + 1), .int (mF s 2), .int (mF s 3), .int (mF s 4), .int (mF s 5), .int (mF s 6), .int (mF s 7), .int (mF s 8), .int (mF s 9), .int (mF s 10), .int (mF s 11), .long (mWd s), .int (mF s 13), .ref (m + 2), .ref (m + 3), .ref (m + 4), .ref (m + 5), .ref (m + 6), .ref (m + 7), .ref (m + 8), .ref (m + 9), .ref (m + 10), .ref (m + 11), .ref (m + 12), .ref (m + 13), .int (mF s 26), .int (mF s 27), .ref (m + 14), .ref (m + 15), .int (mF s 30), .int (mF s 31), .int (mF s 32), .ref (m + 16), .int (mF s 34), .int (mF s 35), .int (mF s 36), .ref (m + 17), .int (mF s 38), .int (mF s 39), .ref (m + 18), .ref (m + 19), .int (mF s 42), .int (mF s 43), .ref (m + 20), .int (mF s 45), .int (mF s 46), .int (mF s 47), .int (mF s 48)]
theorem oM_0 {s : Ms} {m : Nat} : (oM s m)[0]? = some (.int (mF s 0)) := rfl
theorem oM_1 {s : Ms} {m : Nat} : (oM s m)[1]? = some (.ref (m + 1)) := rfl
theorem oM_2 {s : Ms} {m : Nat} : (oM s m)[2]? = some (.int (mF s 2)) := rfl
theorem oM_3 {s : Ms} {m : Nat} : (oM s m)[3]? = some (.int (mF s 3)) := rfl
theorem oM_4 {s : Ms} {m : Nat} : (oM s m)[4]? = some (.int (mF s 4)) := rfl
theorem oM_5 {s : Ms} {m : Nat} : (oM s m)[5]? = some (.int (mF s 5)) := rfl
theorem oM_6 {s : Ms} {m : Nat} : (oM s m)[6]? = some (.int (mF s 6)) := rfl
theorem oM_7 {s : Ms} {m : Nat} : (oM s m)[7]? = some (.int (mF s 7)) := rfl
theorem oM_8 {s : Ms} {m : Nat} : (oM s m)[8]? = some (.int (mF s 8)) := rfl
theorem oM_9 {s : Ms} {m : Nat} : (oM s m)[9]? = some (.int (mF s 9)) := rfl
theorem oM_10 {s : Ms} {m : Nat} : (oM s m)[10]? = some (.int (mF s 10)) := rfl
theorem oM_11 {s : Ms} {m : Nat} : (oM s m)[11]? = some (.int (mF s 11)) := rfl
theorem oM_12 {s : Ms} {m : Nat} : (oM s m)[12]? = some (.long (mWd s)) := rfl
theorem oM_13 {s : Ms} {m : Nat} : (oM s m)[13]? = some (.int (mF s 13)) := rfl
theorem oM_14 {s : Ms} {m : Nat} : (oM s m)[14]? = some (.ref (m + 2)) := rfl
theorem oM_15 {s : Ms} {m : Nat} : (oM s m)[15]? = some (.ref (m + 3)) := rfl
theorem oM_16 {s : Ms} {m : Nat} : (oM s m)[16]? = some (.ref (m + 4)) := rfl
theorem oM_17 {s : Ms} {m : Nat} : (oM s m)[17]? = some (.ref (m + 5)) := rfl
theorem oM_18 {s : Ms} {m : Nat} : (oM s m)[18]? = some (.ref (m + 6)) := rfl
theorem oM_19 {s : Ms} {m : Nat} : (oM s m)[19]? = some (.ref (m + 7)) := rfl
theorem oM_20 {s : Ms} {m : Nat} : (oM s m)[20]? = some (.ref (m + 8)) := rfl
theorem oM_21 {s : Ms} {m : Nat} : (oM s m)[21]? = some (.ref (m + 9)) := rfl
theorem oM_22 {s : Ms} {m : Nat} : (oM s m)[22]? = some (.ref (m + 10)) := rfl
theorem oM_23 {s : Ms} {m : Nat} : (oM s m)[23]? = some (.ref (m + 11)) := rfl
theorem oM_24 {s : Ms} {m : Nat} : (oM s m)[24]? = some (.ref (m + 12)) := rfl
theorem oM_25 {s : Ms} {m : Nat} : (oM s m)[25]? = some (.ref (m + 13)) := rfl
theorem oM_26 {s : Ms} {m : Nat} : (oM s m)[26]? = some (.int (mF s 26)) := rfl
theorem oM_27 {s : Ms} {m : Nat} : (oM s m)[27]? = some (.int (mF s 27)) := rfl
theorem oM_28 {s : Ms} {m : Nat} : (oM s m)[28]? = some (.ref (m + 14)) := rfl
theorem oM_29 {s : Ms} {m : Nat} : (oM s m)[29]? = some (.ref (m + 15)) := rfl
theorem oM_30 {s : Ms} {m : Nat} : (oM s m)[30]? = some (.int (mF s 30)) := rfl
theorem oM_31 {s : Ms} {m : Nat} : (oM s m)[31]? = some (.int (mF s 31)) := rfl
theorem oM_32 {s : Ms} {m : Nat} : (oM s m)[32]? = some (.int (mF s 32)) := rfl
theorem oM_33 {s : Ms} {m : Nat} : (oM s m)[33]? = some (.ref (m + 16)) := rfl
theorem oM_34 {s : Ms} {m : Nat} : (oM s m)[34]? = some (.int (mF s 34)) := rfl
theorem oM_35 {s : Ms} {m : Nat} : (oM s m)[35]? = some (.int (mF s 35)) := rfl
theorem oM_36 {s : Ms} {m : Nat} : (oM s m)[36]? = some (.int (mF s 36)) := rfl
theorem oM_37 {s : Ms} {m : Nat} : (oM s m)[37]? = some (.ref (m + 17)) := rfl
theorem oM_38 {s : Ms} {m : Nat} : (oM s m)[38]? = some (.int (mF s 38)) := rfl
theorem oM_39 {s : Ms} {m : Nat} : (oM s m)[39]? = some (.int (mF s 39)) := rfl
theorem oM_40 {s : Ms} {m : Nat} : (oM s m)[40]? = some (.ref (m + 18)) := rfl
theorem oM_41 {s : Ms} {m : Nat} : (oM s m)[41]? = some (.ref (m + 19)) := rfl
theorem oM_42 {s : Ms} {m : Nat} : (oM s m)[42]? = some (.int (mF s 42)) := rfl
theorem oM_43 {s : Ms} {m : Nat} : (oM s m)[43]? = some (.int (mF s 43)) := rfl
theorem oM_44 {s : Ms} {m : Nat} : (oM s m)[44]? = some (.ref (m + 20)) := rfl
theorem oM_45 {s : Ms} {m : Nat} : (oM s m)[45]? = some (.int (mF s 45)) := rfl
theorem oM_46 {s : Ms} {m : Nat} : (oM s m)[46]? = some (.int (mF s 46)) := rfl
theorem oM_47 {s : Ms} {m : Nat} : (oM s m)[47]? = some (.int (mF s 47)) := rfl
theorem oM_48 {s : Ms} {m : Nat} : (oM s m)[48]? = some (.int (mF s 48)) := rfl
theorem oMs_0 {s : Ms} {m : Nat} {v : Int32} : (oM s m).set 0 (.int v) = oM (sF s 0 v) m := rfl
theorem oMs_2 {s : Ms} {m : Nat} {v : Int32} : (oM s m).set 2 (.int v) = oM (sF s 2 v) m := rfl
theorem oMs_3 {s : Ms} {m : Nat} {v : Int32} : (oM s m).set 3 (.int v) = oM (sF s 3 v) m := rfl
theorem oMs_4 {s : Ms} {m : Nat} {v : Int32} : (oM s m).set 4 (.int v) = oM (sF s 4 v) m := rfl
theorem oMs_5 {s : Ms} {m : Nat} {v : Int32} : (oM s m).set 5 (.int v) = oM (sF s 5 v) m := rfl
theorem oMs_6 {s : Ms} {m : Nat} {v : Int32} : (oM s m).set 6 (.int v) = oM (sF s 6 v) m := rfl
theorem oMs_7 {s : Ms} {m : Nat} {v : Int32} : (oM s m).set 7 (.int v) = oM (sF s 7 v) m := rfl
theorem oMs_8 {s : Ms} {m : Nat} {v : Int32} : (oM s m).set 8 (.int v) = oM (sF s 8 v) m := rfl
theorem oMs_9 {s : Ms} {m : Nat} {v : Int32} : (oM s m).set 9 (.int v) = oM (sF s 9 v) m := rfl
theorem oMs_10 {s : Ms} {m : Nat} {v : Int32} : (oM s m).set 10 (.int v) = oM (sF s 10 v) m := rfl
theorem oMs_11 {s : Ms} {m : Nat} {v : Int32} : (oM s m).set 11 (.int v) = oM (sF s 11 v) m := rfl
theorem oMs_12 {s : Ms} {m : Nat} {v : Int64} : (oM s m).set 12 (.long v) = oM (sW s v) m := rfl
theorem oMs_13 {s : Ms} {m : Nat} {v : Int32} : (oM s m).set 13 (.int v) = oM (sF s 13 v) m := rfl
theorem oMs_26 {s : Ms} {m : Nat} {v : Int32} : (oM s m).set 26 (.int v) = oM (sF s 26 v) m := rfl
theorem oMs_27 {s : Ms} {m : Nat} {v : Int32} : (oM s m).set 27 (.int v) = oM (sF s 27 v) m := rfl
theorem oMs_30 {s : Ms} {m : Nat} {v : Int32} : (oM s m).set 30 (.int v) = oM (sF s 30 v) m := rfl
theorem oMs_31 {s : Ms} {m : Nat} {v : Int32} : (oM s m).set 31 (.int v) = oM (sF s 31 v) m := rfl
theorem oMs_32 {s : Ms} {m : Nat} {v : Int32} : (oM s m).set 32 (.int v) = oM (sF s 32 v) m := rfl
theorem oMs_34 {s : Ms} {m : Nat} {v : Int32} : (oM s m).set 34 (.int v) = oM (sF s 34 v) m := rfl
theorem oMs_35 {s : Ms} {m : Nat} {v : Int32} : (oM s m).set 35 (.int v) = oM (sF s 35 v) m := rfl
theorem oMs_36 {s : Ms} {m : Nat} {v : Int32} : (oM s m).set 36 (.int v) = oM (sF s 36 v) m := rfl
theorem oMs_38 {s : Ms} {m : Nat} {v : Int32} : (oM s m).set 38 (.int v) = oM (sF s 38 v) m := rfl
theorem oMs_39 {s : Ms} {m : Nat} {v : Int32} : (oM s m).set 39 (.int v) = oM (sF s 39 v) m := rfl
theorem oMs_42 {s : Ms} {m : Nat} {v : Int32} : (oM s m).set 42 (.int v) = oM (sF s 42 v) m := rfl
theorem oMs_43 {s : Ms} {m : Nat} {v : Int32} : (oM s m).set 43 (.int v) = oM (sF s 43 v) m := rfl
theorem oMs_45 {s : Ms} {m : Nat} {v : Int32} : (oM s m).set 45 (.int v) = oM (sF s 45 v) m := rfl
theorem oMs_46 {s : Ms} {m : Nat} {v : Int32} : (oM s m).set 46 (.int v) = oM (sF s 46 v) m := rfl
theorem oMs_47 {s : Ms} {m : Nat} {v : Int32} : (oM s m).set 47 (.int v) = oM (sF s 47 v) m := rfl
theorem oMs_48 {s : Ms} {m : Nat} {v : Int32} : (oM s m).set 48 (.int v) = oM (sF s 48 v) m := rfl
def cM (s : Ms) (m : Nat) (k : Nat) : Ce := match k with
  | 0 => .inl (11, oM s m)
  | 1 => .inr (.inl (0, 940, mA s 1))
  | 2 => .inr (.inl (0, 433, mA s 2))
  | 3 => .inr (.inl (0, 98, mA s 3))
  | 4 => .inr (.inl (0, 866, mA s 4))
  | 5 => .inr (.inl (0, 744, mA s 5))
  | 6 => .inr (.inl (0, 93, mA s 6))
  | 7 => .inr (.inl (0, 93, mA s 7))
  | 8 => .inr (.inr (.inl (14, mN s 8)))
  | 9 => .inr (.inr (.inl (14, mN s 9)))
  | 10 => .inr (.inr (.inl (28, mN s 10)))
  | 11 => .inr (.inl (1, 2, mA s 11))
  | 12 => .inr (.inl (1, 12, mA s 12))
  | 13 => .inr (.inl (1, 48, mA s 13))
  | 14 => .inr (.inl (0, 8, mA s 14))
  | 15 => .inr (.inl (0, 8, mA s 15))
  | 16 => .inr (.inl (0, 64, mA s 16))
  | 17 => .inr (.inl (0, 64, mA s 17))
  | 18 => .inr (.inl (0, 200, mA s 18))
  | 19 => .inr (.inl (0, 4, mA s 19))
  | _ => .inr (.inl (0, 240, mA s 20))
def hM (h : Hp) (m : Nat) (s : Ms) : Hp := (h.1, fun q => if m ≤ q ∧ q ≤ m + 20 then some (cM s m (q - m)) else h.2 q)
theorem hM_at {h : Hp} {m : Nat} {s : Ms} {k : Nat} (hk : k ≤ 20) : (hM h m s).2 (m + k) = some (cM s m k) := by
  unfold hM
  dsimp only
  rw [if_pos (by omega), Nat.add_sub_cancel_left]
theorem hM_out {h : Hp} {m : Nat} {s : Ms} {q : Nat} (hq : q < m ∨ m + 20 < q) : (hM h m s).2 q = h.2 q := if_neg (by omega)
theorem hM_set {h : Hp} {m : Nat} {s s' : Ms} {k : Nat} {e : Ce} (hk : k ≤ 20) (he : cM s' m k = e) (ho : ∀ j, j ≤ 20 → j ≠ k → cM s' m j = cM s m j) : hSet (hM h m s) (m + k) e = hM h m s' := by
  unfold hM hSet
  refine Prod.ext rfl (funext fun q => ?_)
  dsimp only
  by_cases h1 : q = m + k
  · subst h1
    rw [if_pos rfl, if_pos (by omega), Nat.add_sub_cancel_left, he]
  · rw [if_neg h1]
    by_cases h2 : m ≤ q ∧ q ≤ m + 20
    · rw [if_pos h2, if_pos h2, ho (q - m) (by omega) (by omega)]
    · rw [if_neg h2, if_neg h2]
theorem hM_1 {h : Hp} {m : Nat} {s : Ms} : (hM h m s).1 = h.1 := rfl
theorem le20 {P : Nat → Prop} (h : P 0 ∧ P 1 ∧ P 2 ∧ P 3 ∧ P 4 ∧ P 5 ∧ P 6 ∧ P 7 ∧ P 8 ∧ P 9 ∧ P 10 ∧ P 11 ∧ P 12 ∧ P 13 ∧ P 14 ∧ P 15 ∧ P 16 ∧ P 17 ∧ P 18 ∧ P 19 ∧ P 20) {j : Nat} (hj : j ≤ 20) : P j := by
  obtain ⟨h0, h1, h2, h3, h4, h5, h6, h7, h8, h9, h10, h11, h12, h13, h14, h15, h16, h17, h18, h19, h20⟩ := h
  rcases (show j = 0 ∨ j = 1 ∨ j = 2 ∨ j = 3 ∨ j = 4 ∨ j = 5 ∨ j = 6 ∨ j = 7 ∨ j = 8 ∨ j = 9 ∨ j = 10 ∨ j = 11 ∨ j = 12 ∨ j = 13 ∨ j = 14 ∨ j = 15 ∨ j = 16 ∨ j = 17 ∨ j = 18 ∨ j = 19 ∨ j = 20 by omega) with rfl | rfl | rfl | rfl | rfl | rfl | rfl | rfl | rfl | rfl | rfl | rfl | rfl | rfl | rfl | rfl | rfl | rfl | rfl | rfl | rfl <;> assumption
theorem hM_0 {h : Hp} {m : Nat} {s : Ms} : (hM h m s).2 m = some (.inl (11, oM s m)) := hM_at (k := 0) (by decide)
theorem hMs_0 {h : Hp} {m : Nat} {s s1 : Ms} (h1 : s1.2.2 = s.2.2) : hSet (hM h m s) m (.inl (11, oM s1 m)) = hM h m s1 := by
  obtain ⟨a, b, c, d⟩ := s
  obtain ⟨a1, b1, c1, d1⟩ := s1
  cases h1
  exact hM_set (k := 0) (by decide) rfl (fun j hj => le20 (P := fun j => j ≠ 0 → cM (a1, b1, c, d) m j = cM (a, b, c, d) m j) ⟨fun h => absurd rfl h, fun _ => rfl, fun _ => rfl, fun _ => rfl, fun _ => rfl, fun _ => rfl, fun _ => rfl, fun _ => rfl, fun _ => rfl, fun _ => rfl, fun _ => rfl, fun _ => rfl, fun _ => rfl, fun _ => rfl, fun _ => rfl, fun _ => rfl, fun _ => rfl, fun _ => rfl, fun _ => rfl, fun _ => rfl, fun _ => rfl⟩ hj)
theorem hMf {h : Hp} {m : Nat} {s : Ms} {k : Nat} {v : Int32} : hSet (hM h m s) m (.inl (11, oM (sF s k v) m)) = hM h m (sF s k v) := hMs_0 rfl
theorem hMw {h : Hp} {m : Nat} {s : Ms} {v : Int64} : hSet (hM h m s) m (.inl (11, oM (sW s v) m)) = hM h m (sW s v) := hMs_0 rfl
theorem hM_1a {h : Hp} {m : Nat} {s : Ms} : (hM h m s).2 (m + 1) = some (.inr (.inl (0, 940, mA s 1))) := hM_at (k := 1) (by decide)
theorem hM_1s {h : Hp} {m : Nat} {s : Ms} {f : Nat → Int32} : hSet (hM h m s) (m + 1) (.inr (.inl (0, 940, f))) = hM h m (sA s 1 f) := hM_set (k := 1) (by decide) rfl (fun j hj => le20 (P := fun j => j ≠ 1 → cM (sA s 1 f) m j = cM s m j) ⟨fun _ => rfl, fun h => absurd rfl h, fun _ => rfl, fun _ => rfl, fun _ => rfl, fun _ => rfl, fun _ => rfl, fun _ => rfl, fun _ => rfl, fun _ => rfl, fun _ => rfl, fun _ => rfl, fun _ => rfl, fun _ => rfl, fun _ => rfl, fun _ => rfl, fun _ => rfl, fun _ => rfl, fun _ => rfl, fun _ => rfl, fun _ => rfl⟩ hj)
theorem hM_2a {h : Hp} {m : Nat} {s : Ms} : (hM h m s).2 (m + 2) = some (.inr (.inl (0, 433, mA s 2))) := hM_at (k := 2) (by decide)
theorem hM_2s {h : Hp} {m : Nat} {s : Ms} {f : Nat → Int32} : hSet (hM h m s) (m + 2) (.inr (.inl (0, 433, f))) = hM h m (sA s 2 f) := hM_set (k := 2) (by decide) rfl (fun j hj => le20 (P := fun j => j ≠ 2 → cM (sA s 2 f) m j = cM s m j) ⟨fun _ => rfl, fun _ => rfl, fun h => absurd rfl h, fun _ => rfl, fun _ => rfl, fun _ => rfl, fun _ => rfl, fun _ => rfl, fun _ => rfl, fun _ => rfl, fun _ => rfl, fun _ => rfl, fun _ => rfl, fun _ => rfl, fun _ => rfl, fun _ => rfl, fun _ => rfl, fun _ => rfl, fun _ => rfl, fun _ => rfl, fun _ => rfl⟩ hj)
theorem hM_3a {h : Hp} {m : Nat} {s : Ms} : (hM h m s).2 (m + 3) = some (.inr (.inl (0, 98, mA s 3))) := hM_at (k := 3) (by decide)
theorem hM_3s {h : Hp} {m : Nat} {s : Ms} {f : Nat → Int32} : hSet (hM h m s) (m + 3) (.inr (.inl (0, 98, f))) = hM h m (sA s 3 f) := hM_set (k := 3) (by decide) rfl (fun j hj => le20 (P := fun j => j ≠ 3 → cM (sA s 3 f) m j = cM s m j) ⟨fun _ => rfl, fun _ => rfl, fun _ => rfl, fun h => absurd rfl h, fun _ => rfl, fun _ => rfl, fun _ => rfl, fun _ => rfl, fun _ => rfl, fun _ => rfl, fun _ => rfl, fun _ => rfl, fun _ => rfl, fun _ => rfl, fun _ => rfl, fun _ => rfl, fun _ => rfl, fun _ => rfl, fun _ => rfl, fun _ => rfl, fun _ => rfl⟩ hj)
theorem hM_4a {h : Hp} {m : Nat} {s : Ms} : (hM h m s).2 (m + 4) = some (.inr (.inl (0, 866, mA s 4))) := hM_at (k := 4) (by decide)
theorem hM_4s {h : Hp} {m : Nat} {s : Ms} {f : Nat → Int32} : hSet (hM h m s) (m + 4) (.inr (.inl (0, 866, f))) = hM h m (sA s 4 f) := hM_set (k := 4) (by decide) rfl (fun j hj => le20 (P := fun j => j ≠ 4 → cM (sA s 4 f) m j = cM s m j) ⟨fun _ => rfl, fun _ => rfl, fun _ => rfl, fun _ => rfl, fun h => absurd rfl h, fun _ => rfl, fun _ => rfl, fun _ => rfl, fun _ => rfl, fun _ => rfl, fun _ => rfl, fun _ => rfl, fun _ => rfl, fun _ => rfl, fun _ => rfl, fun _ => rfl, fun _ => rfl, fun _ => rfl, fun _ => rfl, fun _ => rfl, fun _ => rfl⟩ hj)
theorem hM_5a {h : Hp} {m : Nat} {s : Ms} : (hM h m s).2 (m + 5) = some (.inr (.inl (0, 744, mA s 5))) := hM_at (k := 5) (by decide)
theorem hM_5s {h : Hp} {m : Nat} {s : Ms} {f : Nat → Int32} : hSet (hM h m s) (m + 5) (.inr (.inl (0, 744, f))) = hM h m (sA s 5 f) := hM_set (k := 5) (by decide) rfl (fun j hj => le20 (P := fun j => j ≠ 5 → cM (sA s 5 f) m j = cM s m j) ⟨fun _ => rfl, fun _ => rfl, fun _ => rfl, fun _ => rfl, fun _ => rfl, fun h => absurd rfl h, fun _ => rfl, fun _ => rfl, fun _ => rfl, fun _ => rfl, fun _ => rfl, fun _ => rfl, fun _ => rfl, fun _ => rfl, fun _ => rfl, fun _ => rfl, fun _ => rfl, fun _ => rfl, fun _ => rfl, fun _ => rfl, fun _ => rfl⟩ hj)
theorem hM_6a {h : Hp} {m : Nat} {s : Ms} : (hM h m s).2 (m + 6) = some (.inr (.inl (0, 93, mA s 6))) := hM_at (k := 6) (by decide)
theorem hM_6s {h : Hp} {m : Nat} {s : Ms} {f : Nat → Int32} : hSet (hM h m s) (m + 6) (.inr (.inl (0, 93, f))) = hM h m (sA s 6 f) := hM_set (k := 6) (by decide) rfl (fun j hj => le20 (P := fun j => j ≠ 6 → cM (sA s 6 f) m j = cM s m j) ⟨fun _ => rfl, fun _ => rfl, fun _ => rfl, fun _ => rfl, fun _ => rfl, fun _ => rfl, fun h => absurd rfl h, fun _ => rfl, fun _ => rfl, fun _ => rfl, fun _ => rfl, fun _ => rfl, fun _ => rfl, fun _ => rfl, fun _ => rfl, fun _ => rfl, fun _ => rfl, fun _ => rfl, fun _ => rfl, fun _ => rfl, fun _ => rfl⟩ hj)
theorem hM_7a {h : Hp} {m : Nat} {s : Ms} : (hM h m s).2 (m + 7) = some (.inr (.inl (0, 93, mA s 7))) := hM_at (k := 7) (by decide)
theorem hM_7s {h : Hp} {m : Nat} {s : Ms} {f : Nat → Int32} : hSet (hM h m s) (m + 7) (.inr (.inl (0, 93, f))) = hM h m (sA s 7 f) := hM_set (k := 7) (by decide) rfl (fun j hj => le20 (P := fun j => j ≠ 7 → cM (sA s 7 f) m j = cM s m j) ⟨fun _ => rfl, fun _ => rfl, fun _ => rfl, fun _ => rfl, fun _ => rfl, fun _ => rfl, fun _ => rfl, fun h => absurd rfl h, fun _ => rfl, fun _ => rfl, fun _ => rfl, fun _ => rfl, fun _ => rfl, fun _ => rfl, fun _ => rfl, fun _ => rfl, fun _ => rfl, fun _ => rfl, fun _ => rfl, fun _ => rfl, fun _ => rfl⟩ hj)
theorem hM_8a {h : Hp} {m : Nat} {s : Ms} : (hM h m s).2 (m + 8) = some (.inr (.inr (.inl (14, mN s 8)))) := hM_at (k := 8) (by decide)
theorem hM_8s {h : Hp} {m : Nat} {s : Ms} {f : Nat → Int64} : hSet (hM h m s) (m + 8) (.inr (.inr (.inl (14, f)))) = hM h m (sN s 8 f) := hM_set (k := 8) (by decide) rfl (fun j hj => le20 (P := fun j => j ≠ 8 → cM (sN s 8 f) m j = cM s m j) ⟨fun _ => rfl, fun _ => rfl, fun _ => rfl, fun _ => rfl, fun _ => rfl, fun _ => rfl, fun _ => rfl, fun _ => rfl, fun h => absurd rfl h, fun _ => rfl, fun _ => rfl, fun _ => rfl, fun _ => rfl, fun _ => rfl, fun _ => rfl, fun _ => rfl, fun _ => rfl, fun _ => rfl, fun _ => rfl, fun _ => rfl, fun _ => rfl⟩ hj)
theorem hM_9a {h : Hp} {m : Nat} {s : Ms} : (hM h m s).2 (m + 9) = some (.inr (.inr (.inl (14, mN s 9)))) := hM_at (k := 9) (by decide)
theorem hM_9s {h : Hp} {m : Nat} {s : Ms} {f : Nat → Int64} : hSet (hM h m s) (m + 9) (.inr (.inr (.inl (14, f)))) = hM h m (sN s 9 f) := hM_set (k := 9) (by decide) rfl (fun j hj => le20 (P := fun j => j ≠ 9 → cM (sN s 9 f) m j = cM s m j) ⟨fun _ => rfl, fun _ => rfl, fun _ => rfl, fun _ => rfl, fun _ => rfl, fun _ => rfl, fun _ => rfl, fun _ => rfl, fun _ => rfl, fun h => absurd rfl h, fun _ => rfl, fun _ => rfl, fun _ => rfl, fun _ => rfl, fun _ => rfl, fun _ => rfl, fun _ => rfl, fun _ => rfl, fun _ => rfl, fun _ => rfl, fun _ => rfl⟩ hj)
theorem hM_10a {h : Hp} {m : Nat} {s : Ms} : (hM h m s).2 (m + 10) = some (.inr (.inr (.inl (28, mN s 10)))) := hM_at (k := 10) (by decide)
theorem hM_10s {h : Hp} {m : Nat} {s : Ms} {f : Nat → Int64} : hSet (hM h m s) (m + 10) (.inr (.inr (.inl (28, f)))) = hM h m (sN s 10 f) := hM_set (k := 10) (by decide) rfl (fun j hj => le20 (P := fun j => j ≠ 10 → cM (sN s 10 f) m j = cM s m j) ⟨fun _ => rfl, fun _ => rfl, fun _ => rfl, fun _ => rfl, fun _ => rfl, fun _ => rfl, fun _ => rfl, fun _ => rfl, fun _ => rfl, fun _ => rfl, fun h => absurd rfl h, fun _ => rfl, fun _ => rfl, fun _ => rfl, fun _ => rfl, fun _ => rfl, fun _ => rfl, fun _ => rfl, fun _ => rfl, fun _ => rfl, fun _ => rfl⟩ hj)
theorem hM_11a {h : Hp} {m : Nat} {s : Ms} : (hM h m s).2 (m + 11) = some (.inr (.inl (1, 2, mA s 11))) := hM_at (k := 11) (by decide)
theorem hM_11s {h : Hp} {m : Nat} {s : Ms} {f : Nat → Int32} : hSet (hM h m s) (m + 11) (.inr (.inl (1, 2, f))) = hM h m (sA s 11 f) := hM_set (k := 11) (by decide) rfl (fun j hj => le20 (P := fun j => j ≠ 11 → cM (sA s 11 f) m j = cM s m j) ⟨fun _ => rfl, fun _ => rfl, fun _ => rfl, fun _ => rfl, fun _ => rfl, fun _ => rfl, fun _ => rfl, fun _ => rfl, fun _ => rfl, fun _ => rfl, fun _ => rfl, fun h => absurd rfl h, fun _ => rfl, fun _ => rfl, fun _ => rfl, fun _ => rfl, fun _ => rfl, fun _ => rfl, fun _ => rfl, fun _ => rfl, fun _ => rfl⟩ hj)
theorem hM_12a {h : Hp} {m : Nat} {s : Ms} : (hM h m s).2 (m + 12) = some (.inr (.inl (1, 12, mA s 12))) := hM_at (k := 12) (by decide)
theorem hM_12s {h : Hp} {m : Nat} {s : Ms} {f : Nat → Int32} : hSet (hM h m s) (m + 12) (.inr (.inl (1, 12, f))) = hM h m (sA s 12 f) := hM_set (k := 12) (by decide) rfl (fun j hj => le20 (P := fun j => j ≠ 12 → cM (sA s 12 f) m j = cM s m j) ⟨fun _ => rfl, fun _ => rfl, fun _ => rfl, fun _ => rfl, fun _ => rfl, fun _ => rfl, fun _ => rfl, fun _ => rfl, fun _ => rfl, fun _ => rfl, fun _ => rfl, fun _ => rfl, fun h => absurd rfl h, fun _ => rfl, fun _ => rfl, fun _ => rfl, fun _ => rfl, fun _ => rfl, fun _ => rfl, fun _ => rfl, fun _ => rfl⟩ hj)
theorem hM_13a {h : Hp} {m : Nat} {s : Ms} : (hM h m s).2 (m + 13) = some (.inr (.inl (1, 48, mA s 13))) := hM_at (k := 13) (by decide)
theorem hM_13s {h : Hp} {m : Nat} {s : Ms} {f : Nat → Int32} : hSet (hM h m s) (m + 13) (.inr (.inl (1, 48, f))) = hM h m (sA s 13 f) := hM_set (k := 13) (by decide) rfl (fun j hj => le20 (P := fun j => j ≠ 13 → cM (sA s 13 f) m j = cM s m j) ⟨fun _ => rfl, fun _ => rfl, fun _ => rfl, fun _ => rfl, fun _ => rfl, fun _ => rfl, fun _ => rfl, fun _ => rfl, fun _ => rfl, fun _ => rfl, fun _ => rfl, fun _ => rfl, fun _ => rfl, fun h => absurd rfl h, fun _ => rfl, fun _ => rfl, fun _ => rfl, fun _ => rfl, fun _ => rfl, fun _ => rfl, fun _ => rfl⟩ hj)
theorem hM_14a {h : Hp} {m : Nat} {s : Ms} : (hM h m s).2 (m + 14) = some (.inr (.inl (0, 8, mA s 14))) := hM_at (k := 14) (by decide)
theorem hM_14s {h : Hp} {m : Nat} {s : Ms} {f : Nat → Int32} : hSet (hM h m s) (m + 14) (.inr (.inl (0, 8, f))) = hM h m (sA s 14 f) := hM_set (k := 14) (by decide) rfl (fun j hj => le20 (P := fun j => j ≠ 14 → cM (sA s 14 f) m j = cM s m j) ⟨fun _ => rfl, fun _ => rfl, fun _ => rfl, fun _ => rfl, fun _ => rfl, fun _ => rfl, fun _ => rfl, fun _ => rfl, fun _ => rfl, fun _ => rfl, fun _ => rfl, fun _ => rfl, fun _ => rfl, fun _ => rfl, fun h => absurd rfl h, fun _ => rfl, fun _ => rfl, fun _ => rfl, fun _ => rfl, fun _ => rfl, fun _ => rfl⟩ hj)
theorem hM_15a {h : Hp} {m : Nat} {s : Ms} : (hM h m s).2 (m + 15) = some (.inr (.inl (0, 8, mA s 15))) := hM_at (k := 15) (by decide)
theorem hM_15s {h : Hp} {m : Nat} {s : Ms} {f : Nat → Int32} : hSet (hM h m s) (m + 15) (.inr (.inl (0, 8, f))) = hM h m (sA s 15 f) := hM_set (k := 15) (by decide) rfl (fun j hj => le20 (P := fun j => j ≠ 15 → cM (sA s 15 f) m j = cM s m j) ⟨fun _ => rfl, fun _ => rfl, fun _ => rfl, fun _ => rfl, fun _ => rfl, fun _ => rfl, fun _ => rfl, fun _ => rfl, fun _ => rfl, fun _ => rfl, fun _ => rfl, fun _ => rfl, fun _ => rfl, fun _ => rfl, fun _ => rfl, fun h => absurd rfl h, fun _ => rfl, fun _ => rfl, fun _ => rfl, fun _ => rfl, fun _ => rfl⟩ hj)
theorem hM_16a {h : Hp} {m : Nat} {s : Ms} : (hM h m s).2 (m + 16) = some (.inr (.inl (0, 64, mA s 16))) := hM_at (k := 16) (by decide)
theorem hM_16s {h : Hp} {m : Nat} {s : Ms} {f : Nat → Int32} : hSet (hM h m s) (m + 16) (.inr (.inl (0, 64, f))) = hM h m (sA s 16 f) := hM_set (k := 16) (by decide) rfl (fun j hj => le20 (P := fun j => j ≠ 16 → cM (sA s 16 f) m j = cM s m j) ⟨fun _ => rfl, fun _ => rfl, fun _ => rfl, fun _ => rfl, fun _ => rfl, fun _ => rfl, fun _ => rfl, fun _ => rfl, fun _ => rfl, fun _ => rfl, fun _ => rfl, fun _ => rfl, fun _ => rfl, fun _ => rfl, fun _ => rfl, fun _ => rfl, fun h => absurd rfl h, fun _ => rfl, fun _ => rfl, fun _ => rfl, fun _ => rfl⟩ hj)
theorem hM_17a {h : Hp} {m : Nat} {s : Ms} : (hM h m s).2 (m + 17) = some (.inr (.inl (0, 64, mA s 17))) := hM_at (k := 17) (by decide)
theorem hM_17s {h : Hp} {m : Nat} {s : Ms} {f : Nat → Int32} : hSet (hM h m s) (m + 17) (.inr (.inl (0, 64, f))) = hM h m (sA s 17 f) := hM_set (k := 17) (by decide) rfl (fun j hj => le20 (P := fun j => j ≠ 17 → cM (sA s 17 f) m j = cM s m j) ⟨fun _ => rfl, fun _ => rfl, fun _ => rfl, fun _ => rfl, fun _ => rfl, fun _ => rfl, fun _ => rfl, fun _ => rfl, fun _ => rfl, fun _ => rfl, fun _ => rfl, fun _ => rfl, fun _ => rfl, fun _ => rfl, fun _ => rfl, fun _ => rfl, fun _ => rfl, fun h => absurd rfl h, fun _ => rfl, fun _ => rfl, fun _ => rfl⟩ hj)
theorem hM_18a {h : Hp} {m : Nat} {s : Ms} : (hM h m s).2 (m + 18) = some (.inr (.inl (0, 200, mA s 18))) := hM_at (k := 18) (by decide)
theorem hM_18s {h : Hp} {m : Nat} {s : Ms} {f : Nat → Int32} : hSet (hM h m s) (m + 18) (.inr (.inl (0, 200, f))) = hM h m (sA s 18 f) := hM_set (k := 18) (by decide) rfl (fun j hj => le20 (P := fun j => j ≠ 18 → cM (sA s 18 f) m j = cM s m j) ⟨fun _ => rfl, fun _ => rfl, fun _ => rfl, fun _ => rfl, fun _ => rfl, fun _ => rfl, fun _ => rfl, fun _ => rfl, fun _ => rfl, fun _ => rfl, fun _ => rfl, fun _ => rfl, fun _ => rfl, fun _ => rfl, fun _ => rfl, fun _ => rfl, fun _ => rfl, fun _ => rfl, fun h => absurd rfl h, fun _ => rfl, fun _ => rfl⟩ hj)
theorem hM_19a {h : Hp} {m : Nat} {s : Ms} : (hM h m s).2 (m + 19) = some (.inr (.inl (0, 4, mA s 19))) := hM_at (k := 19) (by decide)
theorem hM_19s {h : Hp} {m : Nat} {s : Ms} {f : Nat → Int32} : hSet (hM h m s) (m + 19) (.inr (.inl (0, 4, f))) = hM h m (sA s 19 f) := hM_set (k := 19) (by decide) rfl (fun j hj => le20 (P := fun j => j ≠ 19 → cM (sA s 19 f) m j = cM s m j) ⟨fun _ => rfl, fun _ => rfl, fun _ => rfl, fun _ => rfl, fun _ => rfl, fun _ => rfl, fun _ => rfl, fun _ => rfl, fun _ => rfl, fun _ => rfl, fun _ => rfl, fun _ => rfl, fun _ => rfl, fun _ => rfl, fun _ => rfl, fun _ => rfl, fun _ => rfl, fun _ => rfl, fun _ => rfl, fun h => absurd rfl h, fun _ => rfl⟩ hj)
theorem hM_20a {h : Hp} {m : Nat} {s : Ms} : (hM h m s).2 (m + 20) = some (.inr (.inl (0, 240, mA s 20))) := hM_at (k := 20) (by decide)
theorem hM_20s {h : Hp} {m : Nat} {s : Ms} {f : Nat → Int32} : hSet (hM h m s) (m + 20) (.inr (.inl (0, 240, f))) = hM h m (sA s 20 f) := hM_set (k := 20) (by decide) rfl (fun j hj => le20 (P := fun j => j ≠ 20 → cM (sA s 20 f) m j = cM s m j) ⟨fun _ => rfl, fun _ => rfl, fun _ => rfl, fun _ => rfl, fun _ => rfl, fun _ => rfl, fun _ => rfl, fun _ => rfl, fun _ => rfl, fun _ => rfl, fun _ => rfl, fun _ => rfl, fun _ => rfl, fun _ => rfl, fun _ => rfl, fun _ => rfl, fun _ => rfl, fun _ => rfl, fun _ => rfl, fun _ => rfl, fun h => absurd rfl h⟩ hj)
