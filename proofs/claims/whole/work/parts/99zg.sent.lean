/-! ===== a Sentence: what both read ===== -/
/-- word, and what the model's node holds beside it -/
abbrev It : Type := Nat × Nat × Nat × Nat
/-- where the reader is, how many ONES, what is put -/
abbrev Sx : Type := St × Nat × List It
def opw (k : Nat) : Bool := decide (k = 17 ∨ k = 6 ∨ k = 7 ∨ k = 8 ∨ k = 18 ∨ k = 19 ∨ k = 20 ∨ k = 21 ∨ k = 22 ∨ k = 23 ∨ k = 24)
/-- a word that opens a ONE is here -/
def isO (x : Tx) (st : St) : Bool := decide (st.2.1 = 0 ∧ (tkx x st.1).1 = 2) && opw (wix (tkx x st.1).2.2.1)
def opn (x : Tx) (st : St) : Bool := isG x 40 st || isO x st
def plS (x : Tx) (k : Nat) (st : St) : St := if k = 18 ∨ k = 20 then tEn x st else if 21 ≤ k then tNm x 0 999 (tCp x st) else st
def plI (x : Tx) (k : Nat) (st : St) : It := if k = 18 ∨ k = 20 then (k, vEn x st, 0, 0) else if 21 ≤ k then (k, 0, (tkx x (tCp x st).1).2.2.2, (tkx x st.1).2.2.2) else (k, 0, 0, 0)
/-- one, and then more of them behind the word k -/
def sLp (x : Tx) (one : Sx → Sx) (k : Nat) : Nat → Sx → Sx
  | 0, z => z
  | g + 1, z => if isW x k z.1 = true then sLp x one k g ((one (stp x z.1, z.2)).1, (one (stp x z.1, z.2)).2.1, (one (stp x z.1, z.2)).2.2 ++ [(k, z.2.2.length - 1, (one (stp x z.1, z.2)).2.2.length - 1, 0)]) else z
def sAll (x : Tx) (one : Sx → Sx) (z : Sx) : Sx := sLp x one 16 20 (one z)
def sCnd (x : Tx) (one : Sx → Sx) (z : Sx) : Sx := sLp x (sAll x one) 15 20 (sAll x one z)
def sOne (x : Tx) : Nat → Sx → Sx
  | 0, z => (if opn x z.1 = true then flt x 4 z.1 else flt x 1 z.1, z.2)
  | f + 1, z => if opn x z.1 = true then (if 20 ≤ z.2.1 then (flt x 4 z.1, z.2) else
      if isG x 40 z.1 = true then (tSg x 41 (sCnd x (sOne x f) (stp x z.1, z.2.1 + 1, z.2.2)).1, (sCnd x (sOne x f) (stp x z.1, z.2.1 + 1, z.2.2)).2)
      else if isW x 17 z.1 = true then ((sOne x f (stp x z.1, z.2.1 + 1, z.2.2)).1, (sOne x f (stp x z.1, z.2.1 + 1, z.2.2)).2.1, (sOne x f (stp x z.1, z.2.1 + 1, z.2.2)).2.2 ++ [(17, (sOne x f (stp x z.1, z.2.1 + 1, z.2.2)).2.2.length - 1, 0, 0)])
      else (plS x (wix (tkx x z.1.1).2.2.1) (stp x z.1), z.2.1 + 1, z.2.2 ++ [plI x (wix (tkx x z.1.1).2.2.1) (stp x z.1)])) else (flt x 1 z.1, z.2)
/-- what is read grows: no more items than twice the ONES less one -/
def Grw (z z' : Sx) : Prop := z'.1.2.1 = 0 → z.1.2.1 = 0 ∧ z.2.1 < z'.2.1 ∧ z'.2.1 ≤ 20 ∧ z'.2.2.length + 2 * z.2.1 + 1 ≤ z.2.2.length + 2 * z'.2.1 ∧ z.2.2.length < z'.2.2.length
theorem plS_0 {x : Tx} {k : Nat} {st : St} (h : (plS x k st).2.1 = 0) : st.2.1 = 0 := by
  unfold plS at h
  split at h
  · exact (tEn_0 h).1
  split at h
  · have h1 := (tNm_0 h).1
    unfold tCp at h1
    split at h1
    · rw [stp_0] at h1; exact h1
    · exact (flt_n0 (by decide) h1).elim
  · exact h
theorem Grw.lp {x : Tx} {one : Sx → Sx} {k : Nat} (ho : ∀ z, z.2.1 ≤ 20 → Grw z (one z)) : ∀ g (z0 z : Sx), Grw z0 z → Grw z0 (sLp x one k g z)
  | 0, z0, z, h => h
  | g + 1, z0, z, h => by
    rw [sLp]
    split
    · rename_i c
      refine Grw.lp ho g z0 _ ?_
      intro hs
      have hz := h (isW_k c).1
      have h1 := ho (stp x z.1, z.2) hz.2.2.1 hs
      obtain ⟨a1, a2, a3, a4, a5⟩ := h1
      obtain ⟨b1, b2, b3, b4, b5⟩ := hz
      refine ⟨b1, ?_, ?_, ?_, ?_⟩
      · have a2 : z.2.1 < (one (stp x z.1, z.2)).2.1 := a2
        show z0.2.1 < (one (stp x z.1, z.2)).2.1
        omega
      · exact a3
      · rw [List.length_append]
        have a4 : (one (stp x z.1, z.2)).2.2.length + 2 * z.2.1 + 1 ≤ z.2.2.length + 2 * (one (stp x z.1, z.2)).2.1 := a4
        show (one (stp x z.1, z.2)).2.2.length + 1 + 2 * z0.2.1 + 1 ≤ z0.2.2.length + 2 * (one (stp x z.1, z.2)).2.1
        omega
      · rw [List.length_append]
        have a5 : z.2.2.length < (one (stp x z.1, z.2)).2.2.length := a5
        omega
    · exact h
theorem Grw.all {x : Tx} {one : Sx → Sx} (ho : ∀ z, z.2.1 ≤ 20 → Grw z (one z)) (z : Sx) (hz : z.2.1 ≤ 20) : Grw z (sAll x one z) := Grw.lp ho 20 z _ (ho z hz)
theorem Grw.cnd {x : Tx} {one : Sx → Sx} (ho : ∀ z, z.2.1 ≤ 20 → Grw z (one z)) (z : Sx) (hz : z.2.1 ≤ 20) : Grw z (sCnd x one z) := Grw.lp (fun z hz => Grw.all ho z hz) 20 z _ (Grw.all ho z hz)
theorem Grw.one {x : Tx} : ∀ f (z : Sx), z.2.1 ≤ 20 → Grw z (sOne x f z)
  | 0, z, _ => by
    intro h
    rw [sOne] at h
    have h : (if opn x z.1 = true then flt x 4 z.1 else flt x 1 z.1).2.1 = 0 := h
    split at h
    · exact (flt_n0 (by decide) h).elim
    · exact (flt_n0 (by decide) h).elim
  | f + 1, z, hz => by
    intro h
    rw [sOne] at h ⊢
    split at h
    · rename_i c1
      rw [if_pos c1]
      split at h
      · exact (flt_n0 (by decide) h).elim
      · rename_i c2
        rw [if_neg c2]
        split at h
        · rename_i c3
          rw [if_pos c3]
          obtain ⟨a1, a2, a3, a4, a5⟩ := Grw.cnd (Grw.one f) (stp x z.1, z.2.1 + 1, z.2.2) (by show z.2.1 + 1 ≤ 20; omega) (tSg_0 h).1
          have a1 : (stp x z.1).2.1 = 0 := a1
          rw [stp_0] at a1
          generalize sCnd x (sOne x f) (stp x z.1, z.2.1 + 1, z.2.2) = y at *
          have a2 : z.2.1 + 1 < y.2.1 := a2
          have a4 : y.2.2.length + 2 * (z.2.1 + 1) + 1 ≤ z.2.2.length + 2 * y.2.1 := a4
          have a5 : z.2.2.length < y.2.2.length := a5
          exact ⟨a1, by show z.2.1 < y.2.1; omega, a3, by show y.2.2.length + 2 * z.2.1 + 1 ≤ z.2.2.length + 2 * y.2.1; omega, a5⟩
        · rename_i c3
          rw [if_neg c3]
          split at h
          · rename_i c4
            rw [if_pos c4]
            obtain ⟨a1, a2, a3, a4, a5⟩ := Grw.one f (stp x z.1, z.2.1 + 1, z.2.2) (by show z.2.1 + 1 ≤ 20; omega) h
            have a1 : (stp x z.1).2.1 = 0 := a1
            rw [stp_0] at a1
            generalize sOne x f (stp x z.1, z.2.1 + 1, z.2.2) = y at *
            have a2 : z.2.1 + 1 < y.2.1 := a2
            have a4 : y.2.2.length + 2 * (z.2.1 + 1) + 1 ≤ z.2.2.length + 2 * y.2.1 := a4
            have a5 : z.2.2.length < y.2.2.length := a5
            refine ⟨a1, by show z.2.1 < y.2.1; omega, a3, ?_, ?_⟩
            · rw [List.length_append]
              show y.2.2.length + 1 + 2 * z.2.1 + 1 ≤ z.2.2.length + 2 * y.2.1
              omega
            · rw [List.length_append]
              omega
          · rename_i c4
            rw [if_neg c4]
            have h := plS_0 h
            rw [stp_0] at h
            refine ⟨h, ?_, ?_, ?_, ?_⟩
            · show z.2.1 < z.2.1 + 1; omega
            · show z.2.1 + 1 ≤ 20; omega
            · rw [List.length_append]
              show z.2.2.length + 1 + 2 * z.2.1 + 1 ≤ z.2.2.length + 2 * (z.2.1 + 1)
              omega
            · rw [List.length_append]
              show z.2.2.length < z.2.2.length + 1
              omega
    · exact (flt_n0 (by decide) h).elim

