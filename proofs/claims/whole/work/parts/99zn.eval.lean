/-! ===== a Sentence: of whom it holds ===== -/
def cmpB (r : Nat) (v y : Int32) : Bool := if r = 60 then decide (v < y) else if r = 62 then decide (y < v) else decide (v = y)
def lfB (w : Wd) (p : Nat) (it : It) : Bool := if it.1 = 6 then decide (wI w 3 p = 0) else if it.1 = 7 then decide (wI w 3 p = 1) else if it.1 = 8 then decide (wI w 3 p = 2) else if it.1 = 18 then decide (lack w p it.2.1 = 0) else if it.1 = 19 then decide (¬ wI w 6 p = -1) else if it.1 = 20 then decide (wI w 2 p = nI it.2.1) else if it.1 = 21 then cmpB it.2.2.2 (sumO w p) (nI it.2.2.1) else if it.1 = 22 then cmpB it.2.2.2 (wI w 4 p) (nI it.2.2.1) else if it.1 = 23 then cmpB it.2.2.2 (wI w 5 p) (nI it.2.2.1) else cmpB it.2.2.2 (nI p) (nI it.2.2.1)
def evI (w : Wd) (p : Nat) (it : It) (A B : Bool) : Bool := if it.1 = 17 then !A else if it.1 = 16 then A && B else if it.1 = 15 then A || B else lfB w p it
def evF (w : Wd) (I : List It) (p : Nat) : Nat → Nat → Bool
  | 0, _ => false
  | f + 1, i => match I[i]? with
    | none => false
    | some it => evI w p it (evF w I p f it.2.1) (evF w I p f it.2.2.1)
/-- a plain one is as it should be -/
def ItV (it : It) : Prop := (it.1 = 6 ∨ it.1 = 7 ∨ it.1 = 8 ∨ it.1 = 19) ∨ ((it.1 = 18 ∨ it.1 = 20) ∧ it.2.1 < 2) ∨ ((it.1 = 21 ∨ it.1 = 22 ∨ it.1 = 23 ∨ it.1 = 24) ∧ it.2.2.1 ≤ 999 ∧ (it.2.2.2 = 60 ∨ it.2.2.2 = 61 ∨ it.2.2.2 = 62))
/-- the pile, as numbers of nodes, behind one more -/
def StF (i : Nat) (it : It) (S S' : List Nat) : Prop := (it.1 = 17 ∧ ∃ r, S = it.2.1 :: r ∧ S' = i :: r) ∨ ((it.1 = 16 ∨ it.1 = 15) ∧ ∃ r, S = it.2.2.1 :: it.2.1 :: r ∧ S' = i :: r) ∨ (ItV it ∧ S' = i :: S)
/-- I leaves the pile S -/
def Run (I : List It) (S : List Nat) : Prop := ∃ F : Nat → List Nat, F 0 = [] ∧ F I.length = S ∧ ∀ i it, I[i]? = some it → StF i it (F i) (F (i + 1))
theorem Run.nil : Run [] [] := ⟨fun _ => [], rfl, rfl, fun i it h => by cases h⟩
theorem Run.add {I : List It} {S S' : List Nat} {it : It} (h : Run I S) (hs : StF I.length it S S') : Run (I ++ [it]) S' := by
  obtain ⟨F, h0, h1, h2⟩ := h
  refine ⟨fun i => if i = I.length + 1 then S' else F i, (if_neg (show ¬ 0 = I.length + 1 by omega)).trans h0, ?_, fun i l hi => ?_⟩
  · rw [List.length_append]; exact if_pos rfl
  · by_cases c : i < I.length
    · rw [List.getElem?_append_left c] at hi
      dsimp only
      rw [if_neg (by omega), if_neg (by omega)]
      exact h2 i l hi
    · rw [List.getElem?_append_right (by omega)] at hi
      have e : i = I.length := by
        have := (List.getElem?_eq_some_iff.mp hi).1
        have : i - I.length < 1 := this
        omega
      subst e
      rw [Nat.sub_self] at hi
      cases hi
      dsimp only
      rw [if_neg (by omega), if_pos rfl, h1]
      exact hs
theorem Run.last {I : List It} {it : It} {S : List Nat} (h : Run (I ++ [it]) (I.length :: S)) : Run (I ++ [it]) (((I ++ [it]).length - 1) :: S) := by
  rw [show (I ++ [it]).length - 1 = I.length by rw [List.length_append]; exact Nat.add_sub_cancel _ 1]
  exact h
theorem StF.lt {i : Nat} {it : It} {S S' : List Nat} (h : StF i it S S') (hS : ∀ v ∈ S, v < i) : ∀ v ∈ S', v < i + 1 := by
  intro v hv
  rcases h with ⟨-, r, rfl, rfl⟩ | ⟨-, r, rfl, rfl⟩ | ⟨-, rfl⟩
  · rcases List.mem_cons.mp hv with q | q
    · omega
    · have := hS v (List.mem_cons_of_mem _ q); omega
  · rcases List.mem_cons.mp hv with q | q
    · omega
    · have := hS v (List.mem_cons_of_mem _ (List.mem_cons_of_mem _ q)); omega
  · rcases List.mem_cons.mp hv with q | q
    · omega
    · have := hS v q; omega
theorem StF.len {i : Nat} {it : It} {S S' : List Nat} (h : StF i it S S') : S'.length ≤ S.length + 1 ∧ 0 < S'.length := by
  rcases h with ⟨-, r, rfl, rfl⟩ | ⟨-, r, rfl, rfl⟩ | ⟨-, rfl⟩ <;> simp <;> omega
/-- children stand ahead -/
def Chd (I : List It) : Prop := ∀ (i : Nat) (it : It), I[i]? = some it → (it.1 = 17 → it.2.1 < i) ∧ (it.1 = 16 ∨ it.1 = 15 → it.2.1 < i ∧ it.2.2.1 < i)
theorem Run.lt {I : List It} {F : Nat → List Nat} (h0 : F 0 = []) (h2 : ∀ i it, I[i]? = some it → StF i it (F i) (F (i + 1))) : ∀ i, i ≤ I.length → ∀ v ∈ F i, v < i
  | 0, _, v, hv => by rw [h0] at hv; cases hv
  | i + 1, hi, v, hv => by
    have hl : i < I.length := by omega
    exact (h2 i _ (List.getElem?_eq_getElem hl)).lt (Run.lt h0 h2 i (by omega)) v hv
theorem Run.chd {I : List It} {S : List Nat} (h : Run I S) : Chd I := by
  obtain ⟨F, h0, h1, h2⟩ := h
  intro i it hi
  have hl := (List.getElem?_eq_some_iff.mp hi).1
  have hlt := Run.lt h0 h2 i (by omega)
  rcases h2 i it hi with ⟨e, r, q1, q2⟩ | ⟨e, r, q1, q2⟩ | ⟨e, q2⟩
  · rw [q1] at hlt
    exact ⟨fun _ => hlt _ List.mem_cons_self, fun z => by omega⟩
  · rw [q1] at hlt
    exact ⟨fun z => by omega, fun _ => ⟨hlt _ (List.mem_cons_of_mem _ List.mem_cons_self), hlt _ List.mem_cons_self⟩⟩
  · unfold ItV at e
    exact ⟨fun z => by omega, fun z => by omega⟩
theorem evF_st {w : Wd} {I : List It} {p : Nat} (hc : Chd I) : ∀ n f g i, i < n → i < f → i < g → evF w I p f i = evF w I p g i
  | 0, f, g, i, h, _, _ => absurd h (Nat.not_lt_zero i)
  | n + 1, f, g, i, hn, hf, hg => by
    obtain ⟨f', rfl⟩ : ∃ f', f = f' + 1 := ⟨f - 1, by omega⟩
    obtain ⟨g', rfl⟩ : ∃ g', g = g' + 1 := ⟨g - 1, by omega⟩
    rw [evF, evF]
    cases e : I[i]? with
    | none => rfl
    | some it =>
      dsimp only
      obtain ⟨c1, c2⟩ := hc i it e
      unfold evI
      by_cases k17 : it.1 = 17
      · rw [if_pos k17, if_pos k17, evF_st hc n f' g' it.2.1 (by have := c1 k17; omega) (by have := c1 k17; omega) (by have := c1 k17; omega)]
      · rw [if_neg k17, if_neg k17]
        by_cases k16 : it.1 = 16
        · have := c2 (Or.inl k16)
          rw [if_pos k16, if_pos k16, evF_st hc n f' g' it.2.1 (by omega) (by omega) (by omega), evF_st hc n f' g' it.2.2.1 (by omega) (by omega) (by omega)]
        · rw [if_neg k16, if_neg k16]
          by_cases k15 : it.1 = 15
          · have := c2 (Or.inr k15)
            rw [if_pos k15, if_pos k15, evF_st hc n f' g' it.2.1 (by omega) (by omega) (by omega), evF_st hc n f' g' it.2.2.1 (by omega) (by omega) (by omega)]
          · rw [if_neg k15, if_neg k15]
/-- whether node i holds of p -/
def evN (w : Wd) (I : List It) (i p : Nat) : Bool := evF w I p (i + 1) i
theorem evN_at {w : Wd} {I : List It} {i p : Nat} {it : It} (hc : Chd I) (hi : I[i]? = some it) : evN w I i p = evI w p it (evN w I it.2.1 p) (evN w I it.2.2.1 p) := by
  obtain ⟨c1, c2⟩ := hc i it hi
  unfold evN
  rw [evF, hi]
  dsimp only
  unfold evI
  by_cases k17 : it.1 = 17
  · have := c1 k17
    rw [if_pos k17, if_pos k17, evF_st hc (i + 1) i (it.2.1 + 1) it.2.1 (by omega) (by omega) (by omega)]
  · rw [if_neg k17, if_neg k17]
    by_cases k16 : it.1 = 16
    · have := c2 (Or.inl k16)
      rw [if_pos k16, if_pos k16, evF_st hc (i + 1) i (it.2.1 + 1) it.2.1 (by omega) (by omega) (by omega), evF_st hc (i + 1) i (it.2.2.1 + 1) it.2.2.1 (by omega) (by omega) (by omega)]
    · rw [if_neg k16, if_neg k16]
      by_cases k15 : it.1 = 15
      · have := c2 (Or.inr k15)
        rw [if_pos k15, if_pos k15, evF_st hc (i + 1) i (it.2.1 + 1) it.2.1 (by omega) (by omega) (by omega), evF_st hc (i + 1) i (it.2.2.1 + 1) it.2.2.1 (by omega) (by omega) (by omega)]
      · rw [if_neg k15, if_neg k15]
/-- each ONE leaves one more on the pile, its last node -/
def Psh (z z' : Sx) : Prop := z'.1.2.1 = 0 → ∀ S, Run z.2.2 S → Run z'.2.2 ((z'.2.2.length - 1) :: S)
theorem tSg_s {x : Tx} {c : Nat} {st : St} (h : (tSg x c st).2.1 = 0) : st.2.1 = 0 := (tSg_0 h).1
theorem Psh.lp {x : Tx} {one : Sx → Sx} {k : Nat} (hk : k = 16 ∨ k = 15) (ho : ∀ z, z.2.1 ≤ 20 → Psh z (one z)) (hG : ∀ z, z.2.1 ≤ 20 → Grw z (one z)) (h20 : ∀ z, z.2.1 ≤ 20 → (one z).2.1 ≤ 20) : ∀ g (z0 z : Sx), z.2.1 ≤ 20 → Psh z0 z → Psh z0 (sLp x one k g z)
  | 0, z0, z, _, h => h
  | g + 1, z0, z, hz, h => by
    rw [sLp]
    split
    · rename_i c
      refine Psh.lp hk ho hG h20 g z0 _ (h20 (stp x z.1, z.2) hz) ?_
      intro hs S hS
      have r1 := h (isW_k c).1 S hS
      have r2 := ho (stp x z.1, z.2) hz hs _ r1
      have g1 := hG (stp x z.1, z.2) hz hs
      have := r2.add (it := (k, z.2.2.length - 1, (one (stp x z.1, z.2)).2.2.length - 1, 0)) (S' := (one (stp x z.1, z.2)).2.2.length :: S) (Or.inr (Or.inl ⟨hk, S, rfl, rfl⟩))
      exact Run.last this
    · exact h
theorem Psh.all {x : Tx} {one : Sx → Sx} (ho : ∀ z, z.2.1 ≤ 20 → Psh z (one z)) (hG : ∀ z, z.2.1 ≤ 20 → Grw z (one z)) (h20 : ∀ z, z.2.1 ≤ 20 → (one z).2.1 ≤ 20) (z : Sx) (hz : z.2.1 ≤ 20) : Psh z (sAll x one z) := Psh.lp (Or.inl rfl) ho hG h20 20 z _ (h20 z hz) (ho z hz)
theorem Psh.cnd {x : Tx} {one : Sx → Sx} (ho : ∀ z, z.2.1 ≤ 20 → Psh z (one z)) (hG : ∀ z, z.2.1 ≤ 20 → Grw z (one z)) (h20 : ∀ z, z.2.1 ≤ 20 → (one z).2.1 ≤ 20) (z : Sx) (hz : z.2.1 ≤ 20) : Psh z (sCnd x one z) := Psh.lp (Or.inr rfl) (fun z hz => Psh.all ho hG h20 z hz) (fun z hz => Grw.all hG z hz) (fun z hz => le20_all h20 z hz) 20 z _ (le20_all h20 z hz) (Psh.all ho hG h20 z hz)
theorem op_cs : ∀ k, opw k = true → k = 17 ∨ (k = 6 ∨ k = 7 ∨ k = 8 ∨ k = 19) ∨ (k = 18 ∨ k = 20) ∨ (k = 21 ∨ k = 22 ∨ k = 23 ∨ k = 24) := fun k h => by
  have := of_decide_eq_true h
  omega
theorem pl_v {x : Tx} {k : Nat} {st : St} (hk : opw k = true) (h17 : k ≠ 17) (h : (plS x k st).2.1 = 0) : ItV (plI x k st) := by
  unfold plS at h
  unfold plI ItV
  rcases op_cs k hk with q | q | q | q
  · exact absurd q h17
  · rw [if_neg (by omega), if_neg (by omega)]; exact Or.inl q
  · rw [if_pos q]; exact Or.inr (Or.inl ⟨q, vEn_lt⟩)
  · rw [if_neg (by omega), if_pos (by omega)] at h ⊢
    have h1 := tNm_0 h
    have h2 := tCp_0 h1.1
    refine Or.inr (Or.inr ⟨q, ?_, ?_⟩)
    · have := h1.2.2
      show (tkx x (tCp x st).1).2.2.2 ≤ 999
      omega
    · have := h2.2.1
      unfold isC at this
      rw [Bool.or_eq_true, Bool.or_eq_true] at this
      rcases this with q | q | q
      · exact Or.inl (of_decide_eq_true q).2.2
      · exact Or.inr (Or.inl (of_decide_eq_true q).2.2)
      · exact Or.inr (Or.inr (of_decide_eq_true q).2.2)
theorem Psh.one {x : Tx} : ∀ f (z : Sx), z.2.1 ≤ 20 → Psh z (sOne x f z)
  | 0, z, hz => fun h => absurd h (fun h => by
    rw [sOne] at h
    have h : (if opn x z.1 = true then flt x 4 z.1 else flt x 1 z.1).2.1 = 0 := h
    split at h
    · exact (flt_n0 (by decide) h).elim
    · exact (flt_n0 (by decide) h).elim)
  | f + 1, z, hz => by
    intro h S hS
    rw [sOne] at h ⊢
    split at h
    · rename_i c1
      rw [if_pos c1]
      split at h
      · exact (flt_n0 (by decide) h).elim
      · rename_i c2
        rw [if_neg c2]
        split at h
        · rename_i c3
          rw [if_pos c3]
          exact Psh.cnd (Psh.one f) (Grw.one f) (le20_one f) (stp x z.1, z.2.1 + 1, z.2.2) (by show z.2.1 + 1 ≤ 20; omega) (tSg_s h) S hS
        · rename_i c3
          rw [if_neg c3]
          split at h
          · rename_i c4
            rw [if_pos c4]
            have r1 := Psh.one f (stp x z.1, z.2.1 + 1, z.2.2) (by show z.2.1 + 1 ≤ 20; omega) h S hS
            have := r1.add (it := (17, (sOne x f (stp x z.1, z.2.1 + 1, z.2.2)).2.2.length - 1, 0, 0)) (S' := (sOne x f (stp x z.1, z.2.1 + 1, z.2.2)).2.2.length :: S) (Or.inl ⟨rfl, S, rfl, rfl⟩)
            exact Run.last this
          · rename_i c4
            rw [if_neg c4]
            obtain ⟨hs, hc⟩ := opn_cases c1
            rcases hc with q | ⟨-, q2, q3⟩
            · exact absurd q c3
            have n17 : wix (tkx x z.1.1).2.2.1 ≠ 17 := fun q => c4 (decide_eq_true ⟨hs, q2, q⟩)
            have := hS.add (it := plI x (wix (tkx x z.1.1).2.2.1) (stp x z.1)) (S' := z.2.2.length :: S) (Or.inr (Or.inr ⟨pl_v q3 n17 h, rfl⟩))
            exact Run.last this
    · exact (flt_n0 (by decide) h).elim
/-- a Sentence that is told -/
def SeV (n : Nat) (I : List It) : Prop := 0 < n ∧ n ≤ 20 ∧ 0 < I.length ∧ I.length < 40 ∧ Run I [I.length - 1]
theorem sRd_v {x : Tx} (h : (sRd x).1.2.1 = 0) : SeV (sRd x).2.1 (sRd x).2.2 := by
  unfold sRd at h ⊢
  have h : (if (tkx x (sCnd x (sOne x 8) ((0, 0, 0), 0, [])).1.1).1 = 0 then (sCnd x (sOne x 8) ((0, 0, 0), 0, [])).1 else flt x 1 (sCnd x (sOne x 8) ((0, 0, 0), 0, [])).1).2.1 = 0 := h
  split at h
  · have g := Grw.cnd (x := x) (Grw.one 8) ((0, 0, 0), 0, []) (Nat.zero_le _) h
    have p := Psh.cnd (x := x) (Psh.one 8) (Grw.one 8) (le20_one 8) ((0, 0, 0), 0, []) (Nat.zero_le _) h [] Run.nil
    obtain ⟨g1, g2, g3, g4, g5⟩ := g
    have g4 : (sCnd x (sOne x 8) ((0, 0, 0), 0, [])).2.2.length + 0 + 1 ≤ 0 + 2 * (sCnd x (sOne x 8) ((0, 0, 0), 0, [])).2.1 := g4
    exact ⟨g2, g3, g5, by show (sCnd x (sOne x 8) ((0, 0, 0), 0, [])).2.2.length < 40; omega, p⟩
  · exact (flt_n0 (by decide) h).elim

