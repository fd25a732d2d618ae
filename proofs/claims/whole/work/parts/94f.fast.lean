/-! ===== locals, a step at a time (simp of lk and sto1 doubles with every local) ===== -/
theorem lkk_s {i : Nat} {v : Value} {l : Ls} : lk ((i, v) :: l) i = some v := if_pos rfl
theorem lkk_n {i k : Nat} {v : Value} {l : Ls} (h : ¬ i = k) : lk ((i, v) :: l) k = lk l k := if_neg h
theorem sto1_e {k : Nat} {v : Value} : sto1 [] k v = [(k, v)] := rfl
/-- the rest behind a stored local -/
def stf (k : Nat) (r : Ls) : Ls := r.filter (fun q => !(q.1 == k) && !(q.1 + 1 == k && q.2.category == 2))
theorem sto1_s {i : Nat} {w v : Value} {r : Ls} : sto1 ((i, w) :: r) i v = (i, v) :: stf i r := if_pos rfl
theorem sto1_i {i k : Nat} {x : Int32} {v : Value} {r : Ls} (h : ¬ i = k) : sto1 ((i, .int x) :: r) k v = (i, .int x) :: sto1 r k v := by
  rw [sto1, if_neg h, if_neg (fun z => absurd z.2 (by show ¬ 1 = 2; decide))]
theorem sto1_r {i k x : Nat} {v : Value} {r : Ls} (h : ¬ i = k) : sto1 ((i, .ref x) :: r) k v = (i, .ref x) :: sto1 r k v := by
  rw [sto1, if_neg h, if_neg (fun z => absurd z.2 (by show ¬ 1 = 2; decide))]
theorem sto1_l {i k : Nat} {x : Int64} {v : Value} {r : Ls} (h : ¬ i = k) (h2 : ¬ i + 1 = k) : sto1 ((i, .long x) :: r) k v = (i, .long x) :: sto1 r k v := by
  rw [sto1, if_neg h, if_neg (fun z => h2 z.1)]
theorem stf_e {k : Nat} : stf k [] = [] := rfl
theorem stf_i {i k : Nat} {x : Int32} {r : Ls} (h : ¬ i = k) : stf k ((i, .int x) :: r) = (i, .int x) :: stf k r := by
  unfold stf
  rw [List.filter_cons, if_pos]
  show (!(i == k) && !(i + 1 == k && Value.category (.int x) == 2)) = true
  rw [beq_eq_false_iff_ne.mpr h, show (Value.category (.int x) == 2) = false from rfl, Bool.and_false]
  rfl
theorem stf_r {i k x : Nat} {r : Ls} (h : ¬ i = k) : stf k ((i, .ref x) :: r) = (i, .ref x) :: stf k r := by
  unfold stf
  rw [List.filter_cons, if_pos]
  show (!(i == k) && !(i + 1 == k && Value.category (.ref x) == 2)) = true
  rw [beq_eq_false_iff_ne.mpr h, show (Value.category (.ref x) == 2) = false from rfl, Bool.and_false]
  rfl
theorem stf_l {i k : Nat} {x : Int64} {r : Ls} (h : ¬ i = k) (h2 : ¬ i + 1 = k) : stf k ((i, .long x) :: r) = (i, .long x) :: stf k r := by
  unfold stf
  rw [List.filter_cons, if_pos]
  show (!(i == k) && !(i + 1 == k && Value.category (.long x) == 2)) = true
  rw [beq_eq_false_iff_ne.mpr h, beq_eq_false_iff_ne.mpr h2, Bool.false_and]
  rfl

