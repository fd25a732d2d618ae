/-! ===== the coupling: numbers; the invariant; a step ===== -/
def RC (c : Cs) (s : Ms) : Prop :=
  (c.1 ≤ 940) ∧
  (TpOK c.2.1) ∧
  (mA s 1 = c.2.1) ∧
  (mF s 2 = nI c.1) ∧
  (WOK c.2.2.1) ∧
  (NWv c.2.2.1 (mA s 2)) ∧
  (NmR (wN c.2.2.1) (mN s 8) (wTh c.2.2.1) (wPe c.2.2.1)) ∧
  (NoN c.2.2.2.2.1 c.2.2.2.2.2.1 (mA s 2)) ∧
  (mF s 26 = nI c.2.2.2.1.length) ∧
  (PastR c.2.2.2.1 (wN c.2.2.1) (mA s 5) (mA s 2)) ∧
  (c.2.2.2.2.2.2.1.length ≤ 24) ∧
  (mF s 38 = nI c.2.2.2.2.2.2.1.length) ∧
  (TxP (mA s 17) c.2.2.2.2.2.2.1) ∧
  (mF s 10 = c.2.2.2.2.2.2.2.1) ∧
  (mF s 27 = c.2.2.2.2.2.2.2.2.2.1) ∧
  (mF s 36 = c.2.2.2.2.2.2.2.2.2.2.1) ∧
  (mF s 34 = c.2.2.2.2.2.2.2.2.2.2.2.2.1) ∧
  (mF s 35 = c.2.2.2.2.2.2.2.2.2.2.2.2.2.1) ∧
  ((mF s 43 = 0 ∧ ∀ i, i < 4 → c.2.2.2.2.2.2.2.2.1 i = -1) ∨ (¬ mF s 43 = 0 ∧ ∀ i, i < 4 → c.2.2.2.2.2.2.2.2.1 i = mA s 19 i)) ∧
  (∃ k, k ≤ 8 ∧ mF s 31 = nI k ∧ ((mF s 32 = 0 ∧ ∀ j, j < 8 → c.2.2.2.2.2.2.2.2.2.2.2.1 j = -1) ∨ (¬ mF s 32 = 0 ∧ (∀ j, j < k → c.2.2.2.2.2.2.2.2.2.2.2.1 j = mA s 15 j) ∧ ∀ j, k ≤ j → j < 8 → c.2.2.2.2.2.2.2.2.2.2.2.1 j = -1))) ∧
  (∀ k, k < 2 → (c.2.2.2.2.2.2.2.2.2.2.2.2.2.2.1 k = none ∧ mA s 11 k = 0) ∨ ((∃ N, c.2.2.2.2.2.2.2.2.2.2.2.2.2.2.1 k = some N) ∧ ¬ mA s 11 k = 0 ∧ WOK (c.2.2.2.2.2.2.2.2.2.2.2.2.2.2.2.2 k).1 ∧ NWv (c.2.2.2.2.2.2.2.2.2.2.2.2.2.2.2.2 k).1 (fun j => mA s 4 (433 * k + j)) ∧ NmR (wN (c.2.2.2.2.2.2.2.2.2.2.2.2.2.2.2.2 k).1) (fun j => mN s 10 (14 * k + j)) (wTh (c.2.2.2.2.2.2.2.2.2.2.2.2.2.2.2.2 k).1) (wPe (c.2.2.2.2.2.2.2.2.2.2.2.2.2.2.2.2 k).1) ∧ NoN (c.2.2.2.2.2.2.2.2.2.2.2.2.2.2.2.2 k).2.1 (c.2.2.2.2.2.2.2.2.2.2.2.2.2.2.2.2 k).2.2 (fun j => mA s 4 (433 * k + j))))
theorem RC.rn {c : Cs} {s : Ms} (hr : RC c s) : c.1 ≤ 940 := hr.1
theorem RC.rf {c : Cs} {s : Ms} (hr : RC c s) : TpOK c.2.1 := hr.2.1
theorem RC.r1 {c : Cs} {s : Ms} (hr : RC c s) : mA s 1 = c.2.1 := hr.2.2.1
theorem RC.r2 {c : Cs} {s : Ms} (hr : RC c s) : mF s 2 = nI c.1 := hr.2.2.2.1
theorem RC.rw {c : Cs} {s : Ms} (hr : RC c s) : WOK c.2.2.1 := hr.2.2.2.2.1
theorem RC.rv {c : Cs} {s : Ms} (hr : RC c s) : NWv c.2.2.1 (mA s 2) := hr.2.2.2.2.2.1
theorem RC.rm {c : Cs} {s : Ms} (hr : RC c s) : NmR (wN c.2.2.1) (mN s 8) (wTh c.2.2.1) (wPe c.2.2.1) := hr.2.2.2.2.2.2.1
theorem RC.rs {c : Cs} {s : Ms} (hr : RC c s) : NoN c.2.2.2.2.1 c.2.2.2.2.2.1 (mA s 2) := hr.2.2.2.2.2.2.2.1
theorem RC.rl {c : Cs} {s : Ms} (hr : RC c s) : mF s 26 = nI c.2.2.2.1.length := hr.2.2.2.2.2.2.2.2.1
theorem RC.rp {c : Cs} {s : Ms} (hr : RC c s) : PastR c.2.2.2.1 (wN c.2.2.1) (mA s 5) (mA s 2) := hr.2.2.2.2.2.2.2.2.2.1
theorem RC.rq {c : Cs} {s : Ms} (hr : RC c s) : c.2.2.2.2.2.2.1.length ≤ 24 := hr.2.2.2.2.2.2.2.2.2.2.1
theorem RC.r38 {c : Cs} {s : Ms} (hr : RC c s) : mF s 38 = nI c.2.2.2.2.2.2.1.length := hr.2.2.2.2.2.2.2.2.2.2.2.1
theorem RC.r17 {c : Cs} {s : Ms} (hr : RC c s) : TxP (mA s 17) c.2.2.2.2.2.2.1 := hr.2.2.2.2.2.2.2.2.2.2.2.2.1
theorem RC.r10 {c : Cs} {s : Ms} (hr : RC c s) : mF s 10 = c.2.2.2.2.2.2.2.1 := hr.2.2.2.2.2.2.2.2.2.2.2.2.2.1
theorem RC.r27 {c : Cs} {s : Ms} (hr : RC c s) : mF s 27 = c.2.2.2.2.2.2.2.2.2.1 := hr.2.2.2.2.2.2.2.2.2.2.2.2.2.2.1
theorem RC.r36 {c : Cs} {s : Ms} (hr : RC c s) : mF s 36 = c.2.2.2.2.2.2.2.2.2.2.1 := hr.2.2.2.2.2.2.2.2.2.2.2.2.2.2.2.1
theorem RC.r34 {c : Cs} {s : Ms} (hr : RC c s) : mF s 34 = c.2.2.2.2.2.2.2.2.2.2.2.2.1 := hr.2.2.2.2.2.2.2.2.2.2.2.2.2.2.2.2.1
theorem RC.r35 {c : Cs} {s : Ms} (hr : RC c s) : mF s 35 = c.2.2.2.2.2.2.2.2.2.2.2.2.2.1 := hr.2.2.2.2.2.2.2.2.2.2.2.2.2.2.2.2.2.1
theorem RC.rt {c : Cs} {s : Ms} (hr : RC c s) : (mF s 43 = 0 ∧ ∀ i, i < 4 → c.2.2.2.2.2.2.2.2.1 i = -1) ∨ (¬ mF s 43 = 0 ∧ ∀ i, i < 4 → c.2.2.2.2.2.2.2.2.1 i = mA s 19 i) := hr.2.2.2.2.2.2.2.2.2.2.2.2.2.2.2.2.2.2.1
theorem RC.rc {c : Cs} {s : Ms} (hr : RC c s) : ∃ k, k ≤ 8 ∧ mF s 31 = nI k ∧ ((mF s 32 = 0 ∧ ∀ j, j < 8 → c.2.2.2.2.2.2.2.2.2.2.2.1 j = -1) ∨ (¬ mF s 32 = 0 ∧ (∀ j, j < k → c.2.2.2.2.2.2.2.2.2.2.2.1 j = mA s 15 j) ∧ ∀ j, k ≤ j → j < 8 → c.2.2.2.2.2.2.2.2.2.2.2.1 j = -1)) := hr.2.2.2.2.2.2.2.2.2.2.2.2.2.2.2.2.2.2.2.1
theorem RC.ri {c : Cs} {s : Ms} (hr : RC c s) : ∀ k, k < 2 → (c.2.2.2.2.2.2.2.2.2.2.2.2.2.2.1 k = none ∧ mA s 11 k = 0) ∨ ((∃ N, c.2.2.2.2.2.2.2.2.2.2.2.2.2.2.1 k = some N) ∧ ¬ mA s 11 k = 0 ∧ WOK (c.2.2.2.2.2.2.2.2.2.2.2.2.2.2.2.2 k).1 ∧ NWv (c.2.2.2.2.2.2.2.2.2.2.2.2.2.2.2.2 k).1 (fun j => mA s 4 (433 * k + j)) ∧ NmR (wN (c.2.2.2.2.2.2.2.2.2.2.2.2.2.2.2.2 k).1) (fun j => mN s 10 (14 * k + j)) (wTh (c.2.2.2.2.2.2.2.2.2.2.2.2.2.2.2.2 k).1) (wPe (c.2.2.2.2.2.2.2.2.2.2.2.2.2.2.2.2 k).1) ∧ NoN (c.2.2.2.2.2.2.2.2.2.2.2.2.2.2.2.2 k).2.1 (c.2.2.2.2.2.2.2.2.2.2.2.2.2.2.2.2 k).2.2 (fun j => mA s 4 (433 * k + j))) := hr.2.2.2.2.2.2.2.2.2.2.2.2.2.2.2.2.2.2.2.2
theorem RC.f0 {c : Cs} {s : Ms} (hr : RC c s) : RC c (sF s 0 0) := ⟨hr.rn, hr.rf, hr.r1, hr.r2, hr.rw, hr.rv, hr.rm, hr.rs, hr.rl, hr.rp, hr.rq, hr.r38, hr.r17, hr.r10, hr.r27, hr.r36, hr.r34, hr.r35, hr.rt, hr.rc, hr.ri⟩
theorem RC.f1 {c : Cs} {s : Ms} {v : Int32} (hr : RC c s) : RC c (sF s 0 v) := ⟨hr.rn, hr.rf, hr.r1, hr.r2, hr.rw, hr.rv, hr.rm, hr.rs, hr.rl, hr.rp, hr.rq, hr.r38, hr.r17, hr.r10, hr.r27, hr.r36, hr.r34, hr.r35, hr.rt, hr.rc, hr.ri⟩
def Inv (G : Gt) (h : Hp) (B : Nat) : Prop := ∃ c s, HC G h B c ∧ RC c s ∧ hM h (B + 240) s = h
/-- a call of the class's, and of the model's: the same answer, and all holds again -/
def Cpl (G : Gt) (h : Hp) (B bc bs : Nat) (Mx Mm : Mth) (As : List Value) : Prop :=
  ∃ (d1 : Nat) (Q1 : QT), d1 < 90 ∧ Mt G d1 bc bs Mx (.ref B :: As) h Q1 ∧ ∀ v h1, Q1 v h1 → ∃ (x : Int32) (d2 : Nat) (Q2 : QT), v = some (.int x) ∧ d2 < 90 ∧ (∃ fs, h1.2 (B + 240) = some (.inl (11, fs))) ∧ Mt G d2 0 0 Mm (.ref (B + 240) :: As) h1 Q2 ∧ ∀ v2 h2, Q2 v2 h2 → v2 = some (.int x) ∧ Inv G h2 B
section Cpls
variable {G : Gt} {h : Hp} {B : Nat} {c : Cs} {s : Ms} {Mx Mm : Mth} {As : List Value} {d1 d2 bc bs : Nat} {Q1 : QT}
theorem hM_hM {h : Hp} {m : Nat} {s s' : Ms} : hM (hM h m s) m s' = hM h m s' := by
  unfold hM
  congr 1
  funext q
  dsimp only
  split
  · rfl
  · rfl
theorem HC.hM (hc : HC G h B c) : HC G (hM h (B + 240) s) B c := hc.all rfl (fun q hq => hM_out (by omega))
theorem hM_keep {h1 : Hp} (hm : hM h (B + 240) s = h) (e : ∀ q : Nat, B + 240 ≤ q → q ≤ B + 260 → h1.2 q = h.2 q) : hM h1 (B + 240) s = h1 := hM_of (fun k hk => by
  rw [e _ (by omega) (by omega), ← hm]
  exact hM_at hk)
theorem cpl_mk (hm : hM h (B + 240) s = h) (hd1 : d1 < 90) (h1 : Mt G d1 bc bs Mx (.ref B :: As) h Q1)
    (k : ∀ v h1, Q1 v h1 → ∃ (x : Int32) (c1 : Cs) (d2 : Nat) (Q2 : QT), v = some (.int x) ∧ d2 < 90 ∧ HC G h1 B c1 ∧ (∀ q : Nat, B + 240 ≤ q → q ≤ B + 260 → h1.2 q = h.2 q) ∧ Mt G d2 0 0 Mm (.ref (B + 240) :: As) (hM h1 (B + 240) s) Q2 ∧ ∀ v2 h2, Q2 v2 h2 → v2 = some (.int x) ∧ ∃ s2, h2 = hM h1 (B + 240) s2 ∧ RC c1 s2) : Cpl G h B bc bs Mx Mm As := by
  refine ⟨d1, Q1, hd1, h1, fun v h1 hq => ?_⟩
  obtain ⟨x, c1, d2, Q2, e1, hd2, hc1, ek, hM2, kk⟩ := k v h1 hq
  have e2 := hM_keep hm ek
  rw [e2] at hM2
  refine ⟨x, d2, Q2, e1, hd2, ⟨oM s (B + 240), by rw [← e2]; exact hM_0⟩, hM2, fun v2 h2 hq2 => ?_⟩
  obtain ⟨e3, s2, rfl, hr2⟩ := kk v2 h2 hq2
  exact ⟨e3, c1, s2, hc1.hM, hr2, hM_hM⟩
/-- a question: nothing changes -/
theorem cpl_q {x : Int32} (hc : HC G h B c) (hr : RC c s) (hm : hM h (B + 240) s = h) (hd1 : d1 < 90) (hd2 : d2 < 90) (h1 : Mt G d1 bc bs Mx (.ref B :: As) h (fun r h' => r = some (.int x) ∧ h' = h)) (h2 : ∀ h9, Mt G d2 0 0 Mm (.ref (B + 240) :: As) (hM h9 (B + 240) s) (fun r h' => r = some (.int x) ∧ h' = hM h9 (B + 240) (sF s 0 0))) : Cpl G h B bc bs Mx Mm As := by
  refine cpl_mk hm hd1 h1 (fun v h1 hq => ?_)
  obtain ⟨rfl, rfl⟩ := hq
  exact ⟨x, c, d2, _, rfl, hd2, hc, fun _ _ _ => rfl, h2 _, fun v2 h2 hq => ⟨hq.1, _, hq.2, hr.f0⟩⟩
end Cpls

