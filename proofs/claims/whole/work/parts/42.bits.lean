/-! ===== bits ===== -/
def bt (x : Int32) (j : Nat) : Bool := x.toBitVec.getLsbD j
theorem bt_one : ∀ p, p < 8 → ∀ j, j < 32 → bt (1 <<< (nI p &&& 31)) j = decide (j = p) := by decide +kernel
theorem bt_or (x y : Int32) (j : Nat) : bt (x ||| y) j = (bt x j || bt y j) := by unfold bt; rw [Int32.toBitVec_or, BitVec.getLsbD_or]
theorem bt_and (x y : Int32) (j : Nat) : bt (x &&& y) j = (bt x j && bt y j) := by unfold bt; rw [Int32.toBitVec_and, BitVec.getLsbD_and]
theorem bt_xor (x y : Int32) (j : Nat) : bt (x ^^^ y) j = ((bt x j) ^^ (bt y j)) := by unfold bt; rw [Int32.toBitVec_xor, BitVec.getLsbD_xor]
theorem bt_m1 : ∀ j, j < 32 → bt (-1) j = true := by decide +kernel
theorem bt_0 : ∀ j, j < 32 → bt 0 j = false := by decide +kernel
theorem bt_inj {x y : Int32} (h : ∀ j, j < 32 → bt x j = bt y j) : x = y := by
  refine Int32.toBitVec_inj.mp (BitVec.eq_of_getLsbD_eq fun i hi => h i hi)
theorem bt_bits (c : Nat → Bool) : ∀ n, n ≤ 8 → ∀ j, j < 32 → bt (bitsOf c n) j = (decide (j < n) && c j)
  | 0, _, j, hj => by
    show bt 0 j = _
    rw [bt_0 j hj]
    simp
  | n + 1, hn, j, hj => by
    show bt (bitF c n (bitsOf c n)) j = _
    have ih := bt_bits c n (by omega) j hj
    unfold bitF
    by_cases hc : c n = true
    · rw [if_pos hc, bt_or, ih, bt_one n (by omega) j hj]
      by_cases e : j = n
      · subst e; simp [hc]
      · have : (j < n) = (j < n + 1) := propext (by omega)
        simp [e, this]
    · rw [if_neg hc, ih]
      by_cases e : j = n
      · subst e; simp [hc]
      · have : (j < n) = (j < n + 1) := propext (by omega)
        simp [this]
theorem bt_sub {x y : Int32} : (x &&& (y ^^^ -1) = 0) = ∀ j, j < 32 → bt x j = true → bt y j = true := by
  refine propext ⟨fun h j hj hx => ?_, fun h => bt_inj fun j hj => ?_⟩
  · have h1 : bt (x &&& (y ^^^ -1)) j = false := by rw [h]; exact bt_0 j hj
    rw [bt_and, bt_xor, bt_m1 j hj, hx] at h1
    simpa using h1
  · rw [bt_and, bt_xor, bt_m1 j hj, bt_0 j hj]
    cases e : bt x j
    · rfl
    · rw [h j hj e]; rfl
theorem one_sub {p : Nat} (hp : p < 8) {y : Int32} : ((1 : Int32) <<< (nI p &&& 31) &&& (y ^^^ -1) = 0) = (bt y p = true) := by
  rw [bt_sub]
  refine propext ⟨fun h => h p (by omega) (by rw [bt_one p hp p (by omega)]; simp), fun h j hj e => ?_⟩
  rw [bt_one p hp j hj] at e
  have e := of_decide_eq_true e
  rw [e]; exact h
theorem gd_one {p : Nat} {w : Wd} (hw : wPe w ≤ 8) (hp : p < wPe w) : gd (1 <<< (nI p &&& 31)) w = fun k => payC (daysW w k) p := by
  funext k
  unfold gd
  have e := (daysW_th w k).2
  have h : (1 <<< (nI p &&& 31) &&& (bitsOf (payC (daysW w k)) (wPe (daysW w k)) ^^^ -1) = 0) ↔ payC (daysW w k) p = true := by
    rw [one_sub (p := p) (by omega), bt_bits _ _ (by rw [e]; exact hw) p (by omega)]
    simp [e, hp]
  cases e2 : payC (daysW w k) p
  · exact decide_eq_false (fun q => by rw [h.mp q] at e2; cases e2)
  · exact decide_eq_true (h.mpr e2)
theorem sub_bits {c c2 : Nat → Bool} {n : Nat} (hn : n ≤ 8) : (bitsOf c n &&& (bitsOf c2 n ^^^ -1) = 0) = ∀ p, p < n → c p = true → c2 p = true := by
  rw [bt_sub]
  refine propext ⟨fun h p hp hc => ?_, fun h j hj e => ?_⟩
  · have h1 := h p (by omega)
    rw [bt_bits _ _ hn p (by omega), bt_bits _ _ hn p (by omega)] at h1
    simp [hp, hc] at h1
    exact h1
  · rw [bt_bits _ _ hn j hj] at e ⊢
    simp at e ⊢
    exact ⟨e.1, h j e.1 e.2⟩
/-- a bit shifted down -/
theorem and_1 (y : Int32) : y &&& 1 = if bt y 0 then 1 else 0 := by
  refine bt_inj fun j hj => ?_
  rw [bt_and]
  have h1 : bt 1 j = decide (j = 0) := by
    have := bt_one 0 (by decide) j hj
    exact this
  rw [h1]
  cases e : bt y 0
  · simp only [Bool.false_eq_true, if_false]
    rw [bt_0 j hj]
    by_cases z : j = 0
    · subst z; simp [e]
    · simp [z]
  · simp only [if_true]
    rw [h1]
    by_cases z : j = 0
    · subst z; simp [e]
    · simp [z]
theorem smod_k : ∀ k, k < 8 → ((nI k &&& 31).toBitVec.smod 32).toNat = k := by decide +kernel
theorem bt_shr (x : Int32) {k : Nat} (hk : k < 8) : bt (x >>> (nI k &&& 31)) 0 = bt x k := by
  unfold bt
  rw [Int32.toBitVec_shiftRight]
  show (BitVec.sshiftRight x.toBitVec ((nI k &&& 31).toBitVec.smod 32).toNat).getLsbD 0 = _
  rw [smod_k k hk, BitVec.getLsbD_sshiftRight]
  simp
  omega
theorem bit_at (x : Int32) {k : Nat} (hk : k < 8) : (x >>> (nI k &&& 31)) &&& 1 = if bt x k then 1 else 0 := by rw [and_1, bt_shr x hk]
theorem bt_clr (x : Int32) {p j : Nat} (hp : p < 8) (hj : j < 32) : bt (x &&& ((1 <<< (nI p &&& 31)) ^^^ -1)) j = (bt x j && !decide (j = p)) := by
  rw [bt_and, bt_xor, bt_one p hp j hj, bt_m1 j hj, Bool.xor_true]

