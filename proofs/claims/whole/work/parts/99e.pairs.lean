/-! ===== the class's tryPairs: its heap ===== -/
theorem tq_0 {D : Nat → Nat → Nat} {N : Int32} {f x : Nat} {left : Int32} {pr : Nat → Int32} {st : Sst} (h : st.1 ≤ x) : tq D N f left pr x st = st := by
  cases f with
  | zero => rw [tq, if_pos h]
  | succ f => rw [tq, if_pos h]
theorem tq_down {D : Nat → Nat → Nat} {N : Int32} {left : Int32} {pr : Nat → Int32} {x : Nat} {st : Sst} : ∀ (k f : Nat), k + f ≤ 8 → (∀ j, 8 - (k + f) ≤ j → j < 8 - f → bt left j = false) → tq D N (k + f) left pr x st = tq D N f left pr x st
  | 0, f, _, _ => by rw [Nat.zero_add]
  | k + 1, f, h, hb => by
    have ih := tq_down (D := D) (N := N) (left := left) (pr := pr) (x := x) (st := st) k f (by omega) (fun j h1 h2 => hb j (by omega) h2)
    by_cases c : st.1 ≤ x
    · rw [tq_0 c, tq_0 c]
    · rw [show k + 1 + f = (k + f) + 1 by omega, tq, if_neg c, if_neg]
      · exact ih
      · rw [hb (7 - (k + f)) (by omega) (by omega)]; decide
theorem tq_le {D : Nat → Nat → Nat} {N : Int32} : ∀ f left pr x st, (tq D N f left pr x st).1 ≤ st.1
  | 0, _, pr, x, st => by
    rw [tq]
    split
    · exact Nat.le_refl _
    · rename_i h; show x ≤ st.1; omega
  | f + 1, left, pr, x, st => by
    rw [tq]
    split
    · exact Nat.le_refl _
    · split
      · refine Nat.le_trans (tq_le f _ _ _ _) ?_
        refine lp_ind (P := fun y : Sst => y.1 ≤ st.1) (Nat.le_refl _) (fun i y hy => ?_) f
        split
        · exact Nat.le_trans (tq_le f _ _ _ _) hy
        · exact hy
      · exact tq_le f _ _ _ _
/-- what tryPairs works on -/
def HasS (h : Hp) (o dr : Nat) (t cr : Int32) (st : Sst) (pr : Nat → Int32) (pd : Nat → Nat → Int32) : Prop := h.2 o = some (oO o dr t cr (nI st.1)) ∧ h.2 (o + 13) = some (.inr (.inl (0, 8, st.2.1))) ∧ h.2 (o + 14) = some (.inr (.inr (.inr (3, 8, fun i => some (o + 15 + i))))) ∧ (∀ i, i < 8 → h.2 (o + 15 + i) = some (.inr (.inl (0, 8, pd i)))) ∧ h.2 (o + 23) = some (.inr (.inl (0, 8, pr)))
def Fsc (o : Nat) (h h' : Hp) : Prop := h'.1 = h.1 ∧ ∀ q : Nat, q ≠ o → q ≠ o + 13 → q ≠ o + 23 → h'.2 q = h.2 q
theorem Fsc.rf {o : Nat} {h : Hp} : Fsc o h h := ⟨rfl, fun _ _ _ _ => rfl⟩
theorem Fsc.trans {o : Nat} {h h1 h2 : Hp} (p : Fsc o h h1) (q : Fsc o h1 h2) : Fsc o h h2 := ⟨q.1.trans p.1, fun i a b c => (q.2 i a b c).trans (p.2 i a b c)⟩
theorem HasS.mt {h : Hp} {o dr : Nat} {t cr : Int32} {st : Sst} {pr pr' : Nat → Int32} {pd : Nat → Nat → Int32} (hs : HasS h o dr t cr st pr pd) : HasS (hSet h (o + 23) (.inr (.inl (0, 8, pr')))) o dr t cr st pr' pd ∧ Fsc o h (hSet h (o + 23) (.inr (.inl (0, 8, pr')))) := by
  obtain ⟨h0, h1, h2, h3, h4⟩ := hs
  exact ⟨⟨(hS_n (by omega)).trans h0, (hS_n (by omega)).trans h1, (hS_n (by omega)).trans h2, fun i hi => (hS_n (by omega)).trans (h3 i hi), hS_s⟩, rfl, fun q a b c => hS_n c⟩

