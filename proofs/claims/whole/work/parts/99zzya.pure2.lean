/-! ===== the school's and the law's rows: what was there before does not matter ===== -/
def RS (n : Nat) (N : Int32) (s0 s0' st st' : Sst) : Prop := (st = s0 ∧ st' = s0') ∨ (st.1 = st'.1 ∧ (∀ j, j < 8 → st.2.1 j = st'.2.1 j) ∧ st.2.2 = N ∧ st'.2.2 = N ∧ (∀ j, n ≤ j → j < 8 → st.2.1 j = -1) ∧ st.1 < s0.1)
theorem RS.e {n : Nat} {N : Int32} {s0 s0' st st' : Sst} (h0 : s0.1 = s0'.1) (h : RS n N s0 s0' st st') : st.1 = st'.1 := by
  rcases h with ⟨rfl, rfl⟩ | h
  · exact h0
  · exact h.1
theorem lp_rs {n : Nat} {N : Int32} {s0 s0' st st' : Sst} {F F' : Nat → Sst → Sst} (h : RS n N s0 s0' st st') : ∀ k, (∀ i a a', i < k → RS n N s0 s0' a a' → RS n N s0 s0' (F i a) (F' i a')) → RS n N s0 s0' (lp F st k) (lp F' st' k)
  | 0, _ => h
  | k + 1, hs => by
    rw [lp_n, lp_n]
    exact hs k _ _ (by omega) (lp_rs h k (fun i a a' hi ha => hs i a a' (by omega) ha))
theorem tq_rs {D : Nat → Nat → Nat} {n : Nat} {N : Int32} {s0 s0' : Sst} (h0 : s0.1 = s0'.1) : ∀ (f : Nat) (left : Int32) (pr pr' : Nat → Int32) (x : Nat) (st st' : Sst), f ≤ 8 → (∀ j, j < 8 → pr j = pr' j) → (∀ j, n ≤ j → j < 8 → pr j = -1) → (∀ j, j < 8 → bt left j = true → j < n) → RS n N s0 s0' st st' → RS n N s0 s0' (tq D N f left pr x st) (tq D N f left pr' x st')
  | 0, left, pr, pr', x, st, st', _, hp, hm, hl, h => by
    rw [tq, tq, ← h.e h0]
    by_cases c : st.1 ≤ x
    · rw [if_pos c, if_pos c]; exact h
    · rw [if_neg c, if_neg c]
      have e : ∀ (q g : Nat → Int32) j, j < 8 → cpF 0 0 q g 8 j = q j := fun q g j hj => by
        unfold cpF
        rw [if_pos (by omega)]
        congr 1
        omega
      exact Or.inr ⟨rfl, fun j hj => by show cpF 0 0 pr st.2.1 8 j = cpF 0 0 pr' st'.2.1 8 j; rw [e _ _ _ hj, e _ _ _ hj]; exact hp j hj, rfl, rfl, fun j h1 h2 => by show cpF 0 0 pr st.2.1 8 j = -1; rw [e _ _ _ h2]; exact hm j h1 h2, by
        show x < s0.1
        rcases h with ⟨rfl, rfl⟩ | h
        · omega
        · have := h.2.2.2.2.2; omega⟩
  | f + 1, left, pr, pr', x, st, st', hf, hp, hm, hl, h => by
    rw [tq, tq, ← h.e h0]
    by_cases c : st.1 ≤ x
    · rw [if_pos c, if_pos c]; exact h
    · rw [if_neg c, if_neg c]
      have hc : ∀ (lf : Int32) p, p < 8 → (∀ j, j < 8 → bt lf j = true → j < n) → ∀ j, j < 8 → bt (clr lf p) j = true → j < n := fun lf p hp8 hlf j hj hb => by
        rw [bt_clr' _ (by omega) (by omega), Bool.and_eq_true] at hb
        exact hlf j hj hb.1
      by_cases b : bt left (7 - f) = true
      · rw [if_pos b, if_pos b]
        refine tq_rs h0 f _ pr pr' _ _ _ (by omega) hp hm (hc left _ (by omega) hl) (lp_rs h f (fun i a a' hi ha => ?_))
        by_cases b2 : bt left (8 - f + i) = true
        · rw [if_pos b2, if_pos b2]
          have p1 := hl _ (by omega) b
          have p2 := hl _ (by omega) b2
          refine tq_rs h0 f _ _ _ _ _ _ (by omega) (fun j hj => ?_) (fun j h1 h2 => ?_) (hc _ _ (by omega) (hc left _ (by omega) hl)) ha
          · unfold upd
            split
            · rfl
            · split
              · rfl
              · exact hp j hj
          · unfold upd
            rw [if_neg (by omega), if_neg (by omega)]
            exact hm j h1 h2
        · rw [if_neg b2, if_neg b2]; exact ha
      · rw [if_neg b, if_neg b]
        exact tq_rs h0 f _ pr pr' _ _ _ (by omega) hp hm hl h
theorem fs_same {g : Int32 → Bool} {r r' : Nat → Int32} : ∀ n, (fsS g r n).1 = (fsS g r' n).1 ∧ ∀ j, j < (fsS g r n).1 → (fsS g r n).2 j = (fsS g r' n).2 j
  | 0 => ⟨rfl, fun j hj => absurd hj (Nat.not_lt_zero j)⟩
  | n + 1 => by
    obtain ⟨e, h⟩ := fs_same (g := g) (r := r) (r' := r') n
    have s1 : ∀ q, fsS g q (n + 1) = fsF g n (fsS g q n) := fun _ => rfl
    rw [s1, s1]
    unfold fsF
    by_cases c : g (nI n) = true
    · rw [if_pos c, if_pos c]
      refine ⟨by show _ + 1 = _ + 1; rw [e], fun j hj => ?_⟩
      show upd _ _ _ j = upd _ _ _ j
      unfold upd
      rw [← e]
      split
      · rfl
      · rename_i hne
        exact h j (by have hj : j < (fsS g r n).1 + 1 := hj; omega)
    · rw [if_neg c, if_neg c]; exact ⟨e, h⟩
theorem sm_same {r r' : Nat → Int32} {n : Nat} (hn : 0 < n) (h : ∀ j, j < n → r j = r' j) : smS r n = smS r' n := by
  unfold smS
  have : ∀ k, k ≤ n - 1 → lp (smF r) (r 0) k = lp (smF r') (r' 0) k := by
    intro k
    induction k with
    | zero => intro _; exact h 0 hn
    | succ k ih =>
      intro hk
      rw [lp_n, lp_n, ih (by omega)]
      unfold smF
      rw [h (1 + k) (by omega)]
  exact this _ (Nat.le_refl _)
theorem alk_same {f f' : Nat → Bool} {n : Nat} (h : ∀ k, k < n → f k = f' k) : alk f n = alk f' n := by
  unfold alk
  rw [cnB_same n h]
theorem sch_rel {w : Wd} (hw : WOK w) {d : Nat} (hday : wDay w = nI d) (hd : d ≤ 400) {g g' f13 f15 : Nat → Int32} {K K' : Int32} : RS (wPe w) (nI (wPe w)) (61, f13, K) (61, f15, K') (fsR w d (filF (-1) g 8) f13 K) (cp (mLf w d (bitsOf (atC w 1) (wPe w))) 8 (bitsOf (atC w 1) (wPe w)) (filF (-1) g' 8) (61, f15, K')) := by
  have hpe := hw.2.1
  have hf : ∀ (q : Nat → Int32) j, j < 8 → filF (-1) q 8 j = -1 := fun q j hj => if_pos hj
  have hb : ∀ j, j < 8 → bt (bitsOf (atC w 1) (wPe w)) j = true → j < wPe w := fun j hj hb => by
    rw [bt_bits _ _ hpe j (by omega)] at hb
    simp at hb
    exact hb.1
  have hx : WX w d (bitsOf (atC w 1) (wPe w)) (bitsOf (atC w 1) (wPe w)) (filF (-1) g' 8) = 0 := Nat.le_zero.mp (WX_le.mpr (fun p hp a b => by rw [a] at b; cases b))
  rw [← tq_cp hw hday hd 8 (bitsOf (atC w 1) (wPe w)) (filF (-1) g' 8) (61, f15, K') (Nat.le_refl _) (Nat.le_refl _) ⟨fun r hr => Or.inl (hf g' r (by omega)), fun j hj h => ⟨hf g' j hj, hb j hj h⟩⟩ (fun j hj h => ⟨by omega, h⟩), hx]
  unfold fsR
  generalize bitsOf (atC w 1) (wPe w) = al at hb ⊢
  exact tq_rs (D := dgD w d) (n := wPe w) (N := nI (wPe w)) (s0 := (61, f13, K)) (s0' := (61, f15, K')) rfl 8 al (filF (-1) g 8) (filF (-1) g' 8) 0 (61, f13, K) (61, f15, K') (Nat.le_refl _) (fun j hj => by rw [hf g j hj, hf g' j hj]) (fun j h1 h2 => hf g j h2) hb (Or.inl ⟨rfl, rfl⟩)

