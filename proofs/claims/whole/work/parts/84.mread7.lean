/-! ===== what is built is a World ===== -/
def WB (w : Wd) : Prop := WOK w ∧ wDay w = 0 ∧ ∀ p, p < wPe w → wI w 4 p = 0 ∧ wI w 5 p = 0
theorem hld_clr {w : Wd} {p t : Nat} (hp : p < 8) (ht : t < 6) : hld (clrW w) p t = 0 := by
  show filF 0 (wI w 7) 48 (p * 6 + t) = 0
  exact if_pos (by omega)
theorem tol_clr {w : Wd} {p t : Nat} (hp : p < 2) (ht : t < 6) : tol (clrW w) p t = 0 := by
  show filF 0 (wI w 8) 12 (p * 6 + t) = 0
  exact if_pos (by omega)
theorem WB.clr {w : Wd} : WB (clrW w) := by
  refine ⟨⟨Nat.zero_le _, Nat.zero_le _, fun p hp => absurd hp (Nat.not_lt_zero p), fun p t hp ht _ => hld_clr hp ht, fun p t hp ht _ => tol_clr hp ht, fun p hp => absurd hp (Nat.not_lt_zero p), fun p hp => absurd hp (Nat.not_lt_zero p), fun p hp => absurd hp (Nat.not_lt_zero p), fun p t hp ht => ⟨0, Nat.zero_le _, hld_clr hp ht⟩, fun p t hp ht => ⟨0, Nat.zero_le _, tol_clr hp ht⟩, 0, Nat.zero_le _, rfl⟩, rfl, fun p hp => absurd hp (Nat.not_lt_zero p)⟩
theorem WB.th {w : Wd} (hw : WB w) (hth : wTh w < 6) (nm : Int64) {e d : Nat} (he : e < 2) (hd0 : 0 < d) (hd : d < 10) : WB (addTh w nm (nI e) (nI d)) := by
  obtain ⟨⟨h1, h2, h3, h4, h5, h6, h7, h8, h9, h10, h11⟩, hday, hz⟩ := hw
  refine ⟨⟨hth, h2, h3, fun p t hp ht z => h4 p t hp ht ?_, fun p t hp ht z => h5 p t hp ht ?_, h6, fun t ht => ?_, h8, h9, h10, h11⟩, hday, hz⟩
  · rcases z with z | z
    · exact Or.inl z
    · have z : wTh w + 1 ≤ t := z
      exact Or.inr (by omega)
  · have z : wTh w + 1 ≤ t := z
    omega
  · have ht : t < wTh w + 1 := ht
    rw [show wI (addTh w nm (nI e) (nI d)) 0 = upd (wI w 0) (wTh w) (nI e) from rfl, show wI (addTh w nm (nI e) (nI d)) 1 = upd (wI w 1) (wTh w) (nI d) from rfl]
    by_cases z : t = wTh w
    · rw [z, upd_s, upd_s]; exact ⟨⟨e, he, rfl⟩, d, hd0, hd, rfl⟩
    · rw [upd_n z, upd_n z]; exact h7 t (by omega)
theorem WB.pe {w : Wd} (hw : WB w) (hpe : wPe w < 8) (nm : Int64) {pl e : Nat} (hpl : pl < 3) (he : e < 2) : WB (addPe w nm (nI pl) (nI e)) := by
  obtain ⟨⟨h1, h2, h3, h4, h5, h6, h7, h8, h9, h10, h11⟩, hday, hz⟩ := hw
  have r2 : wI (addPe w nm (nI pl) (nI e)) 2 = upd (wI w 2) (wPe w) (nI e) := rfl
  have r3 : wI (addPe w nm (nI pl) (nI e)) 3 = upd (wI w 3) (wPe w) (nI pl) := rfl
  have r4 : wI (addPe w nm (nI pl) (nI e)) 4 = upd (wI w 4) (wPe w) 0 := rfl
  have r5 : wI (addPe w nm (nI pl) (nI e)) 5 = upd (wI w 5) (wPe w) 0 := rfl
  have r6 : wI (addPe w nm (nI pl) (nI e)) 6 = upd (wI w 6) (wPe w) (-1) := rfl
  refine ⟨⟨h1, hpe, fun p hp => ?_, fun p t hp ht z => h4 p t hp ht ?_, h5, fun p hp => ?_, h7, fun p hp => ?_, h9, h10, h11⟩, hday, fun p hp => ?_⟩
  · have hp : p < wPe w + 1 := hp
    unfold wE
    rw [r2]
    by_cases z : p = wPe w
    · rw [z, upd_s, nI_clamp (by omega)]; exact ⟨rfl, he⟩
    · rw [upd_n z]; exact h3 p (by omega)
  · rcases z with z | z
    · have z : wPe w + 1 ≤ p := z
      exact Or.inl (by omega)
    · exact Or.inr z
  · have hp : p < wPe w + 1 := hp
    rw [r3]
    by_cases z : p = wPe w
    · rw [z, upd_s]; exact ⟨pl, hpl, rfl⟩
    · rw [upd_n z]; exact h6 p (by omega)
  · have hp : p < wPe w + 1 := hp
    rw [r6]
    by_cases z : p = wPe w
    · rw [z, upd_s]; exact Or.inl rfl
    · rw [upd_n z]
      rcases h8 p (by omega) with q | ⟨q, q1, q2, q3, q4⟩
      · exact Or.inl q
      · exact Or.inr ⟨q, Nat.lt_succ_of_lt q1, q2, q3, by rw [upd_n (by omega)]; exact q4⟩
  · have hp : p < wPe w + 1 := hp
    rw [r4, r5]
    by_cases z : p = wPe w
    · rw [z, upd_s, upd_s]; exact ⟨rfl, rfl⟩
    · rw [upd_n z, upd_n z]; exact hz p (by omega)
theorem rLn_WB {x : Tx} {w : Wd} {st : St} (hw : WB w) (h : (rLn x w st).1.2.1 = 0) : WB (rLn x w st).2 := by
  have hth := hw.1.1
  have hpe := hw.1.2.1
  unfold rLn at h ⊢
  by_cases q : isW x 1 st = true
  · rw [if_pos q] at h ⊢
    rw [rTh_1] at h
    rw [rTh_y h]
    obtain ⟨-, -, -, -, -, hl⟩ := th_ok h
    unfold th5 at h
    obtain ⟨-, -, rg⟩ := tNm_0 h
    exact hw.th hl _ vEn_lt (by omega) (by omega)
  · rw [if_neg q] at h ⊢
    by_cases q : isW x 2 st = true
    · rw [if_pos q] at h ⊢
      rw [rPe_1] at h
      rw [rPe_y h]
      obtain ⟨-, -, -, -, -, hl⟩ := pe_ok h
      exact hw.pe hl _ vPl_lt vEn_lt
    · rw [if_neg q] at h ⊢
      by_cases q : isW x 3 st = true
      · rw [if_pos q] at h ⊢
        rw [rHa_1] at h
        rw [rHa_y h]
        obtain ⟨-, h4, -, -⟩ := ha7_ok h
        obtain ⟨-, -, -, p1, t1⟩ := ha4_ok h4
        unfold ha7 at h
        obtain ⟨-, -, rg⟩ := tNm_0 h
        exact ⟨hw.1.held (vPr_ok hpe p1).1 (vTr_ok hth t1).1 ⟨_, by omega, cap_le (by omega)⟩, hw.2⟩
      · rw [if_neg q] at h ⊢
        by_cases q : isW x 4 st = true
        · rw [if_pos q] at h ⊢
          rw [rAs_1] at h
          rw [rAs_y h]
          obtain ⟨-, h4, -, -⟩ := as6_ok h
          obtain ⟨-, -, t1⟩ := as3_ok h4
          unfold as6 at h
          obtain ⟨-, -, rg⟩ := tNm_0 h
          exact ⟨hw.1.toll (vTr_ok hth t1).1 (by omega), hw.2⟩
        · rw [if_neg q] at h ⊢
          by_cases q : isW x 5 st = true
          · rw [if_pos q] at h ⊢
            rw [rMe_1] at h
            rw [rMe_y h]
            obtain ⟨h4, -, -⟩ := me6_ok h
            obtain ⟨-, -, p1, p2, -⟩ := me4_ok h4
            refine ⟨hw.1.pair (vPr_ok hpe p1).1 (vPr_ok hpe p2).1, ?_⟩
            unfold pairW
            split <;> exact hw.2
          · rw [if_neg q] at h
            exact (flt_n0 (by decide) h).elim
theorem NWv.start {w : Wd} {r : Nat → Int32} {g : Nat → Int64} {hd ak : Nat → Int32} {g0 : Nat → Int32} (hV : RdV w r g hd ak) (hw : WB w) : NWv w (stD (cpF 0 0 r g0 98) 12) := by
  obtain ⟨a0, a1, a2, a3, a4, a5, a6, a7, a8⟩ := hV
  have hth := hw.1.1
  have hpe := hw.1.2.1
  have lo : ∀ j, j < 98 → stD (cpF 0 0 r g0 98) 12 j = r j := fun j hj => by
    rw [stD_lo hj]
    unfold cpF
    rw [if_pos (by omega), show 0 + (j - 0) = j by omega]
  have lo2 : ∀ j, j < 98 → cpF 0 0 r g0 98 j = r j := fun j hj => by
    unfold cpF
    rw [if_pos (by omega), show 0 + (j - 0) = j by omega]
  have z0 : ∀ j, (j = 98 ∨ (107 ≤ j ∧ j < 123)) → stD (cpF 0 0 r g0 98) 12 j = 0 := fun j hj => by
    unfold stD stC stB stA
    rw [if_neg (by omega), if_neg (by omega), if_neg (by omega), if_neg (by omega), if_pos (by omega)]
  refine ⟨(lo 0 (by omega)).trans a0, (lo 1 (by omega)).trans a1, (z0 98 (by omega)).trans hw.2.1.symm, fun t ht => ⟨(lo _ (by omega)).trans (a2 t ht).1, (lo _ (by omega)).trans (a2 t ht).2⟩, fun p hp => ⟨(lo _ (by omega)).trans (a3 p hp).2.1, ?_, (z0 _ (by omega)).trans (hw.2.2 p hp).1.symm, (z0 _ (by omega)).trans (hw.2.2 p hp).2.symm, ?_⟩, fun i hi => ?_, fun i hi => ?_, fun p _ hp => z0 _ (by omega)⟩
  · unfold stD stC stB
    rw [if_neg (by omega), if_neg (by omega), if_pos (by omega), show 99 + p - 99 = p by omega, lo2 _ (by omega)]
    exact (a3 p hp).1
  · unfold stD stC stB
    rw [if_neg (by omega), if_neg (by omega), if_neg (by omega), if_pos (by omega), show 183 + p - 183 = p by omega, lo2 _ (by omega)]
    exact (a3 p hp).2.2
  · unfold stD stC
    rw [if_neg (by omega), if_pos (by omega), show 123 + i - 123 = i by omega, lo2 _ (by omega)]
    exact a4 i hi
  · unfold stD
    rw [if_pos (by omega), show 171 + i - 171 = i by omega, lo2 _ (by omega)]
    exact a5 i hi
theorem start_hi {r g0 : Nat → Int32} {j : Nat} (h1 : 191 ≤ j) (h2 : j < 433) : stD (cpF 0 0 r g0 98) 12 j = 0 := by
  unfold stD stC stB stA
  rw [if_neg (by omega), if_neg (by omega), if_neg (by omega), if_neg (by omega), if_pos (by omega)]

