/-! ===== the cases: acts, days, undo ===== -/
theorem wN_walk {w : Wd} {p : Nat} {to : Int32} : wN (walkW w p to) = wN w := by unfold walkW; split <;> rfl
theorem wN_pair {w : Wd} {p q : Nat} : wN (pairW w p q) = wN w := by unfold pairW; split <;> rfl
theorem wN_un {w : Wd} {p : Nat} : wN (unW w p) = wN w := by unfold unW; split <;> rfl
theorem wN_day {w : Wd} : wN (dayW w) = wN w := by
  have h1 := day1_like w (wPe w)
  exact (day2_like w _ _ h1).2.2.2.1
theorem wN_days {w : Wd} : ∀ n, wN (daysW w n) = wN w
  | 0 => rfl
  | n + 1 => (wN_day (w := daysW w n)).trans (wN_days n)
theorem wN_dr1 {p : Nat} {st : Wd × Int32} : wN (dr1 p st).1 = wN st.1 := by
  unfold dr1
  split
  · exact wN_walk
  · split
    · exact wN_walk
    · split
      · exact wN_pair
      · split
        · exact wN_un
        · rfl
theorem wN_drA {st : Wd × Int32} : wN (drA st).1 = wN st.1 := lp_ind (P := fun x : Wd × Int32 => wN x.1 = wN st.1) rfl (fun _ _ hx => wN_dr1.trans hx) _
theorem wN_drD {st : Wd × Int32} : ∀ n, wN (drD st n).1 = wN st.1
  | 0 => rfl
  | n + 1 => (wN_day.trans wN_drA).trans (wN_drD n)
section St3
variable {G : Gt} {h : Hp} {B : Nat} {c : Cs} {s : Ms} {Mx Mm : Mth} {As : List Value} {d1 d2 : Nat}
theorem RC.f39 {v : Int32} (hr : RC c s) : RC c (sF s 39 v) := ⟨hr.rn, hr.rf, hr.r1, hr.r2, hr.rw, hr.rv, hr.rm, hr.rs, hr.rl, hr.rp, hr.rq, hr.r38, hr.r17, hr.r10, hr.r27, hr.r36, hr.r34, hr.r35, hr.rt, hr.rc, hr.ri⟩
theorem RC.keep {w1 : Wd} {f' : Nat → Int32} (hr : RC c s) (ho : WOK w1) (hn : wN w1 = wN c.2.2.1) (nv : NWv w1 f') (hH : Hd (mA s 2) f') : RC (c.1, c.2.1, w1, (c.2.2.1 :: c.2.2.2.1).take 8, c.2.2.2.2.1, c.2.2.2.2.2.1, c.2.2.2.2.2.2.1, c.2.2.2.2.2.2.2.1, c.2.2.2.2.2.2.2.2.1, c.2.2.2.2.2.2.2.2.2.1, c.2.2.2.2.2.2.2.2.2.2.1, c.2.2.2.2.2.2.2.2.2.2.2.1, c.2.2.2.2.2.2.2.2.2.2.2.2.1, c.2.2.2.2.2.2.2.2.2.2.2.2.2.1, c.2.2.2.2.2.2.2.2.2.2.2.2.2.2.1, c.2.2.2.2.2.2.2.2.2.2.2.2.2.2.2.1, c.2.2.2.2.2.2.2.2.2.2.2.2.2.2.2.2) (sA (snS (sF s 0 0) c.2.2.2.1.length) 2 f') := by
  have hh := heads_eq hr.rw ho hr.rv nv (fun i hi => hH i (Or.inl hi))
  exact ⟨hr.rn, hr.rf, hr.r1, hr.r2, ho, nv, (by show NmR (wN w1) (mN s 8) (wTh w1) (wPe w1); rw [hn, hh.1, hh.2]; exact hr.rm), hr.rs.congr (fun j a _ => hH j (Or.inr a)), (by show nI (snN _ + 1) = nI _; rw [take_len hr.rp.1]), (by show PastR _ (wN w1) (snG _ (mA s 2) (mA s 5)) f'; rw [hn]; exact hr.rp.keep hr.rw rfl hr.rv hH), hr.rq, hr.r38, hr.r17, hr.r10, hr.r27, hr.r36, hr.r34, hr.r35, hr.rt, hr.rc, hr.ri⟩
theorem cpl_act {R : Int32} {w' w1 : Wd} (hc : HC G h B c) (hr : RC c s) (hm : hM h (B + 240) s = h) (hd1 : d1 < 90) (hd2 : d2 < 90)
    (k1 : Mt G d1 0 0 Mx (.ref B :: As) h (Qac h B R c.2.2.1 w' c.2.2.2.1)) (k2 : ∀ h9, Mt G d2 0 0 Mm (.ref (B + 240) :: As) (hM h9 (B + 240) s) (QA h9 (B + 240) (sF s 0 0) c.2.2.2.1.length R w1))
    (e : R = 0 → w' = w1 ∧ WOK w1 ∧ wN w1 = wN c.2.2.1) (e2 : ¬ R = 0 → w' = c.2.2.1) : Cpl G h B 0 0 Mx Mm As := by
  refine cpl_mk hm hd1 k1 (fun v h1 hq => ?_)
  obtain ⟨rfl, y1, y2, f1, fr⟩ := hq
  by_cases hR : R = 0
  · obtain ⟨rfl, ho, hn⟩ := e hR
    rw [if_pos hR] at y2
    refine ⟨_, (c.1, c.2.1, w', (c.2.2.1 :: c.2.2.2.1).take 8, c.2.2.2.2.1, c.2.2.2.2.2.1, c.2.2.2.2.2.2.1, c.2.2.2.2.2.2.2.1, c.2.2.2.2.2.2.2.2.1, c.2.2.2.2.2.2.2.2.2.1, c.2.2.2.2.2.2.2.2.2.2.1, c.2.2.2.2.2.2.2.2.2.2.2.1, c.2.2.2.2.2.2.2.2.2.2.2.2.1, c.2.2.2.2.2.2.2.2.2.2.2.2.2.1, c.2.2.2.2.2.2.2.2.2.2.2.2.2.2.1, c.2.2.2.2.2.2.2.2.2.2.2.2.2.2.2.1, c.2.2.2.2.2.2.2.2.2.2.2.2.2.2.2.2), d2, _, rfl, hd2, hc.act y1 y2 f1 fr, fun q a b => fr q (by omega), k2 h1, fun v2 h2 hq => ?_⟩
    obtain ⟨e1, ⟨n1, -⟩ | ⟨-, f', e3, nv, hH⟩⟩ := hq
    · exact absurd hR n1
    · exact ⟨e1, _, e3, hr.keep ho hn nv hH⟩
  · rw [if_neg hR] at y2
    rw [e2 hR] at y1
    refine ⟨_, c, d2, _, rfl, hd2, hc.act y1 y2 f1 fr, fun q a b => fr q (by omega), k2 h1, fun v2 h2 hq => ?_⟩
    obtain ⟨e1, ⟨-, e3⟩ | ⟨n1, -⟩⟩ := hq
    · exact ⟨e1, _, e3, hr.f0⟩
    · exact absurd n1 hR
theorem st_go {x y : Int32} (hI : Inv G h B) : Cpl G h B 0 0 mX12_go mX13_go_ [.int x, .int y] := by
  obtain ⟨c, s, hc, hr, hm⟩ := hI
  have hw := hr.rw
  have h6 := hw.1
  have h8 := hw.2.1
  by_cases hv : vI (wPe c.2.2.1) x ∧ vI 3 y
  · obtain ⟨p, hp, rfl⟩ := vI_of (by omega) hv.1
    obtain ⟨k, hk, rfl⟩ := vI_of (by omega) hv.2
    exact cpl_act hc hr hm (by decide) (by decide) (cb_go hc.o hc.pW hw hc.pP hp hk) (fun _ => cm_go_ hr.rl hr.rp.1 hr.rv hw hp hk) (fun e => ⟨if_pos e, hw.go hk, rfl⟩) (fun e => if_neg e)
  · exact cpl_q hc hr hm (by decide) (by decide) (cb_go_no hc.o hc.pW hv) (fun _ => cm_go_no hr.rv hw hv)
theorem st_join {x y : Int32} (hI : Inv G h B) : Cpl G h B 0 0 mX12_join mX13_join [.int x, .int y] := by
  obtain ⟨c, s, hc, hr, hm⟩ := hI
  have hw := hr.rw
  have h6 := hw.1
  have h8 := hw.2.1
  by_cases hv : vI (wPe c.2.2.1) x ∧ vI (wPe c.2.2.1) y
  · obtain ⟨p, hp, rfl⟩ := vI_of (by omega) hv.1
    obtain ⟨q, hq, rfl⟩ := vI_of (by omega) hv.2
    exact cpl_act hc hr hm (by decide) (by decide) (cb_join hc.o hc.pW hw hc.pP hp hq) (fun _ => cm_join hr.rl hr.rp.1 hr.rv hw hp hq) (fun e => ⟨if_pos e, (if_pos e : pairW c.2.2.1 p q = meetM c.2.2.1 p q) ▸ hw.pair hp hq, rfl⟩) (fun e => if_neg e)
  · exact cpl_q hc hr hm (by decide) (by decide) (cb_join_no hc.o hc.pW hv) (fun _ => cm_join_no hr.rv hw hv)
theorem st_part {x : Int32} (hI : Inv G h B) : Cpl G h B 0 0 mX12_part mX13_part [.int x] := by
  obtain ⟨c, s, hc, hr, hm⟩ := hI
  have hw := hr.rw
  have h6 := hw.1
  have h8 := hw.2.1
  by_cases hv : vI (wPe c.2.2.1) x
  · obtain ⟨p, hp, rfl⟩ := vI_of (by omega) hv
    exact cpl_act hc hr hm (by decide) (by decide) (cb_part hc.o hc.pW hw hc.pP hp) (fun _ => cm_part hr.rl hr.rp.1 hr.rv hw hp) (fun e => ⟨rfl, hw.un hp, wN_un⟩) (fun e => if_neg e)
  · exact cpl_q hc hr hm (by decide) (by decide) (cb_part_no hc.o hc.pW hv) (fun _ => cm_part_no hr.rv hw hv)
theorem st_trade {x y z u : Int32} (hI : Inv G h B) : Cpl G h B 0 0 mX12_trade mX13_trade [.int x, .int y, .int z, .int u] := by
  obtain ⟨c, s, hc, hr, hm⟩ := hI
  have hw := hr.rw
  have h6 := hw.1
  have h8 := hw.2.1
  by_cases hv : vI (wPe c.2.2.1) x ∧ vI (wTh c.2.2.1) y ∧ vI (wPe c.2.2.1) z ∧ vI (wTh c.2.2.1) u
  · obtain ⟨p, hp, rfl⟩ := vI_of (by omega) hv.1
    obtain ⟨t, ht, rfl⟩ := vI_of (by omega) hv.2.1
    obtain ⟨q, hq, rfl⟩ := vI_of (by omega) hv.2.2.1
    obtain ⟨r, hu, rfl⟩ := vI_of (by omega) hv.2.2.2
    refine cpl_act hc hr hm (by decide) (by decide) (cb_trade hc.o hc.pW hw hc.pP hp ht hq hu) (fun _ => cm_trade hr.rl hr.rp.1 hr.rv hw hp ht hq hu) (fun e => ⟨if_pos e, hw.tr ?_ hp ht hq hu, rfl⟩) (fun e => if_neg e)
    intro hpq
    unfold trR at e
    rw [if_pos hpq] at e
    exact absurd e (by decide)
  · exact cpl_q hc hr hm (by decide) (by decide) (cb_trade_no hc.o hc.pW hv) (fun _ => cm_trade_no hr.rv hw hv)
theorem st_ask {x y z : Int32} (hI : Inv G h B) : Cpl G h B 0 0 mX12_ask mX13_ask [.int x, .int y, .int z] := by
  obtain ⟨c, s, hc, hr, hm⟩ := hI
  have hw := hr.rw
  have h6 := hw.1
  have h8 := hw.2.1
  by_cases hv : vI 2 x ∧ vI (wTh c.2.2.1) y ∧ vI 13 z
  · obtain ⟨e, he, rfl⟩ := vI_of (by omega) hv.1
    obtain ⟨t, ht, rfl⟩ := vI_of (by omega) hv.2.1
    obtain ⟨k, hk, rfl⟩ := vI_of (by omega) hv.2.2
    have hd : ∀ (a b : Wd), (demR c.2.2.1 e t (nI k) = 0 → (if tol c.2.2.1 e t = nI k then a else b) = b) ∧ (¬ demR c.2.2.1 e t (nI k) = 0 → (if tol c.2.2.1 e t = nI k then a else b) = a) := fun a b => by
      unfold demR
      split
      · exact ⟨fun z => absurd z (by decide), fun _ => rfl⟩
      · exact ⟨fun _ => rfl, fun z => absurd rfl z⟩
    exact cpl_act hc hr hm (by decide) (by decide) (cb_ask hc.o hc.pW hw hc.pP he ht hk) (fun _ => cm_ask hr.rl hr.rp.1 hr.rv hw he ht hk) (fun z => ⟨(hd _ _).1 z, hw.toll ht (by omega), rfl⟩) (fun z => (hd _ _).2 z)
  · exact cpl_q hc hr hm (by decide) (by decide) (cb_ask_no hc.o hc.pW hv) (fun _ => cm_ask_no hr.rv hw hv)
theorem st_days {x : Int32} (hI : Inv G h B) : Cpl G h B 0 0 mX12_days mX13_days [.int x] := by
  obtain ⟨c, s, hc, hr, hm⟩ := hI
  have hw := hr.rw
  have h6 := hw.1
  have h8 := hw.2.1
  obtain ⟨d, hd, hday⟩ := hw.d
  by_cases hv : ¬ x < 1 ∧ ¬ 60 < x
  · obtain ⟨n, hn1, hn, rfl⟩ := rng_of (k := 60) (by decide) hv.1 hv.2
    refine cpl_mk hm (by decide) (cb_days hc.o hc.pW hw hc.pP hn1 hn hday hd) (fun v h1 hq => ?_)
    obtain ⟨rfl, y1, y2, f1, fr⟩ := hq
    by_cases h4 : d < 400
    · have hm1 : 0 < mostD n d ∧ d + mostD n d ≤ 400 := by unfold mostD; split <;> omega
      rw [if_pos hm1.1] at y2
      refine ⟨_, (c.1, c.2.1, daysW c.2.2.1 (mostD n d), (c.2.2.1 :: c.2.2.2.1).take 8, c.2.2.2.2.1, c.2.2.2.2.2.1, c.2.2.2.2.2.2.1, c.2.2.2.2.2.2.2.1, c.2.2.2.2.2.2.2.2.1, c.2.2.2.2.2.2.2.2.2.1, c.2.2.2.2.2.2.2.2.2.2.1, c.2.2.2.2.2.2.2.2.2.2.2.1, c.2.2.2.2.2.2.2.2.2.2.2.2.1, c.2.2.2.2.2.2.2.2.2.2.2.2.2.1, c.2.2.2.2.2.2.2.2.2.2.2.2.2.2.1, c.2.2.2.2.2.2.2.2.2.2.2.2.2.2.2.1, c.2.2.2.2.2.2.2.2.2.2.2.2.2.2.2.2), 5, _, rfl, by decide, hc.act y1 y2 f1 fr, fun q a b => fr q (by omega), cm_days hr.rl hr.rp.1 hr.rv hw hday h4 (by omega) hn, fun v2 h2 hq => ?_⟩
      obtain ⟨e1, f', e3, nv, hH⟩ := hq
      exact ⟨e1, _, e3, hr.keep (hw.days hday _ hm1.2).1 (wN_days _) nv hH⟩
    · have e4 : d = 400 := by omega
      subst e4
      have e0 : mostD n 400 = 0 := by unfold mostD; split <;> omega
      rw [e0] at y1 y2 ⊢
      rw [if_neg (Nat.lt_irrefl 0)] at y2
      exact ⟨_, c, 5, _, rfl, by decide, hc.act y1 y2 f1 fr, fun q a b => fr q (by omega), cm_days_0 hr.rv hv hday, fun v2 h2 hq => ⟨hq.1, _, hq.2, hr.f0⟩⟩
  · exact cpl_q hc hr hm (by decide) (by decide) (cb_days_no hc.o hv) (fun _ => cm_days_no hv)
theorem st_drawn {x y : Int32} (hI : Inv G h B) : Cpl G h B 0 0 mX12_drawn mX13_drawn [.int x, .int y] := by
  obtain ⟨c, s, hc, hr, hm⟩ := hI
  have hw := hr.rw
  have h6 := hw.1
  have h8 := hw.2.1
  obtain ⟨d, hd, hday⟩ := hw.d
  obtain ⟨x0, hx0⟩ := hc.pX
  by_cases hv : ¬ (¬ x < 1 ∧ ¬ 60 < x) ∨ wPe c.2.2.1 = 0
  · exact cpl_q hc hr hm (by decide) (by decide) (cb_drawn_no hc.o hc.pW hv) (fun _ => cm_drawn_no hr.rv h8 hv)
  · have hx : ¬ x < 1 ∧ ¬ 60 < x := Classical.not_not.mp (fun z => hv (Or.inl z))
    have hpe : 0 < wPe c.2.2.1 := Nat.pos_of_ne_zero (fun z => hv (Or.inr z))
    obtain ⟨n, hn1, hn, rfl⟩ := rng_of (k := 60) (by decide) hx.1 hx.2
    refine cpl_mk hm (by decide) (cb_drawn hc.o hc.pW hw hc.pP hx0 hn1 hn hpe hday hd) (fun v h1 hq => ?_)
    obtain ⟨rfl, y1, y2, y3, f1, fr⟩ := hq
    by_cases h4 : d < 400
    · have hm1 : 0 < mostD n d ∧ d + mostD n d ≤ 400 := by unfold mostD; split <;> omega
      rw [if_pos hm1.1] at y2
      refine ⟨_, (c.1, c.2.1, (drD (c.2.2.1, y) (mostD n d)).1, (c.2.2.1 :: c.2.2.2.1).take 8, c.2.2.2.2.1, c.2.2.2.2.2.1, c.2.2.2.2.2.2.1, c.2.2.2.2.2.2.2.1, c.2.2.2.2.2.2.2.2.1, c.2.2.2.2.2.2.2.2.2.1, c.2.2.2.2.2.2.2.2.2.2.1, c.2.2.2.2.2.2.2.2.2.2.2.1, c.2.2.2.2.2.2.2.2.2.2.2.2.1, c.2.2.2.2.2.2.2.2.2.2.2.2.2.1, c.2.2.2.2.2.2.2.2.2.2.2.2.2.2.1, c.2.2.2.2.2.2.2.2.2.2.2.2.2.2.2.1, c.2.2.2.2.2.2.2.2.2.2.2.2.2.2.2.2), 8, _, rfl, by decide, hc.drawn y1 y2 y3 f1 (fun q a => fr q a.1 a.2), fun q a b => fr q (by omega) (by omega), cm_drawn hr.rl hr.rp.1 hr.rv hw hpe hday h4 (by omega) hn, fun v2 h2 hq => ?_⟩
      obtain ⟨e1, f', e3, nv, hH⟩ := hq
      exact ⟨e1, _, e3, (hr.keep (drD_ok (st := (c.2.2.1, y)) hw hday _ hm1.2).1 (wN_drD (st := (c.2.2.1, y)) _) nv hH).f39⟩
    · have e4 : d = 400 := by omega
      subst e4
      have e0 : mostD n 400 = 0 := by unfold mostD; split <;> omega
      rw [e0] at y1 y2 ⊢
      rw [if_neg (Nat.lt_irrefl 0)] at y2
      exact ⟨_, c, 8, _, rfl, by decide, hc.drawn y1 y2 y3 f1 (fun q a => fr q a.1 a.2), fun q a b => fr q (by omega) (by omega), cm_drawn_0 hr.rv h8 hpe hx hday, fun v2 h2 hq => ⟨hq.1, _, hq.2, hr.f0⟩⟩
theorem st_undo (hI : Inv G h B) : Cpl G h B 0 0 mX12_undo mX13_undo [] := by
  obtain ⟨c, s, hc, hr, hm⟩ := hI
  have hw := hr.rw
  have h6 := hw.1
  have h8 := hw.2.1
  have hP := hc.pP
  have hl := hr.rl
  have hp := hr.rp
  cases hL : c.2.2.2.1 with
  | nil =>
    rw [hL] at hP hl
    exact cpl_q hc hr hm (by decide) (by decide) (cb_undo_no hc.o hP) (fun _ => cm_undo_no hl)
  | cons v L1 =>
    rw [hL] at hP hl hp
    obtain ⟨p1, p2, p3, p4⟩ := hp.undo
    have h9 := hp.1
    rw [List.length_cons] at h9 hl
    refine cpl_mk hm (by decide) (cb_undo hc.o hc.pW hP) (fun v9 h1 hq => ?_)
    obtain ⟨rfl, y2, y1, f1, fr⟩ := hq
    have hh := heads_eq hr.rw p2 hr.rv p4 (fun i hi => und_out (Or.inl hi))
    refine ⟨_, (c.1, c.2.1, v, L1, c.2.2.2.2.1, c.2.2.2.2.2.1, c.2.2.2.2.2.2.1, c.2.2.2.2.2.2.2.1, c.2.2.2.2.2.2.2.2.1, c.2.2.2.2.2.2.2.2.2.1, c.2.2.2.2.2.2.2.2.2.2.1, c.2.2.2.2.2.2.2.2.2.2.2.1, c.2.2.2.2.2.2.2.2.2.2.2.2.1, c.2.2.2.2.2.2.2.2.2.2.2.2.2.1, c.2.2.2.2.2.2.2.2.2.2.2.2.2.2.1, c.2.2.2.2.2.2.2.2.2.2.2.2.2.2.2.1, c.2.2.2.2.2.2.2.2.2.2.2.2.2.2.2.2), 1, _, rfl, by decide, hc.act y1 y2 f1 (fun q a => fr q (by omega)), fun q a b => fr q (by omega), cm_undo hl (by omega), fun v2 h2 hq => ⟨hq.1, _, hq.2, ?_⟩⟩
    exact ⟨hr.rn, hr.rf, hr.r1, hr.r2, p2, p4, (by show NmR (wN v) (mN s 8) (wTh v) (wPe v); rw [p3, hh.1, hh.2]; exact hr.rm), hr.rs.congr (fun j a _ => und_out (Or.inr a)), rfl, (by show PastR L1 (wN v) (mA s 5) (undF L1.length (mA s 5) (mA s 2)); rw [p3]; exact p1), hr.rq, hr.r38, hr.r17, hr.r10, hr.r27, hr.r36, hr.r34, hr.r35, hr.rt, hr.rc, hr.ri⟩
end St3

