/-! ===== the cases: the tape, the outlook, the law ===== -/
theorem HasS.obj {h h' : Hp} {o dr : Nat} {t cr t' cr' : Int32} {st : Sst} {pr : Nat → Int32} {pd : Nat → Nat → Int32} (hs : HasS h o dr t cr st pr pd) (ho : h'.2 o = some (oO o dr t' cr' (nI st.1))) (e : ∀ q : Nat, o + 13 ≤ q → q ≤ o + 23 → h'.2 q = h.2 q) : HasS h' o dr t' cr' st pr pd := by
  obtain ⟨a1, a2, a3, a4, a5⟩ := hs
  exact ⟨ho, (e _ (by omega) (by omega)).trans a2, (e _ (by omega) (by omega)).trans a3, fun i hi => (e _ (by omega) (by omega)).trans (a4 i hi), (e _ (by omega) (by omega)).trans a5⟩
theorem WOK.d {w : Wd} (hw : WOK w) : ∃ d, d ≤ 400 ∧ wDay w = nI d := hw.2.2.2.2.2.2.2.2.2.2
theorem rng_of {k : Nat} {y : Int32} (hk : k < 2 ^ 30) (h1 : ¬ y < 1) (h2 : ¬ nI k < y) : ∃ n, 1 ≤ n ∧ n ≤ k ∧ y = nI n := by
  have a1 : ¬ y.toInt < 1 := fun z => h1 (Int32.lt_iff_toInt_lt.mpr (by rw [show (1 : Int32).toInt = 1 from rfl]; exact z))
  have ek : (nI k).toInt = k := nI_toInt (by omega)
  have a2 : ¬ (k : Int) < y.toInt := fun z => h2 (Int32.lt_iff_toInt_lt.mpr (by rw [ek]; exact z))
  refine ⟨y.toInt.toNat, by omega, by omega, ?_⟩
  apply Int32.toInt_inj.mp
  rw [nI_toInt (by omega)]
  omega
section St2
variable {G : Gt} {h : Hp} {B : Nat}
theorem st_feed {x1 x2 x3 x4 x5 : Int32} (hI : Inv G h B) : Cpl G h B 0 0 mX12_feed mX13_feed [.int x1, .int x2, .int x3, .int x4, .int x5] := by
  obtain ⟨c, s, hc, hr, hm⟩ := hI
  have hw := hr.rw
  have h6 := hw.1
  have h8 := hw.2.1
  by_cases hn : c.1 + 20 ≤ 940
  · refine cpl_mk hm (by decide) (cb_feed hc.o hc.pT hn) (fun v h1 hq => ?_)
    obtain ⟨rfl, y1, f1, fr⟩ := hq
    refine ⟨_, (c.1 + 20, fedT c.2.1 c.1 x1 x2 x3 x4 x5, c.2.2.1, c.2.2.2.1, c.2.2.2.2.1, c.2.2.2.2.2.1, c.2.2.2.2.2.2.1, c.2.2.2.2.2.2.2.1, c.2.2.2.2.2.2.2.2.1, c.2.2.2.2.2.2.2.2.2.1, c.2.2.2.2.2.2.2.2.2.2.1, c.2.2.2.2.2.2.2.2.2.2.2.1, c.2.2.2.2.2.2.2.2.2.2.2.2.1, c.2.2.2.2.2.2.2.2.2.2.2.2.2.1, c.2.2.2.2.2.2.2.2.2.2.2.2.2.2.1, c.2.2.2.2.2.2.2.2.2.2.2.2.2.2.2.1, c.2.2.2.2.2.2.2.2.2.2.2.2.2.2.2.2), 2, _, rfl, by decide, hc.tape y1 f1 fr, fun q a b => fr q (by omega), cm_feed hr.r2 hn, fun v2 h2 hq => ⟨hq.1, _, hq.2, ?_⟩⟩
    exact ⟨hn, hr.rf.fed _ _ _ _ _ _, (by show fedT (mA s 1) _ _ _ _ _ _ = _; rw [hr.r1]), rfl, hr.rw, hr.rv, hr.rm, hr.rs, hr.rl, hr.rp, hr.rq, hr.r38, hr.r17, hr.r10, hr.r27, hr.r36, hr.r34, hr.r35, hr.rt, hr.rc, hr.ri⟩
  · exact cpl_q hc hr hm (by decide) (by decide) (cb_feed_no hc.o hc.pT hr.rn hn) (fun _ => cm_feed_no hr.r2 hr.rn hn)
theorem st_end {x : Int32} (hI : Inv G h B) : Cpl G h B 0 0 mX12_end mX13_end [.int x] := by
  obtain ⟨c, s, hc, hr, hm⟩ := hI
  have hw := hr.rw
  have h6 := hw.1
  have h8 := hw.2.1
  have hn := hr.rn
  by_cases he : endR c.1 x
  · obtain ⟨k, hk, rfl⟩ := vI_of (n := c.1 + 1) (by omega) ⟨he.1, fun z => nI_ge (by omega) (by omega) (Int32.le_trans z he.2)⟩
    refine cpl_mk hm (by decide) (cb_end (k := k) hc.o hc.pT (by omega) hn) (fun v h1 hq => ?_)
    obtain ⟨rfl, y1, f1, fr⟩ := hq
    refine ⟨_, (k, c.2.1, c.2.2.1, c.2.2.2.1, c.2.2.2.2.1, c.2.2.2.2.2.1, c.2.2.2.2.2.2.1, c.2.2.2.2.2.2.2.1, c.2.2.2.2.2.2.2.2.1, c.2.2.2.2.2.2.2.2.2.1, c.2.2.2.2.2.2.2.2.2.2.1, c.2.2.2.2.2.2.2.2.2.2.2.1, c.2.2.2.2.2.2.2.2.2.2.2.2.1, c.2.2.2.2.2.2.2.2.2.2.2.2.2.1, c.2.2.2.2.2.2.2.2.2.2.2.2.2.2.1, c.2.2.2.2.2.2.2.2.2.2.2.2.2.2.2.1, c.2.2.2.2.2.2.2.2.2.2.2.2.2.2.2.2), 1, _, rfl, by decide, hc.tape y1 f1 fr, fun q a b => fr q (by omega), cm_end hr.r2 he, fun v2 h2 hq => ⟨hq.1, _, hq.2, ?_⟩⟩
    exact ⟨(by omega : k ≤ 940), hr.rf, hr.r1, rfl, hr.rw, hr.rv, hr.rm, hr.rs, hr.rl, hr.rp, hr.rq, hr.r38, hr.r17, hr.r10, hr.r27, hr.r36, hr.r34, hr.r35, hr.rt, hr.rc, hr.ri⟩
  · exact cpl_q hc hr hm (by decide) (by decide) (cb_end_no hc.o hc.pT he) (fun _ => cm_end_no hr.r2 he)
theorem st_when {x y : Int32} (hI : Inv G h B) : Cpl G h B 0 0 mX12_when mX13_when [.int x, .int y] := by
  obtain ⟨c, s, hc, hr, hm⟩ := hI
  have hw := hr.rw
  have h6 := hw.1
  have h8 := hw.2.1
  obtain ⟨d, hd, hday⟩ := hw.d
  obtain ⟨l, K, pr, pd, hs⟩ := hc.pY
  obtain ⟨v0, hv0⟩ := hc.pV
  by_cases hv : vI (wPe c.2.2.1) x ∧ vI 2 y
  · obtain ⟨p, hp, rfl⟩ := vI_of (by omega) hv.1
    obtain ⟨e, he, rfl⟩ := vI_of (by omega) hv.2
    have k1 := cb_when (G := G) hc.o hc.pW hw hs.1 hv0 hp he hday hd
    rw [dtp_wene hw hp he hday hd] at k1
    refine cpl_mk hm (by decide) k1 (fun v h1 hq => ?_)
    obtain ⟨rfl, ⟨f1, fr⟩, y1⟩ := hq
    refine ⟨_, c, 7, _, rfl, by decide, hc.look y1 f1 (fun q a => fr q (by omega)), fun q a b => fr q (by omega), cm_when hr.rv hw hday hd hp he, fun v2 h2 hq => ⟨hq.1, _, hq.2, ?_⟩⟩
    exact ⟨hr.rn, hr.rf, hr.r1, hr.r2, hr.rw, hr.rv, hr.rm, hr.rs, hr.rl, hr.rp, hr.rq, hr.r38, hr.r17, hr.r10, hr.r27, hr.r36, hr.r34, hr.r35, hr.rt, hr.rc, hr.ri⟩
  · exact cpl_q hc hr hm (by decide) (by decide) (cb_when_no hc.o hc.pW hv) (fun _ => cm_when_no hr.rv h8 hv)
theorem st_teacher {x : Int32} (hI : Inv G h B) : Cpl G h B 0 0 mX12_teacher mX13_teacher [.int x] := by
  obtain ⟨c, s, hc, hr, hm⟩ := hI
  have hw := hr.rw
  have h6 := hw.1
  have h8 := hw.2.1
  obtain ⟨d, hd, hday⟩ := hw.d
  obtain ⟨l, K, pr, pd, hs⟩ := hc.pY
  obtain ⟨v0, hv0⟩ := hc.pV
  by_cases hv : vI (wPe c.2.2.1) x
  · obtain ⟨p, hp, rfl⟩ := vI_of (by omega) hv
    refine cpl_mk hm (by decide) (cb_teacher hc.o hc.pW hw hs.1 hv0 hp hday hd) (fun v h1 hq => ?_)
    obtain ⟨rfl, y0, y1, f1, fr⟩ := hq
    have km := cm_teacher (G := G) (h := h1) (m := B + 240) hr.rv hw hday hd hp
    unfold Qtc at km
    rw [hr.r27] at km
    refine ⟨_, (c.1, c.2.1, c.2.2.1, c.2.2.2.1, c.2.2.2.2.1, c.2.2.2.2.2.1, c.2.2.2.2.2.2.1, c.2.2.2.2.2.2.2.1, c.2.2.2.2.2.2.2.2.1, (tcR c.2.2.1 d p c.2.2.2.2.2.2.2.2.2.1).2, c.2.2.2.2.2.2.2.2.2.2.1, c.2.2.2.2.2.2.2.2.2.2.2.1, c.2.2.2.2.2.2.2.2.2.2.2.2.1, c.2.2.2.2.2.2.2.2.2.2.2.2.2.1, c.2.2.2.2.2.2.2.2.2.2.2.2.2.2.1, c.2.2.2.2.2.2.2.2.2.2.2.2.2.2.2.1, c.2.2.2.2.2.2.2.2.2.2.2.2.2.2.2.2), 7, _, rfl, by decide, hc.sch (tt := (tcR c.2.2.1 d p c.2.2.2.2.2.2.2.2.2.1).2) (cr := c.2.2.2.2.2.2.2.2.2.2.1) (f13 := c.2.2.2.2.2.2.2.2.2.2.2.1) ⟨l, K, pr, pd, hs.obj y0 (fun q a b => fr q (by omega))⟩ y1 f1 (fun q a => fr q (by omega)), fun q a b => fr q (by omega), km, fun v2 h2 hq => ?_⟩
    obtain ⟨e1, g, e2⟩ := hq
    refine ⟨e1, _, e2, ?_⟩
    exact ⟨hr.rn, hr.rf, hr.r1, hr.r2, hr.rw, hr.rv, hr.rm, hr.rs, hr.rl, hr.rp, hr.rq, hr.r38, hr.r17, hr.r10, rfl, hr.r36, hr.r34, hr.r35, hr.rt, hr.rc, hr.ri⟩
  · exact cpl_q hc hr hm (by decide) (by decide) (cb_teacher_no hc.o hc.pW hv) (fun _ => cm_teacher_no hr.rv hw hv)
theorem st_rush (hI : Inv G h B) : Cpl G h B 0 0 mX12_rush mX13_rush [] := by
  obtain ⟨c, s, hc, hr, hm⟩ := hI
  have hw := hr.rw
  have h6 := hw.1
  have h8 := hw.2.1
  obtain ⟨d, hd, hday⟩ := hw.d
  obtain ⟨l, K, pr, pd, hs⟩ := hc.pY
  refine cpl_mk hm (by decide) (cb_rush hc.o hc.pW hw hs.1 hc.pV hday hd) (fun v h1 hq => ?_)
  obtain ⟨rfl, y0, y1, f1, fr⟩ := hq
  refine ⟨_, (c.1, c.2.1, c.2.2.1, c.2.2.2.1, c.2.2.2.2.1, c.2.2.2.2.2.1, c.2.2.2.2.2.2.1, c.2.2.2.2.2.2.2.1, c.2.2.2.2.2.2.2.2.1, c.2.2.2.2.2.2.2.2.2.1, nI (rsR c.2.2.1 d), c.2.2.2.2.2.2.2.2.2.2.2.1, c.2.2.2.2.2.2.2.2.2.2.2.2.1, c.2.2.2.2.2.2.2.2.2.2.2.2.2.1, c.2.2.2.2.2.2.2.2.2.2.2.2.2.2.1, c.2.2.2.2.2.2.2.2.2.2.2.2.2.2.2.1, c.2.2.2.2.2.2.2.2.2.2.2.2.2.2.2.2), 6, _, rfl, by decide, hc.sch (tt := c.2.2.2.2.2.2.2.2.2.1) (cr := nI (rsR c.2.2.1 d)) (f13 := c.2.2.2.2.2.2.2.2.2.2.2.1) ⟨l, K, pr, pd, hs.obj y0 (fun q a b => fr q (by omega))⟩ y1 f1 (fun q a => fr q (by omega)), fun q a b => fr q (by omega), cm_rush hr.rv hw hday hd, fun v2 h2 hq => ⟨hq.1, _, hq.2, ?_⟩⟩
  exact ⟨hr.rn, hr.rf, hr.r1, hr.r2, hr.rw, hr.rv, hr.rm, hr.rs, hr.rl, hr.rp, hr.rq, hr.r38, hr.r17, hr.r10, hr.r27, rfl, hr.r34, hr.r35, hr.rt, hr.rc, hr.ri⟩
theorem st_odds {x y z : Int32} (hI : Inv G h B) : Cpl G h B 0 0 mX12_odds mX13_odds [.int x, .int y, .int z] := by
  obtain ⟨c, s, hc, hr, hm⟩ := hI
  have hw := hr.rw
  have h6 := hw.1
  have h8 := hw.2.1
  obtain ⟨d, hd, hday⟩ := hw.d
  obtain ⟨l, K, pr, pd, hs⟩ := hc.pY
  by_cases hv : vI (wPe c.2.2.1) x ∧ (¬ y < 1 ∧ ¬ 30 < y)
  · obtain ⟨p, hp, rfl⟩ := vI_of (by omega) hv.1
    obtain ⟨n, hn1, hn, rfl⟩ := rng_of (k := 30) (by decide) hv.2.1 hv.2.2
    refine cpl_mk hm (by decide) (cb_odds hc.o hc.pW hw hs.1 hc.pV hc.pX hp hn1 hn hday hd) (fun v h1 hq => ?_)
    obtain ⟨rfl, ⟨f1, fr⟩, y1, y2⟩ := hq
    refine ⟨_, c, 8, _, rfl, by decide, hc.lookd y1 y2 f1 (fun q a => fr q a.1 (by omega)), fun q a b => fr q (by omega) (by omega), cm_odds hr.rv hw hday hd hp (by omega) hn, fun v2 h2 hq => ?_⟩
    obtain ⟨e1, g, e2⟩ := hq
    refine ⟨e1, _, e2, ?_⟩
    exact ⟨hr.rn, hr.rf, hr.r1, hr.r2, hr.rw, hr.rv, hr.rm, hr.rs, hr.rl, hr.rp, hr.rq, hr.r38, hr.r17, hr.r10, hr.r27, hr.r36, hr.r34, hr.r35, hr.rt, hr.rc, hr.ri⟩
  · exact cpl_q hc hr hm (by decide) (by decide) (cb_odds_no hc.o hc.pW hv) (fun _ => cm_odds_no hr.rv hw hv)
end St2

