/-! ===== the cases: school, laws, pass ===== -/
theorem psY_24 {Rp : List Nat} (h : nmV Rp) : (psY Rp).length ≤ 24 := by
  have := h.2.1
  unfold psY mayGo
  rw [List.length_append, ltrs_len]
  simp only [List.length_cons, List.length_nil]
  omega
theorem psN_24 {Rp Rt : List Nat} {n : Nat} (h : nmV Rp) (h2 : nmV Rt) : (psN Rp Rt n).length ≤ 24 := by
  have a := h.2.1
  have b := h2.2.1
  have c : (dgs n).length ≤ 2 := by unfold dgs; split <;> simp
  unfold psN lacksT
  simp only [List.length_append, ltrs_len, List.length_cons, List.length_nil]
  omega
theorem sub12 {a b : Nat} (ha : a ≤ 12) (h : ¬ nI a ≤ nI b) (hb : b ≤ 12) : nI a - nI b = nI (a - b) := by
  have h1 : b < a := Nat.not_le.mp (fun z => h (nI_le z (by omega)))
  apply Int32.toInt_inj.mp
  rw [pk_sub_toInt (by omega) (by omega), nI_toInt (by omega)]
  omega
section St4
variable {G : Gt} {h : Hp} {B : Nat}
theorem st_pass {x : Int32} (hI : Inv G h B) : Cpl G h B 0 0 mX12_pass mX13_pass [.int x] := by
  obtain ⟨c, s, hc, hr, hm⟩ := hI
  have hw := hr.rw
  have h6 := hw.1
  have h8 := hw.2.1
  by_cases hv : vI (wPe c.2.2.1) x
  · obtain ⟨p, hp, rfl⟩ := vI_of (by omega) hv
    obtain ⟨Rp, hRp, n1, n2⟩ := hr.rm.2 p hp
    by_cases hq : lack c.2.2.1 p (wE c.2.2.1 p) = 0
    · refine cpl_mk hm (by decide) (ct_pass_y hc.pB hc.pW hw hp hRp n1 hq) (fun v h1 hq9 => ?_)
      obtain ⟨rfl, y1, f1, fr⟩ := hq9
      refine ⟨_, (c.1, c.2.1, c.2.2.1, c.2.2.2.1, c.2.2.2.2.1, c.2.2.2.2.2.1, psY Rp, c.2.2.2.2.2.2.2.1, c.2.2.2.2.2.2.2.2.1, c.2.2.2.2.2.2.2.2.2.1, c.2.2.2.2.2.2.2.2.2.2.1, c.2.2.2.2.2.2.2.2.2.2.2.1, c.2.2.2.2.2.2.2.2.2.2.2.2.1, c.2.2.2.2.2.2.2.2.2.2.2.2.2.1, c.2.2.2.2.2.2.2.2.2.2.2.2.2.2.1, c.2.2.2.2.2.2.2.2.2.2.2.2.2.2.2.1, c.2.2.2.2.2.2.2.2.2.2.2.2.2.2.2.2), 10, _, rfl, by decide, hc.pass y1 f1 (fun q a => fr q a.1 a.2), fun q a b => fr q (by omega) (by omega), cm_pass hr.rv hw hp hRp n2 hq, fun v2 h2 hq9 => ?_⟩
      obtain ⟨e1, f', e3, hT⟩ := hq9
      refine ⟨e1, _, e3, ?_⟩
      exact ⟨hr.rn, hr.rf, hr.r1, hr.r2, hr.rw, hr.rv, hr.rm, hr.rs, hr.rl, hr.rp, psY_24 hRp, rfl, hT, hr.r10, hr.r27, hr.r36, hr.r34, hr.r35, hr.rt, hr.rc, hr.ri⟩
    · obtain ⟨t, ht, hb, hlo⟩ := lack_first h6 hq
      obtain ⟨Rt, hRt, m1, m2⟩ := hr.rm.1 t ht
      have hb2 := hb
      rw [lack_bt h6 (by omega), Bool.and_eq_true] at hb2
      have hlk : ¬ tol c.2.2.1 (wE c.2.2.1 p) t ≤ hld c.2.2.1 p t := by
        have := hb2.2
        unfold lkC at this
        simpa using this
      obtain ⟨a, ha, ea⟩ := hw.2.2.2.2.2.2.2.2.2.1 (wE c.2.2.1 p) t (hw.2.2.1 p hp).2 (by omega)
      obtain ⟨b, hbb, eb⟩ := hw.2.2.2.2.2.2.2.2.1 p t (by omega) (by omega)
      have hd : tol c.2.2.1 (wE c.2.2.1 p) t - hld c.2.2.1 p t = nI (a - b) := by
        rw [ea, eb] at hlk ⊢
        exact sub12 ha hlk hbb
      refine cpl_mk hm (by decide) (ct_pass_n hc.pB hc.pW hw hp hRp n1 hq ht hb hlo hRt m1 (by omega) hd) (fun v h1 hq9 => ?_)
      obtain ⟨rfl, y1, f1, fr⟩ := hq9
      refine ⟨_, (c.1, c.2.1, c.2.2.1, c.2.2.2.1, c.2.2.2.2.1, c.2.2.2.2.2.1, psN Rp Rt (a - b), c.2.2.2.2.2.2.2.1, c.2.2.2.2.2.2.2.2.1, c.2.2.2.2.2.2.2.2.2.1, c.2.2.2.2.2.2.2.2.2.2.1, c.2.2.2.2.2.2.2.2.2.2.2.1, c.2.2.2.2.2.2.2.2.2.2.2.2.1, c.2.2.2.2.2.2.2.2.2.2.2.2.2.1, c.2.2.2.2.2.2.2.2.2.2.2.2.2.2.1, c.2.2.2.2.2.2.2.2.2.2.2.2.2.2.2.1, c.2.2.2.2.2.2.2.2.2.2.2.2.2.2.2.2), 10, _, rfl, by decide, hc.pass y1 f1 (fun q a => fr q a.1 a.2), fun q a b => fr q (by omega) (by omega), cm_pass_n hr.rv hw hp hRp n2 hq ht hb hlo hRt m2 (by omega) hd, fun v2 h2 hq9 => ?_⟩
      obtain ⟨e1, f', e3, hT⟩ := hq9
      refine ⟨e1, _, e3, ?_⟩
      exact ⟨hr.rn, hr.rf, hr.r1, hr.r2, hr.rw, hr.rv, hr.rm, hr.rs, hr.rl, hr.rp, psN_24 hRp hRt, rfl, hT, hr.r10, hr.r27, hr.r36, hr.r34, hr.r35, hr.rt, hr.rc, hr.ri⟩
  · exact cpl_q hc hr hm (by decide) (by decide) (ct_pass_no hc.o hc.pW hv) (fun _ => cm_pass_no hr.rv h8 hv)
theorem st_school (hI : Inv G h B) : Cpl G h B 0 0 mX12_school mX13_school [] := by
  obtain ⟨c, s, hc, hr, hm⟩ := hI
  have hw := hr.rw
  have h6 := hw.1
  have h8 := hw.2.1
  obtain ⟨d, hd, hday⟩ := hw.d
  obtain ⟨l, K, pr, pd, hs⟩ := hc.pY
  refine cpl_mk hm (by decide) (cb_school hc.o hc.pW hw hs hc.pV hday hd) (fun v h1 hq => ?_)
  obtain ⟨rfl, ⟨pd', y1⟩, y2, f1, fr⟩ := hq
  have rel : RS (wPe c.2.2.1) (nI (wPe c.2.2.1)) (61, c.2.2.2.2.2.2.2.2.2.2.2.1, K) (61, mA s 15, mF s 31) (fsR c.2.2.1 d (filF (-1) pr 8) c.2.2.2.2.2.2.2.2.2.2.2.1 K) (schR c.2.2.1 d s) := sch_rel hw hday hd
  have km := cm_school (G := G) (h := h1) (m := B + 240) hr.rv hw hday hd
  generalize fsR c.2.2.1 d (filF (-1) pr 8) c.2.2.2.2.2.2.2.2.2.2.2.1 K = R at *
  generalize schR c.2.2.1 d s = R' at *
  have e1 : R.1 = R'.1 := RS.e (s0 := (61, c.2.2.2.2.2.2.2.2.2.2.2.1, K)) (s0' := (61, mA s 15, mF s 31)) rfl rel
  refine ⟨_, (c.1, c.2.1, c.2.2.1, c.2.2.2.1, c.2.2.2.2.1, c.2.2.2.2.2.1, c.2.2.2.2.2.2.1, c.2.2.2.2.2.2.2.1, c.2.2.2.2.2.2.2.2.1, c.2.2.2.2.2.2.2.2.2.1, c.2.2.2.2.2.2.2.2.2.2.1, R.2.1, c.2.2.2.2.2.2.2.2.2.2.2.2.1, c.2.2.2.2.2.2.2.2.2.2.2.2.2.1, c.2.2.2.2.2.2.2.2.2.2.2.2.2.2.1, c.2.2.2.2.2.2.2.2.2.2.2.2.2.2.2.1, c.2.2.2.2.2.2.2.2.2.2.2.2.2.2.2.2), 16, _, rfl, by decide, hc.sch (tt := c.2.2.2.2.2.2.2.2.2.1) (cr := c.2.2.2.2.2.2.2.2.2.2.1) (f13 := R.2.1) ⟨R.1, R.2.2, _, pd', y1⟩ y2 f1 (fun q a => fr q (by omega)), fun q a b => fr q (by omega), km, fun v2 h2 hq => ?_⟩
  obtain ⟨e2, g, e3⟩ := hq
  refine ⟨by rw [e2, e1], _, e3, ?_⟩
  rcases rel with ⟨rfl, rfl⟩ | ⟨-, a1, a2, a3, a4, a5⟩
  · rw [scM_n (by show ¬ 61 ≤ 60; decide)]
    exact ⟨hr.rn, hr.rf, hr.r1, hr.r2, hr.rw, hr.rv, hr.rm, hr.rs, hr.rl, hr.rp, hr.rq, hr.r38, hr.r17, hr.r10, hr.r27, hr.r36, hr.r34, hr.r35, hr.rt, hr.rc, hr.ri⟩
  · have a5 : R.1 < 61 := a5
    rw [scM_y (by omega)]
    exact ⟨hr.rn, hr.rf, hr.r1, hr.r2, hr.rw, hr.rv, hr.rm, hr.rs, hr.rl, hr.rp, hr.rq, hr.r38, hr.r17, hr.r10, hr.r27, hr.r36, hr.r34, hr.r35, hr.rt, ⟨wPe c.2.2.1, h8, a3, Or.inr ⟨by show ¬ (1 : Int32) = 0; decide, fun j hj => a1 j (by omega), a4⟩⟩, hr.ri⟩
theorem st_laws (hI : Inv G h B) : Cpl G h B 0 0 mX12_laws mX13_laws [] := by
  obtain ⟨c, s, hc, hr, hm⟩ := hI
  have hw := hr.rw
  have h6 := hw.1
  have h8 := hw.2.1
  obtain ⟨f0, f1, hl⟩ := hc.pL
  have hn := hr.rn
  by_cases hok : lwOK c.2.2.1 c.2.1 c.1
  · refine cpl_mk hm (by decide) (cb_laws hc.o hc.pW hw hc.pT hl hn hok) (fun v h1 hq => ?_)
    obtain ⟨rfl, y1, ⟨f1', y2⟩, g1, fr⟩ := hq
    have km := cm_laws (G := G) (h := h1) (m := B + 240) hr.rv hw hr.r2 (by rw [hr.r1]; exact hok)
    unfold Qlw at km
    rw [hr.r1] at km
    unfold lwR at y2 ⊢
    obtain ⟨ec, ee⟩ := fs_same (g := soB c.2.2.1 c.2.1 c.1) (r := f0) (r' := mA s 16) (2 ^ wTh c.2.2.1)
    generalize fsS (soB c.2.2.1 c.2.1 c.1) f0 (2 ^ wTh c.2.2.1) = F at *
    generalize fsS (soB c.2.2.1 c.2.1 c.1) (mA s 16) (2 ^ wTh c.2.2.1) = F' at *
    refine ⟨_, (0, c.2.1, c.2.2.1, c.2.2.2.1, c.2.2.2.2.1, c.2.2.2.2.2.1, c.2.2.2.2.2.2.1, c.2.2.2.2.2.2.2.1, c.2.2.2.2.2.2.2.2.1, c.2.2.2.2.2.2.2.2.2.1, c.2.2.2.2.2.2.2.2.2.2.1, c.2.2.2.2.2.2.2.2.2.2.2.1, if F.1 = 0 then c.2.2.2.2.2.2.2.2.2.2.2.2.1 else smS F.2 F.1, if F.1 = 0 then c.2.2.2.2.2.2.2.2.2.2.2.2.2.1 else nI (ofS (fun p => alk (fun k => letB c.2.2.1 p (F.2 k) (c.2.1 0)) F.1) (wPe c.2.2.1)), c.2.2.2.2.2.2.2.2.2.2.2.2.2.2.1, c.2.2.2.2.2.2.2.2.2.2.2.2.2.2.2.1, c.2.2.2.2.2.2.2.2.2.2.2.2.2.2.2.2), 4, _, rfl, by decide, hc.law y1 ⟨_, f1', y2⟩ g1 (fun q a => fr q (by omega) (by omega)), fun q a b => fr q (by omega) (by omega), km, fun v2 h2 hq => ?_⟩
    obtain ⟨e1, e3⟩ := hq
    refine ⟨by rw [e1, ec], _, e3, ?_⟩
    by_cases z : F.1 = 0
    · have z' : F'.1 = 0 := ec ▸ z
      rw [if_pos z']
      exact ⟨(Nat.zero_le _), hr.rf, hr.r1, rfl, hr.rw, hr.rv, hr.rm, hr.rs, hr.rl, hr.rp, hr.rq, hr.r38, hr.r17, hr.r10, hr.r27, hr.r36, (hr.r34.trans (if_pos z).symm), (hr.r35.trans (if_pos z).symm), hr.rt, hr.rc, hr.ri⟩
    · have z' : ¬ F'.1 = 0 := fun q => z (ec.trans q)
      rw [if_neg z']
      have s1 : smS F'.2 F'.1 = smS F.2 F.1 := by
        rw [← ec]
        exact sm_same (by omega) (fun j hj => (ee j hj).symm)
      have s2 : (fun p => alk (fun k => letB c.2.2.1 p (F'.2 k) (c.2.1 0)) F'.1) = fun p => alk (fun k => letB c.2.2.1 p (F.2 k) (c.2.1 0)) F.1 := funext fun p => by
        rw [← ec]
        exact alk_same (fun k hk => by rw [ee k hk])
      exact ⟨(Nat.zero_le _), hr.rf, hr.r1, rfl, hr.rw, hr.rv, hr.rm, hr.rs, hr.rl, hr.rp, hr.rq, hr.r38, hr.r17, hr.r10, hr.r27, hr.r36, (s1.trans (if_neg z).symm), ((congrArg (fun a => nI (ofS a (wPe c.2.2.1))) s2).trans (if_neg z).symm), hr.rt, hr.rc, hr.ri⟩
  · refine cpl_mk hm (by decide) (cb_laws_no hc.o hc.pW hc.pT hl hn hok) (fun v h1 hq => ?_)
    obtain ⟨rfl, y1, g1, fr⟩ := hq
    refine ⟨_, (0, c.2.1, c.2.2.1, c.2.2.2.1, c.2.2.2.2.1, c.2.2.2.2.2.1, c.2.2.2.2.2.2.1, c.2.2.2.2.2.2.2.1, c.2.2.2.2.2.2.2.2.1, c.2.2.2.2.2.2.2.2.2.1, c.2.2.2.2.2.2.2.2.2.2.1, c.2.2.2.2.2.2.2.2.2.2.2.1, c.2.2.2.2.2.2.2.2.2.2.2.2.1, c.2.2.2.2.2.2.2.2.2.2.2.2.2.1, c.2.2.2.2.2.2.2.2.2.2.2.2.2.2.1, c.2.2.2.2.2.2.2.2.2.2.2.2.2.2.2.1, c.2.2.2.2.2.2.2.2.2.2.2.2.2.2.2.2), 4, _, rfl, by decide, hc.tape y1 g1 fr, fun q a b => fr q (by omega), cm_laws_no hr.rv h8 hr.r2 hn (by rw [hr.r1]; exact hok), fun v2 h2 hq => ⟨hq.1, _, hq.2, ?_⟩⟩
    exact ⟨(Nat.zero_le _), hr.rf, hr.r1, rfl, hr.rw, hr.rv, hr.rm, hr.rs, hr.rl, hr.rp, hr.rq, hr.r38, hr.r17, hr.r10, hr.r27, hr.r36, hr.r34, hr.r35, hr.rt, hr.rc, hr.ri⟩
end St4

