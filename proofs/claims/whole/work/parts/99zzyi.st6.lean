/-! ===== the cases: what is read ===== -/
theorem wN_lv {u : Wd} {ln : Ln} : wN (lvW u ln) = wN u := by
  unfold lvW
  split
  · exact wN_walk
  · split
    · exact wN_pair
    · split
      · exact wN_un
      · split
        · unfold trW; split <;> rfl
        · split
          · unfold demW; split <;> rfl
          · split
            · rfl
            · exact wN_days _
theorem jg_ok : ∀ (M : List Ln) (k : Nat) (u : Wd), WOK u → (∀ ln ∈ M, LnV u ln) → WOK (jg M k u).2.2 ∧ wN (jg M k u).2.2 = wN u
  | [], k, u, hu, _ => by rw [jg]; exact ⟨hu, rfl⟩
  | ln :: M, k, u, hu, hl => by
    rw [jg]
    split
    · obtain ⟨a, b, c⟩ := hu.lv (hl ln List.mem_cons_self)
      obtain ⟨d, e⟩ := jg_ok M (k + 1) (lvW u ln) a (fun m hm => (hl m (List.mem_cons_of_mem _ hm)).same b c)
      exact ⟨d, e.trans wN_lv⟩
    · exact ⟨hu, rfl⟩
section St6
variable {G : Gt} {h h' : Hp} {B : Nat} {c : Cs} {s s' : Ms}
theorem RC.read {w : Wd} {L : List Wd} {sn : Nat} {sI : List It} {ft : Int32} {td : Nat → Int32} (hr : RC c s) (f2 : mF s' 2 = 0) (f10 : mF s' 10 = ft) (hw : WOK w) (nv : NWv w (mA s' 2)) (nm : NmR (wN w) (mN s' 8) (wTh w) (wPe w)) (no : NoN sn sI (mA s' 2)) (l26 : mF s' 26 = nI L.length) (pp : PastR L (wN w) (mA s' 5) (mA s' 2))
    (tt : (mF s' 43 = 0 ∧ ∀ i, i < 4 → td i = -1) ∨ (¬ mF s' 43 = 0 ∧ ∀ i, i < 4 → td i = mA s' 19 i)) (F : ∀ k, (k = 27 ∨ k = 31 ∨ k = 32 ∨ k = 34 ∨ k = 35 ∨ k = 36 ∨ k = 38) → mF s' k = mF s k) (A : ∀ k, (k = 1 ∨ k = 4 ∨ k = 11 ∨ k = 15 ∨ k = 17) → mA s' k = mA s k) (N : mN s' 10 = mN s 10) : RC (0, c.2.1, w, L, sn, sI, c.2.2.2.2.2.2.1, ft, td, c.2.2.2.2.2.2.2.2.2.1, c.2.2.2.2.2.2.2.2.2.2.1, c.2.2.2.2.2.2.2.2.2.2.2.1, c.2.2.2.2.2.2.2.2.2.2.2.2.1, c.2.2.2.2.2.2.2.2.2.2.2.2.2.1, c.2.2.2.2.2.2.2.2.2.2.2.2.2.2.1, c.2.2.2.2.2.2.2.2.2.2.2.2.2.2.2.1, c.2.2.2.2.2.2.2.2.2.2.2.2.2.2.2.2) s' := by
  refine ⟨(Nat.zero_le _), hr.rf, ((A 1 (by omega)).trans hr.r1), f2, hw, nv, nm, no, l26, pp, hr.rq, ((F 38 (by omega)).trans hr.r38), (by rw [A 17 (by omega)]; exact hr.r17), f10, ((F 27 (by omega)).trans hr.r27), ((F 36 (by omega)).trans hr.r36), ((F 34 (by omega)).trans hr.r34), ((F 35 (by omega)).trans hr.r35), tt, ?_, ?_⟩
  · rw [F 31 (by omega), F 32 (by omega), A 15 (by omega)]
    exact hr.rc
  · rw [A 4 (by omega), A 11 (by omega), N]
    exact hr.ri
theorem HC.pb2 {e : Nat} (hc : HC G h B c) (y : h'.2 B = some (oB B (nI c.2.2.2.2.2.2.1.length) (nI e))) (f : h'.2 (B + 239) = h.2 (B + 239)) : HasPB h' B (nI e) c.2.2.2.2.2.2.1 := by
  obtain ⟨-, g, a1, a2⟩ := hc.pB
  exact ⟨y, g, f.trans a1, a2⟩
theorem st_sentence (hI : Inv G h B) : Cpl G h B 0 0 mX12_sentence mX13_sentence [] := by
  obtain ⟨c, s, hc, hr, hm⟩ := hI
  have hw := hr.rw
  have h6 := hw.1
  have h8 := hw.2.1
  refine cpl_mk hm (by decide) (cb_sentence hc.o hc.pT hc.pK hc.pS.s0 hc.pZ hr.rf hr.rn) (fun v h1 hq => ?_)
  obtain ⟨K, hx, rfl, ⟨t1, t2, t3, t4⟩, y1, y2, fr⟩ := hq
  have km := cm_sentence (G := G) (h := h1) (m := B + 240) (N := c.1) (K := K) (s := s) (by rw [hr.r1]; exact hx) hr.r2
  rw [hr.r1] at km
  generalize sRd (c.2.1, c.1, 200, K) = z at *
  have pb := hc.pb2 t1 (fr _ (by omega))
  by_cases e0 : z.1.2.1 = 0
  · rw [if_pos e0] at y1 ⊢
    refine ⟨_, (0, c.2.1, c.2.2.1, c.2.2.2.1, z.2.1, z.2.2, c.2.2.2.2.2.2.1, nI z.1.2.1, c.2.2.2.2.2.2.2.2.1, c.2.2.2.2.2.2.2.2.2.1, c.2.2.2.2.2.2.2.2.2.2.1, c.2.2.2.2.2.2.2.2.2.2.2.1, c.2.2.2.2.2.2.2.2.2.2.2.2.1, c.2.2.2.2.2.2.2.2.2.2.2.2.2.1, c.2.2.2.2.2.2.2.2.2.2.2.2.2.2.1, c.2.2.2.2.2.2.2.2.2.2.2.2.2.2.2.1, c.2.2.2.2.2.2.2.2.2.2.2.2.2.2.2.2), 42, _, rfl, by decide, hc.sent pb t2 t3 y1 y2 t4 (fun q a => fr q (by omega)), fun q a b => fr q (by omega), km, fun v2 h2 hq => ?_⟩
    obtain ⟨s', e3, g, ⟨-, q1, q2, q3, q4, q5⟩ | ⟨z9, -⟩⟩ := hq
    · refine ⟨q1, s', e3, hr.read g.2.1 (by rw [q2, e0]; rfl) hw (hr.rv.congr h6 h8 q3) (by rw [g.2.2.2.2 8]; exact hr.rm) q5 ((g.2.2.1 26 (by omega)).trans hr.rl) (by rw [g.2.2.2.1 5 (by omega) (by omega)]; exact hr.rp.hd (fun i hi => q3 i (by omega))) (by rw [g.2.2.1 43 (by omega), g.2.2.2.1 19 (by omega) (by omega)]; exact hr.rt) (fun k hk => g.2.2.1 k (by omega)) (fun k hk => g.2.2.2.1 k (by omega) (by omega)) (g.2.2.2.2 10)⟩
    · exact absurd e0 z9
  · rw [if_neg e0] at y1 ⊢
    refine ⟨_, (0, c.2.1, c.2.2.1, c.2.2.2.1, c.2.2.2.2.1, c.2.2.2.2.2.1, c.2.2.2.2.2.2.1, nI z.1.2.1, c.2.2.2.2.2.2.2.2.1, c.2.2.2.2.2.2.2.2.2.1, c.2.2.2.2.2.2.2.2.2.2.1, c.2.2.2.2.2.2.2.2.2.2.2.1, c.2.2.2.2.2.2.2.2.2.2.2.2.1, c.2.2.2.2.2.2.2.2.2.2.2.2.2.1, c.2.2.2.2.2.2.2.2.2.2.2.2.2.2.1, c.2.2.2.2.2.2.2.2.2.2.2.2.2.2.2.1, c.2.2.2.2.2.2.2.2.2.2.2.2.2.2.2.2), 42, _, rfl, by decide, hc.sent (n := c.2.2.2.2.1) (I := c.2.2.2.2.2.1) pb t2 t3 (hc.pS.on y1) y2 t4 (fun q a => fr q (by omega)), fun q a b => fr q (by omega), km, fun v2 h2 hq => ?_⟩
    obtain ⟨s', e3, g, ⟨z9, -⟩ | ⟨-, q1, q2, q3⟩⟩ := hq
    · exact absurd z9 e0
    · refine ⟨q1, s', e3, hr.read g.2.1 q2 hw (by rw [q3]; exact hr.rv) (by rw [g.2.2.2.2 8]; exact hr.rm) (by rw [q3]; exact hr.rs) ((g.2.2.1 26 (by omega)).trans hr.rl) (by rw [g.2.2.2.1 5 (by omega) (by omega), q3]; exact hr.rp) (by rw [g.2.2.1 43 (by omega), g.2.2.2.1 19 (by omega) (by omega)]; exact hr.rt) (fun k hk => g.2.2.1 k (by omega)) (fun k hk => g.2.2.2.1 k (by omega) (by omega)) (g.2.2.2.2 10)⟩
theorem st_bridge (hI : Inv G h B) : Cpl G h B 0 0 mX12_bridge mX13_bridge [] := by
  obtain ⟨c, s, hc, hr, hm⟩ := hI
  have hw := hr.rw
  have h6 := hw.1
  have h8 := hw.2.1
  obtain ⟨u, hu⟩ := hc.pU
  refine cpl_mk hm (by decide) (cb_bridge hc.o hc.pT hc.pK hc.pR hu hc.pW hc.pP hc.pS.s0 hr.rf hr.rn) (fun v h1 hq => ?_)
  obtain ⟨K, hx, rfl, ⟨t1, t2, t3, t4⟩, y1, y2, y3, fr⟩ := hq
  have km := cm_bridge (G := G) (h := h1) (m := B + 240) (n := c.1) (K := K) (s := s) (w := u) (by rw [hr.r1]; exact hx) hr.r2
  rw [hr.r1] at km
  generalize rBr (c.2.1, c.1, 900, K) (K + 1) (0, 0, 0) (clrW u) 0 = z at *
  have pb := hc.pb2 t1 (fr _ (by omega))
  by_cases e0 : z.1.2.1 = 0
  · rw [if_pos e0] at y1 ⊢
    refine ⟨_, (0, c.2.1, z.2.1, [], 0, [], c.2.2.2.2.2.2.1, nI z.1.2.1, c.2.2.2.2.2.2.2.2.1, c.2.2.2.2.2.2.2.2.2.1, c.2.2.2.2.2.2.2.2.2.2.1, c.2.2.2.2.2.2.2.2.2.2.2.1, c.2.2.2.2.2.2.2.2.2.2.2.2.1, c.2.2.2.2.2.2.2.2.2.2.2.2.2.1, c.2.2.2.2.2.2.2.2.2.2.2.2.2.2.1, c.2.2.2.2.2.2.2.2.2.2.2.2.2.2.2.1, c.2.2.2.2.2.2.2.2.2.2.2.2.2.2.2.2), 9, _, rfl, by decide, hc.brid pb t2 t3 y2 y3 y1.1 y1.2.1 y1.2.2 t4 (fun q a => fr q (by omega)), fun q a b => fr q (by omega), km, fun v2 h2 hq => ?_⟩
    obtain ⟨s', e3, g, ⟨-, q1, q2, q3, q4, q5, q6, q7⟩ | ⟨z9, -⟩⟩ := hq
    · refine ⟨q1, s', e3, hr.read g.2.1 (by rw [q7, e0]; rfl) q2.1 q3 q4 (Or.inl ⟨rfl, q5 191 (by omega) (by omega)⟩) q6 PastR.nil (by rw [g.2.2.1 43 (by omega), g.2.2.2.1 19 (by omega) (by omega) (by omega) (by omega)]; exact hr.rt) (fun k hk => g.2.2.1 k (by omega)) (fun k hk => g.2.2.2.1 k (by omega) (by omega) (by omega) (by omega)) (g.2.2.2.2 10 (by omega) (by omega))⟩
    · exact absurd e0 z9
  · rw [if_neg e0] at y1 ⊢
    refine ⟨_, (0, c.2.1, c.2.2.1, c.2.2.2.1, c.2.2.2.2.1, c.2.2.2.2.2.1, c.2.2.2.2.2.2.1, nI z.1.2.1, c.2.2.2.2.2.2.2.2.1, c.2.2.2.2.2.2.2.2.2.1, c.2.2.2.2.2.2.2.2.2.2.1, c.2.2.2.2.2.2.2.2.2.2.2.1, c.2.2.2.2.2.2.2.2.2.2.2.2.1, c.2.2.2.2.2.2.2.2.2.2.2.2.2.1, c.2.2.2.2.2.2.2.2.2.2.2.2.2.2.1, c.2.2.2.2.2.2.2.2.2.2.2.2.2.2.2.1, c.2.2.2.2.2.2.2.2.2.2.2.2.2.2.2.2), 9, _, rfl, by decide, hc.brid (w := c.2.2.1) (L := c.2.2.2.1) (n := c.2.2.2.2.1) (I := c.2.2.2.2.2.1) pb t2 t3 y2 y3 (hc.pW.on (fun q a b => y1 q (by omega) (by omega))) (hc.pP.on (fun q a b => y1 q (by omega) (by omega))) (hc.pS.on (fun q a b => y1 q (by omega) (by omega))) t4 (fun q a => fr q (by omega)), fun q a b => fr q (by omega), km, fun v2 h2 hq => ?_⟩
    obtain ⟨s', e3, g, ⟨z9, -⟩ | ⟨-, q1, q2, q3, q4, q5⟩⟩ := hq
    · exact absurd z9 e0
    · refine ⟨q1, s', e3, hr.read g.2.1 q2 hw (by rw [q4]; exact hr.rv) (by rw [q5]; exact hr.rm) (by rw [q4]; exact hr.rs) (q3.trans hr.rl) (by rw [g.2.2.2.1 5 (by omega) (by omega) (by omega) (by omega), q4]; exact hr.rp) (by rw [g.2.2.1 43 (by omega), g.2.2.2.1 19 (by omega) (by omega) (by omega) (by omega)]; exact hr.rt) (fun k hk => g.2.2.1 k (by omega)) (fun k hk => g.2.2.2.1 k (by omega) (by omega) (by omega) (by omega)) (g.2.2.2.2 10 (by omega) (by omega))⟩
theorem st_bookV {V : Nat} (hV : V < 2) (hc : HC G h B c) (hr : RC c s) (hm : hM h (B + 240) s = h) (k1 : Mt G 10 0 0 mX12_book [.ref B, .int (nI V)] h (fun r h' => ∃ K, TxOK (c.2.1, c.1, 400, K) ∧ Qbo7 G h B (nI c.2.2.2.2.2.2.1.length) c.2.1 V c.2.2.1 c.2.2.2.1 (rBk (c.2.1, c.1, 400, K) c.2.2.1 41 (0, 0, 0) []) r h')) : Cpl G h B 0 0 mX12_book mX13_book [.int (nI V)] := by
  have hw := hr.rw
  have h6 := hw.1
  have h8 := hw.2.1
  refine cpl_mk hm (by decide) k1 (fun v h1 hq => ?_)
  obtain ⟨K, hx, y0, ⟨t1, t2, t3, t4⟩, y2, y3, fr⟩ := hq
  have km := cm_book (G := G) (h := h1) (m := B + 240) (n := c.2.2.2.1.length) (N := c.1) (K := K) (s := s) (by rw [hr.r1]; exact hx) hr.r2 hV hr.rl hr.rp.1 ⟨hr.rv, hr.rm⟩ hw
  rw [hr.r1] at km
  have hLV := rBk_v (x := (c.2.1, c.1, 400, K)) h6 h8 41 (0, 0, 0) [] (fun ln hl => by cases hl)
  generalize rBk (c.2.1, c.1, 400, K) c.2.2.1 41 (0, 0, 0) [] = z at *
  have pb := hc.pb2 t1 (fr _ (by omega))
  by_cases e0 : z.1.2.1 = 0
  · rw [if_pos e0] at y0
    obtain ⟨rfl, ⟨td, y4, d0, d1, d2, d3⟩, y5⟩ := y0
    obtain ⟨jo, jn⟩ := jg_ok z.2 0 c.2.2.1 hw (hLV e0)
    unfold QBo at km
    generalize jg z.2 0 c.2.2.1 = J at *
    have tds : ∀ s' : Ms, mF s' 43 = 1 → mA s' 19 0 = J.1 → mA s' 19 1 = nI J.2.1 → mA s' 19 2 = wDay J.2.2 → mA s' 19 3 = bitsOf (payC J.2.2) (wPe J.2.2) → (mF s' 43 = 0 ∧ ∀ i, i < 4 → td i = -1) ∨ (¬ mF s' 43 = 0 ∧ ∀ i, i < 4 → td i = mA s' 19 i) := fun s' a b1 b2 b3 b4 => Or.inr ⟨by rw [a]; decide, fun i hi => by
      rcases (by omega : i = 0 ∨ i = 1 ∨ i = 2 ∨ i = 3) with rfl | rfl | rfl | rfl
      · rw [d0, b1]
      · rw [d1, b2]
      · rw [d2, b3]
      · rw [d3, b4]⟩
    by_cases hk : V = 1 ∧ 0 < J.2.1
    · rw [if_pos hk] at y5
      refine ⟨_, (0, c.2.1, J.2.2, (c.2.2.1 :: c.2.2.2.1).take 8, c.2.2.2.2.1, c.2.2.2.2.2.1, c.2.2.2.2.2.2.1, nI z.1.2.1, td, c.2.2.2.2.2.2.2.2.2.1, c.2.2.2.2.2.2.2.2.2.2.1, c.2.2.2.2.2.2.2.2.2.2.2.1, c.2.2.2.2.2.2.2.2.2.2.2.2.1, c.2.2.2.2.2.2.2.2.2.2.2.2.2.1, c.2.2.2.2.2.2.2.2.2.2.2.2.2.2.1, c.2.2.2.2.2.2.2.2.2.2.2.2.2.2.2.1, c.2.2.2.2.2.2.2.2.2.2.2.2.2.2.2.2), 8, _, rfl, by decide, hc.book pb t2 t3 y2 y3 y4 y5.1 y5.2 t4 (fun q a => fr q (by omega)), fun q a b => fr q (by omega), km, fun v2 h2 hq => ?_⟩
      rcases hq with ⟨-, q1, s', e3, g, q2, q3, b1, b2, b3, b4, ⟨-, -, n1, n2, n3, n4⟩ | ⟨z9, -⟩⟩ | ⟨z9, -⟩
      · have hh := heads_eq hr.rw jo hr.rv n1 (fun i hi => n2 i (Or.inl hi))
        refine ⟨q1, s', e3, hr.read g.2.1 (by rw [q2, e0]; rfl) jo n1 (by rw [g.2.2.2.2 8, jn, hh.1, hh.2]; exact hr.rm) (hr.rs.congr (fun j a _ => n2 j (Or.inr a))) (by rw [n4, take_len hr.rp.1]) (by rw [n3, jn]; exact hr.rp.keep hr.rw rfl hr.rv n2) (tds s' q3 b1 b2 b3 b4) (fun k hk => g.2.2.1 k (by omega)) (fun k hk => g.2.2.2.1 k (by omega) (by omega) (by omega) (by omega) (by omega)) (g.2.2.2.2 10)⟩
      · exact absurd hk z9
      · exact absurd e0 z9
    · rw [if_neg hk] at y5
      refine ⟨_, (0, c.2.1, c.2.2.1, c.2.2.2.1, c.2.2.2.2.1, c.2.2.2.2.2.1, c.2.2.2.2.2.2.1, nI z.1.2.1, td, c.2.2.2.2.2.2.2.2.2.1, c.2.2.2.2.2.2.2.2.2.2.1, c.2.2.2.2.2.2.2.2.2.2.2.1, c.2.2.2.2.2.2.2.2.2.2.2.2.1, c.2.2.2.2.2.2.2.2.2.2.2.2.2.1, c.2.2.2.2.2.2.2.2.2.2.2.2.2.2.1, c.2.2.2.2.2.2.2.2.2.2.2.2.2.2.2.1, c.2.2.2.2.2.2.2.2.2.2.2.2.2.2.2.2), 8, _, rfl, by decide, hc.book (w := c.2.2.1) (L := c.2.2.2.1) pb t2 t3 y2 y3 y4 (hc.pW.on (fun q a b => y5 q (by omega) (by omega))) (hc.pP.on (fun q a b => y5 q (by omega) (by omega))) t4 (fun q a => fr q (by omega)), fun q a b => fr q (by omega), km, fun v2 h2 hq => ?_⟩
      rcases hq with ⟨-, q1, s', e3, g, q2, q3, b1, b2, b3, b4, ⟨z8, z9, -⟩ | ⟨-, n1, n2, n3⟩⟩ | ⟨z9, -⟩
      · exact absurd ⟨z8, z9⟩ hk
      · refine ⟨q1, s', e3, hr.read g.2.1 (by rw [q2, e0]; rfl) hw (by rw [n1]; exact hr.rv) (by rw [g.2.2.2.2 8]; exact hr.rm) (by rw [n1]; exact hr.rs) (n3.trans hr.rl) (by rw [n2, n1]; exact hr.rp) (tds s' q3 b1 b2 b3 b4) (fun k hk => g.2.2.1 k (by omega)) (fun k hk => g.2.2.2.1 k (by omega) (by omega) (by omega) (by omega) (by omega)) (g.2.2.2.2 10)⟩
      · exact absurd e0 z9
  · rw [if_neg e0] at y0
    obtain ⟨rfl, y5⟩ := y0
    refine ⟨_, (0, c.2.1, c.2.2.1, c.2.2.2.1, c.2.2.2.2.1, c.2.2.2.2.2.1, c.2.2.2.2.2.2.1, nI z.1.2.1, c.2.2.2.2.2.2.2.2.1, c.2.2.2.2.2.2.2.2.2.1, c.2.2.2.2.2.2.2.2.2.2.1, c.2.2.2.2.2.2.2.2.2.2.2.1, c.2.2.2.2.2.2.2.2.2.2.2.2.1, c.2.2.2.2.2.2.2.2.2.2.2.2.2.1, c.2.2.2.2.2.2.2.2.2.2.2.2.2.2.1, c.2.2.2.2.2.2.2.2.2.2.2.2.2.2.2.1, c.2.2.2.2.2.2.2.2.2.2.2.2.2.2.2.2), 8, _, rfl, by decide, hc.book (w := c.2.2.1) (L := c.2.2.2.1) (td := c.2.2.2.2.2.2.2.2.1) pb t2 t3 y2 y3 ((y5 _ (by omega) (by omega)).trans hc.pD) (hc.pW.on (fun q a b => y5 q (by omega) (by omega))) (hc.pP.on (fun q a b => y5 q (by omega) (by omega))) t4 (fun q a => fr q (by omega)), fun q a b => fr q (by omega), km, fun v2 h2 hq => ?_⟩
    rcases hq with ⟨z9, -⟩ | ⟨-, q1, s', e3, g1, g2, g3, g4, g5, q2⟩
    · exact absurd z9 e0
    · refine ⟨q1, s', e3, hr.read g2 q2 hw (by rw [g4 2 (by omega)]; exact hr.rv) (by rw [g5 8]; exact hr.rm) (by rw [g4 2 (by omega)]; exact hr.rs) ((g3 26 (by omega)).trans hr.rl) (by rw [g4 5 (by omega), g4 2 (by omega)]; exact hr.rp) (by rw [g3 43 (by omega), g4 19 (by omega)]; exact hr.rt) (fun k hk => g3 k (by omega)) (fun k hk => g4 k (by omega)) (g5 10)⟩
theorem st_book {x : Int32} (hI : Inv G h B) : Cpl G h B 0 0 mX12_book mX13_book [.int x] := by
  obtain ⟨c, s, hc, hr, hm⟩ := hI
  have hw := hr.rw
  have h6 := hw.1
  have h8 := hw.2.1
  obtain ⟨u, hu⟩ := hc.pO
  by_cases e0 : x = 0
  · subst e0
    exact st_bookV (V := 0) (by decide) hc hr hm (cb_book0 hc.o hc.pT hc.pK hc.pQ hu ⟨_, hc.pD⟩ hc.pW hw hc.pP hr.rf hr.rn)
  · by_cases e1 : x = 1
    · subst e1
      exact st_bookV (V := 1) (by decide) hc hr hm (cb_book1 hc.o hc.pT hc.pK hc.pQ hu ⟨_, hc.pD⟩ hc.pW hw hc.pP hr.rf hr.rn)
    · refine cpl_q hc hr hm (by decide) (by decide) (cb_book_no hc.o e0 e1) (fun _ => cm_book_no (fun z => ?_))
      have a1 : ¬ x.toInt < 0 := fun q => z.1 (Int32.lt_iff_toInt_lt.mpr q)
      have a2 : ¬ 1 < x.toInt := fun q => z.2 (Int32.lt_iff_toInt_lt.mpr q)
      rcases (by omega : x.toInt = 0 ∨ x.toInt = 1) with q | q
      · exact e0 (Int32.toInt_inj.mp q)
      · exact e1 (Int32.toInt_inj.mp q)
end St6

