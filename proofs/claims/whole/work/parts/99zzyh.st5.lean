/-! ===== the cases: images ===== -/
theorem NmR.congr {c : Nat → Nat → Int64} {g g' : Nat → Int64} {th pe : Nat} (h : NmR c g th pe) (h6 : th ≤ 6) (h8 : pe ≤ 8) (e : ∀ j, j < 14 → g' j = g j) : NmR c g' th pe := by
  refine ⟨fun t ht => ?_, fun p hp => ?_⟩
  · obtain ⟨R, a1, a2, a3⟩ := h.1 t ht
    exact ⟨R, a1, a2, (e _ (by omega)).trans a3⟩
  · obtain ⟨R, a1, a2, a3⟩ := h.2 p hp
    exact ⟨R, a1, a2, (e _ (by omega)).trans a3⟩
theorem cpF_in {b k n : Nat} {f g : Nat → Int32} {j : Nat} (h : j < n) : cpF b k f g n (b + j) = f (k + j) := by
  unfold cpF
  rw [if_pos (by omega)]
  congr 1
  omega
theorem cpF_out {b k n : Nat} {f g : Nat → Int32} {j : Nat} (h : j < b ∨ b + n ≤ j) : cpF b k f g n j = g j := by
  unfold cpF
  rw [if_neg (by omega)]
theorem cpL_in {b k n : Nat} {f g : Nat → Int64} {j : Nat} (h : j < n) : cpL b k f g n (b + j) = f (k + j) := by
  unfold cpL
  rw [if_pos (by omega)]
  congr 1
  omega
theorem cpL_out {b k n : Nat} {f g : Nat → Int64} {j : Nat} (h : j < b ∨ b + n ≤ j) : cpL b k f g n j = g j := by
  unfold cpL
  rw [if_neg (by omega)]
def imU (c : Cs) (k : Nat) : Nat → Wd × Nat × List It := fun j => if j = k then (c.2.2.1, c.2.2.2.2.1, c.2.2.2.2.2.1) else c.2.2.2.2.2.2.2.2.2.2.2.2.2.2.2.2 j
theorem imU_k {c : Cs} {k : Nat} : imU c k k = (c.2.2.1, c.2.2.2.2.1, c.2.2.2.2.2.1) := if_pos rfl
theorem imU_n {c : Cs} {k j : Nat} (h : j ≠ k) : imU c k j = c.2.2.2.2.2.2.2.2.2.2.2.2.2.2.2.2 j := if_neg h
section St5
variable {G : Gt} {h h' : Hp} {B : Nat} {c : Cs} {s : Ms}
theorem RC.im {k : Nat} {fI fS : Nat → Option Nat} (hr : RC c s) (hk : k < 2) (e1 : ∃ N, fI k = some N) (e2 : ∀ j, j < 2 → j ≠ k → fI j = c.2.2.2.2.2.2.2.2.2.2.2.2.2.2.1 j) : RC (c.1, c.2.1, c.2.2.1, c.2.2.2.1, c.2.2.2.2.1, c.2.2.2.2.2.1, c.2.2.2.2.2.2.1, c.2.2.2.2.2.2.2.1, c.2.2.2.2.2.2.2.2.1, c.2.2.2.2.2.2.2.2.2.1, c.2.2.2.2.2.2.2.2.2.2.1, c.2.2.2.2.2.2.2.2.2.2.2.1, c.2.2.2.2.2.2.2.2.2.2.2.2.1, c.2.2.2.2.2.2.2.2.2.2.2.2.2.1, fI, fS, imU c k) (imM s k) := by
  have hw := hr.rw
  exact ⟨hr.rn, hr.rf, hr.r1, hr.r2, hr.rw, hr.rv, hr.rm, hr.rs, hr.rl, hr.rp, hr.rq, hr.r38, hr.r17, hr.r10, hr.r27, hr.r36, hr.r34, hr.r35, hr.rt, hr.rc, fun j hj => by
    by_cases e : j = k
    · subst e
      refine Or.inr ⟨e1, ?_, ?_⟩
      · show ¬ upd (mA s 11) j 1 j = 0
        unfold upd
        rw [if_pos rfl]
        decide
      · show WOK (imU c j j).1 ∧ NWv (imU c j j).1 (fun i => cpF (433 * j) 0 (mA s 2) (mA s 4) 433 (433 * j + i)) ∧ NmR (wN (imU c j j).1) (fun i => cpL (14 * j) 0 (mN s 8) (mN s 10) 14 (14 * j + i)) (wTh (imU c j j).1) (wPe (imU c j j).1) ∧ NoN (imU c j j).2.1 (imU c j j).2.2 (fun i => cpF (433 * j) 0 (mA s 2) (mA s 4) 433 (433 * j + i))
        rw [imU_k]
        exact ⟨hw, hr.rv.congr hw.1 hw.2.1 (fun i hi => (cpF_in (by omega)).trans (by rw [Nat.zero_add])), hr.rm.congr hw.1 hw.2.1 (fun i hi => (cpL_in hi).trans (by rw [Nat.zero_add])), hr.rs.congr (fun i a b => (cpF_in b).trans (by rw [Nat.zero_add]))⟩
    · have ho : ∀ i, i < 433 → cpF (433 * k) 0 (mA s 2) (mA s 4) 433 (433 * j + i) = mA s 4 (433 * j + i) := fun i hi => cpF_out (by omega)
      have hl : ∀ i, i < 14 → cpL (14 * k) 0 (mN s 8) (mN s 10) 14 (14 * j + i) = mN s 10 (14 * j + i) := fun i hi => cpL_out (by omega)
      have hu : upd (mA s 11) k 1 j = mA s 11 j := by unfold upd; rw [if_neg e]
      show (fI j = none ∧ upd (mA s 11) k 1 j = 0) ∨ ((∃ N, fI j = some N) ∧ ¬ upd (mA s 11) k 1 j = 0 ∧ WOK (imU c k j).1 ∧ NWv (imU c k j).1 (fun i => cpF (433 * k) 0 (mA s 2) (mA s 4) 433 (433 * j + i)) ∧ NmR (wN (imU c k j).1) (fun i => cpL (14 * k) 0 (mN s 8) (mN s 10) 14 (14 * j + i)) (wTh (imU c k j).1) (wPe (imU c k j).1) ∧ NoN (imU c k j).2.1 (imU c k j).2.2 (fun i => cpF (433 * k) 0 (mA s 2) (mA s 4) 433 (433 * j + i)))
      rw [e2 j hj e, hu, imU_n e]
      exact (hr.ri j hj).imp id (fun ⟨a1, a2, a3, a4, a5, a6⟩ => ⟨a1, a2, a3, a4.congr a3.1 a3.2.1 (fun i hi => ho i (by omega)), a5.congr a3.1 a3.2.1 hl, a6.congr (fun i _ b => ho i b)⟩)⟩
theorem HC.imo (hc : HC G h B c) {k N : Nat} (hk : k < 2) (e1 : c.2.2.2.2.2.2.2.2.2.2.2.2.2.2.1 k = some N) (e2 : c.2.2.2.2.2.2.2.2.2.2.2.2.2.2.2.1 k = some (N + 12)) (y1 : HasW h' N c.2.2.1) (y2 : HasSe G h' (N + 12) c.2.2.2.2.1 c.2.2.2.2.2.1) (hb : B + 261 < N) (hN : N + 17 ≤ h.1) (f1 : h'.1 = h.1) (fr : ∀ q : Nat, ((q < N ∨ N + 11 < q) ∧ (q < N + 12 ∨ N + 12 + 4 < q)) → h'.2 q = h.2 q) : HC G h' B (c.1, c.2.1, c.2.2.1, c.2.2.2.1, c.2.2.2.2.1, c.2.2.2.2.2.1, c.2.2.2.2.2.2.1, c.2.2.2.2.2.2.2.1, c.2.2.2.2.2.2.2.2.1, c.2.2.2.2.2.2.2.2.2.1, c.2.2.2.2.2.2.2.2.2.2.1, c.2.2.2.2.2.2.2.2.2.2.2.1, c.2.2.2.2.2.2.2.2.2.2.2.2.1, c.2.2.2.2.2.2.2.2.2.2.2.2.2.1, c.2.2.2.2.2.2.2.2.2.2.2.2.2.2.1, c.2.2.2.2.2.2.2.2.2.2.2.2.2.2.2.1, imU c k) := by
  have hH := hc.pH
  exact ⟨hc.pB.on (fun q a b => fr q (by omega)) (fun q a b => fr q (by omega)),
    hc.pT.on (fun q a b => fr q (by omega)),
    hc.pK.on (fun q a b => fr q (by omega)),
    (fr _ (by omega)).trans hc.pR,
    (let ⟨u, hu⟩ := hc.pU; ⟨u, hu.on (fun q a b => fr q (by omega))⟩),
    hc.pQ.on (fun q a b => fr q (by omega)),
    (let ⟨u, hu⟩ := hc.pO; ⟨u, hu.on (fun q a b => fr q (by omega))⟩),
    (fr _ (by omega)).trans hc.pD,
    hc.pW.on (fun q a b => fr q (by omega)),
    hc.pP.on (fun q a b => fr q (by omega)),
    hc.pS.on (fun q a b => fr q (by omega)),
    hc.pZ.on (fun q a b => fr q (by omega)),
    (fr _ (by omega)).trans hc.pI,
    (fr _ (by omega)).trans hc.pJ,
    (let ⟨u, hu⟩ := hc.pX; ⟨u, hu.on (fun q a b => fr q (by omega))⟩),
    (let ⟨u1, u2, u3, u4, hu⟩ := hc.pY; ⟨u1, u2, u3, u4, hu.ont (fun q a => fr q (by omega))⟩),
    (let ⟨u, hu⟩ := hc.pV; ⟨u, hu.on (fun q a b => fr q (by omega))⟩),
    (let ⟨u1, u2, hu⟩ := hc.pL; ⟨u1, u2, hu.on (fun q a b => fr q (by omega))⟩),
    (let ⟨u, hu⟩ := hc.pG; ⟨u, (fr _ (by omega)).trans hu⟩),
    fun j hj => by
      by_cases e : j = k
      · subst e
        refine Or.inr ⟨N, e1, e2, ?_, ?_, hb, by rw [f1]; exact hN⟩
        · show HasW h' N (imU c j j).1; rw [imU_k]; exact y1
        · show HasSe G h' (N + 12) (imU c j j).2.1 (imU c j j).2.2; rw [imU_k]; exact y2
      · refine (hc.pM j hj).imp id (fun ⟨M, a1, a2, a3, a4, a5, a6⟩ => ?_)
        have hd : N + 17 ≤ M ∨ M + 17 ≤ N := by
          rcases (by omega : (k = 0 ∧ j = 1) ∨ (k = 1 ∧ j = 0)) with ⟨rfl, rfl⟩ | ⟨rfl, rfl⟩
          · exact hc.pN _ _ e1 a1
          · exact (hc.pN _ _ a1 e1).symm
        refine ⟨M, a1, a2, ?_, ?_, a5, by rw [f1]; exact a6⟩
        · show HasW h' M (imU c k j).1; rw [imU_n e]; exact a3.on (fun q a b => fr q (by omega))
        · show HasSe G h' (M + 12) (imU c k j).2.1 (imU c k j).2.2; rw [imU_n e]; exact a4.on (fun q a b => fr q (by omega)),
    hc.pN,
    by rw [f1]; exact hc.pH⟩
theorem HC.imn (hc : HC G h B c) {k : Nat} (hk : k < 2) (e1 : c.2.2.2.2.2.2.2.2.2.2.2.2.2.2.1 k = none) (y1 : HasW h' h.1 c.2.2.1) (y2 : HasSe G h' (h.1 + 12) c.2.2.2.2.1 c.2.2.2.2.2.1) (y3 : h'.2 (B + 209) = some (.inr (.inr (.inr (1, 2, va_up c.2.2.2.2.2.2.2.2.2.2.2.2.2.2.1 k (some h.1)))))) (y4 : h'.2 (B + 210) = some (.inr (.inr (.inr (2, 2, va_up c.2.2.2.2.2.2.2.2.2.2.2.2.2.2.2.1 k (some (h.1 + 12))))))) (f1 : h'.1 = h.1 + 17) (fr : ∀ q : Nat, (q < h.1 ∧ q ≠ B + 209 ∧ q ≠ B + 210) → h'.2 q = h.2 q) : HC G h' B (c.1, c.2.1, c.2.2.1, c.2.2.2.1, c.2.2.2.2.1, c.2.2.2.2.2.1, c.2.2.2.2.2.2.1, c.2.2.2.2.2.2.2.1, c.2.2.2.2.2.2.2.2.1, c.2.2.2.2.2.2.2.2.2.1, c.2.2.2.2.2.2.2.2.2.2.1, c.2.2.2.2.2.2.2.2.2.2.2.1, c.2.2.2.2.2.2.2.2.2.2.2.2.1, c.2.2.2.2.2.2.2.2.2.2.2.2.2.1, va_up c.2.2.2.2.2.2.2.2.2.2.2.2.2.2.1 k (some h.1), va_up c.2.2.2.2.2.2.2.2.2.2.2.2.2.2.2.1 k (some (h.1 + 12)), imU c k) := by
  have hH := hc.pH
  exact ⟨hc.pB.on (fun q a b => fr q (by omega)) (fun q a b => fr q (by omega)),
    hc.pT.on (fun q a b => fr q (by omega)),
    hc.pK.on (fun q a b => fr q (by omega)),
    (fr _ (by omega)).trans hc.pR,
    (let ⟨u, hu⟩ := hc.pU; ⟨u, hu.on (fun q a b => fr q (by omega))⟩),
    hc.pQ.on (fun q a b => fr q (by omega)),
    (let ⟨u, hu⟩ := hc.pO; ⟨u, hu.on (fun q a b => fr q (by omega))⟩),
    (fr _ (by omega)).trans hc.pD,
    hc.pW.on (fun q a b => fr q (by omega)),
    hc.pP.on (fun q a b => fr q (by omega)),
    hc.pS.on (fun q a b => fr q (by omega)),
    hc.pZ.on (fun q a b => fr q (by omega)),
    y3,
    y4,
    (let ⟨u, hu⟩ := hc.pX; ⟨u, hu.on (fun q a b => fr q (by omega))⟩),
    (let ⟨u1, u2, u3, u4, hu⟩ := hc.pY; ⟨u1, u2, u3, u4, hu.ont (fun q a => fr q (by omega))⟩),
    (let ⟨u, hu⟩ := hc.pV; ⟨u, hu.on (fun q a b => fr q (by omega))⟩),
    (let ⟨u1, u2, hu⟩ := hc.pL; ⟨u1, u2, hu.on (fun q a b => fr q (by omega))⟩),
    (let ⟨u, hu⟩ := hc.pG; ⟨u, (fr _ (by omega)).trans hu⟩),
    fun j hj => by
      by_cases e : j = k
      · subst e
        refine Or.inr ⟨h.1, if_pos rfl, if_pos rfl, ?_, ?_, by omega, by omega⟩
        · show HasW h' h.1 (imU c j j).1; rw [imU_k]; exact y1
        · show HasSe G h' (h.1 + 12) (imU c j j).2.1 (imU c j j).2.2; rw [imU_k]; exact y2
      · refine (hc.pM j hj).imp (fun z => (if_neg e).trans z) (fun ⟨M, a1, a2, a3, a4, a5, a6⟩ => ?_)
        refine ⟨M, (if_neg e).trans a1, (if_neg e).trans a2, ?_, ?_, a5, by omega⟩
        · show HasW h' M (imU c k j).1; rw [imU_n e]; exact a3.on (fun q a b => fr q (by omega))
        · show HasSe G h' (M + 12) (imU c k j).2.1 (imU c k j).2.2; rw [imU_n e]; exact a4.on (fun q a b => fr q (by omega)),
    fun N N' a b => by
      have lt : ∀ j M, j < 2 → c.2.2.2.2.2.2.2.2.2.2.2.2.2.2.1 j = some M → M + 17 ≤ h.1 := fun j M hj z => by
        rcases hc.pM j hj with q | ⟨M', q, -, -, -, -, q6⟩
        · rw [q] at z; cases z
        · rw [q] at z; cases z; exact q6
      have a : (if 0 = k then some h.1 else c.2.2.2.2.2.2.2.2.2.2.2.2.2.2.1 0) = some N := a
      have b : (if 1 = k then some h.1 else c.2.2.2.2.2.2.2.2.2.2.2.2.2.2.1 1) = some N' := b
      rcases (by omega : k = 0 ∨ k = 1) with rfl | rfl
      · rw [if_pos rfl] at a; rw [if_neg (by decide)] at b; cases a
        exact Or.inr (lt 1 _ (by decide) b)
      · rw [if_neg (by decide)] at a; rw [if_pos rfl] at b; cases b
        exact Or.inl (lt 0 _ (by decide) a),
    by omega⟩
theorem st_restore {x : Int32} (hI : Inv G h B) : Cpl G h B 0 0 mX12_restore mX13_restore [.int x] := by
  obtain ⟨c, s, hc, hr, hm⟩ := hI
  have hw := hr.rw
  have h6 := hw.1
  have h8 := hw.2.1
  have hH := hc.pH
  by_cases hv : vI 2 x
  · obtain ⟨k, hk, rfl⟩ := vI_of (by omega) hv
    rcases hc.pM k hk with e1 | ⟨N, e1, e2, a3, a4, a5, a6⟩
    · refine cpl_q hc hr hm (by decide) (by decide) (cb_restore_nn hc.o hc.pI hk e1) (fun _ => cm_restore_no (fun j hj ej => ?_))
      have := (nI_eq (by omega) (by omega)).mp ej
      subst this
      rcases hr.ri k hk with ⟨-, z⟩ | ⟨⟨N, z⟩, -⟩
      · exact z
      · rw [e1] at z; cases z
    · rcases hr.ri k hk with ⟨z, -⟩ | ⟨-, z, b1, b2, b3, b4⟩
      · rw [e1] at z; cases z
      · refine cpl_mk hm (by decide) (cb_restore hc.o hc.pI hc.pJ hk e1 e2 a3 a4 (by omega) (by omega) hc.pW hc.pP hc.pS.s0) (fun v h1 hq => ?_)
        obtain ⟨rfl, y1, y2, y3, f1, fr⟩ := hq
        refine ⟨_, (c.1, c.2.1, (c.2.2.2.2.2.2.2.2.2.2.2.2.2.2.2.2 k).1, [], (c.2.2.2.2.2.2.2.2.2.2.2.2.2.2.2.2 k).2.1, (c.2.2.2.2.2.2.2.2.2.2.2.2.2.2.2.2 k).2.2, c.2.2.2.2.2.2.1, c.2.2.2.2.2.2.2.1, c.2.2.2.2.2.2.2.2.1, c.2.2.2.2.2.2.2.2.2.1, c.2.2.2.2.2.2.2.2.2.2.1, c.2.2.2.2.2.2.2.2.2.2.2.1, c.2.2.2.2.2.2.2.2.2.2.2.2.1, c.2.2.2.2.2.2.2.2.2.2.2.2.2.1, c.2.2.2.2.2.2.2.2.2.2.2.2.2.2.1, c.2.2.2.2.2.2.2.2.2.2.2.2.2.2.2.1, c.2.2.2.2.2.2.2.2.2.2.2.2.2.2.2.2), 2, _, rfl, by decide, hc.rest y1 y2 y3 f1 fr, fun q a b => fr q (by omega), cm_restore hk z, fun v2 h2 hq => ⟨hq.1, _, hq.2, ?_⟩⟩
        have ec : ∀ i, i < 433 → cpF 0 (433 * k) (mA s 4) (mA s 2) 433 i = mA s 4 (433 * k + i) := fun i hi => by
          have := cpF_in (b := 0) (k := 433 * k) (f := mA s 4) (g := mA s 2) hi
          rwa [Nat.zero_add] at this
        have el : ∀ i, i < 14 → cpL 0 (14 * k) (mN s 10) (mN s 8) 14 i = mN s 10 (14 * k + i) := fun i hi => by
          have := cpL_in (b := 0) (k := 14 * k) (f := mN s 10) (g := mN s 8) hi
          rwa [Nat.zero_add] at this
        exact ⟨hr.rn, hr.rf, hr.r1, hr.r2, b1, b2.congr b1.1 b1.2.1 (fun i hi => ec i (by omega)), b3.congr b1.1 b1.2.1 el, b4.congr (fun i _ b => ec i b), rfl, PastR.nil, hr.rq, hr.r38, hr.r17, hr.r10, hr.r27, hr.r36, hr.r34, hr.r35, hr.rt, hr.rc, hr.ri⟩
  · exact cpl_q hc hr hm (by decide) (by decide) (cb_restore_no hc.o hv) (fun _ => cm_restore_no (fun k hk e => by subst e; exact absurd (vI_nI hk (by decide)) hv))
theorem st_image {x : Int32} (hI : Inv G h B) : Cpl G h B 17 307 mX12_image mX13_image [.int x] := by
  obtain ⟨c, s, hc, hr, hm⟩ := hI
  have hw := hr.rw
  have h6 := hw.1
  have h8 := hw.2.1
  have hH := hc.pH
  by_cases hv : vI 2 x
  · obtain ⟨k, hk, rfl⟩ := vI_of (by omega) hv
    rcases hc.pM k hk with e1 | ⟨N, e1, e2, a3, a4, a5, a6⟩
    · refine cpl_mk hm (by decide) (cb_image_new rfl (by omega) hc.o hc.pI hc.pJ hk e1 hc.pW hc.pS) (fun v h1 hq => ?_)
      obtain ⟨rfl, y1, y2, y3, y4, f1, fr⟩ := hq
      refine ⟨_, (c.1, c.2.1, c.2.2.1, c.2.2.2.1, c.2.2.2.2.1, c.2.2.2.2.2.1, c.2.2.2.2.2.2.1, c.2.2.2.2.2.2.2.1, c.2.2.2.2.2.2.2.2.1, c.2.2.2.2.2.2.2.2.2.1, c.2.2.2.2.2.2.2.2.2.2.1, c.2.2.2.2.2.2.2.2.2.2.2.1, c.2.2.2.2.2.2.2.2.2.2.2.2.1, c.2.2.2.2.2.2.2.2.2.2.2.2.2.1, va_up c.2.2.2.2.2.2.2.2.2.2.2.2.2.2.1 k (some h.1), va_up c.2.2.2.2.2.2.2.2.2.2.2.2.2.2.2.1 k (some (h.1 + 12)), imU c k), 2, _, rfl, by decide, hc.imn hk e1 y1 y2 y3 y4 f1 (fun q a => fr q a.1 a.2.1 a.2.2), fun q a b => fr q (by omega) (by omega) (by omega), cm_image hk, fun v2 h2 hq => ⟨hq.1, _, hq.2, hr.im hk ⟨_, if_pos rfl⟩ (fun j _ e => if_neg e)⟩⟩
    · refine cpl_mk hm (by decide) (cb_image hc.o hc.pI hc.pJ hk e1 e2 a3 a4.s0 (by omega) (by omega) (by omega) hc.pW hc.pS) (fun v h1 hq => ?_)
      obtain ⟨rfl, y1, y2, f1, fr⟩ := hq
      exact ⟨_, (c.1, c.2.1, c.2.2.1, c.2.2.2.1, c.2.2.2.2.1, c.2.2.2.2.2.1, c.2.2.2.2.2.2.1, c.2.2.2.2.2.2.2.1, c.2.2.2.2.2.2.2.2.1, c.2.2.2.2.2.2.2.2.2.1, c.2.2.2.2.2.2.2.2.2.2.1, c.2.2.2.2.2.2.2.2.2.2.2.1, c.2.2.2.2.2.2.2.2.2.2.2.2.1, c.2.2.2.2.2.2.2.2.2.2.2.2.2.1, c.2.2.2.2.2.2.2.2.2.2.2.2.2.2.1, c.2.2.2.2.2.2.2.2.2.2.2.2.2.2.2.1, imU c k), 2, _, rfl, by decide, hc.imo hk e1 e2 y1 y2 a5 a6 f1 (fun q a => fr q a.1 a.2), fun q a b => fr q (by omega) (by omega), cm_image hk, fun v2 h2 hq => ⟨hq.1, _, hq.2, hr.im hk ⟨N, e1⟩ (fun j _ e => rfl)⟩⟩
  · exact cpl_q hc hr hm (by decide) (by decide) (cb_image_no hc.o (fun z => hv ⟨z.1, fun q => Int32.lt_irrefl (Int32.lt_of_lt_of_le z.2 q)⟩)) (fun _ => cm_image_no hv)
end St5

