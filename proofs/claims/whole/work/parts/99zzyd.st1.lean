/-! ===== the cases: questions ===== -/
section St1
variable {G : Gt} {h : Hp} {B : Nat}
theorem st_have {x y : Int32} (hI : Inv G h B) : Cpl G h B 0 0 mX12_have mX13_have [.int x, .int y] := by
  obtain ⟨c, s, hc, hr, hm⟩ := hI
  have hw := hr.rw
  have h6 := hw.1
  have h8 := hw.2.1
  by_cases hv : vI (wPe c.2.2.1) x ∧ vI (wTh c.2.2.1) y
  · obtain ⟨p, hp, rfl⟩ := vI_of (by omega) hv.1
    obtain ⟨t, ht, rfl⟩ := vI_of (by omega) hv.2
    exact cpl_q hc hr hm (by decide) (by decide) (cb_have hc.o hc.pW hw hp ht) (fun _ => cm_have hr.rv hw hp ht)
  · exact cpl_q hc hr hm (by decide) (by decide) (cb_have_no hc.o hc.pW hv) (fun _ => cm_have_no hr.rv hw hv)
theorem st_asks {x y : Int32} (hI : Inv G h B) : Cpl G h B 0 0 mX12_asks mX13_asks [.int x, .int y] := by
  obtain ⟨c, s, hc, hr, hm⟩ := hI
  have hw := hr.rw
  have h6 := hw.1
  have h8 := hw.2.1
  by_cases hv : vI 2 x ∧ vI (wTh c.2.2.1) y
  · obtain ⟨p, hp, rfl⟩ := vI_of (by omega) hv.1
    obtain ⟨t, ht, rfl⟩ := vI_of (by omega) hv.2
    exact cpl_q hc hr hm (by decide) (by decide) (cb_asks hc.o hc.pW hw hp ht) (fun _ => cm_asks hr.rv hw hp ht)
  · exact cpl_q hc hr hm (by decide) (by decide) (cb_asks_no hc.o hc.pW hv) (fun _ => cm_asks_no hr.rv hw hv)
theorem st_lacks {x y : Int32} (hI : Inv G h B) : Cpl G h B 0 0 mX12_lacks mX13_lacks [.int x, .int y] := by
  obtain ⟨c, s, hc, hr, hm⟩ := hI
  have hw := hr.rw
  have h6 := hw.1
  have h8 := hw.2.1
  by_cases hv : vI (wPe c.2.2.1) x ∧ vI 2 y
  · obtain ⟨p, hp, rfl⟩ := vI_of (by omega) hv.1
    obtain ⟨t, ht, rfl⟩ := vI_of (by omega) hv.2
    exact cpl_q hc hr hm (by decide) (by decide) (cb_lacks hc.o hc.pW hw hp ht) (fun _ => cm_lacks hr.rv hw hp ht)
  · exact cpl_q hc hr hm (by decide) (by decide) (cb_lacks_no hc.o hc.pW hv) (fun _ => cm_lacks_no hr.rv hw hv)
theorem st_sham {x : Int32} (hI : Inv G h B) : Cpl G h B 0 0 mX12_sham mX13_sham [.int x] := by
  obtain ⟨c, s, hc, hr, hm⟩ := hI
  have hw := hr.rw
  have h6 := hw.1
  have h8 := hw.2.1
  by_cases hv : vI (wPe c.2.2.1) x
  · obtain ⟨p, hp, rfl⟩ := vI_of (by omega) hv
    exact cpl_q hc hr hm (by decide) (by decide) (cb_sham hc.o hc.pW hw hp) (fun _ => cm_sham hr.rv hw hp)
  · exact cpl_q hc hr hm (by decide) (by decide) (cb_sham_no hc.o hc.pW hv) (fun _ => cm_sham_no hr.rv hw hv)
theorem st_eased {x : Int32} (hI : Inv G h B) : Cpl G h B 0 0 mX12_eased mX13_eased [.int x] := by
  obtain ⟨c, s, hc, hr, hm⟩ := hI
  have hw := hr.rw
  have h6 := hw.1
  have h8 := hw.2.1
  by_cases hv : vI 2 x
  · obtain ⟨p, hp, rfl⟩ := vI_of (by omega) hv
    exact cpl_q hc hr hm (by decide) (by decide) (cb_eased hc.o hc.pW hw hp) (fun _ => cm_eased hr.rv hw hp)
  · exact cpl_q hc hr hm (by decide) (by decide) (cb_eased_no hc.o hc.pW hv) (fun _ => cm_eased_no hv)
theorem st_thing {x y : Int32} (hI : Inv G h B) : Cpl G h B 0 0 mX12_thing mX13_thing [.int x, .int y] := by
  obtain ⟨c, s, hc, hr, hm⟩ := hI
  have hw := hr.rw
  have h6 := hw.1
  have h8 := hw.2.1
  by_cases hv : vI (wTh c.2.2.1) x
  · obtain ⟨p, hp, rfl⟩ := vI_of (by omega) hv
    exact cpl_q hc hr hm (by decide) (by decide) (cb_thing hc.o hc.pW hw hp) (fun _ => cm_thing hr.rv hw hp)
  · exact cpl_q hc hr hm (by decide) (by decide) (cb_thing_no hc.o hc.pW hv) (fun _ => cm_thing_no hr.rv hw hv)
theorem st_now {x : Int32} (hI : Inv G h B) : Cpl G h B 0 0 mX12_now mX13_now [.int x] := by
  obtain ⟨c, s, hc, hr, hm⟩ := hI
  have hw := hr.rw
  have h6 := hw.1
  have h8 := hw.2.1
  exact cpl_q hc hr hm (by decide) (by decide) (cb_now hc.o hc.pW hw) (fun _ => cm_now hr.rv hw)
theorem st_count {x : Int32} (hI : Inv G h B) : Cpl G h B 0 0 mX12_count mX13_count [.int x] := by
  obtain ⟨c, s, hc, hr, hm⟩ := hI
  have hw := hr.rw
  have h6 := hw.1
  have h8 := hw.2.1
  exact cpl_q (d2 := 1) hc hr hm (by decide) (by decide) (cb_count hc.o hc.pW hc.pT) (fun _ => by rw [← hr.r2]; exact cm_count hr.rv)
theorem st_fault (hI : Inv G h B) : Cpl G h B 0 0 mX12_fault mX13_fault [] := by
  obtain ⟨c, s, hc, hr, hm⟩ := hI
  have hw := hr.rw
  have h6 := hw.1
  have h8 := hw.2.1
  exact cpl_q (d2 := 1) hc hr hm (by decide) (by decide) (cb_fault hc.o) (fun _ => by rw [← hr.r10]; exact cm_fault)
theorem st_taught (hI : Inv G h B) : Cpl G h B 0 0 mX12_taught mX13_taught [] := by
  obtain ⟨c, s, hc, hr, hm⟩ := hI
  have hw := hr.rw
  have h6 := hw.1
  have h8 := hw.2.1
  obtain ⟨l, K, pr, pd, hs⟩ := hc.pY
  exact cpl_q (d2 := 1) hc hr hm (by decide) (by decide) (cb_taught hc.o hs.1) (fun _ => by rw [← hr.r27]; exact cm_taught)
theorem st_crowd (hI : Inv G h B) : Cpl G h B 0 0 mX12_crowd mX13_crowd [] := by
  obtain ⟨c, s, hc, hr, hm⟩ := hI
  have hw := hr.rw
  have h6 := hw.1
  have h8 := hw.2.1
  obtain ⟨l, K, pr, pd, hs⟩ := hc.pY
  exact cpl_q (d2 := 1) hc hr hm (by decide) (by decide) (cb_crowd hc.o hs.1) (fun _ => by rw [← hr.r36]; exact cm_crowd)
theorem st_smallest (hI : Inv G h B) : Cpl G h B 0 0 mX12_smallest mX13_smallest [] := by
  obtain ⟨c, s, hc, hr, hm⟩ := hI
  have hw := hr.rw
  have h6 := hw.1
  have h8 := hw.2.1
  obtain ⟨f0, f1, hl⟩ := hc.pL
  exact cpl_q (d2 := 1) hc hr hm (by decide) (by decide) (cb_smallest hc.o hl) (fun _ => by rw [← hr.r34]; exact cm_smallest)
theorem st_offer (hI : Inv G h B) : Cpl G h B 0 0 mX12_offer mX13_offer [] := by
  obtain ⟨c, s, hc, hr, hm⟩ := hI
  have hw := hr.rw
  have h6 := hw.1
  have h8 := hw.2.1
  obtain ⟨f0, f1, hl⟩ := hc.pL
  exact cpl_q (d2 := 1) hc hr hm (by decide) (by decide) (cb_offer hc.o hl) (fun _ => by rw [← hr.r35]; exact cm_offer)
theorem st_told {x : Int32} (hI : Inv G h B) : Cpl G h B 0 0 mX12_told mX13_told [.int x] := by
  obtain ⟨c, s, hc, hr, hm⟩ := hI
  have hw := hr.rw
  have h6 := hw.1
  have h8 := hw.2.1
  obtain ⟨n, wf, pf, hb, -⟩ := hc.pQ
  have k1 := cb_told (G := G) (x := x) hc.o hb hc.pD
  by_cases hv : vI 4 x
  · obtain ⟨i, hi, rfl⟩ := vI_of (by omega) hv
    rw [if_pos hv, nI_clamp (by omega)] at k1
    rcases hr.rt with ⟨e0, e1⟩ | ⟨e0, e1⟩
    · rw [e1 i hi] at k1
      exact cpl_q hc hr hm (by decide) (by decide) k1 (fun _ => cm_told_no (Or.inl e0))
    · rw [e1 i hi] at k1
      exact cpl_q hc hr hm (by decide) (by decide) k1 (fun _ => cm_told e0 hi)
  · rw [if_neg hv] at k1
    exact cpl_q hc hr hm (by decide) (by decide) k1 (fun _ => cm_told_no (Or.inr hv))
theorem st_schooled {x : Int32} (hI : Inv G h B) : Cpl G h B 0 0 mX12_schooled mX13_schooled [.int x] := by
  obtain ⟨c, s, hc, hr, hm⟩ := hI
  have hw := hr.rw
  have h6 := hw.1
  have h8 := hw.2.1
  obtain ⟨l, K, pr, pd, hs⟩ := hc.pY
  have k1 := cb_schooled (G := G) (x := x) hc.o hs
  obtain ⟨k, hk, e31, hk2⟩ := hr.rc
  by_cases hv : vI 8 x
  · obtain ⟨i, hi, rfl⟩ := vI_of (by omega) hv
    rw [if_pos hv, nI_clamp (by omega)] at k1
    dsimp only at k1
    rcases hk2 with ⟨e0, e1⟩ | ⟨e0, e1, e2⟩
    · rw [e1 i hi] at k1
      exact cpl_q hc hr hm (by decide) (by decide) k1 (fun _ => cm_schooled_no e31 hk (Or.inl e0))
    · by_cases hik : i < k
      · rw [e1 i hik] at k1
        exact cpl_q hc hr hm (by decide) (by decide) k1 (fun _ => cm_schooled e0 e31 hk hik)
      · rw [e2 i (by omega) hi] at k1
        exact cpl_q hc hr hm (by decide) (by decide) k1 (fun _ => cm_schooled_no e31 hk (Or.inr (fun z => by
          obtain ⟨j, hj, ej⟩ := vI_of (by omega) z
          have := (nI_eq (by omega) (by omega)).mp ej
          omega)))
  · rw [if_neg hv] at k1
    exact cpl_q hc hr hm (by decide) (by decide) k1 (fun _ => cm_schooled_no e31 hk (Or.inr (fun z => hv (by
      obtain ⟨j, hj, rfl⟩ := vI_of (by omega) z
      exact vI_nI (by omega) (by omega)))))
theorem st_byteAt {x : Int32} (hI : Inv G h B) : Cpl G h B 0 0 mX12_byteAt mX13_byteAt [.int x] := by
  obtain ⟨c, s, hc, hr, hm⟩ := hI
  have hw := hr.rw
  have h6 := hw.1
  have h8 := hw.2.1
  have hq := hr.rq
  have k1 := ct_byteAt (G := G) (x := x) hc.pB hq
  by_cases hv : vI c.2.2.2.2.2.2.1.length x
  · obtain ⟨i, hi, rfl⟩ := vI_of (by omega) hv
    rw [if_pos hv, nI_clamp (by omega), ← hr.r17 i hi] at k1
    exact cpl_q hc hr hm (by decide) (by decide) k1 (fun _ => cm_byteAt hr.r38 (by omega) hi)
  · rw [if_neg hv] at k1
    exact cpl_q hc hr hm (by decide) (by decide) k1 (fun _ => cm_byteAt_no hr.r38 (by omega) hv)
theorem st_said {x : Int32} (hI : Inv G h B) : Cpl G h B 0 0 mX12_said mX13_said [.int x] := by
  obtain ⟨c, s, hc, hr, hm⟩ := hI
  have hw := hr.rw
  have h6 := hw.1
  have h8 := hw.2.1
  rcases hr.rs with ⟨e0, e1⟩ | ⟨e0, e1, e2, e3⟩
  · have hs := hc.pS
    rw [e0] at hs
    exact cpl_q hc hr hm (by decide) (by decide) (ct_said_no hc.o hs) (fun _ => cm_said_no e1)
  · refine cpl_mk hm (by decide) (ct_said hc.o hc.pS e0 hc.pW hw) (fun v h1 hq => ?_)
    obtain ⟨rfl, x1, f1, fr⟩ := hq
    exact ⟨_, c, 47, _, rfl, by decide, hc.said x1 f1 fr, fun q a b => fr q (by omega), cm_said hr.rv hw e0 e1 e2 e3, fun v2 h2 hq => ⟨hq.1, _, hq.2, hr.f0⟩⟩
end St1

