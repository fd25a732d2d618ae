/-! ===== parts of the heap that are let alone ===== -/
section On
variable {G : Gt} {h h' : Hp} {a b : Nat}
def An (lo hi : Nat) (h h' : Hp) : Prop := ∀ q : Nat, lo ≤ q → q ≤ hi → h'.2 q = h.2 q
theorem Fm.an {lo hi x y : Nat} (hF : Fm lo hi h h') (hd : y < lo ∨ hi < x) : An x y h h' := fun q p r => hF.2 q (by omega)
theorem An.trans {x y : Nat} {h2 : Hp} (p : An x y h h') (q : An x y h' h2) : An x y h h2 := fun i u v => (q i u v).trans (p i u v)
theorem An.sub {x y x' y' : Nat} (p : An x y h h') (h1 : x ≤ x') (h2 : y' ≤ y) : An x' y' h h' := fun i u v => p i (by omega) (by omega)
theorem HasW.on {w : Wd} (hw : HasW h b w) (e : An b (b + 11) h h') : HasW h' b w := by
  obtain ⟨h0, h1, h2, h3, h4, h5, h6, h7, h8, h9, h10, h11⟩ := hw
  refine ⟨?_, ?_, ?_, ?_, ?_, ?_, ?_, ?_, ?_, ?_, ?_, ?_⟩ <;> (rw [e _ (by omega) (by omega)]; assumption)
theorem HasP.on {L : List Wd} (hp : HasP h a L) (e : An a (a + 109) h h') : HasP h' a L := by
  obtain ⟨nx, ws, ⟨h1, h2, h3, h4⟩, h5⟩ := hp
  exact ⟨nx, ws, ⟨(e _ (by omega) (by omega)).trans h1, (e _ (by omega) (by omega)).trans h2, fun i hi => (h3 i hi).on (e.sub (by omega) (by omega)), h4⟩, h5⟩
theorem HasSn.on {c : Nat} {v ht : Int32} {wf : Nat → Option Nat} {sf nf pf : Nat → Int32} (hs : HasSn h a v c wf sf nf pf ht) (e : An a (a + 4) h h') : HasSn h' a v c wf sf nf pf ht := by
  obtain ⟨h0, h1, h2, h3, h4⟩ := hs
  refine ⟨?_, ?_, ?_, ?_, ?_⟩ <;> (rw [e _ (by omega) (by omega)]; assumption)
theorem HasS0.on (hs : HasS0 G h a) (e : An a (a + 4) h h') : HasS0 G h' a := by
  obtain ⟨v, c, wf, sf, nf, pf, ht, h1, h2⟩ := hs
  exact ⟨v, c, wf, sf, nf, pf, ht, h1.on e, h2⟩
theorem HasSe.on {n : Nat} {I : List It} (hs : HasSe G h a n I) (e : An a (a + 4) h h') : HasSe G h' a n I := by
  obtain ⟨wf, sf, nf, pf, ht, h1, h2⟩ := hs
  exact ⟨wf, sf, nf, pf, ht, h1.on e, h2⟩
theorem HasK0.on {t : Nat} (hk : HasK0 h b t) (e : An b (b + 4) h h') : HasK0 h' b t := by
  obtain ⟨k, kf, pf, vf, wf, a6, a7, a8, a9, a10, q0, q1, q2, q3, q4⟩ := hk
  refine ⟨k, kf, pf, vf, wf, a6, a7, a8, a9, a10, ?_, ?_, ?_, ?_, ?_⟩ <;> (rw [e _ (by omega) (by omega)]; assumption)
theorem HasTp.on {t n : Nat} {f : Nat → Int32} (hT : HasTp h t n f) (e : An t (t + 1) h h') : HasTp h' t n f := ⟨(e _ (by omega) (by omega)).trans hT.1, (e _ (by omega) (by omega)).trans hT.2⟩
theorem HasD.on {x : Int32} (hD : HasD h a x) (e : An a a h h') : HasD h' a x := (e _ (by omega) (by omega)).trans hD
theorem HasS.on {o dr : Nat} {t cr : Int32} {st : Sst} {pr : Nat → Int32} {pd : Nat → Nat → Int32} (hs : HasS h o dr t cr st pr pd) (e : An o (o + 23) h h') : HasS h' o dr t cr st pr pd := by
  obtain ⟨h0, h1, h2, h3, h4⟩ := hs
  exact ⟨(e _ (by omega) (by omega)).trans h0, (e _ (by omega) (by omega)).trans h1, (e _ (by omega) (by omega)).trans h2, fun i hi => (e _ (by omega) (by omega)).trans (h3 i hi), (e _ (by omega) (by omega)).trans h4⟩
theorem HasL.on {f0 f1 : Nat → Int32} {sm ofr : Int32} (hl : HasL h a f0 f1 sm ofr) (e : An a (a + 2) h h') : HasL h' a f0 f1 sm ofr := ⟨(e _ (by omega) (by omega)).trans hl.1, (e _ (by omega) (by omega)).trans hl.2.1, (e _ (by omega) (by omega)).trans hl.2.2⟩
theorem HasBk.on (hb : HasBk h b) (e : An (b + 18) (b + 60) h h') : HasBk h' b := by
  obtain ⟨n, wf, pf, h1, h2, h3, h4⟩ := hb
  exact ⟨n, wf, pf, (e _ (by omega) (by omega)).trans h1, (e _ (by omega) (by omega)).trans h2, (e _ (by omega) (by omega)).trans h3, fun i hi => (e _ (by omega) (by omega)).trans (h4 i hi)⟩
theorem HasPB.on {B : Nat} {ft : Int32} {L : List Nat} (hp : HasPB h B ft L) (e0 : An B B h h') (e1 : An (B + 239) (B + 239) h h') : HasPB h' B ft L := by
  obtain ⟨h1, f, h2, h3⟩ := hp
  exact ⟨(e0 _ (by omega) (by omega)).trans h1, f, (e1 _ (by omega) (by omega)).trans h2, h3⟩
theorem HasK.on {t : Nat} {x : Tx} {st : St} (hk : HasK G h b t x st) (e : An b (b + 4) h h') : HasK G h' b t x st := by
  obtain ⟨a1, a2, a3, a4, kf, pf, vf, wf, a5, a6, a7, a8, a9⟩ := hk
  refine ⟨a1, a2, a3, ?_, kf, pf, vf, wf, ?_, ?_, ?_, ?_, a9⟩ <;> (rw [e _ (by omega) (by omega)]; assumption)
end On

