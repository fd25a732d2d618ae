/-! ===== the coupling: the class's heap ===== -/
abbrev Cs : Type := Nat × (Nat → Int32) × Wd × List Wd × Nat × List It × List Nat × Int32 × (Nat → Int32) × Int32 × Int32 × (Nat → Int32) × Int32 × Int32 × (Nat → Option Nat) × (Nat → Option Nat) × (Nat → Wd × Nat × List It)
def HC (G : Gt) (h : Hp) (B : Nat) (c : Cs) : Prop :=
  (HasPB h B c.2.2.2.2.2.2.2.1 c.2.2.2.2.2.2.1) ∧
  (HasTp h (B + 1) c.1 c.2.1) ∧
  (HasK0 h (B + 3) (B + 1)) ∧
  (h.2 (B + 8) = some (.inl (1, [.ref (B + 3), .ref (B + 9)]))) ∧
  (∃ u, HasW h (B + 9) u) ∧
  (HasBk h (B + 3)) ∧
  (∃ u, HasW h (B + 64) u) ∧
  (h.2 (B + 76) = some (.inr (.inl (0, 4, c.2.2.2.2.2.2.2.2.1)))) ∧
  (HasW h (B + 77) c.2.2.1) ∧
  (HasP h (B + 89) c.2.2.2.1) ∧
  (HasSe G h (B + 199) c.2.2.2.2.1 c.2.2.2.2.2.1) ∧
  (HasS0 G h (B + 204)) ∧
  (h.2 (B + 209) = some (.inr (.inr (.inr (1, 2, c.2.2.2.2.2.2.2.2.2.2.2.2.2.2.1))))) ∧
  (h.2 (B + 210) = some (.inr (.inr (.inr (2, 2, c.2.2.2.2.2.2.2.2.2.2.2.2.2.2.2.1))))) ∧
  (∃ x, HasD h (B + 211) x) ∧
  (∃ l K pr pd, HasS h (B + 212) (B + 211) c.2.2.2.2.2.2.2.2.2.1 c.2.2.2.2.2.2.2.2.2.2.1 (l, c.2.2.2.2.2.2.2.2.2.2.2.1, K) pr pd) ∧
  (∃ v, HasW h (B + 213) v) ∧
  (∃ f0 f1, HasL h (B + 236) f0 f1 c.2.2.2.2.2.2.2.2.2.2.2.2.1 c.2.2.2.2.2.2.2.2.2.2.2.2.2.1) ∧
  (∃ g : Nat → Int64, h.2 (B + 261) = some (.inr (.inr (.inl (1, g))))) ∧
  (∀ k, k < 2 → c.2.2.2.2.2.2.2.2.2.2.2.2.2.2.1 k = none ∨ ∃ N, c.2.2.2.2.2.2.2.2.2.2.2.2.2.2.1 k = some N ∧ c.2.2.2.2.2.2.2.2.2.2.2.2.2.2.2.1 k = some (N + 12) ∧ HasW h N (c.2.2.2.2.2.2.2.2.2.2.2.2.2.2.2.2 k).1 ∧ HasSe G h (N + 12) (c.2.2.2.2.2.2.2.2.2.2.2.2.2.2.2.2 k).2.1 (c.2.2.2.2.2.2.2.2.2.2.2.2.2.2.2.2 k).2.2 ∧ B + 261 < N ∧ N + 17 ≤ h.1) ∧
  (∀ N N', c.2.2.2.2.2.2.2.2.2.2.2.2.2.2.1 0 = some N → c.2.2.2.2.2.2.2.2.2.2.2.2.2.2.1 1 = some N' → N + 17 ≤ N' ∨ N' + 17 ≤ N) ∧
  (B + 262 ≤ h.1)
theorem HC.pB {G : Gt} {h : Hp} {B : Nat} {c : Cs} (hc : HC G h B c) : HasPB h B c.2.2.2.2.2.2.2.1 c.2.2.2.2.2.2.1 := hc.1
theorem HC.pT {G : Gt} {h : Hp} {B : Nat} {c : Cs} (hc : HC G h B c) : HasTp h (B + 1) c.1 c.2.1 := hc.2.1
theorem HC.pK {G : Gt} {h : Hp} {B : Nat} {c : Cs} (hc : HC G h B c) : HasK0 h (B + 3) (B + 1) := hc.2.2.1
theorem HC.pR {G : Gt} {h : Hp} {B : Nat} {c : Cs} (hc : HC G h B c) : h.2 (B + 8) = some (.inl (1, [.ref (B + 3), .ref (B + 9)])) := hc.2.2.2.1
theorem HC.pU {G : Gt} {h : Hp} {B : Nat} {c : Cs} (hc : HC G h B c) : ∃ u, HasW h (B + 9) u := hc.2.2.2.2.1
theorem HC.pQ {G : Gt} {h : Hp} {B : Nat} {c : Cs} (hc : HC G h B c) : HasBk h (B + 3) := hc.2.2.2.2.2.1
theorem HC.pO {G : Gt} {h : Hp} {B : Nat} {c : Cs} (hc : HC G h B c) : ∃ u, HasW h (B + 64) u := hc.2.2.2.2.2.2.1
theorem HC.pD {G : Gt} {h : Hp} {B : Nat} {c : Cs} (hc : HC G h B c) : h.2 (B + 76) = some (.inr (.inl (0, 4, c.2.2.2.2.2.2.2.2.1))) := hc.2.2.2.2.2.2.2.1
theorem HC.pW {G : Gt} {h : Hp} {B : Nat} {c : Cs} (hc : HC G h B c) : HasW h (B + 77) c.2.2.1 := hc.2.2.2.2.2.2.2.2.1
theorem HC.pP {G : Gt} {h : Hp} {B : Nat} {c : Cs} (hc : HC G h B c) : HasP h (B + 89) c.2.2.2.1 := hc.2.2.2.2.2.2.2.2.2.1
theorem HC.pS {G : Gt} {h : Hp} {B : Nat} {c : Cs} (hc : HC G h B c) : HasSe G h (B + 199) c.2.2.2.2.1 c.2.2.2.2.2.1 := hc.2.2.2.2.2.2.2.2.2.2.1
theorem HC.pZ {G : Gt} {h : Hp} {B : Nat} {c : Cs} (hc : HC G h B c) : HasS0 G h (B + 204) := hc.2.2.2.2.2.2.2.2.2.2.2.1
theorem HC.pI {G : Gt} {h : Hp} {B : Nat} {c : Cs} (hc : HC G h B c) : h.2 (B + 209) = some (.inr (.inr (.inr (1, 2, c.2.2.2.2.2.2.2.2.2.2.2.2.2.2.1)))) := hc.2.2.2.2.2.2.2.2.2.2.2.2.1
theorem HC.pJ {G : Gt} {h : Hp} {B : Nat} {c : Cs} (hc : HC G h B c) : h.2 (B + 210) = some (.inr (.inr (.inr (2, 2, c.2.2.2.2.2.2.2.2.2.2.2.2.2.2.2.1)))) := hc.2.2.2.2.2.2.2.2.2.2.2.2.2.1
theorem HC.pX {G : Gt} {h : Hp} {B : Nat} {c : Cs} (hc : HC G h B c) : ∃ x, HasD h (B + 211) x := hc.2.2.2.2.2.2.2.2.2.2.2.2.2.2.1
theorem HC.pY {G : Gt} {h : Hp} {B : Nat} {c : Cs} (hc : HC G h B c) : ∃ l K pr pd, HasS h (B + 212) (B + 211) c.2.2.2.2.2.2.2.2.2.1 c.2.2.2.2.2.2.2.2.2.2.1 (l, c.2.2.2.2.2.2.2.2.2.2.2.1, K) pr pd := hc.2.2.2.2.2.2.2.2.2.2.2.2.2.2.2.1
theorem HC.pV {G : Gt} {h : Hp} {B : Nat} {c : Cs} (hc : HC G h B c) : ∃ v, HasW h (B + 213) v := hc.2.2.2.2.2.2.2.2.2.2.2.2.2.2.2.2.1
theorem HC.pL {G : Gt} {h : Hp} {B : Nat} {c : Cs} (hc : HC G h B c) : ∃ f0 f1, HasL h (B + 236) f0 f1 c.2.2.2.2.2.2.2.2.2.2.2.2.1 c.2.2.2.2.2.2.2.2.2.2.2.2.2.1 := hc.2.2.2.2.2.2.2.2.2.2.2.2.2.2.2.2.2.1
theorem HC.pG {G : Gt} {h : Hp} {B : Nat} {c : Cs} (hc : HC G h B c) : ∃ g : Nat → Int64, h.2 (B + 261) = some (.inr (.inr (.inl (1, g)))) := hc.2.2.2.2.2.2.2.2.2.2.2.2.2.2.2.2.2.2.1
theorem HC.pM {G : Gt} {h : Hp} {B : Nat} {c : Cs} (hc : HC G h B c) : ∀ k, k < 2 → c.2.2.2.2.2.2.2.2.2.2.2.2.2.2.1 k = none ∨ ∃ N, c.2.2.2.2.2.2.2.2.2.2.2.2.2.2.1 k = some N ∧ c.2.2.2.2.2.2.2.2.2.2.2.2.2.2.2.1 k = some (N + 12) ∧ HasW h N (c.2.2.2.2.2.2.2.2.2.2.2.2.2.2.2.2 k).1 ∧ HasSe G h (N + 12) (c.2.2.2.2.2.2.2.2.2.2.2.2.2.2.2.2 k).2.1 (c.2.2.2.2.2.2.2.2.2.2.2.2.2.2.2.2 k).2.2 ∧ B + 261 < N ∧ N + 17 ≤ h.1 := hc.2.2.2.2.2.2.2.2.2.2.2.2.2.2.2.2.2.2.2.1
theorem HC.pN {G : Gt} {h : Hp} {B : Nat} {c : Cs} (hc : HC G h B c) : ∀ N N', c.2.2.2.2.2.2.2.2.2.2.2.2.2.2.1 0 = some N → c.2.2.2.2.2.2.2.2.2.2.2.2.2.2.1 1 = some N' → N + 17 ≤ N' ∨ N' + 17 ≤ N := hc.2.2.2.2.2.2.2.2.2.2.2.2.2.2.2.2.2.2.2.2.1
theorem HC.pH {G : Gt} {h : Hp} {B : Nat} {c : Cs} (hc : HC G h B c) : B + 262 ≤ h.1 := hc.2.2.2.2.2.2.2.2.2.2.2.2.2.2.2.2.2.2.2.2.2
theorem HasS.ont {h h' : Hp} {o dr : Nat} {t cr : Int32} {st : Sst} {pr : Nat → Int32} {pd : Nat → Nat → Int32} (hs : HasS h o dr t cr st pr pd) (e : ∀ q : Nat, (q = o ∨ (o + 13 ≤ q ∧ q ≤ o + 23)) → h'.2 q = h.2 q) : HasS h' o dr t cr st pr pd := by
  obtain ⟨a1, a2, a3, a4, a5⟩ := hs
  exact ⟨(e _ (Or.inl rfl)).trans a1, (e _ (by omega)).trans a2, (e _ (by omega)).trans a3, fun i hi => (e _ (by omega)).trans (a4 i hi), (e _ (by omega)).trans a5⟩
section HCs
variable {G : Gt} {h h' : Hp} {B : Nat} {c : Cs}
theorem HC.o (hc : HC G h B c) : h.2 B = some (oB B (nI c.2.2.2.2.2.2.1.length) c.2.2.2.2.2.2.2.1) := hc.pB.1
theorem HC.all (hc : HC G h B c) (f1 : h'.1 = h.1) (fr : ∀ q : Nat, (q < B + 240 ∨ B + 260 < q) → h'.2 q = h.2 q) : HC G h' B c :=
  ⟨hc.pB.on (fun q a b => fr q (by omega)) (fun q a b => fr q (by omega)),
    hc.pT.on (fun q a b => fr q (by omega)),
    hc.pK.on (fun q a b => fr q (by omega)),
    (fr _ (by omega)).trans hc.pR,
    (let ⟨u, hu⟩ := hc.pU; ⟨u, hu.on (fun q a b => fr q (by omega))⟩),
    hc.pQ.on (fun q a b => fr q (by omega)),
    (let ⟨u, hu⟩ := hc.pO; ⟨u, hu.on (fun q a b => fr q (by omega))⟩),
    (fr _ (by omega)).trans hc.pD,
    hc.pW.on (fun q a b => fr q (by omega)),
    hc.pP.on (fun q a b => fr q (by omega)),
    hc.pS.on (fun q a b => fr q (by omega)),
    hc.pZ.on (fun q a b => fr q (by omega)),
    (fr _ (by omega)).trans hc.pI,
    (fr _ (by omega)).trans hc.pJ,
    (let ⟨u, hu⟩ := hc.pX; ⟨u, hu.on (fun q a b => fr q (by omega))⟩),
    (let ⟨u1, u2, u3, u4, hu⟩ := hc.pY; ⟨u1, u2, u3, u4, hu.ont (fun q a => fr q (by omega))⟩),
    (let ⟨u, hu⟩ := hc.pV; ⟨u, hu.on (fun q a b => fr q (by omega))⟩),
    (let ⟨u1, u2, hu⟩ := hc.pL; ⟨u1, u2, hu.on (fun q a b => fr q (by omega))⟩),
    (let ⟨u, hu⟩ := hc.pG; ⟨u, (fr _ (by omega)).trans hu⟩),
    fun k hk => (hc.pM k hk).imp id (fun ⟨N, a1, a2, a3, a4, a5, a6⟩ => ⟨N, a1, a2, a3.on (fun q a b => fr q (by omega)), a4.on (fun q a b => fr q (by omega)), a5, by rw [f1]; exact a6⟩),
    hc.pN,
    by rw [f1]; exact hc.pH⟩
theorem HC.act (hc : HC G h B c) {w : Wd} {L : List Wd} (x1 : HasW h' (B + 77) w) (x2 : HasP h' (B + 89) L) (f1 : h'.1 = h.1) (fr : ∀ q : Nat, (q < B + 77 ∨ B + 198 < q) → h'.2 q = h.2 q) : HC G h' B (c.1, c.2.1, w, L, c.2.2.2.2.1, c.2.2.2.2.2.1, c.2.2.2.2.2.2.1, c.2.2.2.2.2.2.2.1, c.2.2.2.2.2.2.2.2.1, c.2.2.2.2.2.2.2.2.2.1, c.2.2.2.2.2.2.2.2.2.2.1, c.2.2.2.2.2.2.2.2.2.2.2.1, c.2.2.2.2.2.2.2.2.2.2.2.2.1, c.2.2.2.2.2.2.2.2.2.2.2.2.2.1, c.2.2.2.2.2.2.2.2.2.2.2.2.2.2.1, c.2.2.2.2.2.2.2.2.2.2.2.2.2.2.2.1, c.2.2.2.2.2.2.2.2.2.2.2.2.2.2.2.2) :=
  ⟨hc.pB.on (fun q a b => fr q (by omega)) (fun q a b => fr q (by omega)),
    hc.pT.on (fun q a b => fr q (by omega)),
    hc.pK.on (fun q a b => fr q (by omega)),
    (fr _ (by omega)).trans hc.pR,
    (let ⟨u, hu⟩ := hc.pU; ⟨u, hu.on (fun q a b => fr q (by omega))⟩),
    hc.pQ.on (fun q a b => fr q (by omega)),
    (let ⟨u, hu⟩ := hc.pO; ⟨u, hu.on (fun q a b => fr q (by omega))⟩),
    (fr _ (by omega)).trans hc.pD,
    x1,
    x2,
    hc.pS.on (fun q a b => fr q (by omega)),
    hc.pZ.on (fun q a b => fr q (by omega)),
    (fr _ (by omega)).trans hc.pI,
    (fr _ (by omega)).trans hc.pJ,
    (let ⟨u, hu⟩ := hc.pX; ⟨u, hu.on (fun q a b => fr q (by omega))⟩),
    (let ⟨u1, u2, u3, u4, hu⟩ := hc.pY; ⟨u1, u2, u3, u4, hu.ont (fun q a => fr q (by omega))⟩),
    (let ⟨u, hu⟩ := hc.pV; ⟨u, hu.on (fun q a b => fr q (by omega))⟩),
    (let ⟨u1, u2, hu⟩ := hc.pL; ⟨u1, u2, hu.on (fun q a b => fr q (by omega))⟩),
    (let ⟨u, hu⟩ := hc.pG; ⟨u, (fr _ (by omega)).trans hu⟩),
    fun k hk => (hc.pM k hk).imp id (fun ⟨N, a1, a2, a3, a4, a5, a6⟩ => ⟨N, a1, a2, a3.on (fun q a b => fr q (by omega)), a4.on (fun q a b => fr q (by omega)), a5, by rw [f1]; exact a6⟩),
    hc.pN,
    by rw [f1]; exact hc.pH⟩
theorem HC.drawn (hc : HC G h B c) {w : Wd} {L : List Wd} (x1 : HasW h' (B + 77) w) (x2 : HasP h' (B + 89) L) (x3 : ∃ x, HasD h' (B + 211) x) (f1 : h'.1 = h.1) (fr : ∀ q : Nat, (q ≠ B + 211 ∧ (q < B + 77 ∨ B + 198 < q)) → h'.2 q = h.2 q) : HC G h' B (c.1, c.2.1, w, L, c.2.2.2.2.1, c.2.2.2.2.2.1, c.2.2.2.2.2.2.1, c.2.2.2.2.2.2.2.1, c.2.2.2.2.2.2.2.2.1, c.2.2.2.2.2.2.2.2.2.1, c.2.2.2.2.2.2.2.2.2.2.1, c.2.2.2.2.2.2.2.2.2.2.2.1, c.2.2.2.2.2.2.2.2.2.2.2.2.1, c.2.2.2.2.2.2.2.2.2.2.2.2.2.1, c.2.2.2.2.2.2.2.2.2.2.2.2.2.2.1, c.2.2.2.2.2.2.2.2.2.2.2.2.2.2.2.1, c.2.2.2.2.2.2.2.2.2.2.2.2.2.2.2.2) :=
  ⟨hc.pB.on (fun q a b => fr q (by omega)) (fun q a b => fr q (by omega)),
    hc.pT.on (fun q a b => fr q (by omega)),
    hc.pK.on (fun q a b => fr q (by omega)),
    (fr _ (by omega)).trans hc.pR,
    (let ⟨u, hu⟩ := hc.pU; ⟨u, hu.on (fun q a b => fr q (by omega))⟩),
    hc.pQ.on (fun q a b => fr q (by omega)),
    (let ⟨u, hu⟩ := hc.pO; ⟨u, hu.on (fun q a b => fr q (by omega))⟩),
    (fr _ (by omega)).trans hc.pD,
    x1,
    x2,
    hc.pS.on (fun q a b => fr q (by omega)),
    hc.pZ.on (fun q a b => fr q (by omega)),
    (fr _ (by omega)).trans hc.pI,
    (fr _ (by omega)).trans hc.pJ,
    x3,
    (let ⟨u1, u2, u3, u4, hu⟩ := hc.pY; ⟨u1, u2, u3, u4, hu.ont (fun q a => fr q (by omega))⟩),
    (let ⟨u, hu⟩ := hc.pV; ⟨u, hu.on (fun q a b => fr q (by omega))⟩),
    (let ⟨u1, u2, hu⟩ := hc.pL; ⟨u1, u2, hu.on (fun q a b => fr q (by omega))⟩),
    (let ⟨u, hu⟩ := hc.pG; ⟨u, (fr _ (by omega)).trans hu⟩),
    fun k hk => (hc.pM k hk).imp id (fun ⟨N, a1, a2, a3, a4, a5, a6⟩ => ⟨N, a1, a2, a3.on (fun q a b => fr q (by omega)), a4.on (fun q a b => fr q (by omega)), a5, by rw [f1]; exact a6⟩),
    hc.pN,
    by rw [f1]; exact hc.pH⟩
theorem HC.look (hc : HC G h B c) (x1 : ∃ v, HasW h' (B + 213) v) (f1 : h'.1 = h.1) (fr : ∀ q : Nat, (q < B + 213 ∨ B + 224 < q) → h'.2 q = h.2 q) : HC G h' B c :=
  ⟨hc.pB.on (fun q a b => fr q (by omega)) (fun q a b => fr q (by omega)),
    hc.pT.on (fun q a b => fr q (by omega)),
    hc.pK.on (fun q a b => fr q (by omega)),
    (fr _ (by omega)).trans hc.pR,
    (let ⟨u, hu⟩ := hc.pU; ⟨u, hu.on (fun q a b => fr q (by omega))⟩),
    hc.pQ.on (fun q a b => fr q (by omega)),
    (let ⟨u, hu⟩ := hc.pO; ⟨u, hu.on (fun q a b => fr q (by omega))⟩),
    (fr _ (by omega)).trans hc.pD,
    hc.pW.on (fun q a b => fr q (by omega)),
    hc.pP.on (fun q a b => fr q (by omega)),
    hc.pS.on (fun q a b => fr q (by omega)),
    hc.pZ.on (fun q a b => fr q (by omega)),
    (fr _ (by omega)).trans hc.pI,
    (fr _ (by omega)).trans hc.pJ,
    (let ⟨u, hu⟩ := hc.pX; ⟨u, hu.on (fun q a b => fr q (by omega))⟩),
    (let ⟨u1, u2, u3, u4, hu⟩ := hc.pY; ⟨u1, u2, u3, u4, hu.ont (fun q a => fr q (by omega))⟩),
    x1,
    (let ⟨u1, u2, hu⟩ := hc.pL; ⟨u1, u2, hu.on (fun q a b => fr q (by omega))⟩),
    (let ⟨u, hu⟩ := hc.pG; ⟨u, (fr _ (by omega)).trans hu⟩),
    fun k hk => (hc.pM k hk).imp id (fun ⟨N, a1, a2, a3, a4, a5, a6⟩ => ⟨N, a1, a2, a3.on (fun q a b => fr q (by omega)), a4.on (fun q a b => fr q (by omega)), a5, by rw [f1]; exact a6⟩),
    hc.pN,
    by rw [f1]; exact hc.pH⟩
theorem HC.lookd (hc : HC G h B c) (x1 : ∃ v, HasW h' (B + 213) v) (x2 : ∃ x, HasD h' (B + 211) x) (f1 : h'.1 = h.1) (fr : ∀ q : Nat, (q ≠ B + 211 ∧ (q < B + 213 ∨ B + 224 < q)) → h'.2 q = h.2 q) : HC G h' B c :=
  ⟨hc.pB.on (fun q a b => fr q (by omega)) (fun q a b => fr q (by omega)),
    hc.pT.on (fun q a b => fr q (by omega)),
    hc.pK.on (fun q a b => fr q (by omega)),
    (fr _ (by omega)).trans hc.pR,
    (let ⟨u, hu⟩ := hc.pU; ⟨u, hu.on (fun q a b => fr q (by omega))⟩),
    hc.pQ.on (fun q a b => fr q (by omega)),
    (let ⟨u, hu⟩ := hc.pO; ⟨u, hu.on (fun q a b => fr q (by omega))⟩),
    (fr _ (by omega)).trans hc.pD,
    hc.pW.on (fun q a b => fr q (by omega)),
    hc.pP.on (fun q a b => fr q (by omega)),
    hc.pS.on (fun q a b => fr q (by omega)),
    hc.pZ.on (fun q a b => fr q (by omega)),
    (fr _ (by omega)).trans hc.pI,
    (fr _ (by omega)).trans hc.pJ,
    x2,
    (let ⟨u1, u2, u3, u4, hu⟩ := hc.pY; ⟨u1, u2, u3, u4, hu.ont (fun q a => fr q (by omega))⟩),
    x1,
    (let ⟨u1, u2, hu⟩ := hc.pL; ⟨u1, u2, hu.on (fun q a b => fr q (by omega))⟩),
    (let ⟨u, hu⟩ := hc.pG; ⟨u, (fr _ (by omega)).trans hu⟩),
    fun k hk => (hc.pM k hk).imp id (fun ⟨N, a1, a2, a3, a4, a5, a6⟩ => ⟨N, a1, a2, a3.on (fun q a b => fr q (by omega)), a4.on (fun q a b => fr q (by omega)), a5, by rw [f1]; exact a6⟩),
    hc.pN,
    by rw [f1]; exact hc.pH⟩
theorem HC.sch (hc : HC G h B c) {tt cr : Int32} {f13 : Nat → Int32} (x1 : ∃ l K pr pd, HasS h' (B + 212) (B + 211) tt cr (l, f13, K) pr pd) (x2 : ∃ v, HasW h' (B + 213) v) (f1 : h'.1 = h.1) (fr : ∀ q : Nat, (q < B + 212 ∨ B + 235 < q) → h'.2 q = h.2 q) : HC G h' B (c.1, c.2.1, c.2.2.1, c.2.2.2.1, c.2.2.2.2.1, c.2.2.2.2.2.1, c.2.2.2.2.2.2.1, c.2.2.2.2.2.2.2.1, c.2.2.2.2.2.2.2.2.1, tt, cr, f13, c.2.2.2.2.2.2.2.2.2.2.2.2.1, c.2.2.2.2.2.2.2.2.2.2.2.2.2.1, c.2.2.2.2.2.2.2.2.2.2.2.2.2.2.1, c.2.2.2.2.2.2.2.2.2.2.2.2.2.2.2.1, c.2.2.2.2.2.2.2.2.2.2.2.2.2.2.2.2) :=
  ⟨hc.pB.on (fun q a b => fr q (by omega)) (fun q a b => fr q (by omega)),
    hc.pT.on (fun q a b => fr q (by omega)),
    hc.pK.on (fun q a b => fr q (by omega)),
    (fr _ (by omega)).trans hc.pR,
    (let ⟨u, hu⟩ := hc.pU; ⟨u, hu.on (fun q a b => fr q (by omega))⟩),
    hc.pQ.on (fun q a b => fr q (by omega)),
    (let ⟨u, hu⟩ := hc.pO; ⟨u, hu.on (fun q a b => fr q (by omega))⟩),
    (fr _ (by omega)).trans hc.pD,
    hc.pW.on (fun q a b => fr q (by omega)),
    hc.pP.on (fun q a b => fr q (by omega)),
    hc.pS.on (fun q a b => fr q (by omega)),
    hc.pZ.on (fun q a b => fr q (by omega)),
    (fr _ (by omega)).trans hc.pI,
    (fr _ (by omega)).trans hc.pJ,
    (let ⟨u, hu⟩ := hc.pX; ⟨u, hu.on (fun q a b => fr q (by omega))⟩),
    x1,
    x2,
    (let ⟨u1, u2, hu⟩ := hc.pL; ⟨u1, u2, hu.on (fun q a b => fr q (by omega))⟩),
    (let ⟨u, hu⟩ := hc.pG; ⟨u, (fr _ (by omega)).trans hu⟩),
    fun k hk => (hc.pM k hk).imp id (fun ⟨N, a1, a2, a3, a4, a5, a6⟩ => ⟨N, a1, a2, a3.on (fun q a b => fr q (by omega)), a4.on (fun q a b => fr q (by omega)), a5, by rw [f1]; exact a6⟩),
    hc.pN,
    by rw [f1]; exact hc.pH⟩
theorem HC.law (hc : HC G h B c) {n : Nat} {f : Nat → Int32} {sm ofr : Int32} (x1 : HasTp h' (B + 1) n f) (x2 : ∃ f0 f1, HasL h' (B + 236) f0 f1 sm ofr) (f1 : h'.1 = h.1) (fr : ∀ q : Nat, ((q < B + 1 ∨ B + 2 < q) ∧ (q < B + 236 ∨ B + 238 < q)) → h'.2 q = h.2 q) : HC G h' B (n, f, c.2.2.1, c.2.2.2.1, c.2.2.2.2.1, c.2.2.2.2.2.1, c.2.2.2.2.2.2.1, c.2.2.2.2.2.2.2.1, c.2.2.2.2.2.2.2.2.1, c.2.2.2.2.2.2.2.2.2.1, c.2.2.2.2.2.2.2.2.2.2.1, c.2.2.2.2.2.2.2.2.2.2.2.1, sm, ofr, c.2.2.2.2.2.2.2.2.2.2.2.2.2.2.1, c.2.2.2.2.2.2.2.2.2.2.2.2.2.2.2.1, c.2.2.2.2.2.2.2.2.2.2.2.2.2.2.2.2) :=
  ⟨hc.pB.on (fun q a b => fr q (by omega)) (fun q a b => fr q (by omega)),
    x1,
    hc.pK.on (fun q a b => fr q (by omega)),
    (fr _ (by omega)).trans hc.pR,
    (let ⟨u, hu⟩ := hc.pU; ⟨u, hu.on (fun q a b => fr q (by omega))⟩),
    hc.pQ.on (fun q a b => fr q (by omega)),
    (let ⟨u, hu⟩ := hc.pO; ⟨u, hu.on (fun q a b => fr q (by omega))⟩),
    (fr _ (by omega)).trans hc.pD,
    hc.pW.on (fun q a b => fr q (by omega)),
    hc.pP.on (fun q a b => fr q (by omega)),
    hc.pS.on (fun q a b => fr q (by omega)),
    hc.pZ.on (fun q a b => fr q (by omega)),
    (fr _ (by omega)).trans hc.pI,
    (fr _ (by omega)).trans hc.pJ,
    (let ⟨u, hu⟩ := hc.pX; ⟨u, hu.on (fun q a b => fr q (by omega))⟩),
    (let ⟨u1, u2, u3, u4, hu⟩ := hc.pY; ⟨u1, u2, u3, u4, hu.ont (fun q a => fr q (by omega))⟩),
    (let ⟨u, hu⟩ := hc.pV; ⟨u, hu.on (fun q a b => fr q (by omega))⟩),
    x2,
    (let ⟨u, hu⟩ := hc.pG; ⟨u, (fr _ (by omega)).trans hu⟩),
    fun k hk => (hc.pM k hk).imp id (fun ⟨N, a1, a2, a3, a4, a5, a6⟩ => ⟨N, a1, a2, a3.on (fun q a b => fr q (by omega)), a4.on (fun q a b => fr q (by omega)), a5, by rw [f1]; exact a6⟩),
    hc.pN,
    by rw [f1]; exact hc.pH⟩
theorem HC.tape (hc : HC G h B c) {n : Nat} {f : Nat → Int32} (x1 : HasTp h' (B + 1) n f) (f1 : h'.1 = h.1) (fr : ∀ q : Nat, (q < B + 1 ∨ B + 2 < q) → h'.2 q = h.2 q) : HC G h' B (n, f, c.2.2.1, c.2.2.2.1, c.2.2.2.2.1, c.2.2.2.2.2.1, c.2.2.2.2.2.2.1, c.2.2.2.2.2.2.2.1, c.2.2.2.2.2.2.2.2.1, c.2.2.2.2.2.2.2.2.2.1, c.2.2.2.2.2.2.2.2.2.2.1, c.2.2.2.2.2.2.2.2.2.2.2.1, c.2.2.2.2.2.2.2.2.2.2.2.2.1, c.2.2.2.2.2.2.2.2.2.2.2.2.2.1, c.2.2.2.2.2.2.2.2.2.2.2.2.2.2.1, c.2.2.2.2.2.2.2.2.2.2.2.2.2.2.2.1, c.2.2.2.2.2.2.2.2.2.2.2.2.2.2.2.2) :=
  ⟨hc.pB.on (fun q a b => fr q (by omega)) (fun q a b => fr q (by omega)),
    x1,
    hc.pK.on (fun q a b => fr q (by omega)),
    (fr _ (by omega)).trans hc.pR,
    (let ⟨u, hu⟩ := hc.pU; ⟨u, hu.on (fun q a b => fr q (by omega))⟩),
    hc.pQ.on (fun q a b => fr q (by omega)),
    (let ⟨u, hu⟩ := hc.pO; ⟨u, hu.on (fun q a b => fr q (by omega))⟩),
    (fr _ (by omega)).trans hc.pD,
    hc.pW.on (fun q a b => fr q (by omega)),
    hc.pP.on (fun q a b => fr q (by omega)),
    hc.pS.on (fun q a b => fr q (by omega)),
    hc.pZ.on (fun q a b => fr q (by omega)),
    (fr _ (by omega)).trans hc.pI,
    (fr _ (by omega)).trans hc.pJ,
    (let ⟨u, hu⟩ := hc.pX; ⟨u, hu.on (fun q a b => fr q (by omega))⟩),
    (let ⟨u1, u2, u3, u4, hu⟩ := hc.pY; ⟨u1, u2, u3, u4, hu.ont (fun q a => fr q (by omega))⟩),
    (let ⟨u, hu⟩ := hc.pV; ⟨u, hu.on (fun q a b => fr q (by omega))⟩),
    (let ⟨u1, u2, hu⟩ := hc.pL; ⟨u1, u2, hu.on (fun q a b => fr q (by omega))⟩),
    (let ⟨u, hu⟩ := hc.pG; ⟨u, (fr _ (by omega)).trans hu⟩),
    fun k hk => (hc.pM k hk).imp id (fun ⟨N, a1, a2, a3, a4, a5, a6⟩ => ⟨N, a1, a2, a3.on (fun q a b => fr q (by omega)), a4.on (fun q a b => fr q (by omega)), a5, by rw [f1]; exact a6⟩),
    hc.pN,
    by rw [f1]; exact hc.pH⟩
theorem HC.pass (hc : HC G h B c) {ft : Int32} {pl : List Nat} (x1 : HasPB h' B ft pl) (f1 : h'.1 = h.1) (fr : ∀ q : Nat, (q ≠ B ∧ q ≠ B + 239) → h'.2 q = h.2 q) : HC G h' B (c.1, c.2.1, c.2.2.1, c.2.2.2.1, c.2.2.2.2.1, c.2.2.2.2.2.1, pl, ft, c.2.2.2.2.2.2.2.2.1, c.2.2.2.2.2.2.2.2.2.1, c.2.2.2.2.2.2.2.2.2.2.1, c.2.2.2.2.2.2.2.2.2.2.2.1, c.2.2.2.2.2.2.2.2.2.2.2.2.1, c.2.2.2.2.2.2.2.2.2.2.2.2.2.1, c.2.2.2.2.2.2.2.2.2.2.2.2.2.2.1, c.2.2.2.2.2.2.2.2.2.2.2.2.2.2.2.1, c.2.2.2.2.2.2.2.2.2.2.2.2.2.2.2.2) :=
  ⟨x1,
    hc.pT.on (fun q a b => fr q (by omega)),
    hc.pK.on (fun q a b => fr q (by omega)),
    (fr _ (by omega)).trans hc.pR,
    (let ⟨u, hu⟩ := hc.pU; ⟨u, hu.on (fun q a b => fr q (by omega))⟩),
    hc.pQ.on (fun q a b => fr q (by omega)),
    (let ⟨u, hu⟩ := hc.pO; ⟨u, hu.on (fun q a b => fr q (by omega))⟩),
    (fr _ (by omega)).trans hc.pD,
    hc.pW.on (fun q a b => fr q (by omega)),
    hc.pP.on (fun q a b => fr q (by omega)),
    hc.pS.on (fun q a b => fr q (by omega)),
    hc.pZ.on (fun q a b => fr q (by omega)),
    (fr _ (by omega)).trans hc.pI,
    (fr _ (by omega)).trans hc.pJ,
    (let ⟨u, hu⟩ := hc.pX; ⟨u, hu.on (fun q a b => fr q (by omega))⟩),
    (let ⟨u1, u2, u3, u4, hu⟩ := hc.pY; ⟨u1, u2, u3, u4, hu.ont (fun q a => fr q (by omega))⟩),
    (let ⟨u, hu⟩ := hc.pV; ⟨u, hu.on (fun q a b => fr q (by omega))⟩),
    (let ⟨u1, u2, hu⟩ := hc.pL; ⟨u1, u2, hu.on (fun q a b => fr q (by omega))⟩),
    (let ⟨u, hu⟩ := hc.pG; ⟨u, (fr _ (by omega)).trans hu⟩),
    fun k hk => (hc.pM k hk).imp id (fun ⟨N, a1, a2, a3, a4, a5, a6⟩ => ⟨N, a1, a2, a3.on (fun q a b => fr q (by omega)), a4.on (fun q a b => fr q (by omega)), a5, by rw [f1]; exact a6⟩),
    hc.pN,
    by rw [f1]; exact hc.pH⟩
theorem HC.said (hc : HC G h B c) (x1 : HasSe G h' (B + 199) c.2.2.2.2.1 c.2.2.2.2.2.1) (f1 : h'.1 = h.1) (fr : ∀ q : Nat, (q < B + 199 ∨ B + 203 < q) → h'.2 q = h.2 q) : HC G h' B c :=
  ⟨hc.pB.on (fun q a b => fr q (by omega)) (fun q a b => fr q (by omega)),
    hc.pT.on (fun q a b => fr q (by omega)),
    hc.pK.on (fun q a b => fr q (by omega)),
    (fr _ (by omega)).trans hc.pR,
    (let ⟨u, hu⟩ := hc.pU; ⟨u, hu.on (fun q a b => fr q (by omega))⟩),
    hc.pQ.on (fun q a b => fr q (by omega)),
    (let ⟨u, hu⟩ := hc.pO; ⟨u, hu.on (fun q a b => fr q (by omega))⟩),
    (fr _ (by omega)).trans hc.pD,
    hc.pW.on (fun q a b => fr q (by omega)),
    hc.pP.on (fun q a b => fr q (by omega)),
    x1,
    hc.pZ.on (fun q a b => fr q (by omega)),
    (fr _ (by omega)).trans hc.pI,
    (fr _ (by omega)).trans hc.pJ,
    (let ⟨u, hu⟩ := hc.pX; ⟨u, hu.on (fun q a b => fr q (by omega))⟩),
    (let ⟨u1, u2, u3, u4, hu⟩ := hc.pY; ⟨u1, u2, u3, u4, hu.ont (fun q a => fr q (by omega))⟩),
    (let ⟨u, hu⟩ := hc.pV; ⟨u, hu.on (fun q a b => fr q (by omega))⟩),
    (let ⟨u1, u2, hu⟩ := hc.pL; ⟨u1, u2, hu.on (fun q a b => fr q (by omega))⟩),
    (let ⟨u, hu⟩ := hc.pG; ⟨u, (fr _ (by omega)).trans hu⟩),
    fun k hk => (hc.pM k hk).imp id (fun ⟨N, a1, a2, a3, a4, a5, a6⟩ => ⟨N, a1, a2, a3.on (fun q a b => fr q (by omega)), a4.on (fun q a b => fr q (by omega)), a5, by rw [f1]; exact a6⟩),
    hc.pN,
    by rw [f1]; exact hc.pH⟩
theorem HC.rest (hc : HC G h B c) {w : Wd} {L : List Wd} {n : Nat} {I : List It} (x1 : HasW h' (B + 77) w) (x2 : HasP h' (B + 89) L) (x3 : HasSe G h' (B + 199) n I) (f1 : h'.1 = h.1) (fr : ∀ q : Nat, (q < B + 77 ∨ B + 203 < q) → h'.2 q = h.2 q) : HC G h' B (c.1, c.2.1, w, L, n, I, c.2.2.2.2.2.2.1, c.2.2.2.2.2.2.2.1, c.2.2.2.2.2.2.2.2.1, c.2.2.2.2.2.2.2.2.2.1, c.2.2.2.2.2.2.2.2.2.2.1, c.2.2.2.2.2.2.2.2.2.2.2.1, c.2.2.2.2.2.2.2.2.2.2.2.2.1, c.2.2.2.2.2.2.2.2.2.2.2.2.2.1, c.2.2.2.2.2.2.2.2.2.2.2.2.2.2.1, c.2.2.2.2.2.2.2.2.2.2.2.2.2.2.2.1, c.2.2.2.2.2.2.2.2.2.2.2.2.2.2.2.2) :=
  ⟨hc.pB.on (fun q a b => fr q (by omega)) (fun q a b => fr q (by omega)),
    hc.pT.on (fun q a b => fr q (by omega)),
    hc.pK.on (fun q a b => fr q (by omega)),
    (fr _ (by omega)).trans hc.pR,
    (let ⟨u, hu⟩ := hc.pU; ⟨u, hu.on (fun q a b => fr q (by omega))⟩),
    hc.pQ.on (fun q a b => fr q (by omega)),
    (let ⟨u, hu⟩ := hc.pO; ⟨u, hu.on (fun q a b => fr q (by omega))⟩),
    (fr _ (by omega)).trans hc.pD,
    x1,
    x2,
    x3,
    hc.pZ.on (fun q a b => fr q (by omega)),
    (fr _ (by omega)).trans hc.pI,
    (fr _ (by omega)).trans hc.pJ,
    (let ⟨u, hu⟩ := hc.pX; ⟨u, hu.on (fun q a b => fr q (by omega))⟩),
    (let ⟨u1, u2, u3, u4, hu⟩ := hc.pY; ⟨u1, u2, u3, u4, hu.ont (fun q a => fr q (by omega))⟩),
    (let ⟨u, hu⟩ := hc.pV; ⟨u, hu.on (fun q a b => fr q (by omega))⟩),
    (let ⟨u1, u2, hu⟩ := hc.pL; ⟨u1, u2, hu.on (fun q a b => fr q (by omega))⟩),
    (let ⟨u, hu⟩ := hc.pG; ⟨u, (fr _ (by omega)).trans hu⟩),
    fun k hk => (hc.pM k hk).imp id (fun ⟨N, a1, a2, a3, a4, a5, a6⟩ => ⟨N, a1, a2, a3.on (fun q a b => fr q (by omega)), a4.on (fun q a b => fr q (by omega)), a5, by rw [f1]; exact a6⟩),
    hc.pN,
    by rw [f1]; exact hc.pH⟩
theorem HC.sent (hc : HC G h B c) {ft : Int32} {n m : Nat} {f : Nat → Int32} {I : List It} (x1 : HasPB h' B ft c.2.2.2.2.2.2.1) (x2 : HasTp h' (B + 1) m f) (x3 : HasK0 h' (B + 3) (B + 1)) (x4 : HasSe G h' (B + 199) n I) (x5 : HasS0 G h' (B + 204)) (f1 : h'.1 = h.1) (fr : ∀ q : Nat, (q < B ∨ (B + 7 < q ∧ (q < B + 199 ∨ B + 208 < q))) → h'.2 q = h.2 q) : HC G h' B (m, f, c.2.2.1, c.2.2.2.1, n, I, c.2.2.2.2.2.2.1, ft, c.2.2.2.2.2.2.2.2.1, c.2.2.2.2.2.2.2.2.2.1, c.2.2.2.2.2.2.2.2.2.2.1, c.2.2.2.2.2.2.2.2.2.2.2.1, c.2.2.2.2.2.2.2.2.2.2.2.2.1, c.2.2.2.2.2.2.2.2.2.2.2.2.2.1, c.2.2.2.2.2.2.2.2.2.2.2.2.2.2.1, c.2.2.2.2.2.2.2.2.2.2.2.2.2.2.2.1, c.2.2.2.2.2.2.2.2.2.2.2.2.2.2.2.2) :=
  ⟨x1,
    x2,
    x3,
    (fr _ (by omega)).trans hc.pR,
    (let ⟨u, hu⟩ := hc.pU; ⟨u, hu.on (fun q a b => fr q (by omega))⟩),
    hc.pQ.on (fun q a b => fr q (by omega)),
    (let ⟨u, hu⟩ := hc.pO; ⟨u, hu.on (fun q a b => fr q (by omega))⟩),
    (fr _ (by omega)).trans hc.pD,
    hc.pW.on (fun q a b => fr q (by omega)),
    hc.pP.on (fun q a b => fr q (by omega)),
    x4,
    x5,
    (fr _ (by omega)).trans hc.pI,
    (fr _ (by omega)).trans hc.pJ,
    (let ⟨u, hu⟩ := hc.pX; ⟨u, hu.on (fun q a b => fr q (by omega))⟩),
    (let ⟨u1, u2, u3, u4, hu⟩ := hc.pY; ⟨u1, u2, u3, u4, hu.ont (fun q a => fr q (by omega))⟩),
    (let ⟨u, hu⟩ := hc.pV; ⟨u, hu.on (fun q a b => fr q (by omega))⟩),
    (let ⟨u1, u2, hu⟩ := hc.pL; ⟨u1, u2, hu.on (fun q a b => fr q (by omega))⟩),
    (let ⟨u, hu⟩ := hc.pG; ⟨u, (fr _ (by omega)).trans hu⟩),
    fun k hk => (hc.pM k hk).imp id (fun ⟨N, a1, a2, a3, a4, a5, a6⟩ => ⟨N, a1, a2, a3.on (fun q a b => fr q (by omega)), a4.on (fun q a b => fr q (by omega)), a5, by rw [f1]; exact a6⟩),
    hc.pN,
    by rw [f1]; exact hc.pH⟩
theorem HC.brid (hc : HC G h B c) {ft : Int32} {n m : Nat} {f : Nat → Int32} {I : List It} {w : Wd} {L : List Wd} (x1 : HasPB h' B ft c.2.2.2.2.2.2.1) (x2 : HasTp h' (B + 1) m f) (x3 : HasK0 h' (B + 3) (B + 1)) (x4 : h'.2 (B + 8) = some (.inl (1, [.ref (B + 3), .ref (B + 9)]))) (x5 : ∃ u, HasW h' (B + 9) u) (x6 : HasW h' (B + 77) w) (x7 : HasP h' (B + 89) L) (x8 : HasSe G h' (B + 199) n I) (f1 : h'.1 = h.1) (fr : ∀ q : Nat, (q < B ∨ (B + 20 < q ∧ (q < B + 77 ∨ B + 203 < q))) → h'.2 q = h.2 q) : HC G h' B (m, f, w, L, n, I, c.2.2.2.2.2.2.1, ft, c.2.2.2.2.2.2.2.2.1, c.2.2.2.2.2.2.2.2.2.1, c.2.2.2.2.2.2.2.2.2.2.1, c.2.2.2.2.2.2.2.2.2.2.2.1, c.2.2.2.2.2.2.2.2.2.2.2.2.1, c.2.2.2.2.2.2.2.2.2.2.2.2.2.1, c.2.2.2.2.2.2.2.2.2.2.2.2.2.2.1, c.2.2.2.2.2.2.2.2.2.2.2.2.2.2.2.1, c.2.2.2.2.2.2.2.2.2.2.2.2.2.2.2.2) :=
  ⟨x1,
    x2,
    x3,
    x4,
    x5,
    hc.pQ.on (fun q a b => fr q (by omega)),
    (let ⟨u, hu⟩ := hc.pO; ⟨u, hu.on (fun q a b => fr q (by omega))⟩),
    (fr _ (by omega)).trans hc.pD,
    x6,
    x7,
    x8,
    hc.pZ.on (fun q a b => fr q (by omega)),
    (fr _ (by omega)).trans hc.pI,
    (fr _ (by omega)).trans hc.pJ,
    (let ⟨u, hu⟩ := hc.pX; ⟨u, hu.on (fun q a b => fr q (by omega))⟩),
    (let ⟨u1, u2, u3, u4, hu⟩ := hc.pY; ⟨u1, u2, u3, u4, hu.ont (fun q a => fr q (by omega))⟩),
    (let ⟨u, hu⟩ := hc.pV; ⟨u, hu.on (fun q a b => fr q (by omega))⟩),
    (let ⟨u1, u2, hu⟩ := hc.pL; ⟨u1, u2, hu.on (fun q a b => fr q (by omega))⟩),
    (let ⟨u, hu⟩ := hc.pG; ⟨u, (fr _ (by omega)).trans hu⟩),
    fun k hk => (hc.pM k hk).imp id (fun ⟨N, a1, a2, a3, a4, a5, a6⟩ => ⟨N, a1, a2, a3.on (fun q a b => fr q (by omega)), a4.on (fun q a b => fr q (by omega)), a5, by rw [f1]; exact a6⟩),
    hc.pN,
    by rw [f1]; exact hc.pH⟩
theorem HC.book (hc : HC G h B c) {ft : Int32} {m : Nat} {f td : Nat → Int32} {w : Wd} {L : List Wd} (x1 : HasPB h' B ft c.2.2.2.2.2.2.1) (x2 : HasTp h' (B + 1) m f) (x3 : HasK0 h' (B + 3) (B + 1)) (x4 : HasBk h' (B + 3)) (x5 : ∃ u, HasW h' (B + 64) u) (x6 : h'.2 (B + 76) = some (.inr (.inl (0, 4, td)))) (x7 : HasW h' (B + 77) w) (x8 : HasP h' (B + 89) L) (f1 : h'.1 = h.1) (fr : ∀ q : Nat, (q < B ∨ (B + 7 < q ∧ (q < B + 21 ∨ B + 198 < q))) → h'.2 q = h.2 q) : HC G h' B (m, f, w, L, c.2.2.2.2.1, c.2.2.2.2.2.1, c.2.2.2.2.2.2.1, ft, td, c.2.2.2.2.2.2.2.2.2.1, c.2.2.2.2.2.2.2.2.2.2.1, c.2.2.2.2.2.2.2.2.2.2.2.1, c.2.2.2.2.2.2.2.2.2.2.2.2.1, c.2.2.2.2.2.2.2.2.2.2.2.2.2.1, c.2.2.2.2.2.2.2.2.2.2.2.2.2.2.1, c.2.2.2.2.2.2.2.2.2.2.2.2.2.2.2.1, c.2.2.2.2.2.2.2.2.2.2.2.2.2.2.2.2) :=
  ⟨x1,
    x2,
    x3,
    (fr _ (by omega)).trans hc.pR,
    (let ⟨u, hu⟩ := hc.pU; ⟨u, hu.on (fun q a b => fr q (by omega))⟩),
    x4,
    x5,
    x6,
    x7,
    x8,
    hc.pS.on (fun q a b => fr q (by omega)),
    hc.pZ.on (fun q a b => fr q (by omega)),
    (fr _ (by omega)).trans hc.pI,
    (fr _ (by omega)).trans hc.pJ,
    (let ⟨u, hu⟩ := hc.pX; ⟨u, hu.on (fun q a b => fr q (by omega))⟩),
    (let ⟨u1, u2, u3, u4, hu⟩ := hc.pY; ⟨u1, u2, u3, u4, hu.ont (fun q a => fr q (by omega))⟩),
    (let ⟨u, hu⟩ := hc.pV; ⟨u, hu.on (fun q a b => fr q (by omega))⟩),
    (let ⟨u1, u2, hu⟩ := hc.pL; ⟨u1, u2, hu.on (fun q a b => fr q (by omega))⟩),
    (let ⟨u, hu⟩ := hc.pG; ⟨u, (fr _ (by omega)).trans hu⟩),
    fun k hk => (hc.pM k hk).imp id (fun ⟨N, a1, a2, a3, a4, a5, a6⟩ => ⟨N, a1, a2, a3.on (fun q a b => fr q (by omega)), a4.on (fun q a b => fr q (by omega)), a5, by rw [f1]; exact a6⟩),
    hc.pN,
    by rw [f1]; exact hc.pH⟩
end HCs

