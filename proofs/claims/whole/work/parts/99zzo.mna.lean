/-! ===== rows of rows ===== -/
section Mna
variable {G : Gt} {d bc bs : Nat} {M : Mth} {pc : Nat} {K : KT} {Q : QT} {l : Ls} {z : List Value} {h : Hp}
def hMul (h : Hp) (N P : Nat) : Hp := (h.1 + 1 + N, fun q => if q = h.1 then some (.inr (.inr (.inr (3, N, fun i => some (h.1 + 1 + i))))) else if h.1 < q ∧ q ≤ h.1 + N then some (.inr (.inl (0, P, fun _ => 0))) else h.2 q)
def tMul (N P : Nat) (K : KT) : KT := fun l z h => match z with
  | .int y :: .int x :: r => x.toNatClampNeg = N ∧ ¬ x < 0 ∧ y.toNatClampNeg = P ∧ ¬ y < 0 ∧ K l (.ref h.1 :: r) (hMul h N P)
  | _ => False
theorem R_mna {N P idx : Nat} (hd : decode M.2.1 pc = .ok (.multianewarray idx 2, 4)) {C : String} (hCn : "[" ++ (FieldType.array .int).toString = C) (hw : Cond.classLink M.1.cls idx C ∈ wsA) (hw2 : Cond.arrayClass .int ∈ wsA) (hb1 : N * 4 ≤ 536870912) (hb2 : P * componentBytes .int ≤ 536870912) (hb3 : P ≤ 536870912)
    (hK : ∀ l z h, K l z h → T G d bc bs M (pc + 4) l z h Q) (k : tMul N P K l z h) : T G d (bc + (1 + N)) (bs + (N + N * P)) M pc l z h Q := by
  unfold tMul at k
  split at k
  · rename_i y x r
    obtain ⟨hN, hn, hP, hk, k⟩ := k
    intro p la e R s m args below meth co H locs cells slots lsA hC h1 h2 h3 h4 hR hS hL
    have hG := hC.2.2.2.2.2.2.2.2
    have hts := hC.2.2.2.2.2.1
    subst hCn
    subst hN
    subst hP
    have ra0 := (RA_at (G := G) (s := s) hG.1 (show 0 < 8 by omega) (ty := .int) rfl rfl).2
    have ra7 := (RA_at (G := G) (s := s) hG.1 (show 7 < 8 by omega) (ty := .array .int) rfl rfl).2
    have hbb : G.2.2.1 ≤ H.size := Nat.le_trans hG.2.1 hS.1
    intro T hT Xs
    obtain ⟨vm₁, cA, comp, -, fA, fC, hO, -, X', step⟩ := Xs.multianewarray2F hC.1 hC.2.2.2.2.1 (hts _ hw) (hG.2.2.2.2.2.2.1 _) (hts _ hw2) (g := F0 m pc lsA (.int y :: .int x :: r)) rfl (by rw [hC.2.1]; exact hd) rfl hn hk hb1 hb2 hb3 rfl rfl (by omega) (by omega)
    have e0 : comp = G.2.1 0 := Option.some.inj (fC.symm.trans ra0)
    have e7 : cA = G.2.1 7 := Option.some.inj (fA.symm.trans ra7)
    generalize hF : Jvm.Free.Multi.fill (T.setVm vm₁) cA comp x.toNatClampNeg y.toNatClampNeg (defaultValue .int) x.toNatClampNeg = F at X' step
    have hTh : (T.setVm vm₁).heap = H := hT
    obtain ⟨f1, f2, -, -⟩ := Jvm.Free.Multi.fill_facts (T.setVm vm₁) cA comp x.toNatClampNeg y.toNatClampNeg (defaultValue .int) x.toNatClampNeg
    rw [hF, hTh] at f1 f2
    have hold : ∀ q : Nat, q < H.size → F.heap[q]? = H[q]? := fun q hq => by
      have := Jvm.Free.Multi.fill_old (T.setVm vm₁) cA comp x.toNatClampNeg y.toNatClampNeg (defaultValue .int) (a := q) (by rw [hTh]; exact hq) x.toNatClampNeg
      rw [hF, hTh] at this
      exact this
    have hrow : ∀ j : Nat, j < x.toNatClampNeg → F.heap[H.size + 1 + j]? = some (arrV comp y.toNatClampNeg (fun _ => .int 0)) := fun j hj => by
      have := Jvm.Free.Multi.fill_inner (T.setVm vm₁) cA comp x.toNatClampNeg y.toNatClampNeg (defaultValue .int) x.toNatClampNeg j hj
      rw [hF, hTh] at this
      rw [this, ← arrV_new]
      rfl
    rw [vr_outer] at f2
    have hR1 : Rl G (hMul h x.toNatClampNeg y.toNatClampNeg) F.heap := by
      refine ⟨by rw [f1, hR.1]; rfl, fun b ce hb => ?_⟩
      unfold hMul at hb
      dsimp only at hb
      rw [← hR.1] at hb
      split at hb
      · rename_i eb
        subst eb
        cases hb
        refine ⟨hbb, (show 3 < 4 by decide), ?_⟩
        rw [f2, e7]
        exact congrArg some (arrV_congr fun j hj => by rw [if_pos hj])
      · split at hb
        · rename_i eb
          obtain ⟨j, rfl⟩ : ∃ j, b = H.size + 1 + j := ⟨b - (H.size + 1), by omega⟩
          cases hb
          refine ⟨Nat.le_trans hbb (by omega), (show 0 < 3 by decide), ?_⟩
          rw [hrow j (by omega), e0]
        · obtain ⟨g1, g2⟩ := hR.2 b ce hb
          exact ⟨g1, g2.kept (hold b g2.lt)⟩
    have hS1 : va_S (Fr G) s.heap F.heap locs := ⟨by rw [f1]; have := hS.1; omega, fun q a1 a2 => (hold q (Nat.lt_of_lt_of_le a1 hS.1)).trans (hS.2.1 q a1 a2), hS.2.2⟩
    have k2 := hK _ _ _ k p la e R s m args below meth co F.heap locs (cells + 1 + x.toNatClampNeg) (slots + x.toNatClampNeg + x.toNatClampNeg * y.toNatClampNeg) lsA hC h1 h2 (by omega) (by omega) hR1 hS1 hL
    rw [show cells + 1 + x.toNatClampNeg + bc = cells + (bc + (1 + x.toNatClampNeg)) by omega, show slots + x.toNatClampNeg + x.toNatClampNeg * y.toNatClampNeg + bs = slots + (bs + (x.toNatClampNeg + x.toNatClampNeg * y.toNatClampNeg)) by omega, ← hR.1] at k2
    obtain ⟨t, a1, b1⟩ := k2 F rfl X'
    refine ⟨t, step t ?_, b1⟩
    have e : T.heap.size = H.size := by rw [hT]
    rw [e]
    exact a1
  · exact k.elim
end Mna

