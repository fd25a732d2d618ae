/-! ===== a judgement with a context and an end of its own: for what throws, what catches, and the law ===== -/
abbrev CxT : Type := Program → Launch → Env → Room → State → MethodId → Array Value → List Frame → Method → Code → Prop
abbrev ZT : Type := Room → List Frame → Array Value → State → State → Prop
def TG (G : Gt) (C : CxT) (Z : ZT) (d bc bs : Nat) (M : Mth) (pc : Nat) (l : Ls) (st : List Value) (h : Hp) : Prop :=
  ∀ (p : Program) (la : Launch) (e : Env) (R : Room) (s : State) (m : MethodId) (args : Array Value) (below : List Frame) (meth : Method) (c : Code) (H : Heap) (locs : List Loc) (cells slots : Nat) (lsA : Array Slot),
    (Cx G M p s m args meth c ∧ C p la e R s m args below meth c) → d ≤ R.frames → d * 64 ≤ R.locals → cells + bc ≤ R.cells → slots + bs ≤ R.slots → Rl G h H → va_S (Fr G) s.heap H locs → lv_has lsA M.2.2.1 l →
    W p la e R s m args below meth c H locs cells slots (Z R below args s) (F0 m pc lsA st)
theorem TG.room {G : Gt} {C : CxT} {Z : ZT} {d bc bs bc' bs' : Nat} {M : Mth} {pc : Nat} {l : Ls} {st : List Value} {h : Hp} (h1 : bc ≤ bc') (h2 : bs ≤ bs') (k : TG G C Z d bc bs M pc l st h) : TG G C Z d bc' bs' M pc l st h := by
  intro p la e R s m args below meth c H locs cells slots lsA hC a1 a2 a3 a4 hR hS hL
  exact k p la e R s m args below meth c H locs cells slots lsA hC a1 a2 (by omega) (by omega) hR hS hL
theorem TG.weak {G : Gt} {C : CxT} {Z : ZT} {d bc bs : Nat} {M : Mth} {pc : Nat} {l l' : Ls} {st : List Value} {h : Hp} (hs : ∀ q ∈ l', q ∈ l) (k : TG G C Z d bc bs M pc l' st h) : TG G C Z d bc bs M pc l st h := by
  intro p la e R s m args below meth c H locs cells slots lsA hC a1 a2 a3 a4 hR hS hL
  exact k p la e R s m args below meth c H locs cells slots lsA hC a1 a2 a3 a4 hR hS (hL.mono hs)
section RulesG
variable {G : Gt} {CC : CxT} {ZZ : ZT} {d bc bs : Nat} {M : Mth} {pc : Nat} {K K1 K2 : KT} {l : Ls} {z : List Value} {h : Hp}
theorem G_iconst {n : Int} {v : Int32} (hd : decode M.2.1 pc = .ok (.iconst n, 1)) (hv : Int32.ofInt n = v) (hK : ∀ l z h, K l z h → TG G CC ZZ d bc bs M (pc + 1) l z h) (k : tPush (.int v) K l z h) : TG G CC ZZ d bc bs M pc l z h := by
  intro p la e R s m args below meth c H locs cells slots lsA hC h1 h2 h3 h4 hR hS hL
  exact lv_iconst hC.1.1 hC.1.2.1 hd hv (hK _ _ _ k p la e R s m args below meth c H locs cells slots lsA hC h1 h2 h3 h4 hR hS hL)
theorem G_bipush {n : Int} {v : Int32} (hd : decode M.2.1 pc = .ok (.bipush n, 2)) (hv : (Int8.ofInt n).toInt32 = v) (hK : ∀ l z h, K l z h → TG G CC ZZ d bc bs M (pc + 2) l z h) (k : tPush (.int v) K l z h) : TG G CC ZZ d bc bs M pc l z h := by
  intro p la e R s m args below meth c H locs cells slots lsA hC h1 h2 h3 h4 hR hS hL
  exact lv_bipush hC.1.1 hC.1.2.1 hd hv (hK _ _ _ k p la e R s m args below meth c H locs cells slots lsA hC h1 h2 h3 h4 hR hS hL)
theorem G_iload {i : Nat} (hd : decode M.2.1 pc = .ok (.iload i, 2)) (hK : ∀ l z h, K l z h → TG G CC ZZ d bc bs M (pc + 2) l z h) (k : tIld i K l z h) : TG G CC ZZ d bc bs M pc l z h := by
  unfold tIld at k
  split at k
  · rename_i x hx
    intro p la e R s m args below meth c H locs cells slots lsA hC h1 h2 h3 h4 hR hS hL
    exact lv_iload hC.1.1 hC.1.2.1 hd (hL.2.2 _ (lk_mem hx)) (hK _ _ _ k p la e R s m args below meth c H locs cells slots lsA hC h1 h2 h3 h4 hR hS hL)
  · exact k.elim
theorem G_iload_n {j : Fin 4} {i : Nat} (hd : decode M.2.1 pc = .ok (.iload_n j, 1)) (hi : (j : Nat) = i) (hK : ∀ l z h, K l z h → TG G CC ZZ d bc bs M (pc + 1) l z h) (k : tIld i K l z h) : TG G CC ZZ d bc bs M pc l z h := by
  unfold tIld at k
  split at k
  · rename_i x hx
    intro p la e R s m args below meth c H locs cells slots lsA hC h1 h2 h3 h4 hR hS hL
    exact lv_iload_n hC.1.1 hC.1.2.1 hd hi (hL.2.2 _ (lk_mem hx)) (hK _ _ _ k p la e R s m args below meth c H locs cells slots lsA hC h1 h2 h3 h4 hR hS hL)
  · exact k.elim
theorem G_istore {i : Nat} (hd : decode M.2.1 pc = .ok (.istore i, 2)) (hb : i < M.2.2.1) (hK : ∀ l z h, K l z h → TG G CC ZZ d bc bs M (pc + 2) l z h) (k : tIst i K l z h) : TG G CC ZZ d bc bs M pc l z h := by
  unfold tIst at k
  split at k
  · intro p la e R s m args below meth c H locs cells slots lsA hC h1 h2 h3 h4 hR hS hL
    exact lv_istore hC.1.1 hC.1.2.1 hd hL hb rfl (fun ls2 hL => hK _ _ _ k p la e R s m args below meth c H locs cells slots ls2 hC h1 h2 h3 h4 hR hS (hL.mono fun q hq => sto1_mem hq))
  · exact k.elim
theorem G_iinc {i : Nat} {n : Int} {v : Int32} (hd : decode M.2.1 pc = .ok (.iinc i n, 3)) (hv : Int32.ofInt n = v) (hb : i < M.2.2.1) (hK : ∀ l z h, K l z h → TG G CC ZZ d bc bs M (pc + 3) l z h) (k : tInc i v K l z h) : TG G CC ZZ d bc bs M pc l z h := by
  unfold tInc at k
  split at k
  · rename_i x hx
    intro p la e R s m args below meth c H locs cells slots lsA hC h1 h2 h3 h4 hR hS hL
    obtain ⟨j, hj⟩ := List.getElem?_of_mem (lk_mem hx)
    exact lv_iinc (v := x + v) hC.1.1 hC.1.2.1 hd hL (k := j) hj (by rw [hv]) hb rfl (fun ls2 hL => hK _ _ _ k p la e R s m args below meth c H locs cells slots ls2 hC h1 h2 h3 h4 hR hS (hL.mono fun q hq => sto1_mem hq))
  · exact k.elim
theorem G_aload_n {j : Fin 4} {i : Nat} (hd : decode M.2.1 pc = .ok (.aload_n j, 1)) (hi : (j : Nat) = i) (hK : ∀ l z h, K l z h → TG G CC ZZ d bc bs M (pc + 1) l z h) (k : tAld i K l z h) : TG G CC ZZ d bc bs M pc l z h := by
  unfold tAld at k
  split at k
  · rename_i x hx
    intro p la e R s m args below meth c H locs cells slots lsA hC h1 h2 h3 h4 hR hS hL
    exact lv_aload_n hC.1.1 hC.1.2.1 hd hi (hL.2.2 _ (lk_mem hx)) (hK _ _ _ k p la e R s m args below meth c H locs cells slots lsA hC h1 h2 h3 h4 hR hS hL)
  · rename_i hx
    intro p la e R s m args below meth c H locs cells slots lsA hC h1 h2 h3 h4 hR hS hL
    exact lv_aload_nN hC.1.1 hC.1.2.1 hd hi (hL.2.2 _ (lk_mem hx)) (hK _ _ _ k p la e R s m args below meth c H locs cells slots lsA hC h1 h2 h3 h4 hR hS hL)
  · exact k.elim
theorem G_astore_n {j : Fin 4} {i : Nat} (hd : decode M.2.1 pc = .ok (.astore_n j, 1)) (hi : (j : Nat) = i) (hb : i < M.2.2.1) (hK : ∀ l z h, K l z h → TG G CC ZZ d bc bs M (pc + 1) l z h) (k : tAst i K l z h) : TG G CC ZZ d bc bs M pc l z h := by
  unfold tAst at k
  split at k
  · intro p la e R s m args below meth c H locs cells slots lsA hC h1 h2 h3 h4 hR hS hL
    exact lv_astore_n hC.1.1 hC.1.2.1 hd hi hL hb rfl (fun ls2 hL => hK _ _ _ k p la e R s m args below meth c H locs cells slots ls2 hC h1 h2 h3 h4 hR hS (hL.mono fun q hq => sto1_mem hq))
  · intro p la e R s m args below meth c H locs cells slots lsA hC h1 h2 h3 h4 hR hS hL
    exact lv_astore_nN hC.1.1 hC.1.2.1 hd hi hL hb rfl (fun ls2 hL => hK _ _ _ k p la e R s m args below meth c H locs cells slots ls2 hC h1 h2 h3 h4 hR hS (hL.mono fun q hq => sto1_mem hq))
  · exact k.elim
theorem G_astore {i : Nat} (hd : decode M.2.1 pc = .ok (.astore i, 2)) (hb : i < M.2.2.1) (hK : ∀ l z h, K l z h → TG G CC ZZ d bc bs M (pc + 2) l z h) (k : tAst i K l z h) : TG G CC ZZ d bc bs M pc l z h := by
  unfold tAst at k
  split at k
  · intro p la e R s m args below meth c H locs cells slots lsA hC h1 h2 h3 h4 hR hS hL
    exact lv_astore hC.1.1 hC.1.2.1 hd hL hb rfl (fun ls2 hL => hK _ _ _ k p la e R s m args below meth c H locs cells slots ls2 hC h1 h2 h3 h4 hR hS (hL.mono fun q hq => sto1_mem hq))
  · intro p la e R s m args below meth c H locs cells slots lsA hC h1 h2 h3 h4 hR hS hL
    exact lv_astoreN hC.1.1 hC.1.2.1 hd hL hb rfl (fun ls2 hL => hK _ _ _ k p la e R s m args below meth c H locs cells slots ls2 hC h1 h2 h3 h4 hR hS (hL.mono fun q hq => sto1_mem hq))
  · exact k.elim
theorem G_iadd (hd : decode M.2.1 pc = .ok (.iadd, 1)) (hK : ∀ l z h, K l z h → TG G CC ZZ d bc bs M (pc + 1) l z h) (k : tB (fun x y => x + y) K l z h) : TG G CC ZZ d bc bs M pc l z h := by
  unfold tB at k
  split at k
  · intro p la e R s m args below meth c H locs cells slots lsA hC h1 h2 h3 h4 hR hS hL
    exact lv_iadd hC.1.1 hC.1.2.1 hd (hK _ _ _ k p la e R s m args below meth c H locs cells slots lsA hC h1 h2 h3 h4 hR hS hL)
  · exact k.elim
theorem G_isub (hd : decode M.2.1 pc = .ok (.isub, 1)) (hK : ∀ l z h, K l z h → TG G CC ZZ d bc bs M (pc + 1) l z h) (k : tB (fun x y => x - y) K l z h) : TG G CC ZZ d bc bs M pc l z h := by
  unfold tB at k
  split at k
  · intro p la e R s m args below meth c H locs cells slots lsA hC h1 h2 h3 h4 hR hS hL
    exact lv_isub hC.1.1 hC.1.2.1 hd (hK _ _ _ k p la e R s m args below meth c H locs cells slots lsA hC h1 h2 h3 h4 hR hS hL)
  · exact k.elim
theorem G_iand (hd : decode M.2.1 pc = .ok (.iand, 1)) (hK : ∀ l z h, K l z h → TG G CC ZZ d bc bs M (pc + 1) l z h) (k : tB (fun x y => x &&& y) K l z h) : TG G CC ZZ d bc bs M pc l z h := by
  unfold tB at k
  split at k
  · intro p la e R s m args below meth c H locs cells slots lsA hC h1 h2 h3 h4 hR hS hL
    exact lv_iand hC.1.1 hC.1.2.1 hd (hK _ _ _ k p la e R s m args below meth c H locs cells slots lsA hC h1 h2 h3 h4 hR hS hL)
  · exact k.elim
theorem G_dup (hd : decode M.2.1 pc = .ok (.dup, 1)) (hK : ∀ l z h, K l z h → TG G CC ZZ d bc bs M (pc + 1) l z h) (k : tDup K l z h) : TG G CC ZZ d bc bs M pc l z h := by
  unfold tDup at k
  split at k
  · intro p la e R s m args below meth c H locs cells slots lsA hC h1 h2 h3 h4 hR hS hL
    exact lv_dup hC.1.1 hC.1.2.1 hd k.1 (hK _ _ _ k.2 p la e R s m args below meth c H locs cells slots lsA hC h1 h2 h3 h4 hR hS hL)
  · exact k.elim
theorem G_i2l (hd : decode M.2.1 pc = .ok (.i2l, 1)) (hK : ∀ l z h, K l z h → TG G CC ZZ d bc bs M (pc + 1) l z h) (k : tI2l K l z h) : TG G CC ZZ d bc bs M pc l z h := by
  unfold tI2l at k
  split at k
  · intro p la e R s m args below meth c H locs cells slots lsA hC h1 h2 h3 h4 hR hS hL
    exact lv_i2l hC.1.1 hC.1.2.1 hd rfl (hK _ _ _ k p la e R s m args below meth c H locs cells slots lsA hC h1 h2 h3 h4 hR hS hL)
  · exact k.elim
theorem G_lcmp (hd : decode M.2.1 pc = .ok (.lcmp, 1)) (hK : ∀ l z h, K l z h → TG G CC ZZ d bc bs M (pc + 1) l z h) (k : tLcmp K l z h) : TG G CC ZZ d bc bs M pc l z h := by
  unfold tLcmp at k
  split at k
  · intro p la e R s m args below meth c H locs cells slots lsA hC h1 h2 h3 h4 hR hS hL
    exact W.lcmp hC.1.1 hC.1.2.1 hd (hK _ _ _ k p la e R s m args below meth c H locs cells slots lsA hC h1 h2 h3 h4 hR hS hL)
  · exact k.elim
theorem G_goto {off : Int} {tgt : Nat} (hd : decode M.2.1 pc = .ok (.goto off, 3)) (ht : (pc : Int) + off = (tgt : Int)) (hK1 : ∀ l z h, K l z h → TG G CC ZZ d bc bs M tgt l z h) (k : K l z h) : TG G CC ZZ d bc bs M pc l z h := by
  intro p la e R s m args below meth c H locs cells slots lsA hC h1 h2 h3 h4 hR hS hL
  exact lv_goto hC.1.1 hC.1.2.1 hd ht (hK1 _ _ _ (k) p la e R s m args below meth c H locs cells slots lsA hC h1 h2 h3 h4 hR hS hL)
theorem G_if_eq {off : Int} {tgt : Nat} (hd : decode M.2.1 pc = .ok (.ifCond .eq off, 3)) (ht : (pc : Int) + off = (tgt : Int)) (hK1 : ∀ l z h, K1 l z h → TG G CC ZZ d bc bs M tgt l z h) (hK2 : ∀ l z h, K2 l z h → TG G CC ZZ d bc bs M (pc + 3) l z h) (k : tIf (fun x => x = 0) K1 K2 l z h) : TG G CC ZZ d bc bs M pc l z h := by
  unfold tIf at k
  split at k
  · intro p la e R s m args below meth c H locs cells slots lsA hC h1 h2 h3 h4 hR hS hL
    exact lv_if_eq hC.1.1 hC.1.2.1 hd ht (fun q => hK1 _ _ _ (k.1 q) p la e R s m args below meth c H locs cells slots lsA hC h1 h2 h3 h4 hR hS hL) (fun q => hK2 _ _ _ (k.2 q) p la e R s m args below meth c H locs cells slots lsA hC h1 h2 h3 h4 hR hS hL)
  · exact k.elim
theorem G_if_ne {off : Int} {tgt : Nat} (hd : decode M.2.1 pc = .ok (.ifCond .ne off, 3)) (ht : (pc : Int) + off = (tgt : Int)) (hK1 : ∀ l z h, K1 l z h → TG G CC ZZ d bc bs M tgt l z h) (hK2 : ∀ l z h, K2 l z h → TG G CC ZZ d bc bs M (pc + 3) l z h) (k : tIf (fun x => x = 0) K2 K1 l z h) : TG G CC ZZ d bc bs M pc l z h := by
  unfold tIf at k
  split at k
  · intro p la e R s m args below meth c H locs cells slots lsA hC h1 h2 h3 h4 hR hS hL
    exact lv_if_ne hC.1.1 hC.1.2.1 hd ht (fun q => hK1 _ _ _ (k.2 q) p la e R s m args below meth c H locs cells slots lsA hC h1 h2 h3 h4 hR hS hL) (fun q => hK2 _ _ _ (k.1 q) p la e R s m args below meth c H locs cells slots lsA hC h1 h2 h3 h4 hR hS hL)
  · exact k.elim
theorem G_if_lt {off : Int} {tgt : Nat} (hd : decode M.2.1 pc = .ok (.ifCond .lt off, 3)) (ht : (pc : Int) + off = (tgt : Int)) (hK1 : ∀ l z h, K1 l z h → TG G CC ZZ d bc bs M tgt l z h) (hK2 : ∀ l z h, K2 l z h → TG G CC ZZ d bc bs M (pc + 3) l z h) (k : tIf (fun x => x < 0) K1 K2 l z h) : TG G CC ZZ d bc bs M pc l z h := by
  unfold tIf at k
  split at k
  · intro p la e R s m args below meth c H locs cells slots lsA hC h1 h2 h3 h4 hR hS hL
    exact lv_if_lt hC.1.1 hC.1.2.1 hd ht (fun q => hK1 _ _ _ (k.1 q) p la e R s m args below meth c H locs cells slots lsA hC h1 h2 h3 h4 hR hS hL) (fun q => hK2 _ _ _ (k.2 q) p la e R s m args below meth c H locs cells slots lsA hC h1 h2 h3 h4 hR hS hL)
  · exact k.elim
theorem G_icmp_eq {off : Int} {tgt : Nat} (hd : decode M.2.1 pc = .ok (.if_icmp .eq off, 3)) (ht : (pc : Int) + off = (tgt : Int)) (hK1 : ∀ l z h, K1 l z h → TG G CC ZZ d bc bs M tgt l z h) (hK2 : ∀ l z h, K2 l z h → TG G CC ZZ d bc bs M (pc + 3) l z h) (k : tIf2 (fun x y => x = y) K1 K2 l z h) : TG G CC ZZ d bc bs M pc l z h := by
  unfold tIf2 at k
  split at k
  · intro p la e R s m args below meth c H locs cells slots lsA hC h1 h2 h3 h4 hR hS hL
    exact lv_icmp_eq hC.1.1 hC.1.2.1 hd ht (fun q => hK1 _ _ _ (k.1 q) p la e R s m args below meth c H locs cells slots lsA hC h1 h2 h3 h4 hR hS hL) (fun q => hK2 _ _ _ (k.2 q) p la e R s m args below meth c H locs cells slots lsA hC h1 h2 h3 h4 hR hS hL)
  · exact k.elim
theorem G_icmp_gt {off : Int} {tgt : Nat} (hd : decode M.2.1 pc = .ok (.if_icmp .gt off, 3)) (ht : (pc : Int) + off = (tgt : Int)) (hK1 : ∀ l z h, K1 l z h → TG G CC ZZ d bc bs M tgt l z h) (hK2 : ∀ l z h, K2 l z h → TG G CC ZZ d bc bs M (pc + 3) l z h) (k : tIf2 (fun x y => y < x) K1 K2 l z h) : TG G CC ZZ d bc bs M pc l z h := by
  unfold tIf2 at k
  split at k
  · intro p la e R s m args below meth c H locs cells slots lsA hC h1 h2 h3 h4 hR hS hL
    exact lv_icmp_gt hC.1.1 hC.1.2.1 hd ht (fun q => hK1 _ _ _ (k.1 q) p la e R s m args below meth c H locs cells slots lsA hC h1 h2 h3 h4 hR hS hL) (fun q => hK2 _ _ _ (k.2 q) p la e R s m args below meth c H locs cells slots lsA hC h1 h2 h3 h4 hR hS hL)
  · exact k.elim
theorem G_icmp_le {off : Int} {tgt : Nat} (hd : decode M.2.1 pc = .ok (.if_icmp .le off, 3)) (ht : (pc : Int) + off = (tgt : Int)) (hK1 : ∀ l z h, K1 l z h → TG G CC ZZ d bc bs M tgt l z h) (hK2 : ∀ l z h, K2 l z h → TG G CC ZZ d bc bs M (pc + 3) l z h) (k : tIf2 (fun x y => x ≤ y) K1 K2 l z h) : TG G CC ZZ d bc bs M pc l z h := by
  unfold tIf2 at k
  split at k
  · intro p la e R s m args below meth c H locs cells slots lsA hC h1 h2 h3 h4 hR hS hL
    exact lv_icmp_le hC.1.1 hC.1.2.1 hd ht (fun q => hK1 _ _ _ (k.1 q) p la e R s m args below meth c H locs cells slots lsA hC h1 h2 h3 h4 hR hS hL) (fun q => hK2 _ _ _ (k.2 q) p la e R s m args below meth c H locs cells slots lsA hC h1 h2 h3 h4 hR hS hL)
  · exact k.elim
theorem G_laload (hd : decode M.2.1 pc = .ok (.laload, 1)) (hK : ∀ l z h, K l z h → TG G CC ZZ d bc bs M (pc + 1) l z h) (k : tJald K l z h) : TG G CC ZZ d bc bs M pc l z h := by
  unfold tJald at k
  split at k
  · split at k
    · rename_i i a r o n g ha
      obtain ⟨hin, k⟩ := k
      intro p la e R s m args below meth co H locs cells slots lsA hC h1 h2 h3 h4 hR hS hL
      refine W.lald (v := .long (g i.toNatClampNeg)) hC.1.1 hC.1.2.1 (hR.2 a _ ha).2 ((hC.1.2.2.2.2.2.2.2.2.1.2 3 _ (tysG_at (by decide))).1 n (fun j => .long (g j))) (fun q => by cases q) (by rw [arrV_size]; exact hin) (by rw [arrV_read _ _ (hlt_of hin)]) rfl rfl hd ?_
      exact hK _ _ _ k p la e R s m args below meth co H locs cells slots lsA hC h1 h2 h3 h4 hR hS hL
    · exact k.elim
  · exact k.elim
theorem G_lastore (hd : decode M.2.1 pc = .ok (.lastore, 1)) (hK : ∀ l z h, K l z h → TG G CC ZZ d bc bs M (pc + 1) l z h) (k : tJast K l z h) : TG G CC ZZ d bc bs M pc l z h := by
  unfold tJast at k
  split at k
  · split at k
    · rename_i x i a r o n g ha
      obtain ⟨hin, k⟩ := k
      intro p la e R s m args below meth co H locs cells slots lsA hC h1 h2 h3 h4 hR hS hL
      refine W.last hC.1.1 hC.1.2.1 (hR.2 a _ ha).2 ((hC.1.2.2.2.2.2.2.2.2.1.2 3 _ (tysG_at (by decide))).1 n (fun j => .long (g j))) (fun q => by cases q) (by rw [arrV_size]; exact hin) rfl rfl hd fun H1 e1 e2 e3 => ?_
      exact hK _ _ _ k p la e R s m args below meth co H1 _ cells slots lsA hC h1 h2 h3 h4 (Rl_set hR (hR.2 a _ ha).1 (by show H1[a]? = _; rw [e1, arrV_store, updV_long]) e2 e3) (hS.put e2 e3 (hR.2 a _ ha).1) hL
    · exact k.elim
  · exact k.elim
theorem G_getf {ci f idx N : Nat} {C : String} {Tt : u_T} (hd : decode M.2.1 pc = .ok (.getfield idx, 3)) (hc : clsA[ci]? = some (C, Tt, N)) (hin : ∀ w ∈ u_ws C Tt N, w ∈ wsA) (hk : f < N) (hw : Cond.fieldLink M.1.cls idx (Tt f).1 (Tt f).2.1 (Tt f).2.2.1 ∈ wsA) (hK : ∀ l z h, K l z h → TG G CC ZZ d bc bs M (pc + 3) l z h) (k : tGetf ci f K l z h) : TG G CC ZZ d bc bs M pc l z h := by
  unfold tGetf at k
  split at k
  · split at k
    · rename_i a r o c fs ha
      obtain ⟨rfl, k⟩ := k
      split at k
      · rename_i v hv
        intro p la e R s m args below meth co H locs cells slots lsA hC h1 h2 h3 h4 hR hS hL
        exact va_get hC.1.1 hC.1.2.1 hC.1.2.2.2.2.2.1 hin hC.1.2.2.2.2.1 hC.1.2.2.2.2.2.2.2.2.1 (hR.one ha) 0 rfl hc f hk (hC.1.2.2.2.2.2.1 _ hw) (fun _ x => x) hv hd (hK _ _ _ k p la e R s m args below meth co H locs cells slots lsA hC h1 h2 h3 h4 hR hS hL)
      · exact k.elim
    · exact k.elim
  · exact k.elim
theorem G_new {ci idx N : Nat} {C : String} {Tt : u_T} {fs : List Value} (ty : Nat → FieldType) (hty : ∀ k, k < N → parseFieldDescriptor (Tt k).2.2.1 = some (ty k)) (hd : decode M.2.1 pc = .ok (.new idx, 3)) (hc : clsA[ci]? = some (C, Tt, N)) (hin : ∀ w ∈ u_ws C Tt N, w ∈ wsA) (hw1 : Cond.classLink M.1.cls idx C ∈ wsA) (hw2 : Cond.instantiable C N ∈ wsA) (hw3 : Cond.initialized C ∈ wsA) (hl : fs.length = N) (hfs : ∀ j, j < N → defaultValue (ty j) = vp_V fs j)
    (hK : ∀ l z h, K l z h → TG G CC ZZ d bc bs M (pc + 3) l z h) (k : tNew ci fs K l z h) : TG G CC ZZ d (bc + 1) (bs + N) M pc l z h := by
  intro p la e R s m args below meth co H locs cells slots lsA hC h1 h2 h3 h4 hR hS hL
  have hts := hC.1.2.2.2.2.2.1
  have hKn := hC.1.2.2.2.2.2.2.2.2.1.1 ci _ hc
  refine W.newcK hC.1.1 hC.1.2.1 hC.1.2.2.2.2.1 (hts _ hw1) (hts _ hw2) (hts _ hw3) rfl hd (by omega) (by omega) hKn.2.1 rfl fun H1 kC hkC e1 z1 o1 => ?_
  have hb : G.2.2.1 ≤ H.size := Nat.le_trans hC.1.2.2.2.2.2.2.2.2.2.1 hS.1
  have hR1 : Rl G (hNew h (.inl (ci, fs))) H1 := Rl_new hR hb ⟨(C, Tt, N), hc, hl, (u_born ty hts hin hKn hkC e1 hty).to hfs⟩ z1 o1
  have k2 := hK _ _ _ k p la e R s m args below meth co H1 locs (cells + 1) (slots + N) lsA hC h1 h2 (by omega) (by omega) hR1 (hS.psh z1 o1) hL
  rw [← hR.1] at k2
  exact k2
theorem G_newJ {N : Nat} (hd : decode M.2.1 pc = .ok (.newarray .long, 2)) (hw : Cond.arrayClass .long ∈ wsA) (hb : N * 8 ≤ 536870912)
    (hK : ∀ l z h, K l z h → TG G CC ZZ d bc bs M (pc + 2) l z h) (k : tNewJ N K l z h) : TG G CC ZZ d (bc + 1) (bs + N) M pc l z h := by
  unfold tNewJ at k
  split at k
  · rename_i x r
    obtain ⟨hN, hn, k⟩ := k
    intro p la e R s m args below meth co H locs cells slots lsA hC h1 h2 h3 h4 hR hS hL
    refine va_newaK (atype := .long) hC.1.1 hC.1.2.1 (hC.1.2.2.2.2.2.1 _ hw) rfl hd rfl hn hN hb (by omega) (by omega) rfl fun H1 cA e1 z1 o1 hAr hNm => ?_
    have hra : s.vm.findClass ("[" ++ (FieldType.long).toString) = some (G.2.1 3) := (hC.1.2.2.2.2.2.2.2.2.1.2 3 _ (tysG_at (by decide))).2
    have hcA : cA = G.2.1 3 := Option.some.inj (hNm.symm.trans hra)
    have hbb : G.2.2.1 ≤ H.size := Nat.le_trans hC.1.2.2.2.2.2.2.2.2.2.1 hS.1
    have hR1 : Rl G (hNew h (.inr (.inr (.inl (N, fun _ => 0))))) H1 := Rl_new hR hbb (by show H1[H.size]? = _; rw [e1, hcA]; rfl) z1 o1
    have k2 := hK _ _ _ k p la e R s m args below meth co H1 locs (cells + 1) (slots + N) lsA hC h1 h2 (by omega) (by omega) hR1 (hS.psh z1 o1) hL
    rw [← hR.1] at k2
    exact k2
  · exact k.elim
theorem G_call_on {p : Program} {la : Launch} {e : Env} {R : Room} {s : State} {m : MethodId} {args : Array Value} {below : List Frame} {meth : Method} {c : Code} {H : Heap} {locs : List Loc} {cells slots cb cs : Nat} {lsA : Array Slot} {st0 rest : List Value} {a : Array Value} {Q1 : QT}
    (hr : va_Run p la e R s m args below meth c H locs cells slots cb cs (F0 m pc lsA st0) rest (Qm G Q1 a) (Fr G)) (hC : Cx G M p s m args meth c ∧ CC p la e R s m args below meth c) (h1 : d ≤ R.frames) (h2 : d * 64 ≤ R.locals) (h3 : cells + (bc + cb) ≤ R.cells) (h4 : slots + (bs + cs) ≤ R.slots) (hS : va_S (Fr G) s.heap H locs) (hL : lv_has lsA M.2.2.1 l)
    (hK : ∀ (v : Option Value) (h' : Hp), Q1 v h' → TG G CC ZZ d bc bs M (pc + 3) l (v.toList ++ rest) h') : W p la e R s m args below meth c H locs cells slots (ZZ R below args s) (F0 m pc lsA st0) := by
  intro X hX hst
  obtain ⟨v, st₀, t, X', L, e0, X1, hLs, e1, e2, ⟨⟨w, h', hv, hq, hRl⟩, hz, hk⟩, go⟩ := hr X hX hst
  cases hv
  rw [e0] at hz hk
  have hS1 : va_S (Fr G) s.heap X'.heap (locs ++ L) := ⟨Nat.le_trans hS.1 (by rw [e1]; exact hz), fun q q1 q2 => by rw [e1, hk q (Nat.lt_of_lt_of_le q1 hS.1) q2]; exact hS.2.1 q q1 q2, fun q hq => by
    rcases List.mem_append.mp hq with h | h
    · exact hS.2.2 q h
    · exact hLs q h⟩
  have k2 := hK v h' hq p la e R s m args below meth c X'.heap (locs ++ L) (cells + cb) (slots + cs) lsA hC h1 h2 (by omega) (by omega) (by rw [e1]; exact hRl) hS1 hL
  obtain ⟨t2, a1, b1⟩ := k2 X' rfl X1
  exact ⟨t2, go t2 a1, b1⟩
theorem G_callV {idx n cb cs ci : Nat} {M' : Mth} {r : vw_C} {As rest : List Value} {b : Nat} {fs : List Value} (hd : decode M.2.1 pc = .ok (.invokevirtual idx, 3)) (hc : clsA[ci]? = some r) (hnl : M'.2.2.1 ≤ 45) (hcode : Cond.code M'.1 M'.2.1 M'.2.2.1 M'.2.2.2 ∈ wsA) (hini : Cond.initialized M'.1.cls ∈ wsA) (hlink : Cond.methodLink M.1.cls idx M'.1 ∈ wsA) (hinst : Cond.instanceMethod M'.1 ∈ wsA) (hsel : Cond.selects r.1 M'.1 M'.1 ∈ wsA)
    (hy : M'.1.cls ≠ "java/lang/invoke/MethodHandle" ∧ M'.1.cls ≠ "java/lang/invoke/VarHandle" ∧ (parseMethodDescriptor M'.1.desc).map (fun d => d.parameters.length) = some n) (hz : z = As.reverse ++ .ref b :: rest) (hlen : As.length = n) (ha : h.2 b = some (.inl (ci, fs)))
    (hK : ∀ l z h, K l z h → TG G CC ZZ d bc bs M (pc + 3) l z h) (k : Cal G d cb cs M' (.ref b :: As) rest l h K) : TG G CC ZZ d (bc + cb) (bs + cs) M pc l z h := by
  obtain ⟨hcat, d', Q1, hdd, hM, k⟩ := k
  intro p la e R s m args below meth co H locs cells slots lsA hC h1 h2 h3 h4 hR hS hL
  have hts := hC.1.2.2.2.2.2.1
  subst hz
  exact G_call_on (va_runV (Ts := wsA) (own := M.1.cls) (C := r.1) (nL := M.2.2.1) ⟨hC.1.1, hC.1.2.1, hC.1.2.2.2.1, hC.1.2.2.2.2.1, hts⟩ (hM la) ⟨callB_T hts hdd h1 h2 hnl hcode hini hlink hy, hts _ hinst, hts _ hsel⟩ ⟨blindT, recv_T hC.1.2.2.2.2.2.2.2.2.1 hR ha hc, fun U hU hW => Pm.of hU hW hC.1.2.2.2.2.2.2.2.2 hS hR⟩ rfl hlen hL.1 rfl (lv_room hcat) hd ⟨by omega, by omega⟩) hC h1 h2 h3 h4 hS hL (fun v h' hq => hK _ _ _ (k v h' hq))
theorem G_callI {idx n cb cs : Nat} {M' : Mth} {As rest : List Value} {b : Nat} (hd : decode M.2.1 pc = .ok (.invokespecial idx, 3)) (hnl : M'.2.2.1 ≤ 45) (hr : M'.2.2.2 = none) (hcode : Cond.code M'.1 M'.2.1 M'.2.2.1 M'.2.2.2 ∈ wsA) (hini : Cond.initialized M'.1.cls ∈ wsA) (hlink : Cond.methodLink M.1.cls idx M'.1 ∈ wsA) (hinst : Cond.instanceMethod M'.1 ∈ wsA) (hnm : M'.1.name = "<init>")
    (hy : M'.1.cls ≠ "java/lang/invoke/MethodHandle" ∧ M'.1.cls ≠ "java/lang/invoke/VarHandle" ∧ (parseMethodDescriptor M'.1.desc).map (fun d => d.parameters.length) = some n) (hz : z = As.reverse ++ .ref b :: rest) (hlen : As.length = n)
    (hK : ∀ l z h, K l z h → TG G CC ZZ d bc bs M (pc + 3) l z h) (k : Cal G d cb cs M' (.ref b :: As) rest l h K) : TG G CC ZZ d (bc + cb) (bs + cs) M pc l z h := by
  obtain ⟨y, cc, nl, rt⟩ := M'
  have hr : rt = none := hr
  subst hr
  obtain ⟨hcat, d', Q1, hdd, hM, k⟩ := k
  intro p la e R s m args below meth co H locs cells slots lsA hC h1 h2 h3 h4 hR hS hL
  have hts := hC.1.2.2.2.2.2.1
  subst hz
  exact G_call_on (va_runI (Ts := wsA) (own := M.1.cls) (nL := M.2.2.1) ⟨hC.1.1, hC.1.2.1, hC.1.2.2.2.1, hC.1.2.2.2.2.1, hts⟩ (hM la) ⟨callB_T hts hdd h1 h2 hnl hcode hini hlink hy, hnm, hts _ hinst⟩ ⟨blindT, fun U hU hW => Pm.of hU hW hC.1.2.2.2.2.2.2.2.2 hS hR⟩ rfl hlen hL.1 rfl (lv_room hcat) hd ⟨by omega, by omega⟩) hC h1 h2 h3 h4 hS hL (fun v h' hq => hK _ _ _ (k v h' hq))
theorem G_ci0 {idx cb cs : Nat} {M' : Mth} (hd : decode M.2.1 pc = .ok (.invokespecial idx, 3)) (hnl : M'.2.2.1 ≤ 45) (hr : M'.2.2.2 = none) (hcode : Cond.code M'.1 M'.2.1 M'.2.2.1 M'.2.2.2 ∈ wsA) (hini : Cond.initialized M'.1.cls ∈ wsA) (hlink : Cond.methodLink M.1.cls idx M'.1 ∈ wsA) (hinst : Cond.instanceMethod M'.1 ∈ wsA) (hnm : M'.1.name = "<init>") (hy : M'.1.cls ≠ "java/lang/invoke/MethodHandle" ∧ M'.1.cls ≠ "java/lang/invoke/VarHandle" ∧ (parseMethodDescriptor M'.1.desc).map (fun d => d.parameters.length) = some 0) (hK : ∀ l z h, K l z h → TG G CC ZZ d bc bs M (pc + 3) l z h) (k : tCI0 G d cb cs M' K l z h) : TG G CC ZZ d (bc + cb) (bs + cs) M pc l z h := by
  unfold tCI0 at k
  split at k
  · rename_i b r
    exact G_callI (As := []) hd hnl hr hcode hini hlink hinst hnm hy rfl rfl hK k
  · exact k.elim
theorem G_cv0 {idx cb cs ci : Nat} {M' : Mth} {q : vw_C} (hd : decode M.2.1 pc = .ok (.invokevirtual idx, 3)) (hc : clsA[ci]? = some q) (hnl : M'.2.2.1 ≤ 45) (hcode : Cond.code M'.1 M'.2.1 M'.2.2.1 M'.2.2.2 ∈ wsA) (hini : Cond.initialized M'.1.cls ∈ wsA) (hlink : Cond.methodLink M.1.cls idx M'.1 ∈ wsA) (hinst : Cond.instanceMethod M'.1 ∈ wsA) (hsel : Cond.selects q.1 M'.1 M'.1 ∈ wsA) (hy : M'.1.cls ≠ "java/lang/invoke/MethodHandle" ∧ M'.1.cls ≠ "java/lang/invoke/VarHandle" ∧ (parseMethodDescriptor M'.1.desc).map (fun d => d.parameters.length) = some 0) (hK : ∀ l z h, K l z h → TG G CC ZZ d bc bs M (pc + 3) l z h) (k : tCV0 G d cb cs ci M' K l z h) : TG G CC ZZ d (bc + cb) (bs + cs) M pc l z h := by
  unfold tCV0 at k
  split at k
  · rename_i b r
    obtain ⟨⟨fs, ha⟩, k⟩ := k
    exact G_callV (As := []) hd hc hnl hcode hini hlink hinst hsel hy rfl rfl ha hK k
  · exact k.elim
theorem G_cv1 {idx cb cs ci : Nat} {M' : Mth} {q : vw_C} (hd : decode M.2.1 pc = .ok (.invokevirtual idx, 3)) (hc : clsA[ci]? = some q) (hnl : M'.2.2.1 ≤ 45) (hcode : Cond.code M'.1 M'.2.1 M'.2.2.1 M'.2.2.2 ∈ wsA) (hini : Cond.initialized M'.1.cls ∈ wsA) (hlink : Cond.methodLink M.1.cls idx M'.1 ∈ wsA) (hinst : Cond.instanceMethod M'.1 ∈ wsA) (hsel : Cond.selects q.1 M'.1 M'.1 ∈ wsA) (hy : M'.1.cls ≠ "java/lang/invoke/MethodHandle" ∧ M'.1.cls ≠ "java/lang/invoke/VarHandle" ∧ (parseMethodDescriptor M'.1.desc).map (fun d => d.parameters.length) = some 1) (hK : ∀ l z h, K l z h → TG G CC ZZ d bc bs M (pc + 3) l z h) (k : tCV1 G d cb cs ci M' K l z h) : TG G CC ZZ d (bc + cb) (bs + cs) M pc l z h := by
  unfold tCV1 at k
  split at k
  · rename_i a1 b r
    obtain ⟨⟨fs, ha⟩, k⟩ := k
    exact G_callV (As := [a1]) hd hc hnl hcode hini hlink hinst hsel hy rfl rfl ha hK k
  · exact k.elim
theorem G_cv2 {idx cb cs ci : Nat} {M' : Mth} {q : vw_C} (hd : decode M.2.1 pc = .ok (.invokevirtual idx, 3)) (hc : clsA[ci]? = some q) (hnl : M'.2.2.1 ≤ 45) (hcode : Cond.code M'.1 M'.2.1 M'.2.2.1 M'.2.2.2 ∈ wsA) (hini : Cond.initialized M'.1.cls ∈ wsA) (hlink : Cond.methodLink M.1.cls idx M'.1 ∈ wsA) (hinst : Cond.instanceMethod M'.1 ∈ wsA) (hsel : Cond.selects q.1 M'.1 M'.1 ∈ wsA) (hy : M'.1.cls ≠ "java/lang/invoke/MethodHandle" ∧ M'.1.cls ≠ "java/lang/invoke/VarHandle" ∧ (parseMethodDescriptor M'.1.desc).map (fun d => d.parameters.length) = some 2) (hK : ∀ l z h, K l z h → TG G CC ZZ d bc bs M (pc + 3) l z h) (k : tCV2 G d cb cs ci M' K l z h) : TG G CC ZZ d (bc + cb) (bs + cs) M pc l z h := by
  unfold tCV2 at k
  split at k
  · rename_i a2 a1 b r
    obtain ⟨⟨fs, ha⟩, k⟩ := k
    exact G_callV (As := [a1, a2]) hd hc hnl hcode hini hlink hinst hsel hy rfl rfl ha hK k
  · exact k.elim
theorem G_cv3 {idx cb cs ci : Nat} {M' : Mth} {q : vw_C} (hd : decode M.2.1 pc = .ok (.invokevirtual idx, 3)) (hc : clsA[ci]? = some q) (hnl : M'.2.2.1 ≤ 45) (hcode : Cond.code M'.1 M'.2.1 M'.2.2.1 M'.2.2.2 ∈ wsA) (hini : Cond.initialized M'.1.cls ∈ wsA) (hlink : Cond.methodLink M.1.cls idx M'.1 ∈ wsA) (hinst : Cond.instanceMethod M'.1 ∈ wsA) (hsel : Cond.selects q.1 M'.1 M'.1 ∈ wsA) (hy : M'.1.cls ≠ "java/lang/invoke/MethodHandle" ∧ M'.1.cls ≠ "java/lang/invoke/VarHandle" ∧ (parseMethodDescriptor M'.1.desc).map (fun d => d.parameters.length) = some 3) (hK : ∀ l z h, K l z h → TG G CC ZZ d bc bs M (pc + 3) l z h) (k : tCV3 G d cb cs ci M' K l z h) : TG G CC ZZ d (bc + cb) (bs + cs) M pc l z h := by
  unfold tCV3 at k
  split at k
  · rename_i a3 a2 a1 b r
    obtain ⟨⟨fs, ha⟩, k⟩ := k
    exact G_callV (As := [a1, a2, a3]) hd hc hnl hcode hini hlink hinst hsel hy rfl rfl ha hK k
  · exact k.elim
theorem G_cv4 {idx cb cs ci : Nat} {M' : Mth} {q : vw_C} (hd : decode M.2.1 pc = .ok (.invokevirtual idx, 3)) (hc : clsA[ci]? = some q) (hnl : M'.2.2.1 ≤ 45) (hcode : Cond.code M'.1 M'.2.1 M'.2.2.1 M'.2.2.2 ∈ wsA) (hini : Cond.initialized M'.1.cls ∈ wsA) (hlink : Cond.methodLink M.1.cls idx M'.1 ∈ wsA) (hinst : Cond.instanceMethod M'.1 ∈ wsA) (hsel : Cond.selects q.1 M'.1 M'.1 ∈ wsA) (hy : M'.1.cls ≠ "java/lang/invoke/MethodHandle" ∧ M'.1.cls ≠ "java/lang/invoke/VarHandle" ∧ (parseMethodDescriptor M'.1.desc).map (fun d => d.parameters.length) = some 4) (hK : ∀ l z h, K l z h → TG G CC ZZ d bc bs M (pc + 3) l z h) (k : tCV4 G d cb cs ci M' K l z h) : TG G CC ZZ d (bc + cb) (bs + cs) M pc l z h := by
  unfold tCV4 at k
  split at k
  · rename_i a4 a3 a2 a1 b r
    obtain ⟨⟨fs, ha⟩, k⟩ := k
    exact G_callV (As := [a1, a2, a3, a4]) hd hc hnl hcode hini hlink hinst hsel hy rfl rfl ha hK k
  · exact k.elim
theorem G_cv5 {idx cb cs ci : Nat} {M' : Mth} {q : vw_C} (hd : decode M.2.1 pc = .ok (.invokevirtual idx, 3)) (hc : clsA[ci]? = some q) (hnl : M'.2.2.1 ≤ 45) (hcode : Cond.code M'.1 M'.2.1 M'.2.2.1 M'.2.2.2 ∈ wsA) (hini : Cond.initialized M'.1.cls ∈ wsA) (hlink : Cond.methodLink M.1.cls idx M'.1 ∈ wsA) (hinst : Cond.instanceMethod M'.1 ∈ wsA) (hsel : Cond.selects q.1 M'.1 M'.1 ∈ wsA) (hy : M'.1.cls ≠ "java/lang/invoke/MethodHandle" ∧ M'.1.cls ≠ "java/lang/invoke/VarHandle" ∧ (parseMethodDescriptor M'.1.desc).map (fun d => d.parameters.length) = some 5) (hK : ∀ l z h, K l z h → TG G CC ZZ d bc bs M (pc + 3) l z h) (k : tCV5 G d cb cs ci M' K l z h) : TG G CC ZZ d (bc + cb) (bs + cs) M pc l z h := by
  unfold tCV5 at k
  split at k
  · rename_i a5 a4 a3 a2 a1 b r
    obtain ⟨⟨fs, ha⟩, k⟩ := k
    exact G_callV (As := [a1, a2, a3, a4, a5]) hd hc hnl hcode hini hlink hinst hsel hy rfl rfl ha hK k
  · exact k.elim
theorem G_table {F : Nat → KT} {v : Int32} {ts : List Nat} {td len : Nat} {dflt lo hi : Int} {offs : Array Int} (hd : decode M.2.1 pc = .ok (.tableswitch dflt lo hi offs, len)) (hlo : v.toInt = lo) (hhi : lo + ts.length = hi + 1) (hb : hi < 2 ^ 31 - 1) (ht : offs.toList.map (fun o => (pc : Int) + o) = ts.map Int.ofNat) (hdf : (pc : Int) + dflt = (td : Int))
    (hF : ∀ t l z h, F t l z h → TG G CC ZZ d bc bs M t l z h) (k : tSw v ts td F l z h) : TG G CC ZZ d bc bs M pc l z h := by
  unfold tSw at k
  split at k
  · rename_i x r
    intro p la e R s m args below meth co H locs cells slots lsA hC h1 h2 h3 h4 hR hS hL
    by_cases hx : x.toInt < lo ∨ hi < x.toInt
    · refine lv_tableOut hC.1.1 hC.1.2.1 hd hx hdf (hF _ _ _ _ ?_ p la e R s m args below meth co H locs cells slots lsA hC h1 h2 h3 h4 hR hS hL)
      exact tTab_out (v := v) (by rw [hlo]; omega) k (by rw [hlo]; omega)
    · have hj : ∃ t, ts[(x.toInt - lo).toNat]? = some t := by
        have : (x.toInt - lo).toNat < ts.length := by omega
        exact ⟨_, List.getElem?_eq_getElem this⟩
      obtain ⟨t, hj⟩ := hj
      have ho : ∃ off, offs[(x.toInt - lo).toNat]? = some off ∧ (pc : Int) + off = (t : Int) := by
        have h5 : (ts.map Int.ofNat)[(x.toInt - lo).toNat]? = some (t : Int) := by rw [List.getElem?_map, hj]; rfl
        rw [← ht, List.getElem?_map] at h5
        cases h6 : offs.toList[(x.toInt - lo).toNat]? with
        | none => rw [h6] at h5; cases h5
        | some off => rw [h6] at h5; exact ⟨off, by rw [← Array.getElem?_toList]; exact h6, Option.some.inj h5⟩
      obtain ⟨off, ho, h5⟩ := ho
      refine lv_tableIn hC.1.1 hC.1.2.1 hd (by omega) (by omega) ho h5 (hF _ _ _ _ ?_ p la e R s m args below meth co H locs cells slots lsA hC h1 h2 h3 h4 hR hS hL)
      exact tTab_in (v := v) (by rw [hlo]; omega) k hj (by rw [hlo]; omega)
  · exact k.elim
end RulesG

