/-! ===== instructions: a transformer and a rule each ===== -/
section RulesA
variable {G : Gt} {d bc bs : Nat} {M : Mth} {pc : Nat} {K : KT} {Q : QT} {l : Ls} {z : List Value} {h : Hp}
theorem k_false {P : Prop} (k : False) : P := k.elim
def tPush (v : Value) (K : KT) : KT := fun l z h => K l (v :: z) h
theorem R_iconst {n : Int} {v : Int32} (hd : decode M.2.1 pc = .ok (.iconst n, 1)) (hv : Int32.ofInt n = v) (hK : ∀ l z h, K l z h → T G d bc bs M (pc + 1) l z h Q) (k : tPush (.int v) K l z h) : T G d bc bs M pc l z h Q := by
  intro p la e R s m args below meth c H locs cells slots lsA hC h1 h2 h3 h4 hR hS hL
  exact lv_iconst hC.1 hC.2.1 hd hv (hK _ _ _ k p la e R s m args below meth c H locs cells slots lsA hC h1 h2 h3 h4 hR hS hL)
theorem R_bipush {n : Int} {v : Int32} (hd : decode M.2.1 pc = .ok (.bipush n, 2)) (hv : (Int8.ofInt n).toInt32 = v) (hK : ∀ l z h, K l z h → T G d bc bs M (pc + 2) l z h Q) (k : tPush (.int v) K l z h) : T G d bc bs M pc l z h Q := by
  intro p la e R s m args below meth c H locs cells slots lsA hC h1 h2 h3 h4 hR hS hL
  exact lv_bipush hC.1 hC.2.1 hd hv (hK _ _ _ k p la e R s m args below meth c H locs cells slots lsA hC h1 h2 h3 h4 hR hS hL)
theorem R_sipush {n : Int} {v : Int32} (hd : decode M.2.1 pc = .ok (.sipush n, 3)) (hv : (Int16.ofInt n).toInt32 = v) (hK : ∀ l z h, K l z h → T G d bc bs M (pc + 3) l z h Q) (k : tPush (.int v) K l z h) : T G d bc bs M pc l z h Q := by
  intro p la e R s m args below meth c H locs cells slots lsA hC h1 h2 h3 h4 hR hS hL
  exact lv_sipush hC.1 hC.2.1 hd hv (hK _ _ _ k p la e R s m args below meth c H locs cells slots lsA hC h1 h2 h3 h4 hR hS hL)
theorem R_lconst {n : Fin 2} {v : Int64} (hd : decode M.2.1 pc = .ok (.lconst n, 1)) (hv : Int64.ofNat (n : Nat) = v) (hK : ∀ l z h, K l z h → T G d bc bs M (pc + 1) l z h Q) (k : tPush (.long v) K l z h) : T G d bc bs M pc l z h Q := by
  intro p la e R s m args below meth c H locs cells slots lsA hC h1 h2 h3 h4 hR hS hL
  exact lv_lconst hC.1 hC.2.1 hd hv (hK _ _ _ k p la e R s m args below meth c H locs cells slots lsA hC h1 h2 h3 h4 hR hS hL)
theorem R_null (hd : decode M.2.1 pc = .ok (.aconst_null, 1)) (hK : ∀ l z h, K l z h → T G d bc bs M (pc + 1) l z h Q) (k : tPush .null K l z h) : T G d bc bs M pc l z h Q := by
  intro p la e R s m args below meth c H locs cells slots lsA hC h1 h2 h3 h4 hR hS hL
  exact lv_null hC.1 hC.2.1 hd (hK _ _ _ k p la e R s m args below meth c H locs cells slots lsA hC h1 h2 h3 h4 hR hS hL)
theorem R_ldc {i : Nat} {v : Int32} (hd : decode M.2.1 pc = .ok (.ldc i, 2)) (hw : Cond.constant M.1.cls i v ∈ wsA) (hK : ∀ l z h, K l z h → T G d bc bs M (pc + 2) l z h Q) (k : tPush (.int v) K l z h) : T G d bc bs M pc l z h Q := by
  intro p la e R s m args below meth c H locs cells slots lsA hC h1 h2 h3 h4 hR hS hL
  exact lv_ldc hC.1 hC.2.1 hC.2.2.2.2.1 (hC.2.2.2.2.2.1 _ hw) hd (hK _ _ _ k p la e R s m args below meth c H locs cells slots lsA hC h1 h2 h3 h4 hR hS hL)
theorem R_ldcw {i : Nat} {v : Int32} (hd : decode M.2.1 pc = .ok (.ldc_w i, 3)) (hw : Cond.constant M.1.cls i v ∈ wsA) (hK : ∀ l z h, K l z h → T G d bc bs M (pc + 3) l z h Q) (k : tPush (.int v) K l z h) : T G d bc bs M pc l z h Q := by
  intro p la e R s m args below meth c H locs cells slots lsA hC h1 h2 h3 h4 hR hS hL
  exact lv_ldcw hC.1 hC.2.1 hC.2.2.2.2.1 (hC.2.2.2.2.2.1 _ hw) hd (hK _ _ _ k p la e R s m args below meth c H locs cells slots lsA hC h1 h2 h3 h4 hR hS hL)
theorem R_ldc2 {i : Nat} {v : Int64} (hd : decode M.2.1 pc = .ok (.ldc2_w i, 3)) (hw : Cond.constantLong M.1.cls i v ∈ wsA) (hK : ∀ l z h, K l z h → T G d bc bs M (pc + 3) l z h Q) (k : tPush (.long v) K l z h) : T G d bc bs M pc l z h Q := by
  intro p la e R s m args below meth c H locs cells slots lsA hC h1 h2 h3 h4 hR hS hL
  exact lv_ldc2 hC.1 hC.2.1 hC.2.2.2.2.1 (hC.2.2.2.2.2.1 _ hw) hd (hK _ _ _ k p la e R s m args below meth c H locs cells slots lsA hC h1 h2 h3 h4 hR hS hL)
def tIld (i : Nat) (K : KT) : KT := fun l z h => match lk l i with
  | some (.int x) => K l (.int x :: z) h
  | _ => False
def tLld (i : Nat) (K : KT) : KT := fun l z h => match lk l i with
  | some (.long x) => K l (.long x :: z) h
  | _ => False
def tAld (i : Nat) (K : KT) : KT := fun l z h => match lk l i with
  | some (.ref x) => K l (.ref x :: z) h
  | some .null => K l (.null :: z) h
  | _ => False
theorem R_iload_n {j : Fin 4} {i : Nat} (hd : decode M.2.1 pc = .ok (.iload_n j, 1)) (hi : (j : Nat) = i) (hK : ∀ l z h, K l z h → T G d bc bs M (pc + 1) l z h Q) (k : tIld i K l z h) : T G d bc bs M pc l z h Q := by
  unfold tIld at k
  split at k
  · rename_i x hx
    intro p la e R s m args below meth c H locs cells slots lsA hC h1 h2 h3 h4 hR hS hL
    exact lv_iload_n hC.1 hC.2.1 hd hi (hL.2.2 _ (lk_mem hx)) (hK _ _ _ k p la e R s m args below meth c H locs cells slots lsA hC h1 h2 h3 h4 hR hS hL)
  · exact k.elim
theorem R_iload {i : Nat} (hd : decode M.2.1 pc = .ok (.iload i, 2)) (hK : ∀ l z h, K l z h → T G d bc bs M (pc + 2) l z h Q) (k : tIld i K l z h) : T G d bc bs M pc l z h Q := by
  unfold tIld at k
  split at k
  · rename_i x hx
    intro p la e R s m args below meth c H locs cells slots lsA hC h1 h2 h3 h4 hR hS hL
    exact lv_iload hC.1 hC.2.1 hd (hL.2.2 _ (lk_mem hx)) (hK _ _ _ k p la e R s m args below meth c H locs cells slots lsA hC h1 h2 h3 h4 hR hS hL)
  · exact k.elim
theorem R_lload_n {j : Fin 4} {i : Nat} (hd : decode M.2.1 pc = .ok (.lload_n j, 1)) (hi : (j : Nat) = i) (hK : ∀ l z h, K l z h → T G d bc bs M (pc + 1) l z h Q) (k : tLld i K l z h) : T G d bc bs M pc l z h Q := by
  unfold tLld at k
  split at k
  · rename_i x hx
    intro p la e R s m args below meth c H locs cells slots lsA hC h1 h2 h3 h4 hR hS hL
    exact lv_lload_n hC.1 hC.2.1 hd hi (hL.2.2 _ (lk_mem hx)) (hK _ _ _ k p la e R s m args below meth c H locs cells slots lsA hC h1 h2 h3 h4 hR hS hL)
  · exact k.elim
theorem R_lload {i : Nat} (hd : decode M.2.1 pc = .ok (.lload i, 2)) (hK : ∀ l z h, K l z h → T G d bc bs M (pc + 2) l z h Q) (k : tLld i K l z h) : T G d bc bs M pc l z h Q := by
  unfold tLld at k
  split at k
  · rename_i x hx
    intro p la e R s m args below meth c H locs cells slots lsA hC h1 h2 h3 h4 hR hS hL
    exact lv_lload hC.1 hC.2.1 hd (hL.2.2 _ (lk_mem hx)) (hK _ _ _ k p la e R s m args below meth c H locs cells slots lsA hC h1 h2 h3 h4 hR hS hL)
  · exact k.elim
theorem R_aload_n {j : Fin 4} {i : Nat} (hd : decode M.2.1 pc = .ok (.aload_n j, 1)) (hi : (j : Nat) = i) (hK : ∀ l z h, K l z h → T G d bc bs M (pc + 1) l z h Q) (k : tAld i K l z h) : T G d bc bs M pc l z h Q := by
  unfold tAld at k
  split at k
  · rename_i x hx
    intro p la e R s m args below meth c H locs cells slots lsA hC h1 h2 h3 h4 hR hS hL
    exact lv_aload_n hC.1 hC.2.1 hd hi (hL.2.2 _ (lk_mem hx)) (hK _ _ _ k p la e R s m args below meth c H locs cells slots lsA hC h1 h2 h3 h4 hR hS hL)
  · rename_i hx
    intro p la e R s m args below meth c H locs cells slots lsA hC h1 h2 h3 h4 hR hS hL
    exact lv_aload_nN hC.1 hC.2.1 hd hi (hL.2.2 _ (lk_mem hx)) (hK _ _ _ k p la e R s m args below meth c H locs cells slots lsA hC h1 h2 h3 h4 hR hS hL)
  · exact k.elim
theorem R_aload {i : Nat} (hd : decode M.2.1 pc = .ok (.aload i, 2)) (hK : ∀ l z h, K l z h → T G d bc bs M (pc + 2) l z h Q) (k : tAld i K l z h) : T G d bc bs M pc l z h Q := by
  unfold tAld at k
  split at k
  · rename_i x hx
    intro p la e R s m args below meth c H locs cells slots lsA hC h1 h2 h3 h4 hR hS hL
    exact lv_aload hC.1 hC.2.1 hd (hL.2.2 _ (lk_mem hx)) (hK _ _ _ k p la e R s m args below meth c H locs cells slots lsA hC h1 h2 h3 h4 hR hS hL)
  · rename_i hx
    intro p la e R s m args below meth c H locs cells slots lsA hC h1 h2 h3 h4 hR hS hL
    exact lv_aloadN hC.1 hC.2.1 hd (hL.2.2 _ (lk_mem hx)) (hK _ _ _ k p la e R s m args below meth c H locs cells slots lsA hC h1 h2 h3 h4 hR hS hL)
  · exact k.elim
def tIst (i : Nat) (K : KT) : KT := fun l z h => match z with
  | .int x :: r => K (sto1 l i (.int x)) r h
  | _ => False
def tAst (i : Nat) (K : KT) : KT := fun l z h => match z with
  | .ref x :: r => K (sto1 l i (.ref x)) r h
  | .null :: r => K (sto1 l i .null) r h
  | _ => False
def tLst (i : Nat) (K : KT) : KT := fun l z h => match z with
  | .long x :: r => K (sto2 l i (.long x)) r h
  | _ => False
theorem R_istore_n {j : Fin 4} {i : Nat} (hd : decode M.2.1 pc = .ok (.istore_n j, 1)) (hi : (j : Nat) = i) (hb : i < M.2.2.1) (hK : ∀ l z h, K l z h → T G d bc bs M (pc + 1) l z h Q) (k : tIst i K l z h) : T G d bc bs M pc l z h Q := by
  unfold tIst at k
  split at k
  · intro p la e R s m args below meth c H locs cells slots lsA hC h1 h2 h3 h4 hR hS hL
    exact lv_istore_n hC.1 hC.2.1 hd hi hL hb rfl (fun ls2 hL => hK _ _ _ k p la e R s m args below meth c H locs cells slots ls2 hC h1 h2 h3 h4 hR hS (hL.mono fun q hq => sto1_mem hq))
  · exact k.elim
theorem R_lstore_n {j : Fin 4} {i : Nat} (hd : decode M.2.1 pc = .ok (.lstore_n j, 1)) (hi : (j : Nat) = i) (hb : i + 1 < M.2.2.1) (hK : ∀ l z h, K l z h → T G d bc bs M (pc + 1) l z h Q) (k : tLst i K l z h) : T G d bc bs M pc l z h Q := by
  unfold tLst at k
  split at k
  · intro p la e R s m args below meth c H locs cells slots lsA hC h1 h2 h3 h4 hR hS hL
    exact lv_lstore_n hC.1 hC.2.1 hd hi hL hb rfl (fun ls2 hL => hK _ _ _ k p la e R s m args below meth c H locs cells slots ls2 hC h1 h2 h3 h4 hR hS hL)
  · exact k.elim
theorem R_astore_n {j : Fin 4} {i : Nat} (hd : decode M.2.1 pc = .ok (.astore_n j, 1)) (hi : (j : Nat) = i) (hb : i < M.2.2.1) (hK : ∀ l z h, K l z h → T G d bc bs M (pc + 1) l z h Q) (k : tAst i K l z h) : T G d bc bs M pc l z h Q := by
  unfold tAst at k
  split at k
  · intro p la e R s m args below meth c H locs cells slots lsA hC h1 h2 h3 h4 hR hS hL
    exact lv_astore_n hC.1 hC.2.1 hd hi hL hb rfl (fun ls2 hL => hK _ _ _ k p la e R s m args below meth c H locs cells slots ls2 hC h1 h2 h3 h4 hR hS (hL.mono fun q hq => sto1_mem hq))
  · intro p la e R s m args below meth c H locs cells slots lsA hC h1 h2 h3 h4 hR hS hL
    exact lv_astore_nN hC.1 hC.2.1 hd hi hL hb rfl (fun ls2 hL => hK _ _ _ k p la e R s m args below meth c H locs cells slots ls2 hC h1 h2 h3 h4 hR hS (hL.mono fun q hq => sto1_mem hq))
  · exact k.elim
theorem R_istore {i : Nat} (hd : decode M.2.1 pc = .ok (.istore i, 2)) (hb : i < M.2.2.1) (hK : ∀ l z h, K l z h → T G d bc bs M (pc + 2) l z h Q) (k : tIst i K l z h) : T G d bc bs M pc l z h Q := by
  unfold tIst at k
  split at k
  · intro p la e R s m args below meth c H locs cells slots lsA hC h1 h2 h3 h4 hR hS hL
    exact lv_istore hC.1 hC.2.1 hd hL hb rfl (fun ls2 hL => hK _ _ _ k p la e R s m args below meth c H locs cells slots ls2 hC h1 h2 h3 h4 hR hS (hL.mono fun q hq => sto1_mem hq))
  · exact k.elim
theorem R_lstore {i : Nat} (hd : decode M.2.1 pc = .ok (.lstore i, 2)) (hb : i + 1 < M.2.2.1) (hK : ∀ l z h, K l z h → T G d bc bs M (pc + 2) l z h Q) (k : tLst i K l z h) : T G d bc bs M pc l z h Q := by
  unfold tLst at k
  split at k
  · intro p la e R s m args below meth c H locs cells slots lsA hC h1 h2 h3 h4 hR hS hL
    exact lv_lstore hC.1 hC.2.1 hd hL hb rfl (fun ls2 hL => hK _ _ _ k p la e R s m args below meth c H locs cells slots ls2 hC h1 h2 h3 h4 hR hS hL)
  · exact k.elim
theorem R_astore {i : Nat} (hd : decode M.2.1 pc = .ok (.astore i, 2)) (hb : i < M.2.2.1) (hK : ∀ l z h, K l z h → T G d bc bs M (pc + 2) l z h Q) (k : tAst i K l z h) : T G d bc bs M pc l z h Q := by
  unfold tAst at k
  split at k
  · intro p la e R s m args below meth c H locs cells slots lsA hC h1 h2 h3 h4 hR hS hL
    exact lv_astore hC.1 hC.2.1 hd hL hb rfl (fun ls2 hL => hK _ _ _ k p la e R s m args below meth c H locs cells slots ls2 hC h1 h2 h3 h4 hR hS (hL.mono fun q hq => sto1_mem hq))
  · intro p la e R s m args below meth c H locs cells slots lsA hC h1 h2 h3 h4 hR hS hL
    exact lv_astoreN hC.1 hC.2.1 hd hL hb rfl (fun ls2 hL => hK _ _ _ k p la e R s m args below meth c H locs cells slots ls2 hC h1 h2 h3 h4 hR hS (hL.mono fun q hq => sto1_mem hq))
  · exact k.elim
def tInc (i : Nat) (n : Int32) (K : KT) : KT := fun l z h => match lk l i with
  | some (.int x) => K (sto1 l i (.int (x + n))) z h
  | _ => False
theorem R_iinc {i : Nat} {n : Int} {v : Int32} (hd : decode M.2.1 pc = .ok (.iinc i n, 3)) (hv : Int32.ofInt n = v) (hb : i < M.2.2.1) (hK : ∀ l z h, K l z h → T G d bc bs M (pc + 3) l z h Q) (k : tInc i v K l z h) : T G d bc bs M pc l z h Q := by
  unfold tInc at k
  split at k
  · rename_i x hx
    intro p la e R s m args below meth c H locs cells slots lsA hC h1 h2 h3 h4 hR hS hL
    obtain ⟨j, hj⟩ := List.getElem?_of_mem (lk_mem hx)
    exact lv_iinc (v := x + v) hC.1 hC.2.1 hd hL (k := j) hj (by rw [hv]) hb rfl (fun ls2 hL => hK _ _ _ k p la e R s m args below meth c H locs cells slots ls2 hC h1 h2 h3 h4 hR hS (hL.mono fun q hq => sto1_mem hq))
  · exact k.elim
def tB (f : Int32 → Int32 → Int32) (K : KT) : KT := fun l z h => match z with
  | .int y :: .int x :: r => K l (.int (f x y) :: r) h
  | _ => False
def tBn (f : Int32 → Int32 → Int32) (K : KT) : KT := fun l z h => match z with
  | .int y :: .int x :: r => ¬ y = 0 ∧ K l (.int (f x y) :: r) h
  | _ => False
def tU (f : Int32 → Int32) (K : KT) : KT := fun l z h => match z with
  | .int x :: r => K l (.int (f x) :: r) h
  | _ => False
theorem R_iadd (hd : decode M.2.1 pc = .ok (.iadd, 1)) (hK : ∀ l z h, K l z h → T G d bc bs M (pc + 1) l z h Q) (k : tB (fun x y => x + y) K l z h) : T G d bc bs M pc l z h Q := by
  unfold tB at k
  split at k
  · intro p la e R s m args below meth c H locs cells slots lsA hC h1 h2 h3 h4 hR hS hL
    exact lv_iadd hC.1 hC.2.1 hd (hK _ _ _ k p la e R s m args below meth c H locs cells slots lsA hC h1 h2 h3 h4 hR hS hL)
  · exact k.elim
theorem R_isub (hd : decode M.2.1 pc = .ok (.isub, 1)) (hK : ∀ l z h, K l z h → T G d bc bs M (pc + 1) l z h Q) (k : tB (fun x y => x - y) K l z h) : T G d bc bs M pc l z h Q := by
  unfold tB at k
  split at k
  · intro p la e R s m args below meth c H locs cells slots lsA hC h1 h2 h3 h4 hR hS hL
    exact lv_isub hC.1 hC.2.1 hd (hK _ _ _ k p la e R s m args below meth c H locs cells slots lsA hC h1 h2 h3 h4 hR hS hL)
  · exact k.elim
theorem R_imul (hd : decode M.2.1 pc = .ok (.imul, 1)) (hK : ∀ l z h, K l z h → T G d bc bs M (pc + 1) l z h Q) (k : tB (fun x y => x * y) K l z h) : T G d bc bs M pc l z h Q := by
  unfold tB at k
  split at k
  · intro p la e R s m args below meth c H locs cells slots lsA hC h1 h2 h3 h4 hR hS hL
    exact lv_imul hC.1 hC.2.1 hd (hK _ _ _ k p la e R s m args below meth c H locs cells slots lsA hC h1 h2 h3 h4 hR hS hL)
  · exact k.elim
theorem R_iand (hd : decode M.2.1 pc = .ok (.iand, 1)) (hK : ∀ l z h, K l z h → T G d bc bs M (pc + 1) l z h Q) (k : tB (fun x y => x &&& y) K l z h) : T G d bc bs M pc l z h Q := by
  unfold tB at k
  split at k
  · intro p la e R s m args below meth c H locs cells slots lsA hC h1 h2 h3 h4 hR hS hL
    exact lv_iand hC.1 hC.2.1 hd (hK _ _ _ k p la e R s m args below meth c H locs cells slots lsA hC h1 h2 h3 h4 hR hS hL)
  · exact k.elim
theorem R_ior (hd : decode M.2.1 pc = .ok (.ior, 1)) (hK : ∀ l z h, K l z h → T G d bc bs M (pc + 1) l z h Q) (k : tB (fun x y => x ||| y) K l z h) : T G d bc bs M pc l z h Q := by
  unfold tB at k
  split at k
  · intro p la e R s m args below meth c H locs cells slots lsA hC h1 h2 h3 h4 hR hS hL
    exact lv_ior hC.1 hC.2.1 hd (hK _ _ _ k p la e R s m args below meth c H locs cells slots lsA hC h1 h2 h3 h4 hR hS hL)
  · exact k.elim
theorem R_ixor (hd : decode M.2.1 pc = .ok (.ixor, 1)) (hK : ∀ l z h, K l z h → T G d bc bs M (pc + 1) l z h Q) (k : tB (fun x y => x ^^^ y) K l z h) : T G d bc bs M pc l z h Q := by
  unfold tB at k
  split at k
  · intro p la e R s m args below meth c H locs cells slots lsA hC h1 h2 h3 h4 hR hS hL
    exact lv_ixor hC.1 hC.2.1 hd (hK _ _ _ k p la e R s m args below meth c H locs cells slots lsA hC h1 h2 h3 h4 hR hS hL)
  · exact k.elim
theorem R_ishl (hd : decode M.2.1 pc = .ok (.ishl, 1)) (hK : ∀ l z h, K l z h → T G d bc bs M (pc + 1) l z h Q) (k : tB (fun x y => x <<< (y &&& 31)) K l z h) : T G d bc bs M pc l z h Q := by
  unfold tB at k
  split at k
  · intro p la e R s m args below meth c H locs cells slots lsA hC h1 h2 h3 h4 hR hS hL
    exact lv_ishl hC.1 hC.2.1 hd (hK _ _ _ k p la e R s m args below meth c H locs cells slots lsA hC h1 h2 h3 h4 hR hS hL)
  · exact k.elim
theorem R_ishr (hd : decode M.2.1 pc = .ok (.ishr, 1)) (hK : ∀ l z h, K l z h → T G d bc bs M (pc + 1) l z h Q) (k : tB (fun x y => x >>> (y &&& 31)) K l z h) : T G d bc bs M pc l z h Q := by
  unfold tB at k
  split at k
  · intro p la e R s m args below meth c H locs cells slots lsA hC h1 h2 h3 h4 hR hS hL
    exact lv_ishr hC.1 hC.2.1 hd (hK _ _ _ k p la e R s m args below meth c H locs cells slots lsA hC h1 h2 h3 h4 hR hS hL)
  · exact k.elim
theorem R_iushr (hd : decode M.2.1 pc = .ok (.iushr, 1)) (hK : ∀ l z h, K l z h → T G d bc bs M (pc + 1) l z h Q) (k : tB (fun x y => (x.toUInt32 >>> (y.toUInt32 &&& Int32.toUInt32 31)).toInt32) K l z h) : T G d bc bs M pc l z h Q := by
  unfold tB at k
  split at k
  · intro p la e R s m args below meth c H locs cells slots lsA hC h1 h2 h3 h4 hR hS hL
    exact lv_iushr hC.1 hC.2.1 hd rfl (hK _ _ _ k p la e R s m args below meth c H locs cells slots lsA hC h1 h2 h3 h4 hR hS hL)
  · exact k.elim
theorem R_idiv (hd : decode M.2.1 pc = .ok (.idiv, 1)) (hK : ∀ l z h, K l z h → T G d bc bs M (pc + 1) l z h Q) (k : tBn (fun x y => x / y) K l z h) : T G d bc bs M pc l z h Q := by
  unfold tBn at k
  split at k
  · intro p la e R s m args below meth c H locs cells slots lsA hC h1 h2 h3 h4 hR hS hL
    exact lv_idiv hC.1 hC.2.1 hd k.1 (hK _ _ _ k.2 p la e R s m args below meth c H locs cells slots lsA hC h1 h2 h3 h4 hR hS hL)
  · exact k.elim
theorem R_irem (hd : decode M.2.1 pc = .ok (.irem, 1)) (hK : ∀ l z h, K l z h → T G d bc bs M (pc + 1) l z h Q) (k : tBn (fun x y => x - x / y * y) K l z h) : T G d bc bs M pc l z h Q := by
  unfold tBn at k
  split at k
  · intro p la e R s m args below meth c H locs cells slots lsA hC h1 h2 h3 h4 hR hS hL
    exact lv_irem hC.1 hC.2.1 hd k.1 (hK _ _ _ k.2 p la e R s m args below meth c H locs cells slots lsA hC h1 h2 h3 h4 hR hS hL)
  · exact k.elim
theorem R_ineg (hd : decode M.2.1 pc = .ok (.ineg, 1)) (hK : ∀ l z h, K l z h → T G d bc bs M (pc + 1) l z h Q) (k : tU (fun x => -x) K l z h) : T G d bc bs M pc l z h Q := by
  unfold tU at k
  split at k
  · intro p la e R s m args below meth c H locs cells slots lsA hC h1 h2 h3 h4 hR hS hL
    exact lv_ineg hC.1 hC.2.1 hd (hK _ _ _ k p la e R s m args below meth c H locs cells slots lsA hC h1 h2 h3 h4 hR hS hL)
  · exact k.elim
theorem R_i2c (hd : decode M.2.1 pc = .ok (.i2c, 1)) (hK : ∀ l z h, K l z h → T G d bc bs M (pc + 1) l z h Q) (k : tU (fun x => (x.toUInt32 % 65536).toInt32) K l z h) : T G d bc bs M pc l z h Q := by
  unfold tU at k
  split at k
  · intro p la e R s m args below meth c H locs cells slots lsA hC h1 h2 h3 h4 hR hS hL
    exact lv_i2c hC.1 hC.2.1 hd rfl (hK _ _ _ k p la e R s m args below meth c H locs cells slots lsA hC h1 h2 h3 h4 hR hS hL)
  · exact k.elim
def tLB (f : Int64 → Int64 → Int64) (K : KT) : KT := fun l z h => match z with
  | .long y :: .long x :: r => K l (.long (f x y) :: r) h
  | _ => False
def tLBn (f : Int64 → Int64 → Int64) (K : KT) : KT := fun l z h => match z with
  | .long y :: .long x :: r => ¬ y = 0 ∧ K l (.long (f x y) :: r) h
  | _ => False
def tLS (f : Int64 → Int32 → Int64) (K : KT) : KT := fun l z h => match z with
  | .int y :: .long x :: r => K l (.long (f x y) :: r) h
  | _ => False
theorem R_ladd (hd : decode M.2.1 pc = .ok (.ladd, 1)) (hK : ∀ l z h, K l z h → T G d bc bs M (pc + 1) l z h Q) (k : tLB (fun x y => x + y) K l z h) : T G d bc bs M pc l z h Q := by
  unfold tLB at k
  split at k
  · intro p la e R s m args below meth c H locs cells slots lsA hC h1 h2 h3 h4 hR hS hL
    exact lv_ladd hC.1 hC.2.1 hd (hK _ _ _ k p la e R s m args below meth c H locs cells slots lsA hC h1 h2 h3 h4 hR hS hL)
  · exact k.elim
theorem R_lsub (hd : decode M.2.1 pc = .ok (.lsub, 1)) (hK : ∀ l z h, K l z h → T G d bc bs M (pc + 1) l z h Q) (k : tLB (fun x y => x - y) K l z h) : T G d bc bs M pc l z h Q := by
  unfold tLB at k
  split at k
  · intro p la e R s m args below meth c H locs cells slots lsA hC h1 h2 h3 h4 hR hS hL
    exact lv_lsub hC.1 hC.2.1 hd (hK _ _ _ k p la e R s m args below meth c H locs cells slots lsA hC h1 h2 h3 h4 hR hS hL)
  · exact k.elim
theorem R_lmul (hd : decode M.2.1 pc = .ok (.lmul, 1)) (hK : ∀ l z h, K l z h → T G d bc bs M (pc + 1) l z h Q) (k : tLB (fun x y => x * y) K l z h) : T G d bc bs M pc l z h Q := by
  unfold tLB at k
  split at k
  · intro p la e R s m args below meth c H locs cells slots lsA hC h1 h2 h3 h4 hR hS hL
    exact lv_lmul hC.1 hC.2.1 hd (hK _ _ _ k p la e R s m args below meth c H locs cells slots lsA hC h1 h2 h3 h4 hR hS hL)
  · exact k.elim
theorem R_ldiv (hd : decode M.2.1 pc = .ok (.ldiv, 1)) (hK : ∀ l z h, K l z h → T G d bc bs M (pc + 1) l z h Q) (k : tLBn (fun x y => x / y) K l z h) : T G d bc bs M pc l z h Q := by
  unfold tLBn at k
  split at k
  · intro p la e R s m args below meth c H locs cells slots lsA hC h1 h2 h3 h4 hR hS hL
    exact lv_ldiv hC.1 hC.2.1 hd k.1 (hK _ _ _ k.2 p la e R s m args below meth c H locs cells slots lsA hC h1 h2 h3 h4 hR hS hL)
  · exact k.elim
theorem R_lrem (hd : decode M.2.1 pc = .ok (.lrem, 1)) (hK : ∀ l z h, K l z h → T G d bc bs M (pc + 1) l z h Q) (k : tLBn (fun x y => x - x / y * y) K l z h) : T G d bc bs M pc l z h Q := by
  unfold tLBn at k
  split at k
  · intro p la e R s m args below meth c H locs cells slots lsA hC h1 h2 h3 h4 hR hS hL
    exact lv_lrem hC.1 hC.2.1 hd k.1 (hK _ _ _ k.2 p la e R s m args below meth c H locs cells slots lsA hC h1 h2 h3 h4 hR hS hL)
  · exact k.elim
theorem R_lshl (hd : decode M.2.1 pc = .ok (.lshl, 1)) (hK : ∀ l z h, K l z h → T G d bc bs M (pc + 1) l z h Q) (k : tLS (fun x y => x <<< (y.toInt64 &&& 63)) K l z h) : T G d bc bs M pc l z h Q := by
  unfold tLS at k
  split at k
  · intro p la e R s m args below meth c H locs cells slots lsA hC h1 h2 h3 h4 hR hS hL
    exact lv_lshl hC.1 hC.2.1 hd rfl (hK _ _ _ k p la e R s m args below meth c H locs cells slots lsA hC h1 h2 h3 h4 hR hS hL)
  · exact k.elim
theorem R_lshr (hd : decode M.2.1 pc = .ok (.lshr, 1)) (hK : ∀ l z h, K l z h → T G d bc bs M (pc + 1) l z h Q) (k : tLS (fun x y => x >>> (y.toInt64 &&& 63)) K l z h) : T G d bc bs M pc l z h Q := by
  unfold tLS at k
  split at k
  · intro p la e R s m args below meth c H locs cells slots lsA hC h1 h2 h3 h4 hR hS hL
    exact lv_lshr hC.1 hC.2.1 hd rfl (hK _ _ _ k p la e R s m args below meth c H locs cells slots lsA hC h1 h2 h3 h4 hR hS hL)
  · exact k.elim
def tI2l (K : KT) : KT := fun l z h => match z with
  | .int x :: r => K l (.long x.toInt64 :: r) h
  | _ => False
def tL2i (K : KT) : KT := fun l z h => match z with
  | .long x :: r => K l (.int x.toInt32 :: r) h
  | _ => False
def tLcmp (K : KT) : KT := fun l z h => match z with
  | .long y :: .long x :: r => K l (.int (lg_cmp x y) :: r) h
  | _ => False
theorem R_i2l (hd : decode M.2.1 pc = .ok (.i2l, 1)) (hK : ∀ l z h, K l z h → T G d bc bs M (pc + 1) l z h Q) (k : tI2l K l z h) : T G d bc bs M pc l z h Q := by
  unfold tI2l at k
  split at k
  · intro p la e R s m args below meth c H locs cells slots lsA hC h1 h2 h3 h4 hR hS hL
    exact lv_i2l hC.1 hC.2.1 hd rfl (hK _ _ _ k p la e R s m args below meth c H locs cells slots lsA hC h1 h2 h3 h4 hR hS hL)
  · exact k.elim
theorem R_l2i (hd : decode M.2.1 pc = .ok (.l2i, 1)) (hK : ∀ l z h, K l z h → T G d bc bs M (pc + 1) l z h Q) (k : tL2i K l z h) : T G d bc bs M pc l z h Q := by
  unfold tL2i at k
  split at k
  · intro p la e R s m args below meth c H locs cells slots lsA hC h1 h2 h3 h4 hR hS hL
    exact lv_l2i hC.1 hC.2.1 hd rfl (hK _ _ _ k p la e R s m args below meth c H locs cells slots lsA hC h1 h2 h3 h4 hR hS hL)
  · exact k.elim
theorem R_lcmp (hd : decode M.2.1 pc = .ok (.lcmp, 1)) (hK : ∀ l z h, K l z h → T G d bc bs M (pc + 1) l z h Q) (k : tLcmp K l z h) : T G d bc bs M pc l z h Q := by
  unfold tLcmp at k
  split at k
  · intro p la e R s m args below meth c H locs cells slots lsA hC h1 h2 h3 h4 hR hS hL
    exact W.lcmp hC.1 hC.2.1 hd (hK _ _ _ k p la e R s m args below meth c H locs cells slots lsA hC h1 h2 h3 h4 hR hS hL)
  · exact k.elim
def tDup (K : KT) : KT := fun l z h => match z with
  | v :: r => v.category = 1 ∧ K l (v :: v :: r) h
  | _ => False
def tPop (K : KT) : KT := fun l z h => match z with
  | v :: r => v.category = 1 ∧ K l r h
  | _ => False
def tDup2 (K : KT) : KT := fun l z h => match z with
  | v :: w :: r => v.category = 1 ∧ w.category = 1 ∧ K l (v :: w :: v :: w :: r) h
  | _ => False
def tDupx1 (K : KT) : KT := fun l z h => match z with
  | v :: w :: r => v.category = 1 ∧ w.category = 1 ∧ K l (v :: w :: v :: r) h
  | _ => False
theorem R_dup (hd : decode M.2.1 pc = .ok (.dup, 1)) (hK : ∀ l z h, K l z h → T G d bc bs M (pc + 1) l z h Q) (k : tDup K l z h) : T G d bc bs M pc l z h Q := by
  unfold tDup at k
  split at k
  · intro p la e R s m args below meth c H locs cells slots lsA hC h1 h2 h3 h4 hR hS hL
    exact lv_dup hC.1 hC.2.1 hd k.1 (hK _ _ _ k.2 p la e R s m args below meth c H locs cells slots lsA hC h1 h2 h3 h4 hR hS hL)
  · exact k.elim
theorem R_pop (hd : decode M.2.1 pc = .ok (.pop, 1)) (hK : ∀ l z h, K l z h → T G d bc bs M (pc + 1) l z h Q) (k : tPop K l z h) : T G d bc bs M pc l z h Q := by
  unfold tPop at k
  split at k
  · intro p la e R s m args below meth c H locs cells slots lsA hC h1 h2 h3 h4 hR hS hL
    exact lv_pop hC.1 hC.2.1 hd k.1 (hK _ _ _ k.2 p la e R s m args below meth c H locs cells slots lsA hC h1 h2 h3 h4 hR hS hL)
  · exact k.elim
theorem R_dup2 (hd : decode M.2.1 pc = .ok (.dup2, 1)) (hK : ∀ l z h, K l z h → T G d bc bs M (pc + 1) l z h Q) (k : tDup2 K l z h) : T G d bc bs M pc l z h Q := by
  unfold tDup2 at k
  split at k
  · intro p la e R s m args below meth c H locs cells slots lsA hC h1 h2 h3 h4 hR hS hL
    exact lv_dup2_11 hC.1 hC.2.1 hd k.1 k.2.1 (hK _ _ _ k.2.2 p la e R s m args below meth c H locs cells slots lsA hC h1 h2 h3 h4 hR hS hL)
  · exact k.elim
theorem R_dup_x1 (hd : decode M.2.1 pc = .ok (.dup_x1, 1)) (hK : ∀ l z h, K l z h → T G d bc bs M (pc + 1) l z h Q) (k : tDupx1 K l z h) : T G d bc bs M pc l z h Q := by
  unfold tDupx1 at k
  split at k
  · intro p la e R s m args below meth c H locs cells slots lsA hC h1 h2 h3 h4 hR hS hL
    exact lv_dup_x1 hC.1 hC.2.1 hd k.1 k.2.1 (hK _ _ _ k.2.2 p la e R s m args below meth c H locs cells slots lsA hC h1 h2 h3 h4 hR hS hL)
  · exact k.elim
def tIf (c : Int32 → Prop) (K1 K2 : KT) : KT := fun l z h => match z with
  | .int x :: r => (c x → K1 l r h) ∧ (¬ c x → K2 l r h)
  | _ => False
def tIf2 (c : Int32 → Int32 → Prop) (K1 K2 : KT) : KT := fun l z h => match z with
  | .int y :: .int x :: r => (c x y → K1 l r h) ∧ (¬ c x y → K2 l r h)
  | _ => False
def tNul (K1 K2 : KT) : KT := fun l z h => match z with
  | .null :: r => K1 l r h
  | .ref _ :: r => K2 l r h
  | _ => False
def tAcm (K1 K2 : KT) : KT := fun l z h => match z with
  | .ref y :: .ref x :: r => (x = y → K1 l r h) ∧ (¬ x = y → K2 l r h)
  | _ => False
variable {K1 K2 : KT}
theorem R_if_ne {off : Int} {tgt : Nat} (hd : decode M.2.1 pc = .ok (.ifCond .ne off, 3)) (ht : (pc : Int) + off = (tgt : Int)) (hK1 : ∀ l z h, K1 l z h → T G d bc bs M tgt l z h Q) (hK2 : ∀ l z h, K2 l z h → T G d bc bs M (pc + 3) l z h Q) (k : tIf (fun x => x = 0) K2 K1 l z h) : T G d bc bs M pc l z h Q := by
  unfold tIf at k
  split at k
  · intro p la e R s m args below meth c H locs cells slots lsA hC h1 h2 h3 h4 hR hS hL
    exact lv_if_ne hC.1 hC.2.1 hd ht (fun q => hK1 _ _ _ (k.2 q) p la e R s m args below meth c H locs cells slots lsA hC h1 h2 h3 h4 hR hS hL) (fun q => hK2 _ _ _ (k.1 q) p la e R s m args below meth c H locs cells slots lsA hC h1 h2 h3 h4 hR hS hL)
  · exact k.elim
theorem R_icmp_ne {off : Int} {tgt : Nat} (hd : decode M.2.1 pc = .ok (.if_icmp .ne off, 3)) (ht : (pc : Int) + off = (tgt : Int)) (hK1 : ∀ l z h, K1 l z h → T G d bc bs M tgt l z h Q) (hK2 : ∀ l z h, K2 l z h → T G d bc bs M (pc + 3) l z h Q) (k : tIf2 (fun x y => x = y) K2 K1 l z h) : T G d bc bs M pc l z h Q := by
  unfold tIf2 at k
  split at k
  · intro p la e R s m args below meth c H locs cells slots lsA hC h1 h2 h3 h4 hR hS hL
    exact lv_icmp_ne hC.1 hC.2.1 hd ht (fun q => hK1 _ _ _ (k.2 q) p la e R s m args below meth c H locs cells slots lsA hC h1 h2 h3 h4 hR hS hL) (fun q => hK2 _ _ _ (k.1 q) p la e R s m args below meth c H locs cells slots lsA hC h1 h2 h3 h4 hR hS hL)
  · exact k.elim
theorem R_if_eq {off : Int} {tgt : Nat} (hd : decode M.2.1 pc = .ok (.ifCond .eq off, 3)) (ht : (pc : Int) + off = (tgt : Int)) (hK1 : ∀ l z h, K1 l z h → T G d bc bs M tgt l z h Q) (hK2 : ∀ l z h, K2 l z h → T G d bc bs M (pc + 3) l z h Q) (k : tIf (fun x => x = 0) K1 K2 l z h) : T G d bc bs M pc l z h Q := by
  unfold tIf at k
  split at k
  · intro p la e R s m args below meth c H locs cells slots lsA hC h1 h2 h3 h4 hR hS hL
    exact lv_if_eq hC.1 hC.2.1 hd ht (fun q => hK1 _ _ _ (k.1 q) p la e R s m args below meth c H locs cells slots lsA hC h1 h2 h3 h4 hR hS hL) (fun q => hK2 _ _ _ (k.2 q) p la e R s m args below meth c H locs cells slots lsA hC h1 h2 h3 h4 hR hS hL)
  · exact k.elim
theorem R_icmp_eq {off : Int} {tgt : Nat} (hd : decode M.2.1 pc = .ok (.if_icmp .eq off, 3)) (ht : (pc : Int) + off = (tgt : Int)) (hK1 : ∀ l z h, K1 l z h → T G d bc bs M tgt l z h Q) (hK2 : ∀ l z h, K2 l z h → T G d bc bs M (pc + 3) l z h Q) (k : tIf2 (fun x y => x = y) K1 K2 l z h) : T G d bc bs M pc l z h Q := by
  unfold tIf2 at k
  split at k
  · intro p la e R s m args below meth c H locs cells slots lsA hC h1 h2 h3 h4 hR hS hL
    exact lv_icmp_eq hC.1 hC.2.1 hd ht (fun q => hK1 _ _ _ (k.1 q) p la e R s m args below meth c H locs cells slots lsA hC h1 h2 h3 h4 hR hS hL) (fun q => hK2 _ _ _ (k.2 q) p la e R s m args below meth c H locs cells slots lsA hC h1 h2 h3 h4 hR hS hL)
  · exact k.elim
theorem R_if_lt {off : Int} {tgt : Nat} (hd : decode M.2.1 pc = .ok (.ifCond .lt off, 3)) (ht : (pc : Int) + off = (tgt : Int)) (hK1 : ∀ l z h, K1 l z h → T G d bc bs M tgt l z h Q) (hK2 : ∀ l z h, K2 l z h → T G d bc bs M (pc + 3) l z h Q) (k : tIf (fun x => x < 0) K1 K2 l z h) : T G d bc bs M pc l z h Q := by
  unfold tIf at k
  split at k
  · intro p la e R s m args below meth c H locs cells slots lsA hC h1 h2 h3 h4 hR hS hL
    exact lv_if_lt hC.1 hC.2.1 hd ht (fun q => hK1 _ _ _ (k.1 q) p la e R s m args below meth c H locs cells slots lsA hC h1 h2 h3 h4 hR hS hL) (fun q => hK2 _ _ _ (k.2 q) p la e R s m args below meth c H locs cells slots lsA hC h1 h2 h3 h4 hR hS hL)
  · exact k.elim
theorem R_icmp_lt {off : Int} {tgt : Nat} (hd : decode M.2.1 pc = .ok (.if_icmp .lt off, 3)) (ht : (pc : Int) + off = (tgt : Int)) (hK1 : ∀ l z h, K1 l z h → T G d bc bs M tgt l z h Q) (hK2 : ∀ l z h, K2 l z h → T G d bc bs M (pc + 3) l z h Q) (k : tIf2 (fun x y => x < y) K1 K2 l z h) : T G d bc bs M pc l z h Q := by
  unfold tIf2 at k
  split at k
  · intro p la e R s m args below meth c H locs cells slots lsA hC h1 h2 h3 h4 hR hS hL
    exact lv_icmp_lt hC.1 hC.2.1 hd ht (fun q => hK1 _ _ _ (k.1 q) p la e R s m args below meth c H locs cells slots lsA hC h1 h2 h3 h4 hR hS hL) (fun q => hK2 _ _ _ (k.2 q) p la e R s m args below meth c H locs cells slots lsA hC h1 h2 h3 h4 hR hS hL)
  · exact k.elim
theorem R_if_ge {off : Int} {tgt : Nat} (hd : decode M.2.1 pc = .ok (.ifCond .ge off, 3)) (ht : (pc : Int) + off = (tgt : Int)) (hK1 : ∀ l z h, K1 l z h → T G d bc bs M tgt l z h Q) (hK2 : ∀ l z h, K2 l z h → T G d bc bs M (pc + 3) l z h Q) (k : tIf (fun x => 0 ≤ x) K1 K2 l z h) : T G d bc bs M pc l z h Q := by
  unfold tIf at k
  split at k
  · intro p la e R s m args below meth c H locs cells slots lsA hC h1 h2 h3 h4 hR hS hL
    exact lv_if_ge hC.1 hC.2.1 hd ht (fun q => hK1 _ _ _ (k.1 q) p la e R s m args below meth c H locs cells slots lsA hC h1 h2 h3 h4 hR hS hL) (fun q => hK2 _ _ _ (k.2 q) p la e R s m args below meth c H locs cells slots lsA hC h1 h2 h3 h4 hR hS hL)
  · exact k.elim
theorem R_icmp_ge {off : Int} {tgt : Nat} (hd : decode M.2.1 pc = .ok (.if_icmp .ge off, 3)) (ht : (pc : Int) + off = (tgt : Int)) (hK1 : ∀ l z h, K1 l z h → T G d bc bs M tgt l z h Q) (hK2 : ∀ l z h, K2 l z h → T G d bc bs M (pc + 3) l z h Q) (k : tIf2 (fun x y => y ≤ x) K1 K2 l z h) : T G d bc bs M pc l z h Q := by
  unfold tIf2 at k
  split at k
  · intro p la e R s m args below meth c H locs cells slots lsA hC h1 h2 h3 h4 hR hS hL
    exact lv_icmp_ge hC.1 hC.2.1 hd ht (fun q => hK1 _ _ _ (k.1 q) p la e R s m args below meth c H locs cells slots lsA hC h1 h2 h3 h4 hR hS hL) (fun q => hK2 _ _ _ (k.2 q) p la e R s m args below meth c H locs cells slots lsA hC h1 h2 h3 h4 hR hS hL)
  · exact k.elim
theorem R_if_gt {off : Int} {tgt : Nat} (hd : decode M.2.1 pc = .ok (.ifCond .gt off, 3)) (ht : (pc : Int) + off = (tgt : Int)) (hK1 : ∀ l z h, K1 l z h → T G d bc bs M tgt l z h Q) (hK2 : ∀ l z h, K2 l z h → T G d bc bs M (pc + 3) l z h Q) (k : tIf (fun x => 0 < x) K1 K2 l z h) : T G d bc bs M pc l z h Q := by
  unfold tIf at k
  split at k
  · intro p la e R s m args below meth c H locs cells slots lsA hC h1 h2 h3 h4 hR hS hL
    exact lv_if_gt hC.1 hC.2.1 hd ht (fun q => hK1 _ _ _ (k.1 q) p la e R s m args below meth c H locs cells slots lsA hC h1 h2 h3 h4 hR hS hL) (fun q => hK2 _ _ _ (k.2 q) p la e R s m args below meth c H locs cells slots lsA hC h1 h2 h3 h4 hR hS hL)
  · exact k.elim
theorem R_icmp_gt {off : Int} {tgt : Nat} (hd : decode M.2.1 pc = .ok (.if_icmp .gt off, 3)) (ht : (pc : Int) + off = (tgt : Int)) (hK1 : ∀ l z h, K1 l z h → T G d bc bs M tgt l z h Q) (hK2 : ∀ l z h, K2 l z h → T G d bc bs M (pc + 3) l z h Q) (k : tIf2 (fun x y => y < x) K1 K2 l z h) : T G d bc bs M pc l z h Q := by
  unfold tIf2 at k
  split at k
  · intro p la e R s m args below meth c H locs cells slots lsA hC h1 h2 h3 h4 hR hS hL
    exact lv_icmp_gt hC.1 hC.2.1 hd ht (fun q => hK1 _ _ _ (k.1 q) p la e R s m args below meth c H locs cells slots lsA hC h1 h2 h3 h4 hR hS hL) (fun q => hK2 _ _ _ (k.2 q) p la e R s m args below meth c H locs cells slots lsA hC h1 h2 h3 h4 hR hS hL)
  · exact k.elim
theorem R_if_le {off : Int} {tgt : Nat} (hd : decode M.2.1 pc = .ok (.ifCond .le off, 3)) (ht : (pc : Int) + off = (tgt : Int)) (hK1 : ∀ l z h, K1 l z h → T G d bc bs M tgt l z h Q) (hK2 : ∀ l z h, K2 l z h → T G d bc bs M (pc + 3) l z h Q) (k : tIf (fun x => x ≤ 0) K1 K2 l z h) : T G d bc bs M pc l z h Q := by
  unfold tIf at k
  split at k
  · intro p la e R s m args below meth c H locs cells slots lsA hC h1 h2 h3 h4 hR hS hL
    exact lv_if_le hC.1 hC.2.1 hd ht (fun q => hK1 _ _ _ (k.1 q) p la e R s m args below meth c H locs cells slots lsA hC h1 h2 h3 h4 hR hS hL) (fun q => hK2 _ _ _ (k.2 q) p la e R s m args below meth c H locs cells slots lsA hC h1 h2 h3 h4 hR hS hL)
  · exact k.elim
theorem R_icmp_le {off : Int} {tgt : Nat} (hd : decode M.2.1 pc = .ok (.if_icmp .le off, 3)) (ht : (pc : Int) + off = (tgt : Int)) (hK1 : ∀ l z h, K1 l z h → T G d bc bs M tgt l z h Q) (hK2 : ∀ l z h, K2 l z h → T G d bc bs M (pc + 3) l z h Q) (k : tIf2 (fun x y => x ≤ y) K1 K2 l z h) : T G d bc bs M pc l z h Q := by
  unfold tIf2 at k
  split at k
  · intro p la e R s m args below meth c H locs cells slots lsA hC h1 h2 h3 h4 hR hS hL
    exact lv_icmp_le hC.1 hC.2.1 hd ht (fun q => hK1 _ _ _ (k.1 q) p la e R s m args below meth c H locs cells slots lsA hC h1 h2 h3 h4 hR hS hL) (fun q => hK2 _ _ _ (k.2 q) p la e R s m args below meth c H locs cells slots lsA hC h1 h2 h3 h4 hR hS hL)
  · exact k.elim
theorem R_ifnull {off : Int} {tgt : Nat} (hd : decode M.2.1 pc = .ok (.ifnull off, 3)) (ht : (pc : Int) + off = (tgt : Int)) (hK1 : ∀ l z h, K1 l z h → T G d bc bs M tgt l z h Q) (hK2 : ∀ l z h, K2 l z h → T G d bc bs M (pc + 3) l z h Q) (k : tNul K1 K2 l z h) : T G d bc bs M pc l z h Q := by
  unfold tNul at k
  split at k
  · intro p la e R s m args below meth c H locs cells slots lsA hC h1 h2 h3 h4 hR hS hL
    exact lv_ifnullN hC.1 hC.2.1 hd ht (hK1 _ _ _ (k) p la e R s m args below meth c H locs cells slots lsA hC h1 h2 h3 h4 hR hS hL)
  · intro p la e R s m args below meth c H locs cells slots lsA hC h1 h2 h3 h4 hR hS hL
    exact lv_ifnull hC.1 hC.2.1 hd (hK2 _ _ _ (k) p la e R s m args below meth c H locs cells slots lsA hC h1 h2 h3 h4 hR hS hL)
  · exact k.elim
theorem R_ifnonnull {off : Int} {tgt : Nat} (hd : decode M.2.1 pc = .ok (.ifnonnull off, 3)) (ht : (pc : Int) + off = (tgt : Int)) (hK1 : ∀ l z h, K1 l z h → T G d bc bs M tgt l z h Q) (hK2 : ∀ l z h, K2 l z h → T G d bc bs M (pc + 3) l z h Q) (k : tNul K2 K1 l z h) : T G d bc bs M pc l z h Q := by
  unfold tNul at k
  split at k
  · intro p la e R s m args below meth c H locs cells slots lsA hC h1 h2 h3 h4 hR hS hL
    exact lv_ifnonnullN hC.1 hC.2.1 hd (hK2 _ _ _ (k) p la e R s m args below meth c H locs cells slots lsA hC h1 h2 h3 h4 hR hS hL)
  · intro p la e R s m args below meth c H locs cells slots lsA hC h1 h2 h3 h4 hR hS hL
    exact lv_ifnonnull hC.1 hC.2.1 hd ht (hK1 _ _ _ (k) p la e R s m args below meth c H locs cells slots lsA hC h1 h2 h3 h4 hR hS hL)
  · exact k.elim
theorem R_acmp_eq {off : Int} {tgt : Nat} (hd : decode M.2.1 pc = .ok (.if_acmp .eq off, 3)) (ht : (pc : Int) + off = (tgt : Int)) (hK1 : ∀ l z h, K1 l z h → T G d bc bs M tgt l z h Q) (hK2 : ∀ l z h, K2 l z h → T G d bc bs M (pc + 3) l z h Q) (k : tAcm K1 K2 l z h) : T G d bc bs M pc l z h Q := by
  unfold tAcm at k
  split at k
  · rename_i y x r
    intro p la e R s m args below meth c H locs cells slots lsA hC h1 h2 h3 h4 hR hS hL
    exact lv_acmp_eq (rx := some x) (ry := some y) hC.1 hC.2.1 hd ht (fun q => hK1 _ _ _ (k.1 (Option.some.inj q)) p la e R s m args below meth c H locs cells slots lsA hC h1 h2 h3 h4 hR hS hL) (fun q => hK2 _ _ _ (k.2 (fun e => q (congrArg some e))) p la e R s m args below meth c H locs cells slots lsA hC h1 h2 h3 h4 hR hS hL)
  · exact k.elim
theorem R_acmp_ne {off : Int} {tgt : Nat} (hd : decode M.2.1 pc = .ok (.if_acmp .ne off, 3)) (ht : (pc : Int) + off = (tgt : Int)) (hK1 : ∀ l z h, K1 l z h → T G d bc bs M tgt l z h Q) (hK2 : ∀ l z h, K2 l z h → T G d bc bs M (pc + 3) l z h Q) (k : tAcm K2 K1 l z h) : T G d bc bs M pc l z h Q := by
  unfold tAcm at k
  split at k
  · rename_i y x r
    intro p la e R s m args below meth c H locs cells slots lsA hC h1 h2 h3 h4 hR hS hL
    exact lv_acmp_ne (rx := some x) (ry := some y) hC.1 hC.2.1 hd ht (fun q => hK1 _ _ _ (k.2 (fun e => q (congrArg some e))) p la e R s m args below meth c H locs cells slots lsA hC h1 h2 h3 h4 hR hS hL) (fun q => hK2 _ _ _ (k.1 (Option.some.inj q)) p la e R s m args below meth c H locs cells slots lsA hC h1 h2 h3 h4 hR hS hL)
  · exact k.elim
theorem R_goto {off : Int} {tgt : Nat} (hd : decode M.2.1 pc = .ok (.goto off, 3)) (ht : (pc : Int) + off = (tgt : Int)) (hK1 : ∀ l z h, K l z h → T G d bc bs M tgt l z h Q) (k : K l z h) : T G d bc bs M pc l z h Q := by
  intro p la e R s m args below meth c H locs cells slots lsA hC h1 h2 h3 h4 hR hS hL
  exact lv_goto hC.1 hC.2.1 hd ht (hK1 _ _ _ (k) p la e R s m args below meth c H locs cells slots lsA hC h1 h2 h3 h4 hR hS hL)
def tRetI (Q : QT) : KT := fun _ z h => match z with
  | [.int x] => Q (some (.int x)) h
  | _ => False
def tRetZ (Q : QT) : KT := fun _ z h => match z with
  | [.int x] => narrow .boolean (.int x) = .int x ∧ Q (some (.int x)) h
  | _ => False
def tRetC (ty : FieldType) (Q : QT) : KT := fun _ z h => match z with
  | [.int x] => narrow ty (.int x) = .int x ∧ Q (some (.int x)) h
  | _ => False
def tRetL (Q : QT) : KT := fun _ z h => match z with
  | [.long x] => Q (some (.long x)) h
  | _ => False
def tRetV (Q : QT) : KT := fun _ z h => match z with
  | [] => Q none h
  | _ => False
def tRetA (Q : QT) : KT := fun _ z h => match z with
  | [.ref x] => Q (some (.ref x)) h
  | [.null] => Q (some .null) h
  | _ => False
theorem R_iret (hd : decode M.2.1 pc = .ok (.ireturn, 1)) (hr : M.2.2.2 = some .int) (k : tRetI Q l z h) : T G d bc bs M pc l z h Q := by
  unfold tRetI at k
  split at k
  · intro p la e R s m args below meth c H locs cells slots lsA hC h1 h2 h3 h4 hR hS hL
    exact W.widen (k := cells + bc) (n := slots + bs) (Nat.le_add_right _ _) (Nat.le_add_right _ _) (W.iret hC.1 hC.2.1 (hC.2.2.1.trans hr) (fun t ht _ => ⟨⟨_, h, rfl, k, by rw [ht]; exact hR⟩, hS.F ht⟩) (fun q hq => hS.2.2 q hq) hd hC.2.2.2.2.2.2.1)
  · exact k.elim
theorem R_zret (hd : decode M.2.1 pc = .ok (.ireturn, 1)) (hr : M.2.2.2 = some .boolean) (k : tRetZ Q l z h) : T G d bc bs M pc l z h Q := by
  unfold tRetZ at k
  split at k
  · intro p la e R s m args below meth c H locs cells slots lsA hC h1 h2 h3 h4 hR hS hL
    exact W.widen (k := cells + bc) (n := slots + bs) (Nat.le_add_right _ _) (Nat.le_add_right _ _) (W.zret hC.1 hC.2.1 (hC.2.2.1.trans hr) k.1 (fun t ht _ => ⟨⟨_, h, rfl, k.2, by rw [ht]; exact hR⟩, hS.F ht⟩) (fun q hq => hS.2.2 q hq) hd hC.2.2.2.2.2.2.1)
  · exact k.elim
theorem R_cret {ty : FieldType} (hd : decode M.2.1 pc = .ok (.ireturn, 1)) (hr : M.2.2.2 = some ty) (k : tRetC ty Q l z h) : T G d bc bs M pc l z h Q := by
  unfold tRetC at k
  split at k
  · intro p la e R s m args below meth c H locs cells slots lsA hC h1 h2 h3 h4 hR hS hL
    exact W.widen (k := cells + bc) (n := slots + bs) (Nat.le_add_right _ _) (Nat.le_add_right _ _) (W.zret hC.1 hC.2.1 (hC.2.2.1.trans hr) k.1 (fun t ht _ => ⟨⟨_, h, rfl, k.2, by rw [ht]; exact hR⟩, hS.F ht⟩) (fun q hq => hS.2.2 q hq) hd hC.2.2.2.2.2.2.1)
  · exact k.elim
theorem R_lret (hd : decode M.2.1 pc = .ok (.lreturn, 1)) (hr : M.2.2.2 = some .long) (k : tRetL Q l z h) : T G d bc bs M pc l z h Q := by
  unfold tRetL at k
  split at k
  · intro p la e R s m args below meth c H locs cells slots lsA hC h1 h2 h3 h4 hR hS hL
    exact W.widen (k := cells + bc) (n := slots + bs) (Nat.le_add_right _ _) (Nat.le_add_right _ _) (W.lret hC.1 hC.2.1 (hC.2.2.1.trans hr) (fun t ht _ => ⟨⟨_, h, rfl, k, by rw [ht]; exact hR⟩, hS.F ht⟩) (fun q hq => hS.2.2 q hq) hd hC.2.2.2.2.2.2.1)
  · exact k.elim
theorem R_vret (hd : decode M.2.1 pc = .ok (.return_, 1)) (hr : M.2.2.2 = none) (k : tRetV Q l z h) : T G d bc bs M pc l z h Q := by
  unfold tRetV at k
  split at k
  · intro p la e R s m args below meth c H locs cells slots lsA hC h1 h2 h3 h4 hR hS hL
    exact W.widen (k := cells + bc) (n := slots + bs) (Nat.le_add_right _ _) (Nat.le_add_right _ _) (W.vret hC.1 hC.2.1 (hC.2.2.1.trans hr) (fun t ht _ => ⟨⟨_, h, rfl, k, by rw [ht]; exact hR⟩, hS.F ht⟩) (fun q hq => hS.2.2 q hq) hd hC.2.2.2.2.2.2.1)
  · exact k.elim
theorem R_aret {rt : FieldType} (hd : decode M.2.1 pc = .ok (.areturn, 1)) (hr : M.2.2.2 = some rt) (hrt : (∃ n, rt = .object n) ∨ ∃ t, rt = .array t) (k : tRetA Q l z h) : T G d bc bs M pc l z h Q := by
  unfold tRetA at k
  split at k
  · intro p la e R s m args below meth c H locs cells slots lsA hC h1 h2 h3 h4 hR hS hL
    exact W.widen (k := cells + bc) (n := slots + bs) (Nat.le_add_right _ _) (Nat.le_add_right _ _) (W.aret hC.1 hC.2.1 (hC.2.2.1.trans hr) hrt (Or.inr ⟨_, rfl⟩) (fun t ht _ => ⟨⟨_, h, rfl, k, by rw [ht]; exact hR⟩, hS.F ht⟩) (fun q hq => hS.2.2 q hq) hd hC.2.2.2.2.2.2.1)
  · intro p la e R s m args below meth c H locs cells slots lsA hC h1 h2 h3 h4 hR hS hL
    exact W.widen (k := cells + bc) (n := slots + bs) (Nat.le_add_right _ _) (Nat.le_add_right _ _) (W.aret hC.1 hC.2.1 (hC.2.2.1.trans hr) hrt (Or.inl rfl) (fun t ht _ => ⟨⟨_, h, rfl, k, by rw [ht]; exact hR⟩, hS.F ht⟩) (fun q hq => hS.2.2 q hq) hd hC.2.2.2.2.2.2.1)
  · exact k.elim
end RulesA
