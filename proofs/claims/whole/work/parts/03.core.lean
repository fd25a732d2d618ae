/-! ===== the logic: a judgement T over the kit's rows, with an abstract heap ===== -/
/-- locals by place -/
abbrev Ls : Type := List (Nat × Value)
/-- a cell: an object (class, fields), or an array of ints (kind), of longs, of references (kind) -/
abbrev Ce : Type := (Nat × List Value) ⊕ (Nat × Nat × (Nat → Int32)) ⊕ (Nat × (Nat → Int64)) ⊕ (Nat × Nat × (Nat → Option Nat))
/-- the next address, and the cells -/
abbrev Hp : Type := Nat × (Nat → Option Ce)
abbrev Mth : Type := MethodName × ByteArray × Nat × Option FieldType
/-- classes and slots; array classes; the law's first address; addresses of constants -/
abbrev Gt : Type := va_G × (Nat → ClassId) × Nat × (Nat → Nat)
abbrev KT : Type := Ls → List Value → Hp → Prop
abbrev QT : Type := Option Value → Hp → Prop
def clsA : List vw_C := [(RX1, TX1, 6), (RX2, TX2, 2), (RX3, TX3, 1), (RX4, TX4, 4), (RX5, TX5, 8), (RX6, TX6, 3), (RX7, TX7, 7), (RX8, TX8, 2), (RX9, TX9, 11), (RX11, TX11, 14), (RX12, TX12, 16), (RX13, TX13, 49)]
def tyA : List FieldType := [.int, .boolean, .byte, .long, .object "BridgeToll$Word", .object "BridgeToll$World", .object "BridgeToll$Sentence", .array .int]
def tysG (G : Gt) : List (ClassId × FieldType) := (List.range 8).map (fun k => (G.2.1 k, tyA.getD k .int))
def wsA : List Cond := lw_tbl.filter goodWord
def Fr (G : Gt) : Nat → Prop := fun q => G.2.2.1 ≤ q
def nestW (w : Cond) : Bool := match w with
  | .fieldLinkNest .. => true
  | .methodLinkNest .. => true
  | _ => false
/-- the constants: words by their ordinals, texts (the words', and four of BridgeToll's) -/
def nmW : List String := ["NAME", "THING", "PERSON", "HAS", "ASKS", "MEETS", "NEAR", "BRIDGE", "FAR", "GOES", "JOINS", "PARTS", "TRADES", "ASK", "DAY", "OR", "AND", "NOT", "PAYS", "MET", "WANTS", "ALL", "STAYED", "CROSSED", "NUMBER"]
def ordW : List Int32 := [0, 1, 2, 3, 4, 5, 6, 7, 8, 9, 10, 11, 12, 13, 14, 15, 16, 17, 18, 19, 20, 21, 22, 23, 24]
def strT : List (List Int32) := [[], [116, 104, 105, 110, 103], [112, 101, 114, 115, 111, 110], [104, 97, 115], [97, 115, 107, 115], [109, 101, 101, 116, 115], [110, 101, 97, 114], [98, 114, 105, 100, 103, 101], [102, 97, 114], [103, 111, 101, 115], [106, 111, 105, 110, 115], [112, 97, 114, 116, 115], [116, 114, 97, 100, 101, 115], [97, 115, 107], [100, 97, 121], [111, 114], [97, 110, 100], [110, 111, 116], [112, 97, 121, 115], [109, 101, 116], [119, 97, 110, 116, 115], [97, 108, 108], [115, 116, 97, 121, 101, 100], [99, 114, 111, 115, 115, 101, 100], [110, 117, 109, 98, 101, 114], [32, 109, 97, 121, 32, 103, 111], [32, 108, 97, 99, 107, 115, 32], [32], [110, 111, 32, 115, 117, 99, 104, 32, 112, 101, 114, 115, 111, 110, 32, 111, 114, 32, 119, 104, 97, 116]]
def swM : List Int32 := [0, 0, 0, 0, 0, 0, 13, 14, 15, 1, 2, 3, 4, 5, 0, 0, 0, 12, 6, 16, 7, 8, 9, 10, 11]
def adW (G : Gt) (k : Nat) : Nat := G.2.2.2 k
def sK (G : Gt) (i : Nat) : Nat := G.2.2.2 (100 + i)
def sV (G : Gt) (i : Nat) : Nat := G.2.2.2 (200 + i)
def StZ (G : Gt) (U : State) (H : Heap) : Prop :=
  va_En "BridgeToll$Word" "LBridgeToll$Word;" nmW [("java/lang/Enum", "ordinal", "I", ordW)] (adW G) (Fr G) U H ∧
  va_Ef 25 "BridgeToll$Word" "text" "Ljava/lang/String;" (fun k => .ref (sK G k)) (adW G) (Fr G) U H ∧
  (∀ i : Nat, i < 29 → va_O "java/lang/String" (sK G i) (Fr G) U H ∧ va_OF "java/lang/String" "coder" "B" (.int 0) (sK G i) (Fr G) U H ∧ va_OF "java/lang/String" "value" "[B" (.ref (sV G i)) (sK G i) (Fr G) U H ∧ va_T .byte (sV G i) (strT.getD i []).length (fun j => .int ((strT.getD i []).getD j 0)) (Fr G) U H) ∧
  va_Z "BridgeToll" "WORDS" "[LBridgeToll$Word;" (.ref (G.2.2.2 50)) (Fr G) U H ∧ va_T (.object "BridgeToll$Word") (G.2.2.2 50) 25 (fun j => .ref (adW G j)) (Fr G) U H ∧
  va_Z "BridgeToll$1" "$SwitchMap$BridgeToll$Word" "[I" (.ref (G.2.2.2 51)) (Fr G) U H ∧ va_T .int (G.2.2.2 51) 25 (fun j => .int (swM.getD j 0)) (Fr G) U H ∧
  va_Z "java/lang/String" "COMPACT_STRINGS" "Z" (.int 1) (Fr G) U H ∧ vx_Zq Bundle.tN "UNASSIGNED_STACK" Bundle.steD (Fr G) U H ∧ vx_Zq Bundle.tN "SUPPRESSED_SENTINEL" Bundle.listD (Fr G) U H ∧ va_Zq "jdk/internal/util/Preconditions" "SIOOBE_FORMATTER" "Ljava/util/function/BiFunction;" (Fr G) U H
def StR (G : Gt) (U : State) : Prop := vk_R "BridgeToll" 313 " may go" (sK G 25) U ∧ vk_R "BridgeToll" 318 " lacks " (sK G 26) U ∧ vk_R "BridgeToll" 323 " " (sK G 27) U ∧ vk_R "BridgeToll" 145 "no such person or what" (sK G 28) U
theorem StZ.moved {G : Gt} {u U : State} {H : Heap} (hvm : u.vm.Alike U.vm) (h : StZ G u H) : StZ G U H := by
  obtain ⟨h1, h2, h3, h4, h5, h6, h7, h8, h9, h10, h11⟩ := h
  exact ⟨h1.moved hvm, h2.moved hvm, fun i hi => ⟨(h3 i hi).1.moved hvm, (h3 i hi).2.1.moved hvm, (h3 i hi).2.2.1.moved hvm, (h3 i hi).2.2.2.moved hvm⟩, h4.moved hvm, h5.moved hvm, h6.moved hvm, h7.moved hvm, h8.moved hvm, h9.moved hvm, h10.moved hvm, h11.moved hvm⟩
theorem StZ.kept {G : Gt} {U : State} {H H1 : Heap} (h : StZ G U H) (hq : ∀ a : Nat, a < H.size → ¬ Fr G a → H1[a]? = H[a]?) : StZ G U H1 := by
  obtain ⟨h1, h2, h3, h4, h5, h6, h7, h8, h9, h10, h11⟩ := h
  exact ⟨h1.kept hq, h2.kept hq, fun i hi => ⟨(h3 i hi).1.kept hq, (h3 i hi).2.1.kept hq, (h3 i hi).2.2.1.kept hq, (h3 i hi).2.2.2.kept hq⟩, h4.kept hq, h5.kept hq, h6.kept hq, h7.kept hq, h8.kept hq, h9.kept hq, h10.kept hq, h11.kept hq⟩
/-- what stands fast of a state, all along the law -/
def Gd (G : Gt) (U : State) (H : Heap) : Prop := va_K G.1 clsA (tysG G) U ∧ G.2.2.1 ≤ H.size ∧ (∀ w ∈ lw_tbl, nestW w = true → va_Nw w U) ∧ va_AO "BridgeToll$World" U ∧ va_AO "BridgeToll$Sentence" U ∧ va_AO "BridgeToll$Word" U ∧ rrI U ∧ StZ G U H ∧ StR G U
def CeAt (G : Gt) (a : Nat) (e : Ce) (H : Heap) : Prop := match e with
  | .inl o => ∃ r : vw_C, clsA[o.1]? = some r ∧ o.2.length = r.2.2 ∧ t_OB a (G.1.1 o.1) r.2.2 (G.1.2 o.1) H (vp_V o.2)
  | .inr (.inl x) => x.1 < 3 ∧ H[a]? = some (arrV (G.2.1 x.1) x.2.1 (fun j => .int (x.2.2 j)))
  | .inr (.inr (.inl x)) => H[a]? = some (arrV (G.2.1 3) x.1 (fun j => .long (x.2 j)))
  | .inr (.inr (.inr x)) => x.1 < 4 ∧ H[a]? = some (arrV (G.2.1 (4 + x.1)) x.2.1 (fun j => va_rf (x.2.2 j)))
def Rl (G : Gt) (h : Hp) (H : Heap) : Prop := H.size = h.1 ∧ ∀ (a : Nat) (e : Ce), h.2 a = some e → Fr G a ∧ CeAt G a e H
def Qm (G : Gt) (Q : QT) : Array Value → State → Outcome → State → Prop := fun _ st o t => (∃ (v : Option Value) (h' : Hp), o = .returned v ∧ Q v h' ∧ Rl G h' t.heap) ∧ va_F (Fr G) st t
def Cx (G : Gt) (M : Mth) (p : Program) (s : State) (m : MethodId) (args : Array Value) (meth : Method) (c : Code) : Prop :=
  p.tables.exec = Jvm.exec ∧ c.code = M.2.1 ∧ meth.sig.returnType = M.2.2.2 ∧ c.maxLocals = M.2.2.1 ∧ s.vm.findClass M.1.cls = some m.cls ∧ (∀ w ∈ wsA, w.before args s = true) ∧ meth.locks = false ∧ meth.name = M.1.name ∧ Gd G s s.heap
/-- THE JUDGEMENT: the method M, at pc, with these locals, stack and heap, returns, and Q holds of the answer and the heap; at most d frames deep, at most bc new cells of bs slots -/
def T (G : Gt) (d bc bs : Nat) (M : Mth) (pc : Nat) (l : Ls) (st : List Value) (h : Hp) (Q : QT) : Prop :=
  ∀ (p : Program) (la : Launch) (e : Env) (R : Room) (s : State) (m : MethodId) (args : Array Value) (below : List Frame) (meth : Method) (c : Code) (H : Heap) (locs : List Loc) (cells slots : Nat) (lsA : Array Slot),
    Cx G M p s m args meth c → d ≤ R.frames → d * 64 ≤ R.locals → cells + bc ≤ R.cells → slots + bs ≤ R.slots → Rl G h H → va_S (Fr G) s.heap H locs → lv_has lsA M.2.2.1 l →
    W p la e R s m args below meth c H locs cells slots (MQ below (Qm G Q) args s (cells + bc) (slots + bs) (Fr G)) (F0 m pc lsA st)
def roomT (d bc bs : Nat) : Room := { frames := d, cells := bc, slots := bs, locals := d * 64 }
def Pm (G : Gt) (av : List Value) (h : Hp) : Array Value → State → Prop := fun v U => v = av.toArray ∧ Rl G h U.heap ∧ Gd G U U.heap
/-- a method's contract -/
def Mt (G : Gt) (d bc bs : Nat) (M : Mth) (av : List Value) (h : Hp) (Q : QT) : Prop :=
  ∀ la : Launch, Met la M.1 (Cond.code M.1 M.2.1 M.2.2.1 M.2.2.2 :: wsA) (roomT d bc bs) (Pm G av h) (Qm G Q) bc bs (Fr G)
-- locals
def lk : Ls → Nat → Option Value
  | [], _ => none
  | (i, v) :: l, k => if i = k then some v else lk l k
theorem lk_mem : ∀ {l : Ls} {k : Nat} {v : Value}, lk l k = some v → (k, v) ∈ l
  | [], _, _, h => by cases h
  | (i, w) :: l, k, v, h => by
    unfold lk at h
    split at h
    · rename_i e
      cases h
      subst e
      exact List.mem_cons_self
    · exact List.mem_cons_of_mem _ (lk_mem h)
def sto1 : Ls → Nat → Value → Ls
  | [], k, v => [(k, v)]
  | (i, w) :: r, k, v => if i = k then (k, v) :: r.filter (fun q => !(q.1 == k) && !(q.1 + 1 == k && q.2.category == 2)) else if i + 1 = k ∧ w.category = 2 then sto1 r k v else (i, w) :: sto1 r k v
theorem sto1_mem : ∀ {l : Ls} {k : Nat} {v : Value} {q : Nat × Value}, q ∈ sto1 l k v → q ∈ (k, v) :: l.filter (fun q => !(q.1 == k) && !(q.1 + 1 == k && q.2.category == 2))
  | [], k, v, q, h => h
  | (i, w) :: r, k, v, q, h => by
    unfold sto1 at h
    split at h
    · rename_i e
      rcases List.mem_cons.mp h with h | h
      · exact List.mem_cons.mpr (Or.inl h)
      · refine List.mem_cons.mpr (Or.inr ?_)
        rw [List.filter_cons]
        split
        · exact List.mem_cons_of_mem _ h
        · exact h
    · rename_i e
      split at h
      · refine List.mem_cons.mpr ?_
        rcases List.mem_cons.mp (sto1_mem h) with h | h
        · exact Or.inl h
        · right
          rw [List.filter_cons]
          split
          · exact List.mem_cons_of_mem _ h
          · exact h
      · rename_i e2
        rcases List.mem_cons.mp h with h | h
        · subst h
          refine List.mem_cons.mpr (Or.inr ?_)
          rw [List.filter_cons, if_pos]
          · exact List.mem_cons_self
          · simp only [Bool.and_eq_true, Bool.not_eq_true', beq_eq_false_iff_ne, ne_eq, Bool.and_eq_false_iff]
            refine ⟨e, ?_⟩
            by_cases z : i + 1 = k
            · exact Or.inr (fun c => e2 ⟨z, c⟩)
            · exact Or.inl z
        · rcases List.mem_cons.mp (sto1_mem h) with h | h
          · exact List.mem_cons.mpr (Or.inl h)
          · refine List.mem_cons.mpr (Or.inr ?_)
            rw [List.filter_cons]
            split
            · exact List.mem_cons_of_mem _ h
            · exact h
def sto2 (l : Ls) (k : Nat) (v : Value) : Ls := (k, v) :: l.filter (fun q => !(q.1 == k) && (!(q.1 == k + 1) && !(q.1 + 1 == k && q.2.category == 2)))
theorem lv_has.mono {ls : Array Slot} {n : Nat} {l l' : Ls} (h : lv_has ls n l) (hs : ∀ q ∈ l', q ∈ l) : lv_has ls n l' := ⟨h.1, h.2.1, fun q hq => h.2.2 q (hs q hq)⟩
-- heaps
def hSet (h : Hp) (a : Nat) (e : Ce) : Hp := (h.1, fun q => if q = a then some e else h.2 q)
def hNew (h : Hp) (e : Ce) : Hp := (h.1 + 1, fun q => if q = h.1 then some e else h.2 q)
theorem CeAt.kept {G : Gt} {a : Nat} {e : Ce} {H H1 : Heap} (h : CeAt G a e H) (hq : H1[a]? = H[a]?) : CeAt G a e H1 := by
  rcases e with o | x | x | x
  · obtain ⟨r, h1, h2, h3⟩ := h
    exact ⟨r, h1, h2, h3.kept hq⟩
  · exact ⟨h.1, hq.trans h.2⟩
  · exact hq.trans h
  · exact ⟨h.1, hq.trans h.2⟩
theorem CeAt.lt {G : Gt} {a : Nat} {e : Ce} {H : Heap} (h : CeAt G a e H) : a < H.size := by
  rcases e with o | x | x | x
  · obtain ⟨r, h1, h2, cell, h3, -⟩ := h
    exact (Array.getElem?_eq_some_iff.mp h3).1
  · exact (Array.getElem?_eq_some_iff.mp h.2).1
  · exact (Array.getElem?_eq_some_iff.mp (show H[a]? = _ from h)).1
  · exact (Array.getElem?_eq_some_iff.mp h.2).1
theorem Rl_set {G : Gt} {h : Hp} {H H1 : Heap} {a : Nat} {e : Ce} (hR : Rl G h H) (ha : Fr G a) (he : CeAt G a e H1) (z : H1.size = H.size) (oq : ∀ q : Nat, q ≠ a → H1[q]? = H[q]?) : Rl G (hSet h a e) H1 := by
  refine ⟨z.trans hR.1, fun b x hx => ?_⟩
  unfold hSet at hx
  dsimp only at hx
  split at hx
  · rename_i eb
    subst eb
    cases hx
    exact ⟨ha, he⟩
  · rename_i eb
    obtain ⟨h1, h2⟩ := hR.2 b x hx
    exact ⟨h1, h2.kept (oq b eb)⟩
theorem Rl_new {G : Gt} {h : Hp} {H H1 : Heap} {e : Ce} (hR : Rl G h H) (hb : G.2.2.1 ≤ H.size) (he : CeAt G H.size e H1) (z : H1.size = H.size + 1) (oq : ∀ q : Nat, q < H.size → H1[q]? = H[q]?) : Rl G (hNew h e) H1 := by
  refine ⟨by rw [z, hR.1]; rfl, fun b x hx => ?_⟩
  unfold hNew at hx
  dsimp only at hx
  split at hx
  · rename_i eb
    rw [← hR.1] at eb
    subst eb
    cases hx
    exact ⟨hb, he⟩
  · obtain ⟨h1, h2⟩ := hR.2 b x hx
    exact ⟨h1, h2.kept (oq b h2.lt)⟩
theorem Gd.moved {G : Gt} {u U : State} {H : Heap} (hW : u.WarmedH U.vm) (h : Gd G u H) : Gd G U H := by
  obtain ⟨h1, h2, h3, h4, h5, h6, h7, h8, h9⟩ := h
  refine ⟨h1.moved hW.alike, h2, fun w hw hn => ?_, h4.moved hW.alike, h5.moved hW.alike, h6.moved hW.alike, h7.moved hW.alike, h8.moved hW.alike, h9.1.warm hW, h9.2.1.warm hW, h9.2.2.1.warm hW, h9.2.2.2.warm hW⟩
  have h7 := h3 w hw hn
  cases w <;> first | (exact va_Nw.warmF hW h7) | (exact va_Nw.warmM hW h7) | (cases hn)
theorem Gd.kept {G : Gt} {U : State} {H H1 : Heap} {locs : List Loc} (h : Gd G U H) (hS : va_S (Fr G) H H1 locs) : Gd G U H1 := by
  obtain ⟨h1, h2, h3, h4, h5, h6, h7, h8, h9⟩ := h
  exact ⟨h1, Nat.le_trans h2 hS.1, h3, h4, h5, h6, h7, h8.kept hS.2.1, h9⟩
theorem blindT {G : Gt} {av : List Value} {h : Hp} : FrameBlind (Pm G av h) := by
  intro a U g mk q
  obtain ⟨q1, q2, q3, q4, q5, q6, q7, q8, q9, q10, q11⟩ := q
  refine ⟨q1, q2, va_K.moved (u := U) (U := U.calling g mk a) (Vm.Alike.refl U.vm) q3, q4, fun w hw hn => ?_, q6.moved (Vm.Alike.refl U.vm), q7.moved (Vm.Alike.refl U.vm), q8.moved (Vm.Alike.refl U.vm), q9.moved (Vm.Alike.refl U.vm), StZ.moved (u := U) (U := U.calling g mk a) (Vm.Alike.refl U.vm) q10, q11.1.same rfl, q11.2.1.same rfl, q11.2.2.1.same rfl, q11.2.2.2.same rfl⟩
  have h7 := q5 w hw hn
  cases w <;> first | (exact va_Nw.same rfl rfl h7) | (cases hn)
/-- a method's contract out of its body -/
theorem Mt.of {G : Gt} {d bc bs : Nat} {M : Mth} {av : List Value} {h : Hp} {Q : QT} (hy : plainName M.1.cls = true) (hn : (lg_sl av).length ≤ M.2.2.1) (k : T G d bc bs M 0 (lv_args 0 av) [] h Q) : Mt G d bc bs M av h Q := by
  intro la
  refine Met.ofW (cc := M.2.1) (maxL := M.2.2.1) (ret := M.2.2.2) hy rfl ?_
  intro p e s m args below meth c s₁ B hml hv
  obtain ⟨rfl, hR, hG⟩ := hv
  have hts := atoms_spec (ws := Cond.code M.1 M.2.1 M.2.2.1 M.2.2.2 :: wsA) B.pre
  rw [lg_entry_eq]
  have k2 := k p la e (roomT d bc bs) s m av.toArray below meth c s.heap [] 0 0 _ ⟨B.exec, B.bytes, B.returns, hml, findClass_of_methodNamed B.named, fun w hw => hts w (List.mem_cons_of_mem _ hw), B.notSynchronized, (name_of_methodNamed B.named B.method).1, hG⟩ (Nat.le_refl _) (Nat.le_refl _) (by rw [Nat.zero_add]; exact Nat.le_refl _) (by rw [Nat.zero_add]; exact Nat.le_refl _) hR va_S.rf (lv_entry av hn)
  rw [Nat.zero_add, Nat.zero_add] at k2
  exact k2
theorem T.weak {G : Gt} {d bc bs : Nat} {M : Mth} {pc : Nat} {l l' : Ls} {st : List Value} {h : Hp} {Q : QT} (hs : ∀ q ∈ l', q ∈ l) (k : T G d bc bs M pc l' st h Q) : T G d bc bs M pc l st h Q := by
  intro p la e R s m args below meth c H locs cells slots lsA hC h1 h2 h3 h4 hR hS hL
  exact k p la e R s m args below meth c H locs cells slots lsA hC h1 h2 h3 h4 hR hS (hL.mono hs)
theorem T.post {G : Gt} {d bc bs : Nat} {M : Mth} {pc : Nat} {l : Ls} {st : List Value} {h : Hp} {Q Q' : QT} (hs : ∀ v h', Q v h' → Q' v h') (k : T G d bc bs M pc l st h Q) : T G d bc bs M pc l st h Q' := by
  intro p la e R s m args below meth c H locs cells slots lsA hC h1 h2 h3 h4 hR hS hL X hX hst
  obtain ⟨t, a1, o, b1, b2, ⟨⟨v, h', c1, c2, c3⟩, c4⟩, b4⟩ := k p la e R s m args below meth c H locs cells slots lsA hC h1 h2 h3 h4 hR hS hL X hX hst
  exact ⟨t, a1, o, b1, b2, ⟨⟨v, h', c1, hs _ _ c2, c3⟩, c4⟩, b4⟩
