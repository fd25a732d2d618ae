/-! ===== constants: words, texts, tables; copies; rows of references ===== -/
section RulesE
variable {G : Gt} {d bc bs : Nat} {M : Mth} {pc : Nat} {K : KT} {Q : QT} {l : Ls} {z : List Value} {h : Hp}
theorem Cx.st {p : Program} {s : State} {m : MethodId} {args : Array Value} {meth : Method} {c : Code} (hC : Cx G M p s m args meth c) : StZ G s s.heap := hC.2.2.2.2.2.2.2.2.2.2.2.2.2.2.2.1
theorem R_word {idx k : Nat} {n : String} (hd : decode M.2.1 pc = .ok (.getstatic idx, 3)) (hk : k < 25) (hn : nmW.getD k "" = n) (hw : Cond.fieldLink M.1.cls idx "BridgeToll$Word" n "LBridgeToll$Word;" ∈ wsA) (hK : ∀ l z h, K l z h → T G d bc bs M (pc + 3) l z h Q) (k' : tPush (.ref (adW G k)) K l z h) : T G d bc bs M pc l z h Q := by
  intro p la e R s m args below meth co H locs cells slots lsA hC h1 h2 h3 h4 hR hS hL
  subst hn
  exact va_gets hC.1 hC.2.1 (hC.st.1.1 k hk).1 hS hC.2.2.2.2.1 (hC.2.2.2.2.2.1 _ hw) (fun _ x => x) hd (hK _ _ _ k' p la e R s m args below meth co H locs cells slots lsA hC h1 h2 h3 h4 hR hS hL)
theorem R_words {idx : Nat} {host : String} (hd : decode M.2.1 pc = .ok (.getstatic idx, 3)) (hw : Cond.fieldLinkNest M.1.cls idx "BridgeToll" "WORDS" "[LBridgeToll$Word;" host ∈ lw_tbl) (hK : ∀ l z h, K l z h → T G d bc bs M (pc + 3) l z h Q) (k' : tPush (.ref (G.2.2.2 50)) K l z h) : T G d bc bs M pc l z h Q := by
  intro p la e R s m args below meth co H locs cells slots lsA hC h1 h2 h3 h4 hR hS hL
  exact va_getsN hC.1 hC.2.1 hC.st.2.2.2.1 hS hC.2.2.2.2.1 (va_Nw.use rfl (hC.2.2.2.2.2.2.2.2.2.2.1 _ hw rfl)) (fun _ x => x) hd (hK _ _ _ k' p la e R s m args below meth co H locs cells slots lsA hC h1 h2 h3 h4 hR hS hL)
theorem R_swm {idx : Nat} (hd : decode M.2.1 pc = .ok (.getstatic idx, 3)) (hw : Cond.fieldLink M.1.cls idx "BridgeToll$1" "$SwitchMap$BridgeToll$Word" "[I" ∈ wsA) (hK : ∀ l z h, K l z h → T G d bc bs M (pc + 3) l z h Q) (k' : tPush (.ref (G.2.2.2 51)) K l z h) : T G d bc bs M pc l z h Q := by
  intro p la e R s m args below meth co H locs cells slots lsA hC h1 h2 h3 h4 hR hS hL
  exact va_gets hC.1 hC.2.1 hC.st.2.2.2.2.2.1 hS hC.2.2.2.2.1 (hC.2.2.2.2.2.1 _ hw) (fun _ x => x) hd (hK _ _ _ k' p la e R s m args below meth co H locs cells slots lsA hC h1 h2 h3 h4 hR hS hL)
theorem R_compact {idx : Nat} (hd : decode M.2.1 pc = .ok (.getstatic idx, 3)) (hw : Cond.fieldLink M.1.cls idx "java/lang/String" "COMPACT_STRINGS" "Z" ∈ wsA) (hK : ∀ l z h, K l z h → T G d bc bs M (pc + 3) l z h Q) (k' : tPush (.int 1) K l z h) : T G d bc bs M pc l z h Q := by
  intro p la e R s m args below meth co H locs cells slots lsA hC h1 h2 h3 h4 hR hS hL
  exact va_gets hC.1 hC.2.1 hC.st.2.2.2.2.2.2.2.1 hS hC.2.2.2.2.1 (hC.2.2.2.2.2.1 _ hw) (fun _ x => x) hd (hK _ _ _ k' p la e R s m args below meth co H locs cells slots lsA hC h1 h2 h3 h4 hR hS hL)
/-- a static of which only 'null or a reference' is known -/
def tAny (K : KT) : KT := fun l z h => K l (.null :: z) h ∧ ∀ t : Nat, K l (.ref t :: z) h
theorem R_fmt {idx : Nat} (hd : decode M.2.1 pc = .ok (.getstatic idx, 3)) (hw : Cond.fieldLink M.1.cls idx "jdk/internal/util/Preconditions" "SIOOBE_FORMATTER" "Ljava/util/function/BiFunction;" ∈ wsA) (hK : ∀ l z h, K l z h → T G d bc bs M (pc + 3) l z h Q) (k' : tAny K l z h) : T G d bc bs M pc l z h Q := by
  intro p la e R s m args below meth co H locs cells slots lsA hC h1 h2 h3 h4 hR hS hL
  rcases hC.st.2.2.2.2.2.2.2.2.2.2 with hz | ⟨t, hz⟩
  · exact va_gets hC.1 hC.2.1 hz hS hC.2.2.2.2.1 (hC.2.2.2.2.2.1 _ hw) (fun _ x => x) hd (hK _ _ _ k'.1 p la e R s m args below meth co H locs cells slots lsA hC h1 h2 h3 h4 hR hS hL)
  · exact va_gets hC.1 hC.2.1 hz hS hC.2.2.2.2.1 (hC.2.2.2.2.2.1 _ hw) (fun _ x => x) hd (hK _ _ _ (k'.2 t) p la e R s m args below meth co H locs cells slots lsA hC h1 h2 h3 h4 hR hS hL)
/-- a field of a constant -/
def tGx (P : Nat → Value → Prop) (K : KT) : KT := fun l z h => match z with
  | .ref a :: r => ∃ v, P a v ∧ K l (v :: r) h
  | _ => False
def xText (G : Gt) (a : Nat) (v : Value) : Prop := ∃ k, k < 25 ∧ a = adW G k ∧ v = .ref (sK G k)
def xOrd (G : Gt) (a : Nat) (v : Value) : Prop := ∃ k, k < 25 ∧ a = adW G k ∧ v = .int (ordW.getD k 0)
def xVal (G : Gt) (a : Nat) (v : Value) : Prop := ∃ i, i < 29 ∧ a = sK G i ∧ v = .ref (sV G i)
def xCod (G : Gt) (a : Nat) (v : Value) : Prop := ∃ i, i < 29 ∧ a = sK G i ∧ v = .int 0
theorem R_gx {P : Nat → Value → Prop} {idx : Nat} {o n dd : String} (hd : decode M.2.1 pc = .ok (.getfield idx, 3)) (hw : Cond.fieldLink M.1.cls idx o n dd ∈ wsA) (hP : ∀ (s : State) (a : Nat) (v : Value), StZ G s s.heap → P a v → va_OF o n dd v a (Fr G) s s.heap) (hK : ∀ l z h, K l z h → T G d bc bs M (pc + 3) l z h Q) (k' : tGx P K l z h) : T G d bc bs M pc l z h Q := by
  unfold tGx at k'
  split at k'
  · obtain ⟨v, hv, k'⟩ := k'
    intro p la e R s m args below meth co H locs cells slots lsA hC h1 h2 h3 h4 hR hS hL
    exact vk_getf hC.1 hC.2.1 (hP s _ v hC.st hv) hS hC.2.2.2.2.1 (hC.2.2.2.2.2.1 _ hw) (fun _ x => x) hd (hK _ _ _ k' p la e R s m args below meth co H locs cells slots lsA hC h1 h2 h3 h4 hR hS hL)
  · exact k'.elim
theorem xText_ok (s : State) (a : Nat) (v : Value) (hz : StZ G s s.heap) (hp : xText G a v) : va_OF "BridgeToll$Word" "text" "Ljava/lang/String;" v a (Fr G) s s.heap := by
  obtain ⟨k, hk, rfl, rfl⟩ := hp
  exact hz.2.1 k hk
theorem xOrd_ok (s : State) (a : Nat) (v : Value) (hz : StZ G s s.heap) (hp : xOrd G a v) : va_OF "java/lang/Enum" "ordinal" "I" v a (Fr G) s s.heap := by
  obtain ⟨k, hk, rfl, rfl⟩ := hp
  exact (hz.1.1 k hk).2.2 _ (List.mem_singleton.mpr rfl)
theorem xVal_ok (s : State) (a : Nat) (v : Value) (hz : StZ G s s.heap) (hp : xVal G a v) : va_OF "java/lang/String" "value" "[B" v a (Fr G) s s.heap := by
  obtain ⟨k, hk, rfl, rfl⟩ := hp
  exact (hz.2.2.1 k hk).2.2.1
theorem xCod_ok (s : State) (a : Nat) (v : Value) (hz : StZ G s s.heap) (hp : xCod G a v) : va_OF "java/lang/String" "coder" "B" v a (Fr G) s s.heap := by
  obtain ⟨k, hk, rfl, rfl⟩ := hp
  exact (hz.2.2.1 k hk).2.1
/-- tables: the words, the switch's map, a text's bytes -/
def tTlen (P : Nat → Nat → Prop) (K : KT) : KT := fun l z h => match z with
  | .ref a :: r => ∃ n, P a n ∧ K l (.int (nI n) :: r) h
  | _ => False
def tTald (P : Nat → Nat → (Nat → Value) → Prop) (K : KT) : KT := fun l z h => match z with
  | .int i :: .ref a :: r => ∃ n f, P a n f ∧ vp_in i n ∧ K l (f i.toNatClampNeg :: r) h
  | _ => False
def yWords (G : Gt) (a n : Nat) (f : Nat → Value) : Prop := a = G.2.2.2 50 ∧ n = 25 ∧ f = fun j => .ref (adW G j)
def ySwm (G : Gt) (a n : Nat) (f : Nat → Value) : Prop := a = G.2.2.2 51 ∧ n = 25 ∧ f = fun j => .int (swM.getD j 0)
def yTxt (G : Gt) (a n : Nat) (f : Nat → Value) : Prop := ∃ i, i < 29 ∧ a = sV G i ∧ n = (strT.getD i []).length ∧ f = fun j => .int ((strT.getD i []).getD j 0)
theorem R_tlen {P : Nat → Nat → (Nat → Value) → Prop} {ty : FieldType} (hP : ∀ (s : State) (a n : Nat) (f : Nat → Value), StZ G s s.heap → P a n f → va_T ty a n f (Fr G) s s.heap) (hd : decode M.2.1 pc = .ok (.arraylength, 1)) (hK : ∀ l z h, K l z h → T G d bc bs M (pc + 1) l z h Q) (k' : tTlen (fun a n => ∃ f, P a n f) K l z h) : T G d bc bs M pc l z h Q := by
  unfold tTlen at k'
  split at k'
  · obtain ⟨n, ⟨f, hp⟩, k'⟩ := k'
    intro p la e R s m args below meth co H locs cells slots lsA hC h1 h2 h3 h4 hR hS hL
    exact va_tlen hC.1 hC.2.1 (hP s _ n f hC.st hp) hS rfl hd (hK _ _ _ k' p la e R s m args below meth co H locs cells slots lsA hC h1 h2 h3 h4 hR hS hL)
  · exact k'.elim
theorem R_wald (hd : decode M.2.1 pc = .ok (.aaload, 1)) (hK : ∀ l z h, K l z h → T G d bc bs M (pc + 1) l z h Q) (k' : tTald (yWords G) K l z h) : T G d bc bs M pc l z h Q := by
  unfold tTald at k'
  split at k'
  · obtain ⟨n, f, ⟨rfl, rfl, rfl⟩, hin, k'⟩ := k'
    intro p la e R s m args below meth co H locs cells slots lsA hC h1 h2 h3 h4 hR hS hL
    obtain ⟨cell, g1, g2, g3, g4, g5, g6, g7⟩ := hC.st.2.2.2.2.1.kept hS.2.1
    have hlt := hlt_of hin
    exact W.aald (v := .ref (adW G _)) hC.1 hC.2.1 g1 g2 rfl g3 (fun q => q.elim (fun q => hin (Or.inl q)) (fun q => by omega)) (g6 _ hlt) rfl rfl hd (hK _ _ _ k' p la e R s m args below meth co H locs cells slots lsA hC h1 h2 h3 h4 hR hS hL)
  · exact k'.elim
theorem R_smald (hd : decode M.2.1 pc = .ok (.iaload, 1)) (hK : ∀ l z h, K l z h → T G d bc bs M (pc + 1) l z h Q) (k' : tTald (ySwm G) K l z h) : T G d bc bs M pc l z h Q := by
  unfold tTald at k'
  split at k'
  · obtain ⟨n, f, ⟨rfl, rfl, rfl⟩, hin, k'⟩ := k'
    intro p la e R s m args below meth co H locs cells slots lsA hC h1 h2 h3 h4 hR hS hL
    obtain ⟨cell, g1, g2, g3, g4, g5, g6, g7⟩ := hC.st.2.2.2.2.2.2.1.kept hS.2.1
    have hlt := hlt_of hin
    exact W.iald (v := .int _) hC.1 hC.2.1 g1 g2 g3 (fun q => q.elim (fun q => hin (Or.inl q)) (fun q => by omega)) (g6 _ hlt) rfl rfl hd (hK _ _ _ k' p la e R s m args below meth co H locs cells slots lsA hC h1 h2 h3 h4 hR hS hL)
  · exact k'.elim
theorem R_txald (hd : decode M.2.1 pc = .ok (.baload, 1)) (hK : ∀ l z h, K l z h → T G d bc bs M (pc + 1) l z h Q) (k' : tTald (yTxt G) K l z h) : T G d bc bs M pc l z h Q := by
  unfold tTald at k'
  split at k'
  · obtain ⟨n, f, ⟨i, hi, rfl, rfl, rfl⟩, hin, k'⟩ := k'
    intro p la e R s m args below meth co H locs cells slots lsA hC h1 h2 h3 h4 hR hS hL
    obtain ⟨cell, g1, g2, g3, g4, g5, g6, g7⟩ := (hC.st.2.2.1 i hi).2.2.2.kept hS.2.1
    have hlt := hlt_of hin
    exact W.bald (v := .int _) hC.1 hC.2.1 g1 g2 g3 (fun q => q.elim (fun q => hin (Or.inl q)) (fun q => by omega)) (g6 _ hlt) rfl rfl hd (hK _ _ _ k' p la e R s m args below meth co H locs cells slots lsA hC h1 h2 h3 h4 hR hS hL)
  · exact k'.elim
theorem yWords_ok (s : State) (a n : Nat) (f : Nat → Value) (hz : StZ G s s.heap) (hp : yWords G a n f) : va_T (.object "BridgeToll$Word") a n f (Fr G) s s.heap := by
  obtain ⟨rfl, rfl, rfl⟩ := hp
  exact hz.2.2.2.2.1
theorem yTxt_ok (s : State) (a n : Nat) (f : Nat → Value) (hz : StZ G s s.heap) (hp : yTxt G a n f) : va_T .byte a n f (Fr G) s s.heap := by
  obtain ⟨i, hi, rfl, rfl, rfl⟩ := hp
  exact (hz.2.2.1 i hi).2.2.2
/-- texts by ldc -/
theorem R_ldcS {idx q : Nat} {tx : String} (hd : decode M.2.1 pc = .ok (.ldc idx, 2)) (hq : ∀ s : State, StR G s → vk_R M.1.cls idx tx q s) (hK : ∀ l z h, K l z h → T G d bc bs M (pc + 2) l z h Q) (k' : tPush (.ref q) K l z h) : T G d bc bs M pc l z h Q := by
  intro p la e R s m args below meth co H locs cells slots lsA hC h1 h2 h3 h4 hR hS hL
  exact va_ldcS hC.1 hC.2.1 hC.2.2.2.2.1 (hq s hC.2.2.2.2.2.2.2.2.2.2.2.2.2.2.2.2) hd (hK _ _ _ k' p la e R s m args below meth co H locs cells slots lsA hC h1 h2 h3 h4 hR hS hL)
/-- new T[n] -/
theorem R_newR {kd N idx : Nat} {C : String} (hd : decode M.2.1 pc = .ok (.anewarray idx, 3)) (hkd : kd < 3) (ht : tyA.getD (4 + kd) .int = .object C) (hover : ∀ U H, Gd G U H → va_AO C U) (hw : Cond.classLink M.1.cls idx C ∈ wsA) (hb : N * 4 ≤ 536870912)
    (hK : ∀ l z h, K l z h → T G d bc bs M (pc + 3) l z h Q) (k : tNewR kd N K l z h) : T G d (bc + 1) (bs + N) M pc l z h Q := by
  unfold tNewR at k
  split at k
  · rename_i x r
    obtain ⟨hN, hn, k⟩ := k
    intro p la e R s m args below meth co H locs cells slots lsA hC h1 h2 h3 h4 hR hS hL
    subst hN
    refine W.anew hC.1 hC.2.1 hC.2.2.2.2.1 (hC.2.2.2.2.2.1 _ hw) (va_AO.use (hover _ _ hC.2.2.2.2.2.2.2.2)) rfl hd rfl hn hb (by omega) (by omega) fun cA kA comp f1 f2 f3 f4 => ?_
    have hra := (RA_at (G := G) (s := s) hC.2.2.2.2.2.2.2.2.1 (show 4 + kd < 8 by omega) ht rfl).2
    obtain ⟨kA2, comp2, r1, r2, r3, r4⟩ := hra
    generalize hH1 : H.push ({ cls := cA, slots := Array.replicate x.toNatClampNeg .null, vm := .none } : Cell) = H1
    have z1 : H1.size = H.size + 1 := by rw [← hH1, Array.size_push]
    have e1 : H1[H.size]? = some (arrV cA x.toNatClampNeg (fun _ => .null)) := by rw [← hH1, Array.getElem?_push_size, ← arrV_new]
    have o1 : ∀ q : Nat, q < H.size → H1[q]? = H[q]? := fun q hq => by rw [← hH1, Array.getElem?_push, if_neg (Nat.ne_of_lt hq)]
    have hcA : cA = G.2.1 (4 + kd) := by first | exact Option.some.inj (f4.symm.trans r4) | exact Option.some.inj (f1.symm.trans r4)
    have hbb : G.2.2.1 ≤ H.size := Nat.le_trans hC.2.2.2.2.2.2.2.2.2.1 hS.1
    have hR1 : Rl G (hNew h (.inr (.inr (.inr (kd, x.toNatClampNeg, fun _ => none))))) H1 := Rl_new hR hbb ⟨(show kd < 4 by omega), by rw [e1, hcA]; rfl⟩ z1 o1
    have k2 := hK _ _ _ k p la e R s m args below meth co H1 locs (cells + 1) (slots + x.toNatClampNeg) lsA hC h1 h2 (by omega) (by omega) hR1 (hS.psh z1 o1) hL
    rw [show cells + 1 + bc = cells + (bc + 1) by omega, show slots + x.toNatClampNeg + bs = slots + (bs + x.toNatClampNeg) by omega, ← hR.1] at k2
    exact k2
  · exact k.elim
/-- a reference into a row: of an object of ours, of a word -/
def tRast (kd : Nat) (P : Hp → Nat → Prop) (K : KT) : KT := fun l z h => match z with
  | .ref v :: .int i :: .ref a :: r => match h.2 a with
    | some (.inr (.inr (.inr (k, n, g)))) => k = kd ∧ vp_in i n ∧ P h v ∧ K l r (hSet h a (.inr (.inr (.inr (kd, n, va_up g i.toNatClampNeg (some v))))))
    | _ => False
  | _ => False
theorem R_aastore {kd : Nat} {C : String} {P : Hp → Nat → Prop} (hd : decode M.2.1 pc = .ok (.aastore, 1)) (hkd : kd < 3) (ht : tyA.getD (4 + kd) .int = .object C) (hP : ∀ (s : State) (H : Heap) (locs : List Loc) (h : Hp) (v : Nat), Gd G s s.heap → va_S (Fr G) s.heap H locs → Rl G h H → P h v → ∃ (cv : Cell) (kv : Class), H[v]? = some cv ∧ cv.vm.isStatics = false ∧ s.vm.findClass C = some cv.cls ∧ s.vm.classes[cv.cls]? = some kv ∧ s.vm.assignable cv.cls cv.cls = true)
    (hK : ∀ l z h, K l z h → T G d bc bs M (pc + 1) l z h Q) (k : tRast kd P K l z h) : T G d bc bs M pc l z h Q := by
  unfold tRast at k
  split at k
  · split at k
    · rename_i v i a r o kk n g ha
      obtain ⟨rfl, hin, hp, k⟩ := k
      intro p la e R s m args below meth co H locs cells slots lsA hC h1 h2 h3 h4 hR hS hL
      obtain ⟨hFr, hk4, hce⟩ := hR.2 a _ ha
      obtain ⟨kA, comp, r1, r2, r3, r4⟩ := (RA_at (G := G) (s := s) hC.2.2.2.2.2.2.2.2.1 (show 4 + kk < 8 by omega) ht rfl).2
      obtain ⟨cv, kv, e1, e2, e3, e4, e5⟩ := hP s H locs h v hC.2.2.2.2.2.2.2.2 hS hR hp
      have hcomp : comp = cv.cls := Option.some.inj (r3.symm.trans e3)
      have hlt := hlt_of hin
      have h0 : ¬ i < 0 := fun q => hin (Or.inl q)
      refine W.aast hC.1 hC.2.1 hce (fun q h => by cases h) (fun h => by cases h) r1 r2 rfl (by rw [hcomp]; exact e4) ⟨h0, by rw [arrV_size]; exact hlt⟩ e1 (fun q h => by rw [h] at e2; cases e2) e4 (by rw [hcomp]; exact e5) rfl rfl hd fun H1 q1 q2 q3 => ?_
      refine hK _ _ _ k p la e R s m args below meth co H1 _ cells slots lsA hC h1 h2 h3 h4 (Rl_set hR hFr ⟨hk4, ?_⟩ q2 q3) (hS.put q2 q3 hFr) hL
      rw [q1, arrV_store, ← updV_rf]
      rfl
    · exact k.elim
  · exact k.elim
def pObj (ci : Nat) (h : Hp) (v : Nat) : Prop := ∃ fs, h.2 v = some (.inl (ci, fs))
def pWord (G : Gt) (_ : Hp) (v : Nat) : Prop := ∃ k, k < 25 ∧ v = adW G k
theorem pObj_ok {ci : Nat} {r : vw_C} (hc : clsA[ci]? = some r) (s : State) (H : Heap) (locs : List Loc) (h : Hp) (v : Nat) (hG : Gd G s s.heap) (_ : va_S (Fr G) s.heap H locs) (hR : Rl G h H) (hp : pObj ci h v) : ∃ (cv : Cell) (kv : Class), H[v]? = some cv ∧ cv.vm.isStatics = false ∧ s.vm.findClass r.1 = some cv.cls ∧ s.vm.classes[cv.cls]? = some kv ∧ s.vm.assignable cv.cls cv.cls = true := by
  obtain ⟨fs, ha⟩ := hp
  obtain ⟨cell, g1, g2, g3⟩ := recv_T hG.1 hR ha hc
  have hcls := (hG.1.1 ci r hc).2
  have e : cell.cls = G.1.1 ci := Option.some.inj (g3.symm.trans hcls.1)
  rw [e] at g3
  obtain ⟨kC, hkC, -⟩ := hcls.2
  exact ⟨cell, kC, g1, g2, by rw [e]; exact g3, by rw [e]; exact hkC, by rw [e]; exact va_assign hcls⟩
/-- System.arraycopy of ints, of longs -/
def tCpyI (K : KT) : KT := fun l z h => match z with
  | .int n :: .int dp :: .ref a :: .int sp :: .ref a0 :: r => match h.2 a0, h.2 a with
    | some (.inr (.inl (k0, n0, f))), some (.inr (.inl (k1, n1, g))) => k0 = 0 ∧ k1 = 0 ∧ ¬ sp < 0 ∧ ¬ dp < 0 ∧ ¬ n < 0 ∧ sp.toNatClampNeg + n.toNatClampNeg ≤ n0 ∧ dp.toNatClampNeg + n.toNatClampNeg ≤ n1 ∧ (r.map fun v => v.category).sum ≤ 8 ∧ K l r (hSet h a (.inr (.inl (0, n1, va_cpy f g sp.toNatClampNeg dp.toNatClampNeg n.toNatClampNeg))))
    | _, _ => False
  | _ => False
def tCpyJ (K : KT) : KT := fun l z h => match z with
  | .int n :: .int dp :: .ref a :: .int sp :: .ref a0 :: r => match h.2 a0, h.2 a with
    | some (.inr (.inr (.inl (n0, f)))), some (.inr (.inr (.inl (n1, g)))) => ¬ sp < 0 ∧ ¬ dp < 0 ∧ ¬ n < 0 ∧ sp.toNatClampNeg + n.toNatClampNeg ≤ n0 ∧ dp.toNatClampNeg + n.toNatClampNeg ≤ n1 ∧ (r.map fun v => v.category).sum ≤ 8 ∧ K l r (hSet h a (.inr (.inr (.inl (n1, va_cpy f g sp.toNatClampNeg dp.toNatClampNeg n.toNatClampNeg)))))
    | _, _ => False
  | _ => False
theorem cl_int {x : Int32} (h : ¬ x < 0) : x.toInt = (x.toNatClampNeg : Int) := (Int.toNat_of_nonneg (Int32.le_iff_toInt_le.mp (Int32.not_lt.mp h))).symm
theorem cpy_core {p : Program} {la : Launch} {e : Env} {R : Room} {s : State} {m : MethodId} {args : Array Value} {below : List Frame} {meth : Method} {c : Code} {H : Heap} {locs : List Loc} {cells slots : Nat} {lsA : Array Slot} {Qs : State → Prop} {rest : List Value} {α : Type} (mk : α → Value) {kd idx a a0 n0 n1 : Nat} {f g : Nat → α} {sp dp n : Int32} {ty : FieldType}
    (hC : Cx G M p s m args meth c) (hsz : lsA.size = c.maxLocals) (hkd : kd < 8) (ht : tyA.getD kd .int = ty) (hprim : refKind ty = false) (hc0 : H[a0]? = some (arrV (G.2.1 kd) n0 (fun j => mk (f j)))) (hc1 : H[a]? = some (arrV (G.2.1 kd) n1 (fun j => mk (g j)))) (hd : decode M.2.1 pc = .ok (.invokestatic idx, 3)) (hlink : Cond.methodLink M.1.cls idx arraycopyName ∈ wsA) (hnat : Cond.native arraycopyName ∈ wsA) (hstat : Cond.static arraycopyName ∈ wsA) (hini : Cond.initialized "java/lang/System" ∈ wsA)
    (h1 : ¬ sp < 0) (h2 : ¬ dp < 0) (h3 : ¬ n < 0) (h4 : sp.toNatClampNeg + n.toNatClampNeg ≤ n0) (h5 : dp.toNatClampNeg + n.toNatClampNeg ≤ n1) (hfit : ∀ x : α, fits ty (mk x) = true) (hcat : ∀ (vm₁ : Vm) (x : α), (match mk x with | .ref _ => False | _ => True)) (hframes : 1 ≤ R.frames) (hlocals : (rest.map fun v => v.category).sum + (nativeFrameWords "java/lang/System" "arraycopy" 5 + 11) ≤ R.locals)
    (kk : ∀ H1 : Heap, H1[a]? = some (arrV (G.2.1 kd) n1 (fun j => mk (va_cpy f g sp.toNatClampNeg dp.toNatClampNeg n.toNatClampNeg j))) → H1.size = H.size → (∀ q, q ≠ a → H1[q]? = H[q]?) → ∀ L : List Loc, (∀ q ∈ L, q.base = a) → W p la e R s m args below meth c H1 (locs ++ L) cells slots Qs (F0 m (pc + 3) lsA rest)) : W p la e R s m args below meth c H locs cells slots Qs (F0 m pc lsA (.int n :: .int dp :: .ref a :: .int sp :: .ref a0 :: rest)) := by
  intro X hX hst
  have hts := hC.2.2.2.2.2.1
  obtain ⟨hAr, -⟩ := RA_at (G := G) (s := s) hC.2.2.2.2.2.2.2.2.1 hkd ht rfl
  obtain ⟨-, k0, hk0, cm0, hkk0⟩ := hAr n0 (fun j => mk (f j))
  obtain ⟨-, k1, hk1, cm1, hkk1⟩ := hAr n1 (fun j => mk (g j))
  obtain ⟨vm', X', step⟩ := hst.arraycopy hC.1 hC.2.2.2.2.1 (hts _ hlink) (hts _ hnat) (hts _ hstat) (hts _ hini) (src := a0) (dst := a) (cs := arrV (G.2.1 kd) n0 (fun j => mk (f j))) (cd := arrV (G.2.1 kd) n1 (fun j => mk (g j))) (srcPos := sp) (destPos := dp) (n := n) (by rw [hX]; exact hc0) (by rw [hX]; exact hc1)
    (fun _ h => by cases h) (fun _ h => by cases h) (fun h => by cases h) (fun h => by cases h) hk0 hk1 hkk0 hkk1 (by simp [hprim]) h1 h2 h3
    (by rw [cl_int h1, cl_int h3, arrV_size]; omega)
    (by rw [cl_int h2, cl_int h3, arrV_size]; omega)
    (fun vm₁ _ i hi => by
      have e : (arrV (G.2.1 kd) n0 (fun j => mk (f j))).slots.getD (sp.toNatClampNeg + i) .null = mk (f (sp.toNatClampNeg + i)) := by
        rw [Array.getD_eq_getD_getElem?, arrV_read _ _ (by omega)]
        rfl
      refine ⟨?_, ?_⟩
      · rw [e]
        exact hfit _
      · rw [e]
        have h9 := hcat vm₁ (f (sp.toNatClampNeg + i))
        cases h8 : mk (f (sp.toNatClampNeg + i)) <;> first | exact trivial | (rw [h8] at h9; exact h9.elim))
    (g := F0 m pc lsA (.int n :: .int dp :: .ref a :: .int sp :: .ref a0 :: rest)) rfl (by rw [hsz]) (rest := rest) rfl (by rw [hC.2.1]; exact hd) hframes (by show 2 * 0 + _ + _ ≤ _; omega)
  have e1 : copied (arrV (G.2.1 kd) n0 (fun j => mk (f j))) (arrV (G.2.1 kd) n1 (fun j => mk (g j))) sp dp n = arrV (G.2.1 kd) n1 (fun j => mk (va_cpy f g sp.toNatClampNeg dp.toNatClampNeg n.toNatClampNeg j)) := va_copied mk _ _ f g h4
  rw [e1] at X' step
  have hl : a < H.size := (Array.getElem?_eq_some_iff.mp hc1).1
  have hheap : ∀ cl : Cell, ((X.setVm vm').setCell a cl).heap = H.setIfInBounds a cl := by intro cl; rw [← hX]; rfl
  obtain ⟨t, a1, b1⟩ := kk _ (by simp [Array.getElem?_setIfInBounds, hl]) (by simp) (fun q hq => by simp [Array.getElem?_setIfInBounds, Ne.symm hq]) _ (fun q hq => by
      obtain ⟨z, -, hz⟩ := List.mem_map.mp hq
      rw [← hz]) _ (hheap _) X'
  exact ⟨t, step t a1, b1⟩
theorem R_copyI {idx : Nat} (hd : decode M.2.1 pc = .ok (.invokestatic idx, 3)) (hd1 : 1 ≤ d) (hlink : Cond.methodLink M.1.cls idx arraycopyName ∈ wsA) (hnat : Cond.native arraycopyName ∈ wsA) (hstat : Cond.static arraycopyName ∈ wsA) (hini : Cond.initialized "java/lang/System" ∈ wsA) (hK : ∀ l z h, K l z h → T G d bc bs M (pc + 3) l z h Q) (k : tCpyI K l z h) : T G d bc bs M pc l z h Q := by
  unfold tCpyI at k
  split at k
  · split at k
    · rename_i n dp a sp a0 r o1 o2 k0 n0 f k1 n1 g ha0 ha
      obtain ⟨rfl, rfl, q1, q2, q3, q4, q5, q6, k⟩ := k
      intro p la e R s m args below meth co H locs cells slots lsA hC h1 h2 h3 h4 hR hS hL
      refine cpy_core (fun x => Value.int x) (kd := 0) (ty := .int) hC (hL.1.trans hC.2.2.2.1.symm) (by decide) rfl rfl (hR.2 a0 _ ha0).2.2 (hR.2 a _ ha).2.2 hd hlink hnat hstat hini q1 q2 q3 q4 q5 (fun _ => rfl) (fun _ _ => trivial) (by omega) (Nat.le_trans (Nat.add_le_add_right q6 _) (Nat.le_trans (by decide) (Nat.le_trans (Nat.mul_le_mul_right 64 hd1) h2))) fun H1 e1 e2 e3 L hLL => ?_
      refine hK _ _ _ k p la e R s m args below meth co H1 _ cells slots lsA hC h1 h2 h3 h4 (Rl_set hR (hR.2 a _ ha).1 ⟨(show (0 : Nat) < 3 by decide), e1⟩ e2 e3) ⟨by rw [e2]; exact hS.1, fun q g1 g2 => by rw [e3 q (fun e => g2 (by rw [e]; exact (hR.2 a _ ha).1))]; exact hS.2.1 q g1 g2, fun q hq => ?_⟩ hL
      rcases List.mem_append.mp hq with h | h
      · exact hS.2.2 q h
      · rw [hLL q h]; exact (hR.2 a _ ha).1
    · exact k.elim
  · exact k.elim
theorem R_copyJ {idx : Nat} (hd : decode M.2.1 pc = .ok (.invokestatic idx, 3)) (hd1 : 1 ≤ d) (hlink : Cond.methodLink M.1.cls idx arraycopyName ∈ wsA) (hnat : Cond.native arraycopyName ∈ wsA) (hstat : Cond.static arraycopyName ∈ wsA) (hini : Cond.initialized "java/lang/System" ∈ wsA) (hK : ∀ l z h, K l z h → T G d bc bs M (pc + 3) l z h Q) (k : tCpyJ K l z h) : T G d bc bs M pc l z h Q := by
  unfold tCpyJ at k
  split at k
  · split at k
    · rename_i n dp a sp a0 r o1 o2 n0 f n1 g ha0 ha
      obtain ⟨q1, q2, q3, q4, q5, q6, k⟩ := k
      intro p la e R s m args below meth co H locs cells slots lsA hC h1 h2 h3 h4 hR hS hL
      refine cpy_core (fun x => Value.long x) (kd := 3) (ty := .long) hC (hL.1.trans hC.2.2.2.1.symm) (by decide) rfl rfl (hR.2 a0 _ ha0).2 (hR.2 a _ ha).2 hd hlink hnat hstat hini q1 q2 q3 q4 q5 (fun _ => rfl) (fun _ _ => trivial) (by omega) (Nat.le_trans (Nat.add_le_add_right q6 _) (Nat.le_trans (by decide) (Nat.le_trans (Nat.mul_le_mul_right 64 hd1) h2))) fun H1 e1 e2 e3 L hLL => ?_
      refine hK _ _ _ k p la e R s m args below meth co H1 _ cells slots lsA hC h1 h2 h3 h4 (Rl_set hR (hR.2 a _ ha).1 e1 e2 e3) ⟨by rw [e2]; exact hS.1, fun q g1 g2 => by rw [e3 q (fun e => g2 (by rw [e]; exact (hR.2 a _ ha).1))]; exact hS.2.1 q g1 g2, fun q hq => ?_⟩ hL
      rcases List.mem_append.mp hq with h | h
      · exact hS.2.2 q h
      · rw [hLL q h]; exact (hR.2 a _ ha).1
    · exact k.elim
  · exact k.elim
end RulesE
