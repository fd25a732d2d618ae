/-! ===== rules of fields, arrays, makings and calls ===== -/
theorem mem_wsA {w : Cond} (i : Nat) (h : lw_tbl[i]? = some w) (hg : goodWord w = true) : w ∈ wsA := List.mem_filter.mpr ⟨List.mem_of_getElem? h, hg⟩
theorem wsA_good {w : Cond} (h : w ∈ wsA) : (w.onTables && w.keeps) = true ∨ ∃ ty, w = .arrayClass ty := good_of_word (List.mem_filter.mp h).2
section RulesB
variable {G : Gt} {d bc bs : Nat} {M : Mth} {pc : Nat} {K : KT} {Q : QT} {l : Ls} {z : List Value} {h : Hp}
theorem Rl.one {H : Heap} {a c : Nat} {fs : List Value} (hR : Rl G h H) (ha : h.2 a = some (.inl (c, fs))) : va_P G.1 clsA [(a, .inr (c, fs))] H := by
  intro k q hk
  obtain ⟨-, r, h1, -, h3⟩ := hR.2 a _ ha
  have hz : k < 1 := (List.getElem?_eq_some_iff.mp hk).1
  rw [show k = 0 by omega] at hk
  cases hk
  exact ⟨r, h1, h3⟩
theorem tysG_at {k : Nat} (hk : k < 8) : (tysG G)[k]? = some (G.2.1 k, tyA.getD k .int) := by
  unfold tysG
  rw [List.getElem?_map, List.getElem?_range hk]
  rfl
def tGetf (ci k : Nat) (K : KT) : KT := fun l z h => match z with
  | .ref a :: r => match h.2 a with
    | some (.inl (c, fs)) => c = ci ∧ (match fs[k]? with
      | some v => K l (v :: r) h
      | none => False)
    | _ => False
  | _ => False
theorem R_getf {ci f idx N : Nat} {C : String} {Tt : u_T} (hd : decode M.2.1 pc = .ok (.getfield idx, 3)) (hc : clsA[ci]? = some (C, Tt, N)) (hin : ∀ w ∈ u_ws C Tt N, w ∈ wsA) (hk : f < N) (hw : Cond.fieldLink M.1.cls idx (Tt f).1 (Tt f).2.1 (Tt f).2.2.1 ∈ wsA) (hK : ∀ l z h, K l z h → T G d bc bs M (pc + 3) l z h Q) (k : tGetf ci f K l z h) : T G d bc bs M pc l z h Q := by
  unfold tGetf at k
  split at k
  · split at k
    · rename_i a r o c fs ha
      obtain ⟨rfl, k⟩ := k
      split at k
      · rename_i v hv
        intro p la e R s m args below meth co H locs cells slots lsA hC h1 h2 h3 h4 hR hS hL
        exact va_get hC.1 hC.2.1 hC.2.2.2.2.2.1 hin hC.2.2.2.2.1 hC.2.2.2.2.2.2.2.2.1 (hR.one ha) 0 rfl hc f hk (hC.2.2.2.2.2.1 _ hw) (fun _ x => x) hv hd (hK _ _ _ k p la e R s m args below meth co H locs cells slots lsA hC h1 h2 h3 h4 hR hS hL)
      · exact k.elim
    · exact k.elim
  · exact k.elim
def tPutf (P : Value → Prop) (ci f : Nat) (K : KT) : KT := fun l z h => match z with
  | v :: .ref a :: r => match h.2 a with
    | some (.inl (c, fs)) => c = ci ∧ P v ∧ K l r (hSet h a (.inl (ci, fs.set f v)))
    | _ => False
  | _ => False
def isI (v : Value) : Prop := ∃ x, v = .int x
def isZ (v : Value) : Prop := ∃ x, v = .int x ∧ narrow .boolean (.int x) = .int x
def isL (v : Value) : Prop := ∃ x, v = .long x
def isA (v : Value) : Prop := (∃ x, v = .ref x) ∨ v = .null
theorem put_core {ci f N : Nat} {C : String} {Tt : u_T} {s : State} {H H1 : Heap} {a : Nat} {cell : Cell} {fs : List Value} {v : Value} {args : Array Value} {fl : Field} {cf fi : Nat} {kf : Class} (ty0 : Nat → FieldType) (hty : ∀ k, k < N → parseFieldDescriptor (Tt k).2.2.1 = some (ty0 k)) (hnm : ∀ a, a < N → ∀ b, b < N → a ≠ b → (Tt a).2.1 ≠ (Tt b).2.1)
    (hts : ∀ w ∈ wsA, w.before args s = true) (hc : clsA[ci]? = some (C, Tt, N)) (hin : ∀ w ∈ u_ws C Tt N, w ∈ wsA) (hk : f < N) (hKK : va_K G.1 clsA (tysG G) s) (hR : Rl G h H) (ha : h.2 a = some (.inl (ci, fs)))
    (q1 : H[a]? = some cell) (q2 : cell.cls = G.1.1 ci) (q3 : cell.vm = .none) (q4 : ∀ k, k < N → cell.slots[G.1.2 ci k]? = some (vp_V fs k)) (hl : fs.length = N)
    (e1 : H1[a]? = some (cell.setSlot (G.1.2 ci f) v)) (e2 : H1.size = H.size) (e3 : ∀ q, q ≠ a → H1[q]? = H[q]?) : Rl G (hSet h a (.inl (ci, fs.set f v))) H1 := by
  have hap := va_apart (own := "") hts hin ty0 hty hnm hKK hc
  refine Rl_set hR (hR.2 a _ ha).1 ⟨(C, Tt, N), hc, by rw [List.length_set]; exact hl, ?_⟩ e2 e3
  exact t_OB.to (V := updV (vp_V fs) f v) ⟨_, e1, q2, q3, t_set q4 hap hk v⟩ (fun j _ => vp_updV_set (by rw [hl]; exact hk) v j)
/-- what the tables say of a field: not final, final; and that a final one's class is the one that it is named by -/
theorem fw_lay {ws : List Cond} {s : State} {args : Array Value} {C : String} {Tt : u_T} {N f : Nat} (hts : ∀ w ∈ ws, w.before args s = true) (hin : ∀ w ∈ u_ws C Tt N, w ∈ ws) (hf : f < N) (hb : (Tt f).2.2.2 = false) : (Cond.lays C (Tt f).1 (Tt f).2.1 (Tt f).2.2.1).before args s = true := by
  simpa only [u_lay, hb, Bool.false_eq_true, if_false] using hts _ (hin _ (u_in_lay hf))
theorem fw_layF {ws : List Cond} {s : State} {args : Array Value} {C : String} {Tt : u_T} {N f : Nat} (hts : ∀ w ∈ ws, w.before args s = true) (hin : ∀ w ∈ u_ws C Tt N, w ∈ ws) (hf : f < N) (hb : (Tt f).2.2.2 = true) : (Cond.laysFinal C (Tt f).1 (Tt f).2.1 (Tt f).2.2.1).before args s = true := by
  simpa only [u_lay, hb, if_true] using hts _ (hin _ (u_in_lay hf))
theorem fw_own {s : State} {args : Array Value} {C O n d : String} {cf fi c0 : Nat} {kf : Class} {fl : Field} (h : (Cond.laysFinal C O n d).before args s = true) (hi : s.fieldFound? O n d = some (cf, kf, fi, fl)) (ho : s.vm.findClass O = some c0) : c0 = cf := by
  obtain ⟨_, _, cg, kg, gi, gl, -, -, z1, -, -, -, z2, -⟩ := Cond.laysFinal_spec h
  have z3 : (cf, kf, fi, fl) = (cg, kg, gi, gl) := Option.some.inj (hi.symm.trans z1)
  have z4 : c0 = cg := Option.some.inj (ho.symm.trans z2)
  exact z4.trans (congrArg Prod.fst z3).symm
theorem R_putf {P : Value → Prop} {ci f idx N : Nat} {C : String} {Tt : u_T} {ty : FieldType} (ty0 : Nat → FieldType) (hty : ∀ k, k < N → parseFieldDescriptor (Tt k).2.2.1 = some (ty0 k)) (hnm : ∀ a, a < N → ∀ b, b < N → a ≠ b → (Tt a).2.1 ≠ (Tt b).2.1) (hd : decode M.2.1 pc = .ok (.putfield idx, 3)) (hc : clsA[ci]? = some (C, Tt, N)) (hin : ∀ w ∈ u_ws C Tt N, w ∈ wsA) (hk : f < N) (hw : Cond.fieldLink M.1.cls idx (Tt f).1 (Tt f).2.1 (Tt f).2.2.1 ∈ wsA)
    (hfin : (Tt f).2.2.2 = false) (hdt : parseFieldDescriptor (Tt f).2.2.1 = some ty) (hP : ∀ v, P v → narrow ty v = v ∧ fits ty v = true) (hK : ∀ l z h, K l z h → T G d bc bs M (pc + 3) l z h Q) (k : tPutf P ci f K l z h) : T G d bc bs M pc l z h Q := by
  unfold tPutf at k
  split at k
  · split at k
    · rename_i v a r o c fs ha
      obtain ⟨rfl, hv, k⟩ := k
      intro p la e R s m args below meth co H locs cells slots lsA hC h1 h2 h3 h4 hR hS hL
      have hts := hC.2.2.2.2.2.1
      have hKK := hC.2.2.2.2.2.2.2.2.1
      obtain ⟨hFr, r', hr', hlen, cell, q1, q2, q3, q4⟩ := hR.2 a _ ha
      have er : r' = (C, Tt, N) := Option.some.inj (hr'.symm.trans hc)
      subst er
      obtain ⟨hSl, hfc, kC, hkC, hkind⟩ := hKK.1 c _ hc
      obtain ⟨cf, kf, fi, fl, hi, hsl⟩ := hSl f hk
      have hlay := fw_lay hts hin hk hfin
      have hst := (u_facts hfc hkC (.inl hlay) hi).1
      have h6 := u_store hfc hkC hkind hlay hi hdt (hP v hv).1 (hP v hv).2
      refine W.putK hC.1 hC.2.1 (f := fl) ⟨hC.2.2.2.2.1, hts _ hw, ⟨_, _, _, hi⟩, hst⟩ (by rw [q2]; exact h6) q1 q3 (by rw [hsl]; exact k2_hasslot (q4 f hk)) rfl rfl hd fun H1 e1 e2 e3 => ?_
      rw [hsl] at e1 ⊢
      exact hK _ _ _ k p la e R s m args below meth co H1 _ cells slots lsA hC h1 h2 h3 h4 (put_core ty0 hty hnm hts hc hin hk hKK hR ha q1 q2 q3 q4 hlen e1 e2 e3 (fl := fl) (cf := cf) (fi := fi) (kf := kf)) (hS.put e2 e3 hFr) hL
    · exact k.elim
  · exact k.elim
theorem R_putF {P : Value → Prop} {ci f idx N : Nat} {C : String} {Tt : u_T} {ty : FieldType} (ty0 : Nat → FieldType) (hty : ∀ k, k < N → parseFieldDescriptor (Tt k).2.2.1 = some (ty0 k)) (hnm : ∀ a, a < N → ∀ b, b < N → a ≠ b → (Tt a).2.1 ≠ (Tt b).2.1) (hd : decode M.2.1 pc = .ok (.putfield idx, 3)) (hc : clsA[ci]? = some (C, Tt, N)) (hin : ∀ w ∈ u_ws C Tt N, w ∈ wsA) (hk : f < N) (hw : Cond.fieldLink M.1.cls idx (Tt f).1 (Tt f).2.1 (Tt f).2.2.1 ∈ wsA)
    (hfin : (Tt f).2.2.2 = true) (hini : M.1.name = "<init>") (hdecl : (Tt f).1 = M.1.cls) (hdt : parseFieldDescriptor (Tt f).2.2.1 = some ty) (hP : ∀ v, P v → narrow ty v = v ∧ fits ty v = true) (hK : ∀ l z h, K l z h → T G d bc bs M (pc + 3) l z h Q) (k : tPutf P ci f K l z h) : T G d bc bs M pc l z h Q := by
  unfold tPutf at k
  split at k
  · split at k
    · rename_i v a r o c fs ha
      obtain ⟨rfl, hv, k⟩ := k
      intro p la e R s m args below meth co H locs cells slots lsA hC h1 h2 h3 h4 hR hS hL
      have hts := hC.2.2.2.2.2.1
      have hown := hC.2.2.2.2.1
      have hKK := hC.2.2.2.2.2.2.2.2.1
      obtain ⟨hFr, r', hr', hlen, cell, q1, q2, q3, q4⟩ := hR.2 a _ ha
      have er : r' = (C, Tt, N) := Option.some.inj (hr'.symm.trans hc)
      subst er
      obtain ⟨hSl, hfc, kC, hkC, hkind⟩ := hKK.1 c _ hc
      obtain ⟨cf, kf, fi, fl, hi, hsl⟩ := hSl f hk
      have hlay := fw_layF hts hin hk hfin
      have hst := (u_facts hfc hkC (.inr hlay) hi).1
      have hcf : m.cls = cf := fw_own hlay hi (by rw [hdecl]; exact hown)
      have h6 := u_fits hfc hkC hkind (Or.inr hlay) hi hdt (hP v hv).1 (hP v hv).2
      refine W.putFinK hC.1 hC.2.1 hown (hts _ hw) hi hst hcf (hC.2.2.2.2.2.2.2.1.trans hini) (by rw [q2]; exact h6) q1 q3 (by rw [hsl]; exact k2_hasslot (q4 f hk)) rfl rfl hd fun H1 e1 e2 e3 => ?_
      rw [hsl] at e1 ⊢
      exact hK _ _ _ k p la e R s m args below meth co H1 _ cells slots lsA hC h1 h2 h3 h4 (put_core ty0 hty hnm hts hc hin hk hKK hR ha q1 q2 q3 q4 hlen e1 e2 e3 (fl := fl) (cf := cf) (fi := fi) (kf := kf)) (hS.put e2 e3 hFr) hL
    · exact k.elim
  · exact k.elim
-- arrays
def tXald (kd : Nat) (K : KT) : KT := fun l z h => match z with
  | .int i :: .ref a :: r => match h.2 a with
    | some (.inr (.inl (k, n, g))) => k = kd ∧ vp_in i n ∧ K l (.int (g i.toNatClampNeg) :: r) h
    | _ => False
  | _ => False
def tXast (kd : Nat) (K : KT) : KT := fun l z h => match z with
  | .int x :: .int i :: .ref a :: r => match h.2 a with
    | some (.inr (.inl (k, n, g))) => k = kd ∧ vp_in i n ∧ K l r (hSet h a (.inr (.inl (kd, n, upd g i.toNatClampNeg x))))
    | _ => False
  | _ => False
def tZast (K : KT) : KT := fun l z h => match z with
  | .int x :: .int i :: .ref a :: r => match h.2 a with
    | some (.inr (.inl (k, n, g))) => k = 1 ∧ vp_in i n ∧ K l r (hSet h a (.inr (.inl (1, n, upd g i.toNatClampNeg (vp_nar .boolean x)))))
    | _ => False
  | _ => False
def tJald (K : KT) : KT := fun l z h => match z with
  | .int i :: .ref a :: r => match h.2 a with
    | some (.inr (.inr (.inl (n, g)))) => vp_in i n ∧ K l (.long (g i.toNatClampNeg) :: r) h
    | _ => False
  | _ => False
def tJast (K : KT) : KT := fun l z h => match z with
  | .long x :: .int i :: .ref a :: r => match h.2 a with
    | some (.inr (.inr (.inl (n, g)))) => vp_in i n ∧ K l r (hSet h a (.inr (.inr (.inl (n, vp_updL g i.toNatClampNeg x)))))
    | _ => False
  | _ => False
def tRald (K : KT) : KT := fun l z h => match z with
  | .int i :: .ref a :: r => match h.2 a with
    | some (.inr (.inr (.inr (_, n, g)))) => vp_in i n ∧ K l (va_rf (g i.toNatClampNeg) :: r) h
    | _ => False
  | _ => False
theorem hlt_of {i : Int32} {n : Nat} (hin : vp_in i n) : i.toNatClampNeg < n := Nat.not_le.mp fun q => hin (Or.inr q)
theorem R_iaload (hd : decode M.2.1 pc = .ok (.iaload, 1)) (hK : ∀ l z h, K l z h → T G d bc bs M (pc + 1) l z h Q) (k : tXald 0 K l z h) : T G d bc bs M pc l z h Q := by
  unfold tXald at k
  split at k
  · split at k
    · rename_i i a r o kk n g ha
      obtain ⟨rfl, hin, k⟩ := k
      intro p la e R s m args below meth co H locs cells slots lsA hC h1 h2 h3 h4 hR hS hL
      refine W.iald (v := .int (g i.toNatClampNeg)) hC.1 hC.2.1 (hR.2 a _ ha).2.2 ((hC.2.2.2.2.2.2.2.2.1.2 0 _ (tysG_at (by decide))).1 n (fun j => .int (g j))) (fun q => by cases q) (by rw [arrV_size]; exact hin) (by rw [arrV_read _ _ (hlt_of hin)]) rfl rfl hd ?_
      exact hK _ _ _ k p la e R s m args below meth co H locs cells slots lsA hC h1 h2 h3 h4 hR hS hL
    · exact k.elim
  · exact k.elim
theorem R_zaload (hd : decode M.2.1 pc = .ok (.baload, 1)) (hK : ∀ l z h, K l z h → T G d bc bs M (pc + 1) l z h Q) (k : tXald 1 K l z h) : T G d bc bs M pc l z h Q := by
  unfold tXald at k
  split at k
  · split at k
    · rename_i i a r o kk n g ha
      obtain ⟨rfl, hin, k⟩ := k
      intro p la e R s m args below meth co H locs cells slots lsA hC h1 h2 h3 h4 hR hS hL
      refine W.zald (v := .int (g i.toNatClampNeg)) hC.1 hC.2.1 (hR.2 a _ ha).2.2 ((hC.2.2.2.2.2.2.2.2.1.2 1 _ (tysG_at (by decide))).1 n (fun j => .int (g j))) (fun q => by cases q) (by rw [arrV_size]; exact hin) (by rw [arrV_read _ _ (hlt_of hin)]) rfl rfl hd ?_
      exact hK _ _ _ k p la e R s m args below meth co H locs cells slots lsA hC h1 h2 h3 h4 hR hS hL
    · exact k.elim
  · exact k.elim
theorem updV_int (g : Nat → Int32) (i : Nat) (x : Int32) : updV (fun j => .int (g j)) i (.int x) = fun j => .int (upd g i x j) := by
  funext q
  by_cases hq : q = i
  · subst hq; simp [updV, upd]
  · simp [updV, upd, hq]
theorem updV_long (g : Nat → Int64) (i : Nat) (x : Int64) : updV (fun j => .long (g j)) i (.long x) = fun j => .long (vp_updL g i x j) := by
  funext q
  by_cases hq : q = i
  · subst hq; simp [updV, vp_updL]
  · simp [updV, vp_updL, hq]
theorem updV_rf (g : Nat → Option Nat) (i : Nat) (x : Option Nat) : updV (fun j => va_rf (g j)) i (va_rf x) = fun j => va_rf (va_up g i x j) := by
  funext q
  by_cases hq : q = i
  · subst hq; simp [updV, va_up]
  · simp [updV, va_up, hq]
theorem R_iastore (hd : decode M.2.1 pc = .ok (.iastore, 1)) (hK : ∀ l z h, K l z h → T G d bc bs M (pc + 1) l z h Q) (k : tXast 0 K l z h) : T G d bc bs M pc l z h Q := by
  unfold tXast at k
  split at k
  · split at k
    · rename_i x i a r o kk n g ha
      obtain ⟨rfl, hin, k⟩ := k
      intro p la e R s m args below meth co H locs cells slots lsA hC h1 h2 h3 h4 hR hS hL
      refine W.iast hC.1 hC.2.1 (hR.2 a _ ha).2.2 ((hC.2.2.2.2.2.2.2.2.1.2 0 _ (tysG_at (by decide))).1 n (fun j => .int (g j))) (fun q => by cases q) (by rw [arrV_size]; exact hin) rfl rfl hd fun H1 e1 e2 e3 => ?_
      exact hK _ _ _ k p la e R s m args below meth co H1 _ cells slots lsA hC h1 h2 h3 h4 (Rl_set hR (hR.2 a _ ha).1 ⟨(show (0 : Nat) < 3 by decide), by rw [e1, arrV_store, updV_int]⟩ e2 e3) (hS.put e2 e3 (hR.2 a _ ha).1) hL
    · exact k.elim
  · exact k.elim
theorem R_zastore (hd : decode M.2.1 pc = .ok (.bastore, 1)) (hK : ∀ l z h, K l z h → T G d bc bs M (pc + 1) l z h Q) (k : tZast K l z h) : T G d bc bs M pc l z h Q := by
  unfold tZast at k
  split at k
  · split at k
    · rename_i x i a r o kk n g ha
      obtain ⟨rfl, hin, k⟩ := k
      intro p la e R s m args below meth co H locs cells slots lsA hC h1 h2 h3 h4 hR hS hL
      refine W.zast hC.1 hC.2.1 (hR.2 a _ ha).2.2 ((hC.2.2.2.2.2.2.2.2.1.2 1 _ (tysG_at (by decide))).1 n (fun j => .int (g j))) (fun q => by cases q) (by rw [arrV_size]; exact hin) rfl rfl hd fun H1 e1 e2 e3 => ?_
      refine hK _ _ _ k p la e R s m args below meth co H1 _ cells slots lsA hC h1 h2 h3 h4 (Rl_set hR (hR.2 a _ ha).1 ⟨(show (1 : Nat) < 3 by decide), ?_⟩ e2 e3) (hS.put e2 e3 (hR.2 a _ ha).1) hL
      rw [e1, arrV_store, ← updV_int]
      rfl
    · exact k.elim
  · exact k.elim
theorem R_laload (hd : decode M.2.1 pc = .ok (.laload, 1)) (hK : ∀ l z h, K l z h → T G d bc bs M (pc + 1) l z h Q) (k : tJald K l z h) : T G d bc bs M pc l z h Q := by
  unfold tJald at k
  split at k
  · split at k
    · rename_i i a r o n g ha
      obtain ⟨hin, k⟩ := k
      intro p la e R s m args below meth co H locs cells slots lsA hC h1 h2 h3 h4 hR hS hL
      refine W.lald (v := .long (g i.toNatClampNeg)) hC.1 hC.2.1 (hR.2 a _ ha).2 ((hC.2.2.2.2.2.2.2.2.1.2 3 _ (tysG_at (by decide))).1 n (fun j => .long (g j))) (fun q => by cases q) (by rw [arrV_size]; exact hin) (by rw [arrV_read _ _ (hlt_of hin)]) rfl rfl hd ?_
      exact hK _ _ _ k p la e R s m args below meth co H locs cells slots lsA hC h1 h2 h3 h4 hR hS hL
    · exact k.elim
  · exact k.elim
theorem R_lastore (hd : decode M.2.1 pc = .ok (.lastore, 1)) (hK : ∀ l z h, K l z h → T G d bc bs M (pc + 1) l z h Q) (k : tJast K l z h) : T G d bc bs M pc l z h Q := by
  unfold tJast at k
  split at k
  · split at k
    · rename_i x i a r o n g ha
      obtain ⟨hin, k⟩ := k
      intro p la e R s m args below meth co H locs cells slots lsA hC h1 h2 h3 h4 hR hS hL
      refine W.last hC.1 hC.2.1 (hR.2 a _ ha).2 ((hC.2.2.2.2.2.2.2.2.1.2 3 _ (tysG_at (by decide))).1 n (fun j => .long (g j))) (fun q => by cases q) (by rw [arrV_size]; exact hin) rfl rfl hd fun H1 e1 e2 e3 => ?_
      exact hK _ _ _ k p la e R s m args below meth co H1 _ cells slots lsA hC h1 h2 h3 h4 (Rl_set hR (hR.2 a _ ha).1 (by show H1[a]? = _; rw [e1, arrV_store, updV_long]) e2 e3) (hS.put e2 e3 (hR.2 a _ ha).1) hL
    · exact k.elim
  · exact k.elim
theorem R_aaload (hd : decode M.2.1 pc = .ok (.aaload, 1)) (hK : ∀ l z h, K l z h → T G d bc bs M (pc + 1) l z h Q) (k : tRald K l z h) : T G d bc bs M pc l z h Q := by
  unfold tRald at k
  split at k
  · split at k
    · rename_i i a r o kd n g ha
      obtain ⟨hin, k⟩ := k
      intro p la e R s m args below meth co H locs cells slots lsA hC h1 h2 h3 h4 hR hS hL
      obtain ⟨hFr, hkd, hce⟩ := hR.2 a _ ha
      have hkd : kd < 4 := hkd
      have hty : (tyA.getD (4 + kd) .int).isReference = true := by
        rcases (show kd = 0 ∨ kd = 1 ∨ kd = 2 ∨ kd = 3 by omega) with rfl | rfl | rfl | rfl <;> rfl
      refine W.aald (v := va_rf (g i.toNatClampNeg)) hC.1 hC.2.1 hce ((hC.2.2.2.2.2.2.2.2.1.2 (4 + kd) _ (tysG_at (by omega))).1 n (fun j => va_rf (g j))) hty (fun q => by cases q) (by rw [arrV_size]; exact hin) (by rw [arrV_read _ _ (hlt_of hin)]) rfl rfl hd ?_
      exact hK _ _ _ k p la e R s m args below meth co H locs cells slots lsA hC h1 h2 h3 h4 hR hS hL
    · exact k.elim
  · exact k.elim
def tLen (K : KT) : KT := fun l z h => match z with
  | .ref a :: r => match h.2 a with
    | some (.inr (.inl (_, n, _))) => K l (.int (nI n) :: r) h
    | some (.inr (.inr (.inl (n, _)))) => K l (.int (nI n) :: r) h
    | some (.inr (.inr (.inr (_, n, _)))) => K l (.int (nI n) :: r) h
    | _ => False
  | _ => False
theorem R_alen (hd : decode M.2.1 pc = .ok (.arraylength, 1)) (hK : ∀ l z h, K l z h → T G d bc bs M (pc + 1) l z h Q) (k : tLen K l z h) : T G d bc bs M pc l z h Q := by
  unfold tLen at k
  split at k
  · split at k
    · rename_i a r o kd n g ha
      intro p la e R s m args below meth co H locs cells slots lsA hC h1 h2 h3 h4 hR hS hL
      obtain ⟨hFr, hkd, hce⟩ := hR.2 a _ ha
      have hkd : kd < 3 := hkd
      exact W.alen (n := nI n) hC.1 hC.2.1 hce ((hC.2.2.2.2.2.2.2.2.1.2 kd _ (tysG_at (by omega))).1 n (fun j => .int (g j))) (by rw [arrV_size]; rfl) rfl rfl hd (hK _ _ _ k p la e R s m args below meth co H locs cells slots lsA hC h1 h2 h3 h4 hR hS hL)
    · rename_i a r o n g ha
      intro p la e R s m args below meth co H locs cells slots lsA hC h1 h2 h3 h4 hR hS hL
      obtain ⟨hFr, hce⟩ := hR.2 a _ ha
      exact W.alen (n := nI n) hC.1 hC.2.1 hce ((hC.2.2.2.2.2.2.2.2.1.2 3 _ (tysG_at (by decide))).1 n (fun j => .long (g j))) (by rw [arrV_size]; rfl) rfl rfl hd (hK _ _ _ k p la e R s m args below meth co H locs cells slots lsA hC h1 h2 h3 h4 hR hS hL)
    · rename_i a r o kd n g ha
      intro p la e R s m args below meth co H locs cells slots lsA hC h1 h2 h3 h4 hR hS hL
      obtain ⟨hFr, hkd, hce⟩ := hR.2 a _ ha
      have hkd : kd < 4 := hkd
      exact W.alen (n := nI n) hC.1 hC.2.1 hce ((hC.2.2.2.2.2.2.2.2.1.2 (4 + kd) _ (tysG_at (by omega))).1 n (fun j => va_rf (g j))) (by rw [arrV_size]; rfl) rfl rfl hd (hK _ _ _ k p la e R s m args below meth co H locs cells slots lsA hC h1 h2 h3 h4 hR hS hL)
    · exact k.elim
  · exact k.elim
end RulesB
