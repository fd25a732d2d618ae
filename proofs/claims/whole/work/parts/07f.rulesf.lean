/-! ===== a switch by keys; texts by a wide index; calls on constants ===== -/
section RulesF
variable {G : Gt} {d bc bs : Nat} {M : Mth} {pc : Nat} {K : KT} {Q : QT} {l : Ls} {z : List Value} {h : Hp}
theorem R_ldcwS {idx q : Nat} {tx : String} (hd : decode M.2.1 pc = .ok (.ldc_w idx, 3)) (hq : ∀ s : State, StR G s → vk_R M.1.cls idx tx q s) (hK : ∀ l z h, K l z h → T G d bc bs M (pc + 3) l z h Q) (k' : tPush (.ref q) K l z h) : T G d bc bs M pc l z h Q := by
  intro p la e R s m args below meth co H locs cells slots lsA hC h1 h2 h3 h4 hR hS hL X hX hst
  obtain ⟨t, a1, b1⟩ := hK _ _ _ k' p la e R s m args below meth co H locs cells slots lsA hC h1 h2 h3 h4 hR hS hL X hX hst
  have hZ := hq s hC.2.2.2.2.2.2.2.2.2.2.2.2.2.2.2.2
  exact ⟨t, hst.ldcStringW hC.1 hC.2.2.2.2.1 (text := tx) (a := q) hZ.1 hZ.2 (g := F0 m pc lsA z) rfl (by rw [hC.2.1]; exact hd) t a1, b1⟩
def tLk (F : Nat → Prop) (x : Int32) : List (Int32 × Nat) → Nat → Prop
  | [], td => F td
  | (k, t) :: r, td => (x = k → F t) ∧ (¬ x = k → tLk F x r td)
def tLook (ps : List (Int32 × Nat)) (td : Nat) (F : Nat → KT) : KT := fun l z h => match z with
  | .int x :: r => tLk (fun t => F t l r h) x ps td
  | _ => False
theorem tLk_to {F : Nat → Prop} {x : Int32} {pc : Nat} {dflt : Int} {td : Nat} (hdf : (pc : Int) + dflt = (td : Int)) : ∀ {os : List (Int × Int)} {ps : List (Int32 × Nat)}, os.map (fun o => (o.1, (pc : Int) + o.2)) = ps.map (fun q => (q.1.toInt, Int.ofNat q.2)) → tLk F x ps td → ∃ tgt : Nat, (pc : Int) + Op.lookupswitch.offset os dflt x.toInt = (tgt : Int) ∧ F tgt
  | [], [], _, k => ⟨td, hdf, k⟩
  | [], _ :: _, h, _ => by simp at h
  | _ :: _, [], h, _ => by simp at h
  | (a, o) :: os, (b, t) :: ps, h, k => by
    simp only [List.map_cons, List.cons.injEq, Prod.mk.injEq] at h
    obtain ⟨⟨h1, h2⟩, h3⟩ := h
    rw [lookupswitch.offset_cons]
    by_cases hx : x = b
    · subst hx
      rw [if_pos h1]
      exact ⟨t, h2, k.1 rfl⟩
    · rw [if_neg (fun e => hx (Int32.toInt_inj.mp (by rw [← e, h1])))]
      exact tLk_to hdf h3 (k.2 hx)
theorem R_look {F : Nat → KT} {ps : List (Int32 × Nat)} {td len : Nat} {dflt : Int} {os : Array (Int × Int)} (hd : decode M.2.1 pc = .ok (.lookupswitch dflt os, len)) (hp : (os.toList.zip (os.toList.drop 1)).all (fun (a, next) => a.1 < next.1) = true) (ht : os.toList.map (fun o => (o.1, (pc : Int) + o.2)) = ps.map (fun q => (q.1.toInt, Int.ofNat q.2))) (hdf : (pc : Int) + dflt = (td : Int))
    (hF : ∀ t l z h, F t l z h → T G d bc bs M t l z h Q) (k : tLook ps td F l z h) : T G d bc bs M pc l z h Q := by
  unfold tLook at k
  split at k
  · intro p la e R s m args below meth co H locs cells slots lsA hC h1 h2 h3 h4 hR hS hL
    obtain ⟨tgt, e1, e2⟩ := tLk_to hdf ht k
    exact lv_lookup hC.1 hC.2.1 hd hp rfl e1 (hF _ _ _ _ e2 p la e R s m args below meth co H locs cells slots lsA hC h1 h2 h3 h4 hR hS hL)
  · exact k.elim
/-- a call on a constant text -/
def tCK (G : Gt) (d n : Nat) (M' : Mth) (K : KT) : KT := fun l z h => ∃ (As : List Value) (b i : Nat) (r : List Value), z = As.reverse ++ .ref b :: r ∧ As.length = n ∧ i < 29 ∧ b = sK G i ∧ Cal G d 0 0 M' (.ref b :: As) r l h K
theorem R_callK {idx n : Nat} {M' : Mth} (hd : decode M.2.1 pc = .ok (.invokevirtual idx, 3)) (hnl : M'.2.2.1 ≤ 45) (hcode : Cond.code M'.1 M'.2.1 M'.2.2.1 M'.2.2.2 ∈ wsA) (hini : Cond.initialized M'.1.cls ∈ wsA) (hlink : Cond.methodLink M.1.cls idx M'.1 ∈ wsA) (hinst : Cond.instanceMethod M'.1 ∈ wsA) (hsel : Cond.selects "java/lang/String" M'.1 M'.1 ∈ wsA)
    (hy : M'.1.cls ≠ "java/lang/invoke/MethodHandle" ∧ M'.1.cls ≠ "java/lang/invoke/VarHandle" ∧ (parseMethodDescriptor M'.1.desc).map (fun d => d.parameters.length) = some n)
    (hK : ∀ l z h, K l z h → T G d bc bs M (pc + 3) l z h Q) (k : tCK G d n M' K l z h) : T G d bc bs M pc l z h Q := by
  obtain ⟨As, b, i, r, hz, hlen, hi, hb, hcat, d', Q1, hdd, hM, k⟩ := k
  intro p la e R s m args below meth co H locs cells slots lsA hC h1 h2 h3 h4 hR hS hL
  have hts := hC.2.2.2.2.2.1
  subst hz
  subst hb
  obtain ⟨cell, g1, g2, g3, -⟩ := (hC.st.2.2.1 i hi).1.kept hS.2.1
  exact call_on (bc := bc) (bs := bs) (cb := 0) (cs := 0) (va_runV (Ts := wsA) (own := M.1.cls) (C := "java/lang/String") (nL := M.2.2.1) ⟨hC.1, hC.2.1, hC.2.2.2.1, hC.2.2.2.2.1, hts⟩ (hM la) ⟨callB_T hts hdd h1 h2 hnl hcode hini hlink hy, hts _ hinst, hts _ hsel⟩ ⟨blindT, ⟨cell, g1, g2, g3⟩, fun U hU hW => Pm.of hU hW hC.2.2.2.2.2.2.2.2 hS hR⟩ rfl hlen hL.1 rfl (lv_room hcat) hd ⟨by omega, by omega⟩) hC h1 h2 h3 h4 hS hL (fun v h' hq => hK _ _ _ (k v h' hq))
/-- a word's ordinal -/
def tOrd (G : Gt) (d : Nat) (K : KT) : KT := fun l z h => match z with
  | .ref b :: r => (r.map (fun v => v.category)).sum ≤ 8 ∧ 1 < d ∧ ∃ k, k < 25 ∧ b = adW G k ∧ K l (.int (ordW.getD k 0) :: r) h
  | _ => False
end RulesF
theorem pWord_ok {G : Gt} (s : State) (H : Heap) (locs : List Loc) (h : Hp) (v : Nat) (hG : Gd G s s.heap) (hS : va_S (Fr G) s.heap H locs) (_ : Rl G h H) (hp : pWord G h v) : ∃ (cv : Cell) (kv : Class), H[v]? = some cv ∧ cv.vm.isStatics = false ∧ s.vm.findClass "BridgeToll$Word" = some cv.cls ∧ s.vm.classes[cv.cls]? = some kv ∧ s.vm.assignable cv.cls cv.cls = true := by
  obtain ⟨k, hk, rfl⟩ := hp
  obtain ⟨cell, g1, g2, g3, -⟩ := (hG.2.2.2.2.2.2.2.1.1.1 k hk).2.1.kept hS.2.1
  obtain ⟨kC, hkC, -⟩ := Vm.findClass_spec g3
  exact ⟨cell, kC, g1, g2, g3, hkC, by first | exact Vm.assignable_self _ _ | exact assignable_self _ _ | exact Free.assignable_self _ _ | exact Lib.Vm.assignable_self _ _⟩
