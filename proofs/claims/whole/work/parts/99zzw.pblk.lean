/-! ===== blocks of person, up to its throw, and of the law's person ===== -/
theorem w_129 : Cond.initialized "BridgeTollLaw" ∈ wsA := mem_wsA 129 (by decide +kernel) (by decide +kernel)
theorem w_154 : Cond.initialized "java/util/NoSuchElementException" ∈ wsA := mem_wsA 154 (by decide +kernel) (by decide +kernel)
theorem w_1387 : Cond.methodLink "BridgeTollLaw" 38 ⟨"BridgeTollLaw", "person", "(LBridgeToll;II[J)I"⟩ ∈ wsA := mem_wsA 1387 (by decide +kernel) (by decide +kernel)
theorem w_1388 : Cond.static ⟨"BridgeTollLaw", "person", "(LBridgeToll;II[J)I"⟩ ∈ wsA := mem_wsA 1388 (by decide +kernel) (by decide +kernel)
theorem w_1389 : Cond.codeWith ⟨"BridgeTollLaw", "person", "(LBridgeToll;II[J)I"⟩ method_3_code 5 (Option.some .int) [(0, 10, 13, 13)] ∈ wsA := mem_wsA 1389 (by decide +kernel) (by decide +kernel)
theorem w_1390 : Cond.classLink "BridgeTollLaw" 13 "java/util/NoSuchElementException" ∈ wsA := mem_wsA 1390 (by decide +kernel) (by decide +kernel)
theorem w_1395 : Cond.classLink "BridgeToll" 143 "java/util/NoSuchElementException" ∈ wsA := mem_wsA 1395 (by decide +kernel) (by decide +kernel)
/-- the end of a method that may catch -/
def ZQ (G : Gt) (Q : QT) : ZT := fun R below args s => MQ below (Qm G Q) args s R.cells R.slots (Fr G)
theorem G_iret {G : Gt} {CC : CxT} {d bc bs : Nat} {M : Mth} {pc : Nat} {Q : QT} {l : Ls} {z : List Value} {h : Hp} (hd : decode M.2.1 pc = .ok (.ireturn, 1)) (hr : M.2.2.2 = some .int) (k : tRetI Q l z h) : TG G CC (ZQ G Q) d bc bs M pc l z h := by
  unfold tRetI at k
  split at k
  · intro p la e R s m args below meth c H locs cells slots lsA hC h1 h2 h3 h4 hR hS hL
    exact W.widen (k := R.cells) (n := R.slots) (by omega) (by omega) (W.iret hC.1.1 hC.1.2.1 (hC.1.2.2.1.trans hr) (fun t ht _ => ⟨⟨_, h, rfl, k, by rw [ht]; exact hR⟩, hS.F ht⟩) (fun q hq => hS.2.2 q hq) hd hC.1.2.2.2.2.2.2.1)
  · exact k.elim
theorem gX12_person_0 {G : Gt} {CC : CxT} {ZZ : ZT} {d bc bs : Nat} {l : Ls} {z : List Value} {h : Hp} (k : (tAld 0 (tGetf 10 4 (tIld 1 (tCV1 G d 0 0 9 mX11_isPerson (fun l z h => TG G CC ZZ d bc bs mX12_person 8 l z h))))) l z h) : TG G CC ZZ d bc bs mX12_person 0 l z h := by
  refine G_aload_n dX12_person_0 rfl (fun l z h k => ?_) k
  refine G_getf (ci := 10) (f := 4) (C := RX12) (N := 16) (Tt := TX12) dX12_person_1 rfl i_X12 (by decide) w_489 (fun l z h k => ?_) k
  refine G_iload_n dX12_person_4 rfl (fun l z h k => ?_) k
  exact G_cv1 (M := mX12_person) (pc := 5) (bc := bc) (bs := bs) (cb := 0) (cs := 0) (M' := mX11_isPerson) dX12_person_5 rfl (by decide) w_810 w_136 w_807 w_808 w_809 (by decide +kernel) (fun _ _ _ k => k) k
theorem gX12_person_8 {G : Gt} {CC : CxT} {ZZ : ZT} {d bc bs : Nat} {l : Ls} {z : List Value} {h : Hp} (k : (tIf (fun x => x = 0) (fun l z h => TG G CC ZZ d bc bs mX12_person 20 l z h) (fun l z h => TG G CC ZZ d bc bs mX12_person 11 l z h)) l z h) : TG G CC ZZ d bc bs mX12_person 8 l z h := by
  exact G_if_eq dX12_person_8 (by decide) (fun _ _ _ k => k) (fun _ _ _ k => k) k
theorem gX12_person_11 {G : Gt} {CC : CxT} {ZZ : ZT} {d bc bs : Nat} {l : Ls} {z : List Value} {h : Hp} (k : (tIld 2 (tIf (fun x => x < 0) (fun l z h => TG G CC ZZ d bc bs mX12_person 20 l z h) (fun l z h => TG G CC ZZ d bc bs mX12_person 15 l z h))) l z h) : TG G CC ZZ d bc bs mX12_person 11 l z h := by
  refine G_iload_n dX12_person_11 rfl (fun l z h k => ?_) k
  exact G_if_lt dX12_person_12 (by decide) (fun _ _ _ k => k) (fun _ _ _ k => k) k
theorem gX12_person_15 {G : Gt} {CC : CxT} {ZZ : ZT} {d bc bs : Nat} {l : Ls} {z : List Value} {h : Hp} (k : (tIld 2 (tPush (.int 5) (tIf2 (fun x y => x ≤ y) (fun l z h => TG G CC ZZ d bc bs mX12_person 30 l z h) (fun l z h => TG G CC ZZ d bc bs mX12_person 20 l z h)))) l z h) : TG G CC ZZ d bc bs mX12_person 15 l z h := by
  refine G_iload_n dX12_person_15 rfl (fun l z h k => ?_) k
  refine G_iconst dX12_person_16 (by decide) (fun l z h k => ?_) k
  exact G_icmp_le dX12_person_17 (by decide) (fun _ _ _ k => k) (fun _ _ _ k => k) k
abbrev mL_person : Mth := (yL_person, cL_person, 5, some .int)
theorem dL_person_0 : decode cL_person 0 = .ok (.aload_n 3, 1) := by decide +kernel
theorem dL_person_1 : decode cL_person 1 = .ok (.iconst 0, 1) := by decide +kernel
theorem dL_person_2 : decode cL_person 2 = .ok (.aload_n 0, 1) := by decide +kernel
theorem dL_person_3 : decode cL_person 3 = .ok (.iload_n 1, 1) := by decide +kernel
theorem dL_person_4 : decode cL_person 4 = .ok (.iload_n 2, 1) := by decide +kernel
theorem dL_person_5 : decode cL_person 5 = .ok (.invokevirtual 7, 3) := by decide +kernel
theorem dL_person_8 : decode cL_person 8 = .ok (.i2l, 1) := by decide +kernel
theorem dL_person_9 : decode cL_person 9 = .ok (.lastore, 1) := by decide +kernel
theorem dL_person_10 : decode cL_person 10 = .ok (.goto 7, 3) := by decide +kernel
theorem dL_person_13 : decode cL_person 13 = .ok (.astore 4, 2) := by decide +kernel
theorem dL_person_15 : decode cL_person 15 = .ok (.iconst 1, 1) := by decide +kernel
theorem dL_person_16 : decode cL_person 16 = .ok (.ireturn, 1) := by decide +kernel
theorem dL_person_17 : decode cL_person 17 = .ok (.iconst 0, 1) := by decide +kernel
theorem dL_person_18 : decode cL_person 18 = .ok (.ireturn, 1) := by decide +kernel
theorem gL_person_0 {G : Gt} {CC : CxT} {ZZ : ZT} {d bc bs : Nat} {l : Ls} {z : List Value} {h : Hp} (k : (tAld 3 (tPush (.int 0) (tAld 0 (tIld 1 (tIld 2 (tCV2 G d 0 0 10 mX12_person (fun l z h => TG G CC ZZ d bc bs mL_person 8 l z h))))))) l z h) : TG G CC ZZ d bc bs mL_person 0 l z h := by
  refine G_aload_n dL_person_0 rfl (fun l z h k => ?_) k
  refine G_iconst dL_person_1 (by decide) (fun l z h k => ?_) k
  refine G_aload_n dL_person_2 rfl (fun l z h k => ?_) k
  refine G_iload_n dL_person_3 rfl (fun l z h k => ?_) k
  refine G_iload_n dL_person_4 rfl (fun l z h k => ?_) k
  exact G_cv2 (M := mL_person) (pc := 5) (bc := bc) (bs := bs) (cb := 0) (cs := 0) (M' := mX12_person) dL_person_5 rfl (by decide) w_1394 w_130 w_1391 w_1392 w_1393 (by decide +kernel) (fun _ _ _ k => k) k
theorem gL_person_0c {G : Gt} {CC : CxT} {ZZ : ZT} {d bc bs : Nat} {l : Ls} {z : List Value} {h : Hp} (k : (tAld 3 (tPush (.int 0) (tAld 0 (tIld 1 (tIld 2 (fun l z h => TG G CC ZZ d bc bs mL_person 5 l z h)))))) l z h) : TG G CC ZZ d bc bs mL_person 0 l z h := by
  refine G_aload_n dL_person_0 rfl (fun l z h k => ?_) k
  refine G_iconst dL_person_1 (by decide) (fun l z h k => ?_) k
  refine G_aload_n dL_person_2 rfl (fun l z h k => ?_) k
  refine G_iload_n dL_person_3 rfl (fun l z h k => ?_) k
  refine G_iload_n dL_person_4 rfl (fun l z h k => ?_) k
  exact k
theorem gL_person_8 {G : Gt} {CC : CxT} {ZZ : ZT} {d bc bs : Nat} {l : Ls} {z : List Value} {h : Hp} (k : (tI2l (tJast ((fun l z h => TG G CC ZZ d bc bs mL_person 17 l z h)))) l z h) : TG G CC ZZ d bc bs mL_person 8 l z h := by
  refine G_i2l dL_person_8 (fun l z h k => ?_) k
  refine G_lastore dL_person_9 (fun l z h k => ?_) k
  exact G_goto dL_person_10 (by decide) (fun _ _ _ k => k) k
theorem gL_person_13 {G : Gt} {CC : CxT} {Q : QT} {d bc bs : Nat} {l : Ls} {z : List Value} {h : Hp} (k : (tAst 4 (tPush (.int 1) (tRetI Q))) l z h) : TG G CC (ZQ G Q) d bc bs mL_person 13 l z h := by
  refine G_astore dL_person_13 (by decide) (fun l z h k => ?_) k
  refine G_iconst dL_person_15 (by decide) (fun l z h k => ?_) k
  exact G_iret dL_person_16 rfl k
theorem gL_person_17 {G : Gt} {CC : CxT} {Q : QT} {d bc bs : Nat} {l : Ls} {z : List Value} {h : Hp} (k : (tPush (.int 0) (tRetI Q)) l z h) : TG G CC (ZQ G Q) d bc bs mL_person 17 l z h := by
  refine G_iconst dL_person_17 (by decide) (fun l z h k => ?_) k
  exact G_iret dL_person_18 rfl k

