theorem dX13_bridge_0 : decode cX13_bridge 0 = .ok (.aload_n 0, 1) := by decide +kernel
theorem dX13_bridge_1 : decode cX13_bridge 1 = .ok (.sipush 900, 3) := by decide +kernel
theorem dX13_bridge_4 : decode cX13_bridge 4 = .ok (.invokevirtual 225, 3) := by decide +kernel
theorem dX13_bridge_7 : decode cX13_bridge 7 = .ok (.iconst 0, 1) := by decide +kernel
theorem dX13_bridge_8 : decode cX13_bridge 8 = .ok (.istore_n 1, 1) := by decide +kernel
theorem dX13_bridge_9 : decode cX13_bridge 9 = .ok (.iload_n 1, 1) := by decide +kernel
theorem dX13_bridge_10 : decode cX13_bridge 10 = .ok (.bipush 98, 2) := by decide +kernel
theorem dX13_bridge_12 : decode cX13_bridge 12 = .ok (.if_icmp .ge 16, 3) := by decide +kernel
theorem dX13_bridge_15 : decode cX13_bridge 15 = .ok (.aload_n 0, 1) := by decide +kernel
theorem dX13_bridge_16 : decode cX13_bridge 16 = .ok (.getfield 16, 3) := by decide +kernel
theorem dX13_bridge_19 : decode cX13_bridge 19 = .ok (.iload_n 1, 1) := by decide +kernel
theorem dX13_bridge_20 : decode cX13_bridge 20 = .ok (.iconst 0, 1) := by decide +kernel
theorem dX13_bridge_21 : decode cX13_bridge 21 = .ok (.iastore, 1) := by decide +kernel
theorem dX13_bridge_22 : decode cX13_bridge 22 = .ok (.iinc 1 1, 3) := by decide +kernel
theorem dX13_bridge_25 : decode cX13_bridge 25 = .ok (.goto (-16), 3) := by decide +kernel
theorem dX13_bridge_28 : decode cX13_bridge 28 = .ok (.iconst 0, 1) := by decide +kernel
theorem dX13_bridge_29 : decode cX13_bridge 29 = .ok (.istore_n 1, 1) := by decide +kernel
theorem dX13_bridge_30 : decode cX13_bridge 30 = .ok (.iload_n 1, 1) := by decide +kernel
theorem dX13_bridge_31 : decode cX13_bridge 31 = .ok (.bipush 48, 2) := by decide +kernel
theorem dX13_bridge_33 : decode cX13_bridge 33 = .ok (.if_icmp .ge 16, 3) := by decide +kernel
theorem dX13_bridge_36 : decode cX13_bridge 36 = .ok (.aload_n 0, 1) := by decide +kernel
theorem dX13_bridge_37 : decode cX13_bridge 37 = .ok (.getfield 48, 3) := by decide +kernel
theorem dX13_bridge_40 : decode cX13_bridge 40 = .ok (.iload_n 1, 1) := by decide +kernel
theorem dX13_bridge_41 : decode cX13_bridge 41 = .ok (.iconst 0, 1) := by decide +kernel
theorem dX13_bridge_42 : decode cX13_bridge 42 = .ok (.bastore, 1) := by decide +kernel
theorem dX13_bridge_43 : decode cX13_bridge 43 = .ok (.iinc 1 1, 3) := by decide +kernel
theorem dX13_bridge_46 : decode cX13_bridge 46 = .ok (.goto (-16), 3) := by decide +kernel
theorem dX13_bridge_49 : decode cX13_bridge 49 = .ok (.iconst 0, 1) := by decide +kernel
theorem dX13_bridge_50 : decode cX13_bridge 50 = .ok (.istore_n 1, 1) := by decide +kernel
theorem dX13_bridge_51 : decode cX13_bridge 51 = .ok (.iload_n 1, 1) := by decide +kernel
theorem dX13_bridge_52 : decode cX13_bridge 52 = .ok (.bipush 12, 2) := by decide +kernel
theorem dX13_bridge_54 : decode cX13_bridge 54 = .ok (.if_icmp .ge 16, 3) := by decide +kernel
theorem dX13_bridge_57 : decode cX13_bridge 57 = .ok (.aload_n 0, 1) := by decide +kernel
theorem dX13_bridge_58 : decode cX13_bridge 58 = .ok (.getfield 45, 3) := by decide +kernel
theorem dX13_bridge_61 : decode cX13_bridge 61 = .ok (.iload_n 1, 1) := by decide +kernel
theorem dX13_bridge_62 : decode cX13_bridge 62 = .ok (.iconst 0, 1) := by decide +kernel
theorem dX13_bridge_63 : decode cX13_bridge 63 = .ok (.bastore, 1) := by decide +kernel
theorem dX13_bridge_64 : decode cX13_bridge 64 = .ok (.iinc 1 1, 3) := by decide +kernel
theorem dX13_bridge_67 : decode cX13_bridge 67 = .ok (.goto (-16), 3) := by decide +kernel
theorem dX13_bridge_70 : decode cX13_bridge 70 = .ok (.iconst 0, 1) := by decide +kernel
theorem dX13_bridge_71 : decode cX13_bridge 71 = .ok (.istore_n 1, 1) := by decide +kernel
theorem dX13_bridge_72 : decode cX13_bridge 72 = .ok (.aload_n 0, 1) := by decide +kernel
theorem dX13_bridge_73 : decode cX13_bridge 73 = .ok (.getfield 107, 3) := by decide +kernel
theorem dX13_bridge_76 : decode cX13_bridge 76 = .ok (.ifCond .eq 30, 3) := by decide +kernel
theorem dX13_bridge_79 : decode cX13_bridge 79 = .ok (.aload_n 0, 1) := by decide +kernel
theorem dX13_bridge_80 : decode cX13_bridge 80 = .ok (.invokevirtual 228, 3) := by decide +kernel
theorem dX13_bridge_83 : decode cX13_bridge 83 = .ok (.ifCond .eq 10, 3) := by decide +kernel
theorem dX13_bridge_86 : decode cX13_bridge 86 = .ok (.aload_n 0, 1) := by decide +kernel
theorem dX13_bridge_87 : decode cX13_bridge 87 = .ok (.invokevirtual 231, 3) := by decide +kernel
theorem dX13_bridge_90 : decode cX13_bridge 90 = .ok (.ifCond .ne 10, 3) := by decide +kernel
theorem dX13_bridge_93 : decode cX13_bridge 93 = .ok (.iconst (-1), 1) := by decide +kernel
theorem dX13_bridge_94 : decode cX13_bridge 94 = .ok (.aload_n 0, 1) := by decide +kernel
theorem dX13_bridge_95 : decode cX13_bridge 95 = .ok (.getfield 146, 3) := by decide +kernel
theorem dX13_bridge_98 : decode cX13_bridge 98 = .ok (.isub, 1) := by decide +kernel
theorem dX13_bridge_99 : decode cX13_bridge 99 = .ok (.ireturn, 1) := by decide +kernel
theorem dX13_bridge_100 : decode cX13_bridge 100 = .ok (.iinc 1 1, 3) := by decide +kernel
theorem dX13_bridge_103 : decode cX13_bridge 103 = .ok (.goto (-31), 3) := by decide +kernel
theorem dX13_bridge_106 : decode cX13_bridge 106 = .ok (.iconst 0, 1) := by decide +kernel
theorem dX13_bridge_107 : decode cX13_bridge 107 = .ok (.istore_n 2, 1) := by decide +kernel
theorem dX13_bridge_108 : decode cX13_bridge 108 = .ok (.iload_n 2, 1) := by decide +kernel
theorem dX13_bridge_109 : decode cX13_bridge 109 = .ok (.bipush 98, 2) := by decide +kernel
theorem dX13_bridge_111 : decode cX13_bridge 111 = .ok (.if_icmp .ge 21, 3) := by decide +kernel
theorem dX13_bridge_114 : decode cX13_bridge 114 = .ok (.aload_n 0, 1) := by decide +kernel
theorem dX13_bridge_115 : decode cX13_bridge 115 = .ok (.getfield 13, 3) := by decide +kernel
theorem dX13_bridge_118 : decode cX13_bridge 118 = .ok (.iload_n 2, 1) := by decide +kernel
theorem dX13_bridge_119 : decode cX13_bridge 119 = .ok (.aload_n 0, 1) := by decide +kernel
theorem dX13_bridge_120 : decode cX13_bridge 120 = .ok (.getfield 16, 3) := by decide +kernel
theorem dX13_bridge_123 : decode cX13_bridge 123 = .ok (.iload_n 2, 1) := by decide +kernel
theorem dX13_bridge_124 : decode cX13_bridge 124 = .ok (.iaload, 1) := by decide +kernel
theorem dX13_bridge_125 : decode cX13_bridge 125 = .ok (.iastore, 1) := by decide +kernel
theorem dX13_bridge_126 : decode cX13_bridge 126 = .ok (.iinc 2 1, 3) := by decide +kernel
theorem dX13_bridge_129 : decode cX13_bridge 129 = .ok (.goto (-21), 3) := by decide +kernel
theorem dX13_bridge_132 : decode cX13_bridge 132 = .ok (.iconst 0, 1) := by decide +kernel
theorem dX13_bridge_133 : decode cX13_bridge 133 = .ok (.istore_n 2, 1) := by decide +kernel
theorem dX13_bridge_134 : decode cX13_bridge 134 = .ok (.iload_n 2, 1) := by decide +kernel
theorem dX13_bridge_135 : decode cX13_bridge 135 = .ok (.bipush 14, 2) := by decide +kernel
theorem dX13_bridge_137 : decode cX13_bridge 137 = .ok (.if_icmp .ge 21, 3) := by decide +kernel
theorem dX13_bridge_140 : decode cX13_bridge 140 = .ok (.aload_n 0, 1) := by decide +kernel
theorem dX13_bridge_141 : decode cX13_bridge 141 = .ok (.getfield 31, 3) := by decide +kernel
theorem dX13_bridge_144 : decode cX13_bridge 144 = .ok (.iload_n 2, 1) := by decide +kernel
theorem dX13_bridge_145 : decode cX13_bridge 145 = .ok (.aload_n 0, 1) := by decide +kernel
theorem dX13_bridge_146 : decode cX13_bridge 146 = .ok (.getfield 35, 3) := by decide +kernel
theorem dX13_bridge_149 : decode cX13_bridge 149 = .ok (.iload_n 2, 1) := by decide +kernel
theorem dX13_bridge_150 : decode cX13_bridge 150 = .ok (.laload, 1) := by decide +kernel
theorem dX13_bridge_151 : decode cX13_bridge 151 = .ok (.lastore, 1) := by decide +kernel
theorem dX13_bridge_152 : decode cX13_bridge 152 = .ok (.iinc 2 1, 3) := by decide +kernel
theorem dX13_bridge_155 : decode cX13_bridge 155 = .ok (.goto (-21), 3) := by decide +kernel
theorem dX13_bridge_158 : decode cX13_bridge 158 = .ok (.aload_n 0, 1) := by decide +kernel
theorem dX13_bridge_159 : decode cX13_bridge 159 = .ok (.invokevirtual 234, 3) := by decide +kernel
theorem dX13_bridge_162 : decode cX13_bridge 162 = .ok (.aload_n 0, 1) := by decide +kernel
theorem dX13_bridge_163 : decode cX13_bridge 163 = .ok (.iconst 0, 1) := by decide +kernel
theorem dX13_bridge_164 : decode cX13_bridge 164 = .ok (.putfield 237, 3) := by decide +kernel
theorem dX13_bridge_167 : decode cX13_bridge 167 = .ok (.iload_n 1, 1) := by decide +kernel
theorem dX13_bridge_168 : decode cX13_bridge 168 = .ok (.ireturn, 1) := by decide +kernel
theorem bX13_bridge_0 {G : Gt} {d bc bs : Nat} {Q : QT} {l : Ls} {z : List Value} {h : Hp} (k : (tAld 0 (tPush (.int 900) (tCV1 G d 0 0 11 mX13_begin (fun l z h => T G d bc bs mX13_bridge 7 l z h Q)))) l z h) : T G d bc bs mX13_bridge 0 l z h Q := by
  refine R_aload_n dX13_bridge_0 rfl (fun l z h k => ?_) k
  refine R_sipush dX13_bridge_1 (by decide) (fun l z h k => ?_) k
  exact R_cv1 (M := mX13_bridge) (pc := 4) (bc := bc) (bs := bs) (cb := 0) (cs := 0) (M' := mX13_begin) dX13_bridge_4 rfl (by decide) w_1639 w_144 w_1636 w_1638 w_45 (by decide +kernel) (fun _ _ _ k => k) k
theorem bX13_bridge_7 {G : Gt} {d bc bs : Nat} {Q : QT} {l : Ls} {z : List Value} {h : Hp} (k : (tPush (.int 0) (tIst 1 ((fun l z h => T G d bc bs mX13_bridge 9 l z h Q)))) l z h) : T G d bc bs mX13_bridge 7 l z h Q := by
  refine R_iconst dX13_bridge_7 (by decide) (fun l z h k => ?_) k
  refine R_istore_n dX13_bridge_8 rfl (by decide) (fun l z h k => ?_) k
  exact k
theorem bX13_bridge_9 {G : Gt} {d bc bs : Nat} {Q : QT} {l : Ls} {z : List Value} {h : Hp} (k : (tIld 1 (tPush (.int 98) (tIf2 (fun x y => y ≤ x) (fun l z h => T G d bc bs mX13_bridge 28 l z h Q) (fun l z h => T G d bc bs mX13_bridge 15 l z h Q)))) l z h) : T G d bc bs mX13_bridge 9 l z h Q := by
  refine R_iload_n dX13_bridge_9 rfl (fun l z h k => ?_) k
  refine R_bipush dX13_bridge_10 (by decide) (fun l z h k => ?_) k
  exact R_icmp_ge dX13_bridge_12 (by decide) (fun _ _ _ k => k) (fun _ _ _ k => k) k
theorem bX13_bridge_15 {G : Gt} {d bc bs : Nat} {Q : QT} {l : Ls} {z : List Value} {h : Hp} (k : (tAld 0 (tGetf 11 15 (tIld 1 (tPush (.int 0) (tXast 0 (tInc 1 1 ((fun l z h => T G d bc bs mX13_bridge 9 l z h Q)))))))) l z h) : T G d bc bs mX13_bridge 15 l z h Q := by
  refine R_aload_n dX13_bridge_15 rfl (fun l z h k => ?_) k
  refine R_getf (ci := 11) (f := 15) (C := RX13) (N := 49) (Tt := TX13) dX13_bridge_16 rfl i_X13 (by decide) w_1482 (fun l z h k => ?_) k
  refine R_iload_n dX13_bridge_19 rfl (fun l z h k => ?_) k
  refine R_iconst dX13_bridge_20 (by decide) (fun l z h k => ?_) k
  refine R_iastore dX13_bridge_21 (fun l z h k => ?_) k
  refine R_iinc dX13_bridge_22 (by decide) (by decide) (fun l z h k => ?_) k
  exact R_goto dX13_bridge_25 (by decide) (fun _ _ _ k => k) k
theorem bX13_bridge_28 {G : Gt} {d bc bs : Nat} {Q : QT} {l : Ls} {z : List Value} {h : Hp} (k : (tPush (.int 0) (tIst 1 ((fun l z h => T G d bc bs mX13_bridge 30 l z h Q)))) l z h) : T G d bc bs mX13_bridge 28 l z h Q := by
  refine R_iconst dX13_bridge_28 (by decide) (fun l z h k => ?_) k
  refine R_istore_n dX13_bridge_29 rfl (by decide) (fun l z h k => ?_) k
  exact k
theorem bX13_bridge_30 {G : Gt} {d bc bs : Nat} {Q : QT} {l : Ls} {z : List Value} {h : Hp} (k : (tIld 1 (tPush (.int 48) (tIf2 (fun x y => y ≤ x) (fun l z h => T G d bc bs mX13_bridge 49 l z h Q) (fun l z h => T G d bc bs mX13_bridge 36 l z h Q)))) l z h) : T G d bc bs mX13_bridge 30 l z h Q := by
  refine R_iload_n dX13_bridge_30 rfl (fun l z h k => ?_) k
  refine R_bipush dX13_bridge_31 (by decide) (fun l z h k => ?_) k
  exact R_icmp_ge dX13_bridge_33 (by decide) (fun _ _ _ k => k) (fun _ _ _ k => k) k
theorem bX13_bridge_36 {G : Gt} {d bc bs : Nat} {Q : QT} {l : Ls} {z : List Value} {h : Hp} (k : (tAld 0 (tGetf 11 25 (tIld 1 (tPush (.int 0) (tZast (tInc 1 1 ((fun l z h => T G d bc bs mX13_bridge 30 l z h Q)))))))) l z h) : T G d bc bs mX13_bridge 36 l z h Q := by
  refine R_aload_n dX13_bridge_36 rfl (fun l z h k => ?_) k
  refine R_getf (ci := 11) (f := 25) (C := RX13) (N := 49) (Tt := TX13) dX13_bridge_37 rfl i_X13 (by decide) w_1492 (fun l z h k => ?_) k
  refine R_iload_n dX13_bridge_40 rfl (fun l z h k => ?_) k
  refine R_iconst dX13_bridge_41 (by decide) (fun l z h k => ?_) k
  refine R_zastore dX13_bridge_42 (fun l z h k => ?_) k
  refine R_iinc dX13_bridge_43 (by decide) (by decide) (fun l z h k => ?_) k
  exact R_goto dX13_bridge_46 (by decide) (fun _ _ _ k => k) k
theorem bX13_bridge_49 {G : Gt} {d bc bs : Nat} {Q : QT} {l : Ls} {z : List Value} {h : Hp} (k : (tPush (.int 0) (tIst 1 ((fun l z h => T G d bc bs mX13_bridge 51 l z h Q)))) l z h) : T G d bc bs mX13_bridge 49 l z h Q := by
  refine R_iconst dX13_bridge_49 (by decide) (fun l z h k => ?_) k
  refine R_istore_n dX13_bridge_50 rfl (by decide) (fun l z h k => ?_) k
  exact k
theorem bX13_bridge_51 {G : Gt} {d bc bs : Nat} {Q : QT} {l : Ls} {z : List Value} {h : Hp} (k : (tIld 1 (tPush (.int 12) (tIf2 (fun x y => y ≤ x) (fun l z h => T G d bc bs mX13_bridge 70 l z h Q) (fun l z h => T G d bc bs mX13_bridge 57 l z h Q)))) l z h) : T G d bc bs mX13_bridge 51 l z h Q := by
  refine R_iload_n dX13_bridge_51 rfl (fun l z h k => ?_) k
  refine R_bipush dX13_bridge_52 (by decide) (fun l z h k => ?_) k
  exact R_icmp_ge dX13_bridge_54 (by decide) (fun _ _ _ k => k) (fun _ _ _ k => k) k
theorem bX13_bridge_57 {G : Gt} {d bc bs : Nat} {Q : QT} {l : Ls} {z : List Value} {h : Hp} (k : (tAld 0 (tGetf 11 24 (tIld 1 (tPush (.int 0) (tZast (tInc 1 1 ((fun l z h => T G d bc bs mX13_bridge 51 l z h Q)))))))) l z h) : T G d bc bs mX13_bridge 57 l z h Q := by
  refine R_aload_n dX13_bridge_57 rfl (fun l z h k => ?_) k
  refine R_getf (ci := 11) (f := 24) (C := RX13) (N := 49) (Tt := TX13) dX13_bridge_58 rfl i_X13 (by decide) w_1491 (fun l z h k => ?_) k
  refine R_iload_n dX13_bridge_61 rfl (fun l z h k => ?_) k
  refine R_iconst dX13_bridge_62 (by decide) (fun l z h k => ?_) k
  refine R_zastore dX13_bridge_63 (fun l z h k => ?_) k
  refine R_iinc dX13_bridge_64 (by decide) (by decide) (fun l z h k => ?_) k
  exact R_goto dX13_bridge_67 (by decide) (fun _ _ _ k => k) k
theorem bX13_bridge_70 {G : Gt} {d bc bs : Nat} {Q : QT} {l : Ls} {z : List Value} {h : Hp} (k : (tPush (.int 0) (tIst 1 ((fun l z h => T G d bc bs mX13_bridge 72 l z h Q)))) l z h) : T G d bc bs mX13_bridge 70 l z h Q := by
  refine R_iconst dX13_bridge_70 (by decide) (fun l z h k => ?_) k
  refine R_istore_n dX13_bridge_71 rfl (by decide) (fun l z h k => ?_) k
  exact k
theorem bX13_bridge_72 {G : Gt} {d bc bs : Nat} {Q : QT} {l : Ls} {z : List Value} {h : Hp} (k : (tAld 0 (tGetf 11 7 (tIf (fun x => x = 0) (fun l z h => T G d bc bs mX13_bridge 106 l z h Q) (fun l z h => T G d bc bs mX13_bridge 79 l z h Q)))) l z h) : T G d bc bs mX13_bridge 72 l z h Q := by
  refine R_aload_n dX13_bridge_72 rfl (fun l z h k => ?_) k
  refine R_getf (ci := 11) (f := 7) (C := RX13) (N := 49) (Tt := TX13) dX13_bridge_73 rfl i_X13 (by decide) w_1474 (fun l z h k => ?_) k
  exact R_if_eq dX13_bridge_76 (by decide) (fun _ _ _ k => k) (fun _ _ _ k => k) k
theorem bX13_bridge_79 {G : Gt} {d bc bs : Nat} {Q : QT} {l : Ls} {z : List Value} {h : Hp} (k : (tAld 0 (tCV0 G d 0 0 11 mX13_readLine (fun l z h => T G d bc bs mX13_bridge 83 l z h Q))) l z h) : T G d bc bs mX13_bridge 79 l z h Q := by
  refine R_aload_n dX13_bridge_79 rfl (fun l z h k => ?_) k
  exact R_cv0 (M := mX13_bridge) (pc := 80) (bc := bc) (bs := bs) (cb := 0) (cs := 0) (M' := mX13_readLine) dX13_bridge_80 rfl (by decide) w_1663 w_144 w_1660 w_1662 w_49 (by decide +kernel) (fun _ _ _ k => k) k
theorem bX13_bridge_83 {G : Gt} {d bc bs : Nat} {Q : QT} {l : Ls} {z : List Value} {h : Hp} (k : (tIf (fun x => x = 0) (fun l z h => T G d bc bs mX13_bridge 93 l z h Q) (fun l z h => T G d bc bs mX13_bridge 86 l z h Q)) l z h) : T G d bc bs mX13_bridge 83 l z h Q := by
  exact R_if_eq dX13_bridge_83 (by decide) (fun _ _ _ k => k) (fun _ _ _ k => k) k
theorem bX13_bridge_86 {G : Gt} {d bc bs : Nat} {Q : QT} {l : Ls} {z : List Value} {h : Hp} (k : (tAld 0 (tCV0 G d 0 0 11 mX13_readEnd (fun l z h => T G d bc bs mX13_bridge 90 l z h Q))) l z h) : T G d bc bs mX13_bridge 86 l z h Q := by
  refine R_aload_n dX13_bridge_86 rfl (fun l z h k => ?_) k
  exact R_cv0 (M := mX13_bridge) (pc := 87) (bc := bc) (bs := bs) (cb := 0) (cs := 0) (M' := mX13_readEnd) dX13_bridge_87 rfl (by decide) w_1747 w_144 w_1744 w_1746 w_67 (by decide +kernel) (fun _ _ _ k => k) k
theorem bX13_bridge_90 {G : Gt} {d bc bs : Nat} {Q : QT} {l : Ls} {z : List Value} {h : Hp} (k : (tIf (fun x => x = 0) (fun l z h => T G d bc bs mX13_bridge 93 l z h Q) (fun l z h => T G d bc bs mX13_bridge 100 l z h Q)) l z h) : T G d bc bs mX13_bridge 90 l z h Q := by
  exact R_if_ne dX13_bridge_90 (by decide) (fun _ _ _ k => k) (fun _ _ _ k => k) k
theorem bX13_bridge_93 {G : Gt} {d bc bs : Nat} {Q : QT} {l : Ls} {z : List Value} {h : Hp} (k : (tPush (.int (-1)) (tAld 0 (tGetf 11 11 (tB (fun x y => x - y) (tRetI Q))))) l z h) : T G d bc bs mX13_bridge 93 l z h Q := by
  refine R_iconst dX13_bridge_93 (by decide) (fun l z h k => ?_) k
  refine R_aload_n dX13_bridge_94 rfl (fun l z h k => ?_) k
  refine R_getf (ci := 11) (f := 11) (C := RX13) (N := 49) (Tt := TX13) dX13_bridge_95 rfl i_X13 (by decide) w_1478 (fun l z h k => ?_) k
  refine R_isub dX13_bridge_98 (fun l z h k => ?_) k
  exact R_iret dX13_bridge_99 rfl k
theorem bX13_bridge_100 {G : Gt} {d bc bs : Nat} {Q : QT} {l : Ls} {z : List Value} {h : Hp} (k : (tInc 1 1 ((fun l z h => T G d bc bs mX13_bridge 72 l z h Q))) l z h) : T G d bc bs mX13_bridge 100 l z h Q := by
  refine R_iinc dX13_bridge_100 (by decide) (by decide) (fun l z h k => ?_) k
  exact R_goto dX13_bridge_103 (by decide) (fun _ _ _ k => k) k
theorem bX13_bridge_106 {G : Gt} {d bc bs : Nat} {Q : QT} {l : Ls} {z : List Value} {h : Hp} (k : (tPush (.int 0) (tIst 2 ((fun l z h => T G d bc bs mX13_bridge 108 l z h Q)))) l z h) : T G d bc bs mX13_bridge 106 l z h Q := by
  refine R_iconst dX13_bridge_106 (by decide) (fun l z h k => ?_) k
  refine R_istore_n dX13_bridge_107 rfl (by decide) (fun l z h k => ?_) k
  exact k
theorem bX13_bridge_108 {G : Gt} {d bc bs : Nat} {Q : QT} {l : Ls} {z : List Value} {h : Hp} (k : (tIld 2 (tPush (.int 98) (tIf2 (fun x y => y ≤ x) (fun l z h => T G d bc bs mX13_bridge 132 l z h Q) (fun l z h => T G d bc bs mX13_bridge 114 l z h Q)))) l z h) : T G d bc bs mX13_bridge 108 l z h Q := by
  refine R_iload_n dX13_bridge_108 rfl (fun l z h k => ?_) k
  refine R_bipush dX13_bridge_109 (by decide) (fun l z h k => ?_) k
  exact R_icmp_ge dX13_bridge_111 (by decide) (fun _ _ _ k => k) (fun _ _ _ k => k) k
theorem bX13_bridge_114 {G : Gt} {d bc bs : Nat} {Q : QT} {l : Ls} {z : List Value} {h : Hp} (k : (tAld 0 (tGetf 11 14 (tIld 2 (tAld 0 (tGetf 11 15 (tIld 2 (tXald 0 (tXast 0 (tInc 2 1 ((fun l z h => T G d bc bs mX13_bridge 108 l z h Q))))))))))) l z h) : T G d bc bs mX13_bridge 114 l z h Q := by
  refine R_aload_n dX13_bridge_114 rfl (fun l z h k => ?_) k
  refine R_getf (ci := 11) (f := 14) (C := RX13) (N := 49) (Tt := TX13) dX13_bridge_115 rfl i_X13 (by decide) w_1481 (fun l z h k => ?_) k
  refine R_iload_n dX13_bridge_118 rfl (fun l z h k => ?_) k
  refine R_aload_n dX13_bridge_119 rfl (fun l z h k => ?_) k
  refine R_getf (ci := 11) (f := 15) (C := RX13) (N := 49) (Tt := TX13) dX13_bridge_120 rfl i_X13 (by decide) w_1482 (fun l z h k => ?_) k
  refine R_iload_n dX13_bridge_123 rfl (fun l z h k => ?_) k
  refine R_iaload dX13_bridge_124 (fun l z h k => ?_) k
  refine R_iastore dX13_bridge_125 (fun l z h k => ?_) k
  refine R_iinc dX13_bridge_126 (by decide) (by decide) (fun l z h k => ?_) k
  exact R_goto dX13_bridge_129 (by decide) (fun _ _ _ k => k) k
theorem bX13_bridge_132 {G : Gt} {d bc bs : Nat} {Q : QT} {l : Ls} {z : List Value} {h : Hp} (k : (tPush (.int 0) (tIst 2 ((fun l z h => T G d bc bs mX13_bridge 134 l z h Q)))) l z h) : T G d bc bs mX13_bridge 132 l z h Q := by
  refine R_iconst dX13_bridge_132 (by decide) (fun l z h k => ?_) k
  refine R_istore_n dX13_bridge_133 rfl (by decide) (fun l z h k => ?_) k
  exact k
theorem bX13_bridge_134 {G : Gt} {d bc bs : Nat} {Q : QT} {l : Ls} {z : List Value} {h : Hp} (k : (tIld 2 (tPush (.int 14) (tIf2 (fun x y => y ≤ x) (fun l z h => T G d bc bs mX13_bridge 158 l z h Q) (fun l z h => T G d bc bs mX13_bridge 140 l z h Q)))) l z h) : T G d bc bs mX13_bridge 134 l z h Q := by
  refine R_iload_n dX13_bridge_134 rfl (fun l z h k => ?_) k
  refine R_bipush dX13_bridge_135 (by decide) (fun l z h k => ?_) k
  exact R_icmp_ge dX13_bridge_137 (by decide) (fun _ _ _ k => k) (fun _ _ _ k => k) k
theorem bX13_bridge_140 {G : Gt} {d bc bs : Nat} {Q : QT} {l : Ls} {z : List Value} {h : Hp} (k : (tAld 0 (tGetf 11 20 (tIld 2 (tAld 0 (tGetf 11 21 (tIld 2 (tJald (tJast (tInc 2 1 ((fun l z h => T G d bc bs mX13_bridge 134 l z h Q))))))))))) l z h) : T G d bc bs mX13_bridge 140 l z h Q := by
  refine R_aload_n dX13_bridge_140 rfl (fun l z h k => ?_) k
  refine R_getf (ci := 11) (f := 20) (C := RX13) (N := 49) (Tt := TX13) dX13_bridge_141 rfl i_X13 (by decide) w_1487 (fun l z h k => ?_) k
  refine R_iload_n dX13_bridge_144 rfl (fun l z h k => ?_) k
  refine R_aload_n dX13_bridge_145 rfl (fun l z h k => ?_) k
  refine R_getf (ci := 11) (f := 21) (C := RX13) (N := 49) (Tt := TX13) dX13_bridge_146 rfl i_X13 (by decide) w_1488 (fun l z h k => ?_) k
  refine R_iload_n dX13_bridge_149 rfl (fun l z h k => ?_) k
  refine R_laload dX13_bridge_150 (fun l z h k => ?_) k
  refine R_lastore dX13_bridge_151 (fun l z h k => ?_) k
  refine R_iinc dX13_bridge_152 (by decide) (by decide) (fun l z h k => ?_) k
  exact R_goto dX13_bridge_155 (by decide) (fun _ _ _ k => k) k
theorem bX13_bridge_158 {G : Gt} {d bc bs : Nat} {Q : QT} {l : Ls} {z : List Value} {h : Hp} (k : (tAld 0 (tCV0 G d 0 0 11 mX13_startSo (fun l z h => T G d bc bs mX13_bridge 162 l z h Q))) l z h) : T G d bc bs mX13_bridge 158 l z h Q := by
  refine R_aload_n dX13_bridge_158 rfl (fun l z h k => ?_) k
  exact R_cv0 (M := mX13_bridge) (pc := 159) (bc := bc) (bs := bs) (cb := 0) (cs := 0) (M' := mX13_startSo) dX13_bridge_159 rfl (by decide) w_1755 w_144 w_1752 w_1754 w_69 (by decide +kernel) (fun _ _ _ k => k) k
theorem bX13_bridge_162 {G : Gt} {d bc bs : Nat} {Q : QT} {l : Ls} {z : List Value} {h : Hp} (k : (tAld 0 (tPush (.int 0) (tPutf isI 11 26 (tIld 1 (tRetI Q))))) l z h) : T G d bc bs mX13_bridge 162 l z h Q := by
  refine R_aload_n dX13_bridge_162 rfl (fun l z h k => ?_) k
  refine R_iconst dX13_bridge_163 (by decide) (fun l z h k => ?_) k
  refine R_putf (ci := 11) (f := 26) (C := RX13) (N := 49) (Tt := TX13) tyX13 tyX13_ok nmX13 dX13_bridge_164 rfl i_X13 (by decide) w_1493 rfl (tyX13_ok 26 (by decide)) p_int (fun l z h k => ?_) k
  refine R_iload_n dX13_bridge_167 rfl (fun l z h k => ?_) k
  exact R_iret dX13_bridge_168 rfl k
theorem dX13_fault_0 : decode cX13_fault 0 = .ok (.aload_n 0, 1) := by decide +kernel
theorem dX13_fault_1 : decode cX13_fault 1 = .ok (.iconst 0, 1) := by decide +kernel
theorem dX13_fault_2 : decode cX13_fault 2 = .ok (.putfield 85, 3) := by decide +kernel
theorem dX13_fault_5 : decode cX13_fault 5 = .ok (.aload_n 0, 1) := by decide +kernel
theorem dX13_fault_6 : decode cX13_fault 6 = .ok (.getfield 143, 3) := by decide +kernel
theorem dX13_fault_9 : decode cX13_fault 9 = .ok (.ireturn, 1) := by decide +kernel
theorem bX13_fault_0 {G : Gt} {d bc bs : Nat} {Q : QT} {l : Ls} {z : List Value} {h : Hp} (k : (tAld 0 (tPush (.int 0) (tPutf isI 11 0 (tAld 0 (tGetf 11 10 (tRetI Q)))))) l z h) : T G d bc bs mX13_fault 0 l z h Q := by
  refine R_aload_n dX13_fault_0 rfl (fun l z h k => ?_) k
  refine R_iconst dX13_fault_1 (by decide) (fun l z h k => ?_) k
  refine R_putf (ci := 11) (f := 0) (C := RX13) (N := 49) (Tt := TX13) tyX13 tyX13_ok nmX13 dX13_fault_2 rfl i_X13 (by decide) w_1467 rfl (tyX13_ok 0 (by decide)) p_int (fun l z h k => ?_) k
  refine R_aload_n dX13_fault_5 rfl (fun l z h k => ?_) k
  refine R_getf (ci := 11) (f := 10) (C := RX13) (N := 49) (Tt := TX13) dX13_fault_6 rfl i_X13 (by decide) w_1477 (fun l z h k => ?_) k
  exact R_iret dX13_fault_9 rfl k
theorem dX13_isThing_0 : decode cX13_isThing 0 = .ok (.iload_n 1, 1) := by decide +kernel
theorem dX13_isThing_1 : decode cX13_isThing 1 = .ok (.iconst 0, 1) := by decide +kernel
theorem dX13_isThing_2 : decode cX13_isThing 2 = .ok (.aload_n 0, 1) := by decide +kernel
theorem dX13_isThing_3 : decode cX13_isThing 3 = .ok (.getfield 13, 3) := by decide +kernel
theorem dX13_isThing_6 : decode cX13_isThing 6 = .ok (.iconst 0, 1) := by decide +kernel
theorem dX13_isThing_7 : decode cX13_isThing 7 = .ok (.iaload, 1) := by decide +kernel
theorem dX13_isThing_8 : decode cX13_isThing 8 = .ok (.iconst 1, 1) := by decide +kernel
theorem dX13_isThing_9 : decode cX13_isThing 9 = .ok (.isub, 1) := by decide +kernel
theorem dX13_isThing_10 : decode cX13_isThing 10 = .ok (.invokestatic 152, 3) := by decide +kernel
theorem dX13_isThing_13 : decode cX13_isThing 13 = .ok (.ireturn, 1) := by decide +kernel
theorem bX13_isThing_0 {G : Gt} {d bc bs : Nat} {Q : QT} {l : Ls} {z : List Value} {h : Hp} (k : (tIld 1 (tPush (.int 0) (tAld 0 (tGetf 11 14 (tPush (.int 0) (tXald 0 (tPush (.int 1) (tB (fun x y => x - y) (tCS3 G d 0 0 mX13_isIn (fun l z h => T G d bc bs mX13_isThing 13 l z h Q)))))))))) l z h) : T G d bc bs mX13_isThing 0 l z h Q := by
  refine R_iload_n dX13_isThing_0 rfl (fun l z h k => ?_) k
  refine R_iconst dX13_isThing_1 (by decide) (fun l z h k => ?_) k
  refine R_aload_n dX13_isThing_2 rfl (fun l z h k => ?_) k
  refine R_getf (ci := 11) (f := 14) (C := RX13) (N := 49) (Tt := TX13) dX13_isThing_3 rfl i_X13 (by decide) w_1481 (fun l z h k => ?_) k
  refine R_iconst dX13_isThing_6 (by decide) (fun l z h k => ?_) k
  refine R_iaload dX13_isThing_7 (fun l z h k => ?_) k
  refine R_iconst dX13_isThing_8 (by decide) (fun l z h k => ?_) k
  refine R_isub dX13_isThing_9 (fun l z h k => ?_) k
  exact R_cs3 (M := mX13_isThing) (pc := 10) (bc := bc) (bs := bs) (cb := 0) (cs := 0) (M' := mX13_isIn) dX13_isThing_10 (by decide) w_1711 w_144 w_1709 w_1710 (by decide +kernel) (fun _ _ _ k => k) k
theorem bX13_isThing_13 {G : Gt} {d bc bs : Nat} {Q : QT} {l : Ls} {z : List Value} {h : Hp} (k : (tRetZ Q) l z h) : T G d bc bs mX13_isThing 13 l z h Q := by
  exact R_zret dX13_isThing_13 rfl k
theorem dX13_isPerson_0 : decode cX13_isPerson 0 = .ok (.iload_n 1, 1) := by decide +kernel
theorem dX13_isPerson_1 : decode cX13_isPerson 1 = .ok (.iconst 0, 1) := by decide +kernel
theorem dX13_isPerson_2 : decode cX13_isPerson 2 = .ok (.aload_n 0, 1) := by decide +kernel
theorem dX13_isPerson_3 : decode cX13_isPerson 3 = .ok (.getfield 13, 3) := by decide +kernel
theorem dX13_isPerson_6 : decode cX13_isPerson 6 = .ok (.iconst 1, 1) := by decide +kernel
theorem dX13_isPerson_7 : decode cX13_isPerson 7 = .ok (.iaload, 1) := by decide +kernel
theorem dX13_isPerson_8 : decode cX13_isPerson 8 = .ok (.iconst 1, 1) := by decide +kernel
theorem dX13_isPerson_9 : decode cX13_isPerson 9 = .ok (.isub, 1) := by decide +kernel
theorem dX13_isPerson_10 : decode cX13_isPerson 10 = .ok (.invokestatic 152, 3) := by decide +kernel
theorem dX13_isPerson_13 : decode cX13_isPerson 13 = .ok (.ireturn, 1) := by decide +kernel
theorem bX13_isPerson_0 {G : Gt} {d bc bs : Nat} {Q : QT} {l : Ls} {z : List Value} {h : Hp} (k : (tIld 1 (tPush (.int 0) (tAld 0 (tGetf 11 14 (tPush (.int 1) (tXald 0 (tPush (.int 1) (tB (fun x y => x - y) (tCS3 G d 0 0 mX13_isIn (fun l z h => T G d bc bs mX13_isPerson 13 l z h Q)))))))))) l z h) : T G d bc bs mX13_isPerson 0 l z h Q := by
  refine R_iload_n dX13_isPerson_0 rfl (fun l z h k => ?_) k
  refine R_iconst dX13_isPerson_1 (by decide) (fun l z h k => ?_) k
  refine R_aload_n dX13_isPerson_2 rfl (fun l z h k => ?_) k
  refine R_getf (ci := 11) (f := 14) (C := RX13) (N := 49) (Tt := TX13) dX13_isPerson_3 rfl i_X13 (by decide) w_1481 (fun l z h k => ?_) k
  refine R_iconst dX13_isPerson_6 (by decide) (fun l z h k => ?_) k
  refine R_iaload dX13_isPerson_7 (fun l z h k => ?_) k
  refine R_iconst dX13_isPerson_8 (by decide) (fun l z h k => ?_) k
  refine R_isub dX13_isPerson_9 (fun l z h k => ?_) k
  exact R_cs3 (M := mX13_isPerson) (pc := 10) (bc := bc) (bs := bs) (cb := 0) (cs := 0) (M' := mX13_isIn) dX13_isPerson_10 (by decide) w_1711 w_144 w_1709 w_1710 (by decide +kernel) (fun _ _ _ k => k) k
theorem bX13_isPerson_13 {G : Gt} {d bc bs : Nat} {Q : QT} {l : Ls} {z : List Value} {h : Hp} (k : (tRetZ Q) l z h) : T G d bc bs mX13_isPerson 13 l z h Q := by
  exact R_zret dX13_isPerson_13 rfl k
theorem dX13_haveOf_0 : decode cX13_haveOf 0 = .ok (.aload_n 0, 1) := by decide +kernel
theorem dX13_haveOf_1 : decode cX13_haveOf 1 = .ok (.getfield 13, 3) := by decide +kernel
theorem dX13_haveOf_4 : decode cX13_haveOf 4 = .ok (.bipush 123, 2) := by decide +kernel
theorem dX13_haveOf_6 : decode cX13_haveOf 6 = .ok (.bipush 6, 2) := by decide +kernel
theorem dX13_haveOf_8 : decode cX13_haveOf 8 = .ok (.iload_n 1, 1) := by decide +kernel
theorem dX13_haveOf_9 : decode cX13_haveOf 9 = .ok (.imul, 1) := by decide +kernel
theorem dX13_haveOf_10 : decode cX13_haveOf 10 = .ok (.iadd, 1) := by decide +kernel
theorem dX13_haveOf_11 : decode cX13_haveOf 11 = .ok (.iload_n 2, 1) := by decide +kernel
theorem dX13_haveOf_12 : decode cX13_haveOf 12 = .ok (.iadd, 1) := by decide +kernel
theorem dX13_haveOf_13 : decode cX13_haveOf 13 = .ok (.iaload, 1) := by decide +kernel
theorem dX13_haveOf_14 : decode cX13_haveOf 14 = .ok (.ireturn, 1) := by decide +kernel
theorem bX13_haveOf_0 {G : Gt} {d bc bs : Nat} {Q : QT} {l : Ls} {z : List Value} {h : Hp} (k : (tAld 0 (tGetf 11 14 (tPush (.int 123) (tPush (.int 6) (tIld 1 (tB (fun x y => x * y) (tB (fun x y => x + y) (tIld 2 (tB (fun x y => x + y) (tXald 0 (tRetI Q))))))))))) l z h) : T G d bc bs mX13_haveOf 0 l z h Q := by
  refine R_aload_n dX13_haveOf_0 rfl (fun l z h k => ?_) k
  refine R_getf (ci := 11) (f := 14) (C := RX13) (N := 49) (Tt := TX13) dX13_haveOf_1 rfl i_X13 (by decide) w_1481 (fun l z h k => ?_) k
  refine R_bipush dX13_haveOf_4 (by decide) (fun l z h k => ?_) k
  refine R_bipush dX13_haveOf_6 (by decide) (fun l z h k => ?_) k
  refine R_iload_n dX13_haveOf_8 rfl (fun l z h k => ?_) k
  refine R_imul dX13_haveOf_9 (fun l z h k => ?_) k
  refine R_iadd dX13_haveOf_10 (fun l z h k => ?_) k
  refine R_iload_n dX13_haveOf_11 rfl (fun l z h k => ?_) k
  refine R_iadd dX13_haveOf_12 (fun l z h k => ?_) k
  refine R_iaload dX13_haveOf_13 (fun l z h k => ?_) k
  exact R_iret dX13_haveOf_14 rfl k
theorem dX13_askOf_0 : decode cX13_askOf 0 = .ok (.aload_n 0, 1) := by decide +kernel
theorem dX13_askOf_1 : decode cX13_askOf 1 = .ok (.getfield 13, 3) := by decide +kernel
theorem dX13_askOf_4 : decode cX13_askOf 4 = .ok (.sipush 171, 3) := by decide +kernel
theorem dX13_askOf_7 : decode cX13_askOf 7 = .ok (.bipush 6, 2) := by decide +kernel
theorem dX13_askOf_9 : decode cX13_askOf 9 = .ok (.iload_n 1, 1) := by decide +kernel
theorem dX13_askOf_10 : decode cX13_askOf 10 = .ok (.imul, 1) := by decide +kernel
theorem dX13_askOf_11 : decode cX13_askOf 11 = .ok (.iadd, 1) := by decide +kernel
theorem dX13_askOf_12 : decode cX13_askOf 12 = .ok (.iload_n 2, 1) := by decide +kernel
theorem dX13_askOf_13 : decode cX13_askOf 13 = .ok (.iadd, 1) := by decide +kernel
theorem dX13_askOf_14 : decode cX13_askOf 14 = .ok (.iaload, 1) := by decide +kernel
theorem dX13_askOf_15 : decode cX13_askOf 15 = .ok (.ireturn, 1) := by decide +kernel
theorem bX13_askOf_0 {G : Gt} {d bc bs : Nat} {Q : QT} {l : Ls} {z : List Value} {h : Hp} (k : (tAld 0 (tGetf 11 14 (tPush (.int 171) (tPush (.int 6) (tIld 1 (tB (fun x y => x * y) (tB (fun x y => x + y) (tIld 2 (tB (fun x y => x + y) (tXald 0 (tRetI Q))))))))))) l z h) : T G d bc bs mX13_askOf 0 l z h Q := by
  refine R_aload_n dX13_askOf_0 rfl (fun l z h k => ?_) k
  refine R_getf (ci := 11) (f := 14) (C := RX13) (N := 49) (Tt := TX13) dX13_askOf_1 rfl i_X13 (by decide) w_1481 (fun l z h k => ?_) k
  refine R_sipush dX13_askOf_4 (by decide) (fun l z h k => ?_) k
  refine R_bipush dX13_askOf_7 (by decide) (fun l z h k => ?_) k
  refine R_iload_n dX13_askOf_9 rfl (fun l z h k => ?_) k
  refine R_imul dX13_askOf_10 (fun l z h k => ?_) k
  refine R_iadd dX13_askOf_11 (fun l z h k => ?_) k
  refine R_iload_n dX13_askOf_12 rfl (fun l z h k => ?_) k
  refine R_iadd dX13_askOf_13 (fun l z h k => ?_) k
  refine R_iaload dX13_askOf_14 (fun l z h k => ?_) k
  exact R_iret dX13_askOf_15 rfl k
theorem dX13_lacksOf_0 : decode cX13_lacksOf 0 = .ok (.iconst 0, 1) := by decide +kernel
theorem dX13_lacksOf_1 : decode cX13_lacksOf 1 = .ok (.istore_n 3, 1) := by decide +kernel
theorem dX13_lacksOf_2 : decode cX13_lacksOf 2 = .ok (.iconst 0, 1) := by decide +kernel
theorem dX13_lacksOf_3 : decode cX13_lacksOf 3 = .ok (.istore 4, 2) := by decide +kernel
theorem dX13_lacksOf_5 : decode cX13_lacksOf 5 = .ok (.iload 4, 2) := by decide +kernel
theorem dX13_lacksOf_7 : decode cX13_lacksOf 7 = .ok (.aload_n 0, 1) := by decide +kernel
theorem dX13_lacksOf_8 : decode cX13_lacksOf 8 = .ok (.getfield 13, 3) := by decide +kernel
theorem dX13_lacksOf_11 : decode cX13_lacksOf 11 = .ok (.iconst 0, 1) := by decide +kernel
theorem dX13_lacksOf_12 : decode cX13_lacksOf 12 = .ok (.iaload, 1) := by decide +kernel
theorem dX13_lacksOf_13 : decode cX13_lacksOf 13 = .ok (.if_icmp .ge 33, 3) := by decide +kernel
theorem dX13_lacksOf_16 : decode cX13_lacksOf 16 = .ok (.aload_n 0, 1) := by decide +kernel
theorem dX13_lacksOf_17 : decode cX13_lacksOf 17 = .ok (.iload_n 1, 1) := by decide +kernel
theorem dX13_lacksOf_18 : decode cX13_lacksOf 18 = .ok (.iload 4, 2) := by decide +kernel
theorem dX13_lacksOf_20 : decode cX13_lacksOf 20 = .ok (.invokevirtual 240, 3) := by decide +kernel
theorem dX13_lacksOf_23 : decode cX13_lacksOf 23 = .ok (.aload_n 0, 1) := by decide +kernel
theorem dX13_lacksOf_24 : decode cX13_lacksOf 24 = .ok (.iload_n 2, 1) := by decide +kernel
theorem dX13_lacksOf_25 : decode cX13_lacksOf 25 = .ok (.iload 4, 2) := by decide +kernel
theorem dX13_lacksOf_27 : decode cX13_lacksOf 27 = .ok (.invokevirtual 244, 3) := by decide +kernel
theorem dX13_lacksOf_30 : decode cX13_lacksOf 30 = .ok (.if_icmp .ge 10, 3) := by decide +kernel
theorem dX13_lacksOf_33 : decode cX13_lacksOf 33 = .ok (.iload_n 3, 1) := by decide +kernel
theorem dX13_lacksOf_34 : decode cX13_lacksOf 34 = .ok (.iconst 1, 1) := by decide +kernel
theorem dX13_lacksOf_35 : decode cX13_lacksOf 35 = .ok (.iload 4, 2) := by decide +kernel
theorem dX13_lacksOf_37 : decode cX13_lacksOf 37 = .ok (.ishl, 1) := by decide +kernel
theorem dX13_lacksOf_38 : decode cX13_lacksOf 38 = .ok (.ior, 1) := by decide +kernel
theorem dX13_lacksOf_39 : decode cX13_lacksOf 39 = .ok (.istore_n 3, 1) := by decide +kernel
theorem dX13_lacksOf_40 : decode cX13_lacksOf 40 = .ok (.iinc 4 1, 3) := by decide +kernel
theorem dX13_lacksOf_43 : decode cX13_lacksOf 43 = .ok (.goto (-38), 3) := by decide +kernel
theorem dX13_lacksOf_46 : decode cX13_lacksOf 46 = .ok (.iload_n 3, 1) := by decide +kernel
theorem dX13_lacksOf_47 : decode cX13_lacksOf 47 = .ok (.ireturn, 1) := by decide +kernel
theorem bX13_lacksOf_0 {G : Gt} {d bc bs : Nat} {Q : QT} {l : Ls} {z : List Value} {h : Hp} (k : (tPush (.int 0) (tIst 3 (tPush (.int 0) (tIst 4 ((fun l z h => T G d bc bs mX13_lacksOf 5 l z h Q)))))) l z h) : T G d bc bs mX13_lacksOf 0 l z h Q := by
  refine R_iconst dX13_lacksOf_0 (by decide) (fun l z h k => ?_) k
  refine R_istore_n dX13_lacksOf_1 rfl (by decide) (fun l z h k => ?_) k
  refine R_iconst dX13_lacksOf_2 (by decide) (fun l z h k => ?_) k
  refine R_istore dX13_lacksOf_3 (by decide) (fun l z h k => ?_) k
  exact k
theorem bX13_lacksOf_5 {G : Gt} {d bc bs : Nat} {Q : QT} {l : Ls} {z : List Value} {h : Hp} (k : (tIld 4 (tAld 0 (tGetf 11 14 (tPush (.int 0) (tXald 0 (tIf2 (fun x y => y ≤ x) (fun l z h => T G d bc bs mX13_lacksOf 46 l z h Q) (fun l z h => T G d bc bs mX13_lacksOf 16 l z h Q))))))) l z h) : T G d bc bs mX13_lacksOf 5 l z h Q := by
  refine R_iload dX13_lacksOf_5 (fun l z h k => ?_) k
  refine R_aload_n dX13_lacksOf_7 rfl (fun l z h k => ?_) k
  refine R_getf (ci := 11) (f := 14) (C := RX13) (N := 49) (Tt := TX13) dX13_lacksOf_8 rfl i_X13 (by decide) w_1481 (fun l z h k => ?_) k
  refine R_iconst dX13_lacksOf_11 (by decide) (fun l z h k => ?_) k
  refine R_iaload dX13_lacksOf_12 (fun l z h k => ?_) k
  exact R_icmp_ge dX13_lacksOf_13 (by decide) (fun _ _ _ k => k) (fun _ _ _ k => k) k
theorem bX13_lacksOf_16 {G : Gt} {d bc bs : Nat} {Q : QT} {l : Ls} {z : List Value} {h : Hp} (k : (tAld 0 (tIld 1 (tIld 4 (tCV2 G d 0 0 11 mX13_haveOf (fun l z h => T G d bc bs mX13_lacksOf 23 l z h Q))))) l z h) : T G d bc bs mX13_lacksOf 16 l z h Q := by
  refine R_aload_n dX13_lacksOf_16 rfl (fun l z h k => ?_) k
  refine R_iload_n dX13_lacksOf_17 rfl (fun l z h k => ?_) k
  refine R_iload dX13_lacksOf_18 (fun l z h k => ?_) k
  exact R_cv2 (M := mX13_lacksOf) (pc := 20) (bc := bc) (bs := bs) (cb := 0) (cs := 0) (M' := mX13_haveOf) dX13_lacksOf_20 rfl (by decide) w_1779 w_144 w_1776 w_1778 w_73 (by decide +kernel) (fun _ _ _ k => k) k
theorem bX13_lacksOf_23 {G : Gt} {d bc bs : Nat} {Q : QT} {l : Ls} {z : List Value} {h : Hp} (k : (tAld 0 (tIld 2 (tIld 4 (tCV2 G d 0 0 11 mX13_askOf (fun l z h => T G d bc bs mX13_lacksOf 30 l z h Q))))) l z h) : T G d bc bs mX13_lacksOf 23 l z h Q := by
  refine R_aload_n dX13_lacksOf_23 rfl (fun l z h k => ?_) k
  refine R_iload_n dX13_lacksOf_24 rfl (fun l z h k => ?_) k
  refine R_iload dX13_lacksOf_25 (fun l z h k => ?_) k
  exact R_cv2 (M := mX13_lacksOf) (pc := 27) (bc := bc) (bs := bs) (cb := 0) (cs := 0) (M' := mX13_askOf) dX13_lacksOf_27 rfl (by decide) w_1799 w_144 w_1796 w_1798 w_75 (by decide +kernel) (fun _ _ _ k => k) k
theorem bX13_lacksOf_30 {G : Gt} {d bc bs : Nat} {Q : QT} {l : Ls} {z : List Value} {h : Hp} (k : (tIf2 (fun x y => y ≤ x) (fun l z h => T G d bc bs mX13_lacksOf 40 l z h Q) (fun l z h => T G d bc bs mX13_lacksOf 33 l z h Q)) l z h) : T G d bc bs mX13_lacksOf 30 l z h Q := by
  exact R_icmp_ge dX13_lacksOf_30 (by decide) (fun _ _ _ k => k) (fun _ _ _ k => k) k
theorem bX13_lacksOf_33 {G : Gt} {d bc bs : Nat} {Q : QT} {l : Ls} {z : List Value} {h : Hp} (k : (tIld 3 (tPush (.int 1) (tIld 4 (tB (fun x y => x <<< (y &&& 31)) (tB (fun x y => x ||| y) (tIst 3 ((fun l z h => T G d bc bs mX13_lacksOf 40 l z h Q)))))))) l z h) : T G d bc bs mX13_lacksOf 33 l z h Q := by
  refine R_iload_n dX13_lacksOf_33 rfl (fun l z h k => ?_) k
  refine R_iconst dX13_lacksOf_34 (by decide) (fun l z h k => ?_) k
  refine R_iload dX13_lacksOf_35 (fun l z h k => ?_) k
  refine R_ishl dX13_lacksOf_37 (fun l z h k => ?_) k
  refine R_ior dX13_lacksOf_38 (fun l z h k => ?_) k
  refine R_istore_n dX13_lacksOf_39 rfl (by decide) (fun l z h k => ?_) k
  exact k
theorem bX13_lacksOf_40 {G : Gt} {d bc bs : Nat} {Q : QT} {l : Ls} {z : List Value} {h : Hp} (k : (tInc 4 1 ((fun l z h => T G d bc bs mX13_lacksOf 5 l z h Q))) l z h) : T G d bc bs mX13_lacksOf 40 l z h Q := by
  refine R_iinc dX13_lacksOf_40 (by decide) (by decide) (fun l z h k => ?_) k
  exact R_goto dX13_lacksOf_43 (by decide) (fun _ _ _ k => k) k
theorem bX13_lacksOf_46 {G : Gt} {d bc bs : Nat} {Q : QT} {l : Ls} {z : List Value} {h : Hp} (k : (tIld 3 (tRetI Q)) l z h) : T G d bc bs mX13_lacksOf 46 l z h Q := by
  refine R_iload_n dX13_lacksOf_46 rfl (fun l z h k => ?_) k
  exact R_iret dX13_lacksOf_47 rfl k
theorem dX13_pays_0 : decode cX13_pays 0 = .ok (.aload_n 0, 1) := by decide +kernel
theorem dX13_pays_1 : decode cX13_pays 1 = .ok (.iload_n 1, 1) := by decide +kernel
theorem dX13_pays_2 : decode cX13_pays 2 = .ok (.iload_n 2, 1) := by decide +kernel
theorem dX13_pays_3 : decode cX13_pays 3 = .ok (.invokevirtual 247, 3) := by decide +kernel
theorem dX13_pays_6 : decode cX13_pays 6 = .ok (.ifCond .ne 7, 3) := by decide +kernel
theorem dX13_pays_9 : decode cX13_pays 9 = .ok (.iconst 1, 1) := by decide +kernel
theorem dX13_pays_10 : decode cX13_pays 10 = .ok (.goto 4, 3) := by decide +kernel
theorem dX13_pays_13 : decode cX13_pays 13 = .ok (.iconst 0, 1) := by decide +kernel
theorem dX13_pays_14 : decode cX13_pays 14 = .ok (.ireturn, 1) := by decide +kernel
theorem bX13_pays_0 {G : Gt} {d bc bs : Nat} {Q : QT} {l : Ls} {z : List Value} {h : Hp} (k : (tAld 0 (tIld 1 (tIld 2 (tCV2 G d 0 0 11 mX13_lacksOf (fun l z h => T G d bc bs mX13_pays 6 l z h Q))))) l z h) : T G d bc bs mX13_pays 0 l z h Q := by
  refine R_aload_n dX13_pays_0 rfl (fun l z h k => ?_) k
  refine R_iload_n dX13_pays_1 rfl (fun l z h k => ?_) k
  refine R_iload_n dX13_pays_2 rfl (fun l z h k => ?_) k
  exact R_cv2 (M := mX13_pays) (pc := 3) (bc := bc) (bs := bs) (cb := 0) (cs := 0) (M' := mX13_lacksOf) dX13_pays_3 rfl (by decide) w_1823 w_144 w_1820 w_1822 w_80 (by decide +kernel) (fun _ _ _ k => k) k
theorem bX13_pays_6 {G : Gt} {d bc bs : Nat} {Q : QT} {l : Ls} {z : List Value} {h : Hp} (k : (tIf (fun x => x = 0) (fun l z h => T G d bc bs mX13_pays 9 l z h Q) (fun l z h => T G d bc bs mX13_pays 13 l z h Q)) l z h) : T G d bc bs mX13_pays 6 l z h Q := by
  exact R_if_ne dX13_pays_6 (by decide) (fun _ _ _ k => k) (fun _ _ _ k => k) k
theorem bX13_pays_9 {G : Gt} {d bc bs : Nat} {Q : QT} {l : Ls} {z : List Value} {h : Hp} (k : (tPush (.int 1) ((fun l z h => T G d bc bs mX13_pays 14 l z h Q))) l z h) : T G d bc bs mX13_pays 9 l z h Q := by
  refine R_iconst dX13_pays_9 (by decide) (fun l z h k => ?_) k
  exact R_goto dX13_pays_10 (by decide) (fun _ _ _ k => k) k
theorem bX13_pays_13 {G : Gt} {d bc bs : Nat} {Q : QT} {l : Ls} {z : List Value} {h : Hp} (k : (tPush (.int 0) ((fun l z h => T G d bc bs mX13_pays 14 l z h Q))) l z h) : T G d bc bs mX13_pays 13 l z h Q := by
  refine R_iconst dX13_pays_13 (by decide) (fun l z h k => ?_) k
  exact k
theorem bX13_pays_14 {G : Gt} {d bc bs : Nat} {Q : QT} {l : Ls} {z : List Value} {h : Hp} (k : (tRetZ Q) l z h) : T G d bc bs mX13_pays 14 l z h Q := by
  exact R_zret dX13_pays_14 rfl k
theorem dX13_paysWant_0 : decode cX13_paysWant 0 = .ok (.aload_n 0, 1) := by decide +kernel
theorem dX13_paysWant_1 : decode cX13_paysWant 1 = .ok (.iload_n 1, 1) := by decide +kernel
theorem dX13_paysWant_2 : decode cX13_paysWant 2 = .ok (.aload_n 0, 1) := by decide +kernel
theorem dX13_paysWant_3 : decode cX13_paysWant 3 = .ok (.getfield 13, 3) := by decide +kernel
theorem dX13_paysWant_6 : decode cX13_paysWant 6 = .ok (.bipush 22, 2) := by decide +kernel
theorem dX13_paysWant_8 : decode cX13_paysWant 8 = .ok (.iload_n 1, 1) := by decide +kernel
theorem dX13_paysWant_9 : decode cX13_paysWant 9 = .ok (.iadd, 1) := by decide +kernel
theorem dX13_paysWant_10 : decode cX13_paysWant 10 = .ok (.iaload, 1) := by decide +kernel
theorem dX13_paysWant_11 : decode cX13_paysWant 11 = .ok (.invokevirtual 250, 3) := by decide +kernel
theorem dX13_paysWant_14 : decode cX13_paysWant 14 = .ok (.ireturn, 1) := by decide +kernel
theorem bX13_paysWant_0 {G : Gt} {d bc bs : Nat} {Q : QT} {l : Ls} {z : List Value} {h : Hp} (k : (tAld 0 (tIld 1 (tAld 0 (tGetf 11 14 (tPush (.int 22) (tIld 1 (tB (fun x y => x + y) (tXald 0 (tCV2 G d 0 0 11 mX13_pays (fun l z h => T G d bc bs mX13_paysWant 14 l z h Q)))))))))) l z h) : T G d bc bs mX13_paysWant 0 l z h Q := by
  refine R_aload_n dX13_paysWant_0 rfl (fun l z h k => ?_) k
  refine R_iload_n dX13_paysWant_1 rfl (fun l z h k => ?_) k
  refine R_aload_n dX13_paysWant_2 rfl (fun l z h k => ?_) k
  refine R_getf (ci := 11) (f := 14) (C := RX13) (N := 49) (Tt := TX13) dX13_paysWant_3 rfl i_X13 (by decide) w_1481 (fun l z h k => ?_) k
  refine R_bipush dX13_paysWant_6 (by decide) (fun l z h k => ?_) k
  refine R_iload_n dX13_paysWant_8 rfl (fun l z h k => ?_) k
  refine R_iadd dX13_paysWant_9 (fun l z h k => ?_) k
  refine R_iaload dX13_paysWant_10 (fun l z h k => ?_) k
  exact R_cv2 (M := mX13_paysWant) (pc := 11) (bc := bc) (bs := bs) (cb := 0) (cs := 0) (M' := mX13_pays) dX13_paysWant_11 rfl (by decide) w_1819 w_144 w_1816 w_1818 w_79 (by decide +kernel) (fun _ _ _ k => k) k
theorem bX13_paysWant_14 {G : Gt} {d bc bs : Nat} {Q : QT} {l : Ls} {z : List Value} {h : Hp} (k : (tRetZ Q) l z h) : T G d bc bs mX13_paysWant 14 l z h Q := by
  exact R_zret dX13_paysWant_14 rfl k
theorem dX13_isThere_0 : decode cX13_isThere 0 = .ok (.aload_n 0, 1) := by decide +kernel
theorem dX13_isThere_1 : decode cX13_isThere 1 = .ok (.getfield 13, 3) := by decide +kernel
theorem dX13_isThere_4 : decode cX13_isThere 4 = .ok (.bipush 99, 2) := by decide +kernel
theorem dX13_isThere_6 : decode cX13_isThere 6 = .ok (.iload_n 1, 1) := by decide +kernel
theorem dX13_isThere_7 : decode cX13_isThere 7 = .ok (.iadd, 1) := by decide +kernel
theorem dX13_isThere_8 : decode cX13_isThere 8 = .ok (.iaload, 1) := by decide +kernel
theorem dX13_isThere_9 : decode cX13_isThere 9 = .ok (.iconst 2, 1) := by decide +kernel
theorem dX13_isThere_10 : decode cX13_isThere 10 = .ok (.aload_n 0, 1) := by decide +kernel
theorem dX13_isThere_11 : decode cX13_isThere 11 = .ok (.getfield 13, 3) := by decide +kernel
theorem dX13_isThere_14 : decode cX13_isThere 14 = .ok (.bipush 22, 2) := by decide +kernel
theorem dX13_isThere_16 : decode cX13_isThere 16 = .ok (.iload_n 1, 1) := by decide +kernel
theorem dX13_isThere_17 : decode cX13_isThere 17 = .ok (.iadd, 1) := by decide +kernel
theorem dX13_isThere_18 : decode cX13_isThere 18 = .ok (.iaload, 1) := by decide +kernel
theorem dX13_isThere_19 : decode cX13_isThere 19 = .ok (.imul, 1) := by decide +kernel
theorem dX13_isThere_20 : decode cX13_isThere 20 = .ok (.if_icmp .ne 7, 3) := by decide +kernel
theorem dX13_isThere_23 : decode cX13_isThere 23 = .ok (.iconst 1, 1) := by decide +kernel
theorem dX13_isThere_24 : decode cX13_isThere 24 = .ok (.goto 4, 3) := by decide +kernel
theorem dX13_isThere_27 : decode cX13_isThere 27 = .ok (.iconst 0, 1) := by decide +kernel
theorem dX13_isThere_28 : decode cX13_isThere 28 = .ok (.ireturn, 1) := by decide +kernel
theorem bX13_isThere_0 {G : Gt} {d bc bs : Nat} {Q : QT} {l : Ls} {z : List Value} {h : Hp} (k : (tAld 0 (tGetf 11 14 (tPush (.int 99) (tIld 1 (tB (fun x y => x + y) (tXald 0 (tPush (.int 2) (tAld 0 (tGetf 11 14 (tPush (.int 22) (tIld 1 (tB (fun x y => x + y) (tXald 0 (tB (fun x y => x * y) (tIf2 (fun x y => x = y) (fun l z h => T G d bc bs mX13_isThere 23 l z h Q) (fun l z h => T G d bc bs mX13_isThere 27 l z h Q)))))))))))))))) l z h) : T G d bc bs mX13_isThere 0 l z h Q := by
  refine R_aload_n dX13_isThere_0 rfl (fun l z h k => ?_) k
  refine R_getf (ci := 11) (f := 14) (C := RX13) (N := 49) (Tt := TX13) dX13_isThere_1 rfl i_X13 (by decide) w_1481 (fun l z h k => ?_) k
  refine R_bipush dX13_isThere_4 (by decide) (fun l z h k => ?_) k
  refine R_iload_n dX13_isThere_6 rfl (fun l z h k => ?_) k
  refine R_iadd dX13_isThere_7 (fun l z h k => ?_) k
  refine R_iaload dX13_isThere_8 (fun l z h k => ?_) k
  refine R_iconst dX13_isThere_9 (by decide) (fun l z h k => ?_) k
  refine R_aload_n dX13_isThere_10 rfl (fun l z h k => ?_) k
  refine R_getf (ci := 11) (f := 14) (C := RX13) (N := 49) (Tt := TX13) dX13_isThere_11 rfl i_X13 (by decide) w_1481 (fun l z h k => ?_) k
  refine R_bipush dX13_isThere_14 (by decide) (fun l z h k => ?_) k
  refine R_iload_n dX13_isThere_16 rfl (fun l z h k => ?_) k
  refine R_iadd dX13_isThere_17 (fun l z h k => ?_) k
  refine R_iaload dX13_isThere_18 (fun l z h k => ?_) k
  refine R_imul dX13_isThere_19 (fun l z h k => ?_) k
  exact R_icmp_ne dX13_isThere_20 (by decide) (fun _ _ _ k => k) (fun _ _ _ k => k) k
theorem bX13_isThere_23 {G : Gt} {d bc bs : Nat} {Q : QT} {l : Ls} {z : List Value} {h : Hp} (k : (tPush (.int 1) ((fun l z h => T G d bc bs mX13_isThere 28 l z h Q))) l z h) : T G d bc bs mX13_isThere 23 l z h Q := by
  refine R_iconst dX13_isThere_23 (by decide) (fun l z h k => ?_) k
  exact R_goto dX13_isThere_24 (by decide) (fun _ _ _ k => k) k
theorem bX13_isThere_27 {G : Gt} {d bc bs : Nat} {Q : QT} {l : Ls} {z : List Value} {h : Hp} (k : (tPush (.int 0) ((fun l z h => T G d bc bs mX13_isThere 28 l z h Q))) l z h) : T G d bc bs mX13_isThere 27 l z h Q := by
  refine R_iconst dX13_isThere_27 (by decide) (fun l z h k => ?_) k
  exact k
theorem bX13_isThere_28 {G : Gt} {d bc bs : Nat} {Q : QT} {l : Ls} {z : List Value} {h : Hp} (k : (tRetZ Q) l z h) : T G d bc bs mX13_isThere 28 l z h Q := by
  exact R_zret dX13_isThere_28 rfl k
theorem dX13_those_0 : decode cX13_those 0 = .ok (.iconst 0, 1) := by decide +kernel
theorem dX13_those_1 : decode cX13_those 1 = .ok (.istore_n 2, 1) := by decide +kernel
theorem dX13_those_2 : decode cX13_those 2 = .ok (.iconst 0, 1) := by decide +kernel
theorem dX13_those_3 : decode cX13_those 3 = .ok (.istore_n 3, 1) := by decide +kernel
theorem dX13_those_4 : decode cX13_those 4 = .ok (.iload_n 3, 1) := by decide +kernel
theorem dX13_those_5 : decode cX13_those 5 = .ok (.aload_n 0, 1) := by decide +kernel
theorem dX13_those_6 : decode cX13_those 6 = .ok (.getfield 13, 3) := by decide +kernel
theorem dX13_those_9 : decode cX13_those 9 = .ok (.iconst 1, 1) := by decide +kernel
theorem dX13_those_10 : decode cX13_those 10 = .ok (.iaload, 1) := by decide +kernel
theorem dX13_those_11 : decode cX13_those 11 = .ok (.if_icmp .ge 28, 3) := by decide +kernel
theorem dX13_those_14 : decode cX13_those 14 = .ok (.aload_n 0, 1) := by decide +kernel
theorem dX13_those_15 : decode cX13_those 15 = .ok (.getfield 13, 3) := by decide +kernel
theorem dX13_those_18 : decode cX13_those 18 = .ok (.bipush 99, 2) := by decide +kernel
theorem dX13_those_20 : decode cX13_those 20 = .ok (.iload_n 3, 1) := by decide +kernel
theorem dX13_those_21 : decode cX13_those 21 = .ok (.iadd, 1) := by decide +kernel
theorem dX13_those_22 : decode cX13_those 22 = .ok (.iaload, 1) := by decide +kernel
theorem dX13_those_23 : decode cX13_those 23 = .ok (.iload_n 1, 1) := by decide +kernel
theorem dX13_those_24 : decode cX13_those 24 = .ok (.if_icmp .ne 9, 3) := by decide +kernel
theorem dX13_those_27 : decode cX13_those 27 = .ok (.iload_n 2, 1) := by decide +kernel
theorem dX13_those_28 : decode cX13_those 28 = .ok (.iconst 1, 1) := by decide +kernel
theorem dX13_those_29 : decode cX13_those 29 = .ok (.iload_n 3, 1) := by decide +kernel
theorem dX13_those_30 : decode cX13_those 30 = .ok (.ishl, 1) := by decide +kernel
theorem dX13_those_31 : decode cX13_those 31 = .ok (.ior, 1) := by decide +kernel
theorem dX13_those_32 : decode cX13_those 32 = .ok (.istore_n 2, 1) := by decide +kernel
theorem dX13_those_33 : decode cX13_those 33 = .ok (.iinc 3 1, 3) := by decide +kernel
theorem dX13_those_36 : decode cX13_those 36 = .ok (.goto (-32), 3) := by decide +kernel
theorem dX13_those_39 : decode cX13_those 39 = .ok (.iload_n 2, 1) := by decide +kernel
theorem dX13_those_40 : decode cX13_those 40 = .ok (.ireturn, 1) := by decide +kernel
theorem bX13_those_0 {G : Gt} {d bc bs : Nat} {Q : QT} {l : Ls} {z : List Value} {h : Hp} (k : (tPush (.int 0) (tIst 2 (tPush (.int 0) (tIst 3 ((fun l z h => T G d bc bs mX13_those 4 l z h Q)))))) l z h) : T G d bc bs mX13_those 0 l z h Q := by
  refine R_iconst dX13_those_0 (by decide) (fun l z h k => ?_) k
  refine R_istore_n dX13_those_1 rfl (by decide) (fun l z h k => ?_) k
  refine R_iconst dX13_those_2 (by decide) (fun l z h k => ?_) k
  refine R_istore_n dX13_those_3 rfl (by decide) (fun l z h k => ?_) k
  exact k
theorem bX13_those_4 {G : Gt} {d bc bs : Nat} {Q : QT} {l : Ls} {z : List Value} {h : Hp} (k : (tIld 3 (tAld 0 (tGetf 11 14 (tPush (.int 1) (tXald 0 (tIf2 (fun x y => y ≤ x) (fun l z h => T G d bc bs mX13_those 39 l z h Q) (fun l z h => T G d bc bs mX13_those 14 l z h Q))))))) l z h) : T G d bc bs mX13_those 4 l z h Q := by
  refine R_iload_n dX13_those_4 rfl (fun l z h k => ?_) k
  refine R_aload_n dX13_those_5 rfl (fun l z h k => ?_) k
  refine R_getf (ci := 11) (f := 14) (C := RX13) (N := 49) (Tt := TX13) dX13_those_6 rfl i_X13 (by decide) w_1481 (fun l z h k => ?_) k
  refine R_iconst dX13_those_9 (by decide) (fun l z h k => ?_) k
  refine R_iaload dX13_those_10 (fun l z h k => ?_) k
  exact R_icmp_ge dX13_those_11 (by decide) (fun _ _ _ k => k) (fun _ _ _ k => k) k
theorem bX13_those_14 {G : Gt} {d bc bs : Nat} {Q : QT} {l : Ls} {z : List Value} {h : Hp} (k : (tAld 0 (tGetf 11 14 (tPush (.int 99) (tIld 3 (tB (fun x y => x + y) (tXald 0 (tIld 1 (tIf2 (fun x y => x = y) (fun l z h => T G d bc bs mX13_those 27 l z h Q) (fun l z h => T G d bc bs mX13_those 33 l z h Q))))))))) l z h) : T G d bc bs mX13_those 14 l z h Q := by
  refine R_aload_n dX13_those_14 rfl (fun l z h k => ?_) k
  refine R_getf (ci := 11) (f := 14) (C := RX13) (N := 49) (Tt := TX13) dX13_those_15 rfl i_X13 (by decide) w_1481 (fun l z h k => ?_) k
  refine R_bipush dX13_those_18 (by decide) (fun l z h k => ?_) k
  refine R_iload_n dX13_those_20 rfl (fun l z h k => ?_) k
  refine R_iadd dX13_those_21 (fun l z h k => ?_) k
  refine R_iaload dX13_those_22 (fun l z h k => ?_) k
  refine R_iload_n dX13_those_23 rfl (fun l z h k => ?_) k
  exact R_icmp_ne dX13_those_24 (by decide) (fun _ _ _ k => k) (fun _ _ _ k => k) k
theorem bX13_those_27 {G : Gt} {d bc bs : Nat} {Q : QT} {l : Ls} {z : List Value} {h : Hp} (k : (tIld 2 (tPush (.int 1) (tIld 3 (tB (fun x y => x <<< (y &&& 31)) (tB (fun x y => x ||| y) (tIst 2 ((fun l z h => T G d bc bs mX13_those 33 l z h Q)))))))) l z h) : T G d bc bs mX13_those 27 l z h Q := by
  refine R_iload_n dX13_those_27 rfl (fun l z h k => ?_) k
  refine R_iconst dX13_those_28 (by decide) (fun l z h k => ?_) k
  refine R_iload_n dX13_those_29 rfl (fun l z h k => ?_) k
  refine R_ishl dX13_those_30 (fun l z h k => ?_) k
  refine R_ior dX13_those_31 (fun l z h k => ?_) k
  refine R_istore_n dX13_those_32 rfl (by decide) (fun l z h k => ?_) k
  exact k
theorem bX13_those_33 {G : Gt} {d bc bs : Nat} {Q : QT} {l : Ls} {z : List Value} {h : Hp} (k : (tInc 3 1 ((fun l z h => T G d bc bs mX13_those 4 l z h Q))) l z h) : T G d bc bs mX13_those 33 l z h Q := by
  refine R_iinc dX13_those_33 (by decide) (by decide) (fun l z h k => ?_) k
  exact R_goto dX13_those_36 (by decide) (fun _ _ _ k => k) k
theorem bX13_those_39 {G : Gt} {d bc bs : Nat} {Q : QT} {l : Ls} {z : List Value} {h : Hp} (k : (tIld 2 (tRetI Q)) l z h) : T G d bc bs mX13_those 39 l z h Q := by
  refine R_iload_n dX13_those_39 rfl (fun l z h k => ?_) k
  exact R_iret dX13_those_40 rfl k
theorem dX13_payers_0 : decode cX13_payers 0 = .ok (.iconst 0, 1) := by decide +kernel
theorem dX13_payers_1 : decode cX13_payers 1 = .ok (.istore_n 1, 1) := by decide +kernel
theorem dX13_payers_2 : decode cX13_payers 2 = .ok (.iconst 0, 1) := by decide +kernel
theorem dX13_payers_3 : decode cX13_payers 3 = .ok (.istore_n 2, 1) := by decide +kernel
theorem dX13_payers_4 : decode cX13_payers 4 = .ok (.iload_n 2, 1) := by decide +kernel
theorem dX13_payers_5 : decode cX13_payers 5 = .ok (.aload_n 0, 1) := by decide +kernel
theorem dX13_payers_6 : decode cX13_payers 6 = .ok (.getfield 13, 3) := by decide +kernel
theorem dX13_payers_9 : decode cX13_payers 9 = .ok (.iconst 1, 1) := by decide +kernel
theorem dX13_payers_10 : decode cX13_payers 10 = .ok (.iaload, 1) := by decide +kernel
theorem dX13_payers_11 : decode cX13_payers 11 = .ok (.if_icmp .ge 23, 3) := by decide +kernel
theorem dX13_payers_14 : decode cX13_payers 14 = .ok (.aload_n 0, 1) := by decide +kernel
theorem dX13_payers_15 : decode cX13_payers 15 = .ok (.iload_n 2, 1) := by decide +kernel
theorem dX13_payers_16 : decode cX13_payers 16 = .ok (.invokevirtual 253, 3) := by decide +kernel
theorem dX13_payers_19 : decode cX13_payers 19 = .ok (.ifCond .eq 9, 3) := by decide +kernel
theorem dX13_payers_22 : decode cX13_payers 22 = .ok (.iload_n 1, 1) := by decide +kernel
theorem dX13_payers_23 : decode cX13_payers 23 = .ok (.iconst 1, 1) := by decide +kernel
theorem dX13_payers_24 : decode cX13_payers 24 = .ok (.iload_n 2, 1) := by decide +kernel
theorem dX13_payers_25 : decode cX13_payers 25 = .ok (.ishl, 1) := by decide +kernel
theorem dX13_payers_26 : decode cX13_payers 26 = .ok (.ior, 1) := by decide +kernel
theorem dX13_payers_27 : decode cX13_payers 27 = .ok (.istore_n 1, 1) := by decide +kernel
theorem dX13_payers_28 : decode cX13_payers 28 = .ok (.iinc 2 1, 3) := by decide +kernel
theorem dX13_payers_31 : decode cX13_payers 31 = .ok (.goto (-27), 3) := by decide +kernel
theorem dX13_payers_34 : decode cX13_payers 34 = .ok (.iload_n 1, 1) := by decide +kernel
theorem dX13_payers_35 : decode cX13_payers 35 = .ok (.ireturn, 1) := by decide +kernel
theorem bX13_payers_0 {G : Gt} {d bc bs : Nat} {Q : QT} {l : Ls} {z : List Value} {h : Hp} (k : (tPush (.int 0) (tIst 1 (tPush (.int 0) (tIst 2 ((fun l z h => T G d bc bs mX13_payers 4 l z h Q)))))) l z h) : T G d bc bs mX13_payers 0 l z h Q := by
  refine R_iconst dX13_payers_0 (by decide) (fun l z h k => ?_) k
  refine R_istore_n dX13_payers_1 rfl (by decide) (fun l z h k => ?_) k
  refine R_iconst dX13_payers_2 (by decide) (fun l z h k => ?_) k
  refine R_istore_n dX13_payers_3 rfl (by decide) (fun l z h k => ?_) k
  exact k
theorem bX13_payers_4 {G : Gt} {d bc bs : Nat} {Q : QT} {l : Ls} {z : List Value} {h : Hp} (k : (tIld 2 (tAld 0 (tGetf 11 14 (tPush (.int 1) (tXald 0 (tIf2 (fun x y => y ≤ x) (fun l z h => T G d bc bs mX13_payers 34 l z h Q) (fun l z h => T G d bc bs mX13_payers 14 l z h Q))))))) l z h) : T G d bc bs mX13_payers 4 l z h Q := by
  refine R_iload_n dX13_payers_4 rfl (fun l z h k => ?_) k
  refine R_aload_n dX13_payers_5 rfl (fun l z h k => ?_) k
  refine R_getf (ci := 11) (f := 14) (C := RX13) (N := 49) (Tt := TX13) dX13_payers_6 rfl i_X13 (by decide) w_1481 (fun l z h k => ?_) k
  refine R_iconst dX13_payers_9 (by decide) (fun l z h k => ?_) k
  refine R_iaload dX13_payers_10 (fun l z h k => ?_) k
  exact R_icmp_ge dX13_payers_11 (by decide) (fun _ _ _ k => k) (fun _ _ _ k => k) k
theorem bX13_payers_14 {G : Gt} {d bc bs : Nat} {Q : QT} {l : Ls} {z : List Value} {h : Hp} (k : (tAld 0 (tIld 2 (tCV1 G d 0 0 11 mX13_paysWant (fun l z h => T G d bc bs mX13_payers 19 l z h Q)))) l z h) : T G d bc bs mX13_payers 14 l z h Q := by
  refine R_aload_n dX13_payers_14 rfl (fun l z h k => ?_) k
  refine R_iload_n dX13_payers_15 rfl (fun l z h k => ?_) k
  exact R_cv1 (M := mX13_payers) (pc := 16) (bc := bc) (bs := bs) (cb := 0) (cs := 0) (M' := mX13_paysWant) dX13_payers_16 rfl (by decide) w_1815 w_144 w_1812 w_1814 w_78 (by decide +kernel) (fun _ _ _ k => k) k
theorem bX13_payers_19 {G : Gt} {d bc bs : Nat} {Q : QT} {l : Ls} {z : List Value} {h : Hp} (k : (tIf (fun x => x = 0) (fun l z h => T G d bc bs mX13_payers 28 l z h Q) (fun l z h => T G d bc bs mX13_payers 22 l z h Q)) l z h) : T G d bc bs mX13_payers 19 l z h Q := by
  exact R_if_eq dX13_payers_19 (by decide) (fun _ _ _ k => k) (fun _ _ _ k => k) k
theorem bX13_payers_22 {G : Gt} {d bc bs : Nat} {Q : QT} {l : Ls} {z : List Value} {h : Hp} (k : (tIld 1 (tPush (.int 1) (tIld 2 (tB (fun x y => x <<< (y &&& 31)) (tB (fun x y => x ||| y) (tIst 1 ((fun l z h => T G d bc bs mX13_payers 28 l z h Q)))))))) l z h) : T G d bc bs mX13_payers 22 l z h Q := by
  refine R_iload_n dX13_payers_22 rfl (fun l z h k => ?_) k
  refine R_iconst dX13_payers_23 (by decide) (fun l z h k => ?_) k
  refine R_iload_n dX13_payers_24 rfl (fun l z h k => ?_) k
  refine R_ishl dX13_payers_25 (fun l z h k => ?_) k
  refine R_ior dX13_payers_26 (fun l z h k => ?_) k
  refine R_istore_n dX13_payers_27 rfl (by decide) (fun l z h k => ?_) k
  exact k
theorem bX13_payers_28 {G : Gt} {d bc bs : Nat} {Q : QT} {l : Ls} {z : List Value} {h : Hp} (k : (tInc 2 1 ((fun l z h => T G d bc bs mX13_payers 4 l z h Q))) l z h) : T G d bc bs mX13_payers 28 l z h Q := by
  refine R_iinc dX13_payers_28 (by decide) (by decide) (fun l z h k => ?_) k
  exact R_goto dX13_payers_31 (by decide) (fun _ _ _ k => k) k
theorem bX13_payers_34 {G : Gt} {d bc bs : Nat} {Q : QT} {l : Ls} {z : List Value} {h : Hp} (k : (tIld 1 (tRetI Q)) l z h) : T G d bc bs mX13_payers 34 l z h Q := by
  refine R_iload_n dX13_payers_34 rfl (fun l z h k => ?_) k
  exact R_iret dX13_payers_35 rfl k
theorem dX13_allOf_0 : decode cX13_allOf 0 = .ok (.iconst 0, 1) := by decide +kernel
theorem dX13_allOf_1 : decode cX13_allOf 1 = .ok (.istore_n 2, 1) := by decide +kernel
theorem dX13_allOf_2 : decode cX13_allOf 2 = .ok (.iconst 0, 1) := by decide +kernel
theorem dX13_allOf_3 : decode cX13_allOf 3 = .ok (.istore_n 3, 1) := by decide +kernel
theorem dX13_allOf_4 : decode cX13_allOf 4 = .ok (.iload_n 3, 1) := by decide +kernel
theorem dX13_allOf_5 : decode cX13_allOf 5 = .ok (.bipush 6, 2) := by decide +kernel
theorem dX13_allOf_7 : decode cX13_allOf 7 = .ok (.if_icmp .ge 18, 3) := by decide +kernel
theorem dX13_allOf_10 : decode cX13_allOf 10 = .ok (.iload_n 2, 1) := by decide +kernel
theorem dX13_allOf_11 : decode cX13_allOf 11 = .ok (.aload_n 0, 1) := by decide +kernel
theorem dX13_allOf_12 : decode cX13_allOf 12 = .ok (.iload_n 1, 1) := by decide +kernel
theorem dX13_allOf_13 : decode cX13_allOf 13 = .ok (.iload_n 3, 1) := by decide +kernel
theorem dX13_allOf_14 : decode cX13_allOf 14 = .ok (.invokevirtual 240, 3) := by decide +kernel
theorem dX13_allOf_17 : decode cX13_allOf 17 = .ok (.iadd, 1) := by decide +kernel
theorem dX13_allOf_18 : decode cX13_allOf 18 = .ok (.istore_n 2, 1) := by decide +kernel
theorem dX13_allOf_19 : decode cX13_allOf 19 = .ok (.iinc 3 1, 3) := by decide +kernel
theorem dX13_allOf_22 : decode cX13_allOf 22 = .ok (.goto (-18), 3) := by decide +kernel
theorem dX13_allOf_25 : decode cX13_allOf 25 = .ok (.iload_n 2, 1) := by decide +kernel
theorem dX13_allOf_26 : decode cX13_allOf 26 = .ok (.ireturn, 1) := by decide +kernel
theorem bX13_allOf_0 {G : Gt} {d bc bs : Nat} {Q : QT} {l : Ls} {z : List Value} {h : Hp} (k : (tPush (.int 0) (tIst 2 (tPush (.int 0) (tIst 3 ((fun l z h => T G d bc bs mX13_allOf 4 l z h Q)))))) l z h) : T G d bc bs mX13_allOf 0 l z h Q := by
  refine R_iconst dX13_allOf_0 (by decide) (fun l z h k => ?_) k
  refine R_istore_n dX13_allOf_1 rfl (by decide) (fun l z h k => ?_) k
  refine R_iconst dX13_allOf_2 (by decide) (fun l z h k => ?_) k
  refine R_istore_n dX13_allOf_3 rfl (by decide) (fun l z h k => ?_) k
  exact k
theorem bX13_allOf_4 {G : Gt} {d bc bs : Nat} {Q : QT} {l : Ls} {z : List Value} {h : Hp} (k : (tIld 3 (tPush (.int 6) (tIf2 (fun x y => y ≤ x) (fun l z h => T G d bc bs mX13_allOf 25 l z h Q) (fun l z h => T G d bc bs mX13_allOf 10 l z h Q)))) l z h) : T G d bc bs mX13_allOf 4 l z h Q := by
  refine R_iload_n dX13_allOf_4 rfl (fun l z h k => ?_) k
  refine R_bipush dX13_allOf_5 (by decide) (fun l z h k => ?_) k
  exact R_icmp_ge dX13_allOf_7 (by decide) (fun _ _ _ k => k) (fun _ _ _ k => k) k
theorem bX13_allOf_10 {G : Gt} {d bc bs : Nat} {Q : QT} {l : Ls} {z : List Value} {h : Hp} (k : (tIld 2 (tAld 0 (tIld 1 (tIld 3 (tCV2 G d 0 0 11 mX13_haveOf (fun l z h => T G d bc bs mX13_allOf 17 l z h Q)))))) l z h) : T G d bc bs mX13_allOf 10 l z h Q := by
  refine R_iload_n dX13_allOf_10 rfl (fun l z h k => ?_) k
  refine R_aload_n dX13_allOf_11 rfl (fun l z h k => ?_) k
  refine R_iload_n dX13_allOf_12 rfl (fun l z h k => ?_) k
  refine R_iload_n dX13_allOf_13 rfl (fun l z h k => ?_) k
  exact R_cv2 (M := mX13_allOf) (pc := 14) (bc := bc) (bs := bs) (cb := 0) (cs := 0) (M' := mX13_haveOf) dX13_allOf_14 rfl (by decide) w_1779 w_144 w_1776 w_1778 w_73 (by decide +kernel) (fun _ _ _ k => k) k
theorem bX13_allOf_17 {G : Gt} {d bc bs : Nat} {Q : QT} {l : Ls} {z : List Value} {h : Hp} (k : (tB (fun x y => x + y) (tIst 2 (tInc 3 1 ((fun l z h => T G d bc bs mX13_allOf 4 l z h Q))))) l z h) : T G d bc bs mX13_allOf 17 l z h Q := by
  refine R_iadd dX13_allOf_17 (fun l z h k => ?_) k
  refine R_istore_n dX13_allOf_18 rfl (by decide) (fun l z h k => ?_) k
  refine R_iinc dX13_allOf_19 (by decide) (by decide) (fun l z h k => ?_) k
  exact R_goto dX13_allOf_22 (by decide) (fun _ _ _ k => k) k
theorem bX13_allOf_25 {G : Gt} {d bc bs : Nat} {Q : QT} {l : Ls} {z : List Value} {h : Hp} (k : (tIld 2 (tRetI Q)) l z h) : T G d bc bs mX13_allOf 25 l z h Q := by
  refine R_iload_n dX13_allOf_25 rfl (fun l z h k => ?_) k
  exact R_iret dX13_allOf_26 rfl k
theorem dX13_person_0 : decode cX13_person 0 = .ok (.aload_n 0, 1) := by decide +kernel
theorem dX13_person_1 : decode cX13_person 1 = .ok (.iconst 0, 1) := by decide +kernel
theorem dX13_person_2 : decode cX13_person 2 = .ok (.putfield 85, 3) := by decide +kernel
theorem dX13_person_5 : decode cX13_person 5 = .ok (.aload_n 0, 1) := by decide +kernel
theorem dX13_person_6 : decode cX13_person 6 = .ok (.iload_n 1, 1) := by decide +kernel
theorem dX13_person_7 : decode cX13_person 7 = .ok (.invokevirtual 256, 3) := by decide +kernel
theorem dX13_person_10 : decode cX13_person 10 = .ok (.ifCond .ne 8, 3) := by decide +kernel
theorem dX13_person_13 : decode cX13_person 13 = .ok (.aload_n 0, 1) := by decide +kernel
theorem dX13_person_14 : decode cX13_person 14 = .ok (.invokevirtual 259, 3) := by decide +kernel
theorem dX13_person_17 : decode cX13_person 17 = .ok (.ireturn, 1) := by decide +kernel
theorem dX13_person_18 : decode cX13_person 18 = .ok (.iload_n 2, 1) := by decide +kernel
theorem dX13_person_19 : decode cX13_person 19 = .ok (.tableswitch 94 0 5 #[37, 47, 57, 67, 78, 88], 37) := by decide +kernel
theorem dX13_person_56 : decode cX13_person 56 = .ok (.aload_n 0, 1) := by decide +kernel
theorem dX13_person_57 : decode cX13_person 57 = .ok (.getfield 13, 3) := by decide +kernel
theorem dX13_person_60 : decode cX13_person 60 = .ok (.bipush 99, 2) := by decide +kernel
theorem dX13_person_62 : decode cX13_person 62 = .ok (.iload_n 1, 1) := by decide +kernel
theorem dX13_person_63 : decode cX13_person 63 = .ok (.iadd, 1) := by decide +kernel
theorem dX13_person_64 : decode cX13_person 64 = .ok (.iaload, 1) := by decide +kernel
theorem dX13_person_65 : decode cX13_person 65 = .ok (.ireturn, 1) := by decide +kernel
theorem dX13_person_66 : decode cX13_person 66 = .ok (.aload_n 0, 1) := by decide +kernel
theorem dX13_person_67 : decode cX13_person 67 = .ok (.getfield 13, 3) := by decide +kernel
theorem dX13_person_70 : decode cX13_person 70 = .ok (.bipush 22, 2) := by decide +kernel
theorem dX13_person_72 : decode cX13_person 72 = .ok (.iload_n 1, 1) := by decide +kernel
theorem dX13_person_73 : decode cX13_person 73 = .ok (.iadd, 1) := by decide +kernel
theorem dX13_person_74 : decode cX13_person 74 = .ok (.iaload, 1) := by decide +kernel
theorem dX13_person_75 : decode cX13_person 75 = .ok (.ireturn, 1) := by decide +kernel
theorem dX13_person_76 : decode cX13_person 76 = .ok (.aload_n 0, 1) := by decide +kernel
theorem dX13_person_77 : decode cX13_person 77 = .ok (.getfield 13, 3) := by decide +kernel
theorem dX13_person_80 : decode cX13_person 80 = .ok (.bipush 107, 2) := by decide +kernel
theorem dX13_person_82 : decode cX13_person 82 = .ok (.iload_n 1, 1) := by decide +kernel
theorem dX13_person_83 : decode cX13_person 83 = .ok (.iadd, 1) := by decide +kernel
theorem dX13_person_84 : decode cX13_person 84 = .ok (.iaload, 1) := by decide +kernel
theorem dX13_person_85 : decode cX13_person 85 = .ok (.ireturn, 1) := by decide +kernel
theorem dX13_person_86 : decode cX13_person 86 = .ok (.aload_n 0, 1) := by decide +kernel
theorem dX13_person_87 : decode cX13_person 87 = .ok (.getfield 13, 3) := by decide +kernel
theorem dX13_person_90 : decode cX13_person 90 = .ok (.sipush 183, 3) := by decide +kernel
theorem dX13_person_93 : decode cX13_person 93 = .ok (.iload_n 1, 1) := by decide +kernel
theorem dX13_person_94 : decode cX13_person 94 = .ok (.iadd, 1) := by decide +kernel
theorem dX13_person_95 : decode cX13_person 95 = .ok (.iaload, 1) := by decide +kernel
theorem dX13_person_96 : decode cX13_person 96 = .ok (.ireturn, 1) := by decide +kernel
theorem dX13_person_97 : decode cX13_person 97 = .ok (.aload_n 0, 1) := by decide +kernel
theorem dX13_person_98 : decode cX13_person 98 = .ok (.getfield 13, 3) := by decide +kernel
theorem dX13_person_101 : decode cX13_person 101 = .ok (.bipush 115, 2) := by decide +kernel
theorem dX13_person_103 : decode cX13_person 103 = .ok (.iload_n 1, 1) := by decide +kernel
theorem dX13_person_104 : decode cX13_person 104 = .ok (.iadd, 1) := by decide +kernel
theorem dX13_person_105 : decode cX13_person 105 = .ok (.iaload, 1) := by decide +kernel
theorem dX13_person_106 : decode cX13_person 106 = .ok (.ireturn, 1) := by decide +kernel
theorem dX13_person_107 : decode cX13_person 107 = .ok (.aload_n 0, 1) := by decide +kernel
theorem dX13_person_108 : decode cX13_person 108 = .ok (.iload_n 1, 1) := by decide +kernel
theorem dX13_person_109 : decode cX13_person 109 = .ok (.invokevirtual 262, 3) := by decide +kernel
theorem dX13_person_112 : decode cX13_person 112 = .ok (.ireturn, 1) := by decide +kernel
theorem dX13_person_113 : decode cX13_person 113 = .ok (.aload_n 0, 1) := by decide +kernel
theorem dX13_person_114 : decode cX13_person 114 = .ok (.invokevirtual 259, 3) := by decide +kernel
theorem dX13_person_117 : decode cX13_person 117 = .ok (.ireturn, 1) := by decide +kernel
theorem bX13_person_0 {G : Gt} {d bc bs : Nat} {Q : QT} {l : Ls} {z : List Value} {h : Hp} (k : (tAld 0 (tPush (.int 0) (tPutf isI 11 0 (tAld 0 (tIld 1 (tCV1 G d 0 0 11 mX13_isPerson (fun l z h => T G d bc bs mX13_person 10 l z h Q))))))) l z h) : T G d bc bs mX13_person 0 l z h Q := by
  refine R_aload_n dX13_person_0 rfl (fun l z h k => ?_) k
  refine R_iconst dX13_person_1 (by decide) (fun l z h k => ?_) k
  refine R_putf (ci := 11) (f := 0) (C := RX13) (N := 49) (Tt := TX13) tyX13 tyX13_ok nmX13 dX13_person_2 rfl i_X13 (by decide) w_1467 rfl (tyX13_ok 0 (by decide)) p_int (fun l z h k => ?_) k
  refine R_aload_n dX13_person_5 rfl (fun l z h k => ?_) k
  refine R_iload_n dX13_person_6 rfl (fun l z h k => ?_) k
  exact R_cv1 (M := mX13_person) (pc := 7) (bc := bc) (bs := bs) (cb := 0) (cs := 0) (M' := mX13_isPerson) dX13_person_7 rfl (by decide) w_1767 w_144 w_1764 w_1766 w_70 (by decide +kernel) (fun _ _ _ k => k) k
theorem bX13_person_10 {G : Gt} {d bc bs : Nat} {Q : QT} {l : Ls} {z : List Value} {h : Hp} (k : (tIf (fun x => x = 0) (fun l z h => T G d bc bs mX13_person 13 l z h Q) (fun l z h => T G d bc bs mX13_person 18 l z h Q)) l z h) : T G d bc bs mX13_person 10 l z h Q := by
  exact R_if_ne dX13_person_10 (by decide) (fun _ _ _ k => k) (fun _ _ _ k => k) k
theorem bX13_person_13 {G : Gt} {d bc bs : Nat} {Q : QT} {l : Ls} {z : List Value} {h : Hp} (k : (tAld 0 (tCV0 G d 0 0 11 mX13_refuse (fun l z h => T G d bc bs mX13_person 17 l z h Q))) l z h) : T G d bc bs mX13_person 13 l z h Q := by
  refine R_aload_n dX13_person_13 rfl (fun l z h k => ?_) k
  exact R_cv0 (M := mX13_person) (pc := 14) (bc := bc) (bs := bs) (cb := 0) (cs := 0) (M' := mX13_refuse) dX13_person_14 rfl (by decide) w_1771 w_144 w_1768 w_1770 w_71 (by decide +kernel) (fun _ _ _ k => k) k
theorem bX13_person_17 {G : Gt} {d bc bs : Nat} {Q : QT} {l : Ls} {z : List Value} {h : Hp} (k : (tRetI Q) l z h) : T G d bc bs mX13_person 17 l z h Q := by
  exact R_iret dX13_person_17 rfl k
theorem bX13_person_18 {G : Gt} {d bc bs : Nat} {Q : QT} {l : Ls} {z : List Value} {h : Hp} (k : (tIld 2 (tSw 0 [56, 66, 76, 86, 97, 107] 113 (fun t l z h => T G d bc bs mX13_person t l z h Q))) l z h) : T G d bc bs mX13_person 18 l z h Q := by
  refine R_iload_n dX13_person_18 rfl (fun l z h k => ?_) k
  exact R_table dX13_person_19 (by decide) (by decide) (by decide) (by decide) (by decide) (fun _ _ _ _ k => k) k
theorem bX13_person_56 {G : Gt} {d bc bs : Nat} {Q : QT} {l : Ls} {z : List Value} {h : Hp} (k : (tAld 0 (tGetf 11 14 (tPush (.int 99) (tIld 1 (tB (fun x y => x + y) (tXald 0 (tRetI Q))))))) l z h) : T G d bc bs mX13_person 56 l z h Q := by
  refine R_aload_n dX13_person_56 rfl (fun l z h k => ?_) k
  refine R_getf (ci := 11) (f := 14) (C := RX13) (N := 49) (Tt := TX13) dX13_person_57 rfl i_X13 (by decide) w_1481 (fun l z h k => ?_) k
  refine R_bipush dX13_person_60 (by decide) (fun l z h k => ?_) k
  refine R_iload_n dX13_person_62 rfl (fun l z h k => ?_) k
  refine R_iadd dX13_person_63 (fun l z h k => ?_) k
  refine R_iaload dX13_person_64 (fun l z h k => ?_) k
  exact R_iret dX13_person_65 rfl k
theorem bX13_person_66 {G : Gt} {d bc bs : Nat} {Q : QT} {l : Ls} {z : List Value} {h : Hp} (k : (tAld 0 (tGetf 11 14 (tPush (.int 22) (tIld 1 (tB (fun x y => x + y) (tXald 0 (tRetI Q))))))) l z h) : T G d bc bs mX13_person 66 l z h Q := by
  refine R_aload_n dX13_person_66 rfl (fun l z h k => ?_) k
  refine R_getf (ci := 11) (f := 14) (C := RX13) (N := 49) (Tt := TX13) dX13_person_67 rfl i_X13 (by decide) w_1481 (fun l z h k => ?_) k
  refine R_bipush dX13_person_70 (by decide) (fun l z h k => ?_) k
  refine R_iload_n dX13_person_72 rfl (fun l z h k => ?_) k
  refine R_iadd dX13_person_73 (fun l z h k => ?_) k
  refine R_iaload dX13_person_74 (fun l z h k => ?_) k
  exact R_iret dX13_person_75 rfl k
theorem bX13_person_76 {G : Gt} {d bc bs : Nat} {Q : QT} {l : Ls} {z : List Value} {h : Hp} (k : (tAld 0 (tGetf 11 14 (tPush (.int 107) (tIld 1 (tB (fun x y => x + y) (tXald 0 (tRetI Q))))))) l z h) : T G d bc bs mX13_person 76 l z h Q := by
  refine R_aload_n dX13_person_76 rfl (fun l z h k => ?_) k
  refine R_getf (ci := 11) (f := 14) (C := RX13) (N := 49) (Tt := TX13) dX13_person_77 rfl i_X13 (by decide) w_1481 (fun l z h k => ?_) k
  refine R_bipush dX13_person_80 (by decide) (fun l z h k => ?_) k
  refine R_iload_n dX13_person_82 rfl (fun l z h k => ?_) k
  refine R_iadd dX13_person_83 (fun l z h k => ?_) k
  refine R_iaload dX13_person_84 (fun l z h k => ?_) k
  exact R_iret dX13_person_85 rfl k
theorem bX13_person_86 {G : Gt} {d bc bs : Nat} {Q : QT} {l : Ls} {z : List Value} {h : Hp} (k : (tAld 0 (tGetf 11 14 (tPush (.int 183) (tIld 1 (tB (fun x y => x + y) (tXald 0 (tRetI Q))))))) l z h) : T G d bc bs mX13_person 86 l z h Q := by
  refine R_aload_n dX13_person_86 rfl (fun l z h k => ?_) k
  refine R_getf (ci := 11) (f := 14) (C := RX13) (N := 49) (Tt := TX13) dX13_person_87 rfl i_X13 (by decide) w_1481 (fun l z h k => ?_) k
  refine R_sipush dX13_person_90 (by decide) (fun l z h k => ?_) k
  refine R_iload_n dX13_person_93 rfl (fun l z h k => ?_) k
  refine R_iadd dX13_person_94 (fun l z h k => ?_) k
  refine R_iaload dX13_person_95 (fun l z h k => ?_) k
  exact R_iret dX13_person_96 rfl k
theorem bX13_person_97 {G : Gt} {d bc bs : Nat} {Q : QT} {l : Ls} {z : List Value} {h : Hp} (k : (tAld 0 (tGetf 11 14 (tPush (.int 115) (tIld 1 (tB (fun x y => x + y) (tXald 0 (tRetI Q))))))) l z h) : T G d bc bs mX13_person 97 l z h Q := by
  refine R_aload_n dX13_person_97 rfl (fun l z h k => ?_) k
  refine R_getf (ci := 11) (f := 14) (C := RX13) (N := 49) (Tt := TX13) dX13_person_98 rfl i_X13 (by decide) w_1481 (fun l z h k => ?_) k
  refine R_bipush dX13_person_101 (by decide) (fun l z h k => ?_) k
  refine R_iload_n dX13_person_103 rfl (fun l z h k => ?_) k
  refine R_iadd dX13_person_104 (fun l z h k => ?_) k
  refine R_iaload dX13_person_105 (fun l z h k => ?_) k
  exact R_iret dX13_person_106 rfl k
theorem bX13_person_107 {G : Gt} {d bc bs : Nat} {Q : QT} {l : Ls} {z : List Value} {h : Hp} (k : (tAld 0 (tIld 1 (tCV1 G d 0 0 11 mX13_allOf (fun l z h => T G d bc bs mX13_person 112 l z h Q)))) l z h) : T G d bc bs mX13_person 107 l z h Q := by
  refine R_aload_n dX13_person_107 rfl (fun l z h k => ?_) k
  refine R_iload_n dX13_person_108 rfl (fun l z h k => ?_) k
  exact R_cv1 (M := mX13_person) (pc := 109) (bc := bc) (bs := bs) (cb := 0) (cs := 0) (M' := mX13_allOf) dX13_person_109 rfl (by decide) w_1775 w_144 w_1772 w_1774 w_72 (by decide +kernel) (fun _ _ _ k => k) k
theorem bX13_person_112 {G : Gt} {d bc bs : Nat} {Q : QT} {l : Ls} {z : List Value} {h : Hp} (k : (tRetI Q) l z h) : T G d bc bs mX13_person 112 l z h Q := by
  exact R_iret dX13_person_112 rfl k
theorem bX13_person_113 {G : Gt} {d bc bs : Nat} {Q : QT} {l : Ls} {z : List Value} {h : Hp} (k : (tAld 0 (tCV0 G d 0 0 11 mX13_refuse (fun l z h => T G d bc bs mX13_person 117 l z h Q))) l z h) : T G d bc bs mX13_person 113 l z h Q := by
  refine R_aload_n dX13_person_113 rfl (fun l z h k => ?_) k
  exact R_cv0 (M := mX13_person) (pc := 114) (bc := bc) (bs := bs) (cb := 0) (cs := 0) (M' := mX13_refuse) dX13_person_114 rfl (by decide) w_1771 w_144 w_1768 w_1770 w_71 (by decide +kernel) (fun _ _ _ k => k) k
theorem bX13_person_117 {G : Gt} {d bc bs : Nat} {Q : QT} {l : Ls} {z : List Value} {h : Hp} (k : (tRetI Q) l z h) : T G d bc bs mX13_person 117 l z h Q := by
  exact R_iret dX13_person_117 rfl k
theorem dX13_have_0 : decode cX13_have 0 = .ok (.aload_n 0, 1) := by decide +kernel
theorem dX13_have_1 : decode cX13_have 1 = .ok (.iconst 0, 1) := by decide +kernel
theorem dX13_have_2 : decode cX13_have 2 = .ok (.putfield 85, 3) := by decide +kernel
theorem dX13_have_5 : decode cX13_have 5 = .ok (.aload_n 0, 1) := by decide +kernel
theorem dX13_have_6 : decode cX13_have 6 = .ok (.iload_n 1, 1) := by decide +kernel
theorem dX13_have_7 : decode cX13_have 7 = .ok (.invokevirtual 256, 3) := by decide +kernel
theorem dX13_have_10 : decode cX13_have 10 = .ok (.ifCond .eq 20, 3) := by decide +kernel
theorem dX13_have_13 : decode cX13_have 13 = .ok (.aload_n 0, 1) := by decide +kernel
theorem dX13_have_14 : decode cX13_have 14 = .ok (.iload_n 2, 1) := by decide +kernel
theorem dX13_have_15 : decode cX13_have 15 = .ok (.invokevirtual 265, 3) := by decide +kernel
theorem dX13_have_18 : decode cX13_have 18 = .ok (.ifCond .eq 12, 3) := by decide +kernel
theorem dX13_have_21 : decode cX13_have 21 = .ok (.aload_n 0, 1) := by decide +kernel
theorem dX13_have_22 : decode cX13_have 22 = .ok (.iload_n 1, 1) := by decide +kernel
theorem dX13_have_23 : decode cX13_have 23 = .ok (.iload_n 2, 1) := by decide +kernel
theorem dX13_have_24 : decode cX13_have 24 = .ok (.invokevirtual 240, 3) := by decide +kernel
theorem dX13_have_27 : decode cX13_have 27 = .ok (.goto 4, 3) := by decide +kernel
theorem dX13_have_30 : decode cX13_have 30 = .ok (.iconst (-1), 1) := by decide +kernel
theorem dX13_have_31 : decode cX13_have 31 = .ok (.ireturn, 1) := by decide +kernel
theorem bX13_have_0 {G : Gt} {d bc bs : Nat} {Q : QT} {l : Ls} {z : List Value} {h : Hp} (k : (tAld 0 (tPush (.int 0) (tPutf isI 11 0 (tAld 0 (tIld 1 (tCV1 G d 0 0 11 mX13_isPerson (fun l z h => T G d bc bs mX13_have 10 l z h Q))))))) l z h) : T G d bc bs mX13_have 0 l z h Q := by
  refine R_aload_n dX13_have_0 rfl (fun l z h k => ?_) k
  refine R_iconst dX13_have_1 (by decide) (fun l z h k => ?_) k
  refine R_putf (ci := 11) (f := 0) (C := RX13) (N := 49) (Tt := TX13) tyX13 tyX13_ok nmX13 dX13_have_2 rfl i_X13 (by decide) w_1467 rfl (tyX13_ok 0 (by decide)) p_int (fun l z h k => ?_) k
  refine R_aload_n dX13_have_5 rfl (fun l z h k => ?_) k
  refine R_iload_n dX13_have_6 rfl (fun l z h k => ?_) k
  exact R_cv1 (M := mX13_have) (pc := 7) (bc := bc) (bs := bs) (cb := 0) (cs := 0) (M' := mX13_isPerson) dX13_have_7 rfl (by decide) w_1767 w_144 w_1764 w_1766 w_70 (by decide +kernel) (fun _ _ _ k => k) k
theorem bX13_have_10 {G : Gt} {d bc bs : Nat} {Q : QT} {l : Ls} {z : List Value} {h : Hp} (k : (tIf (fun x => x = 0) (fun l z h => T G d bc bs mX13_have 30 l z h Q) (fun l z h => T G d bc bs mX13_have 13 l z h Q)) l z h) : T G d bc bs mX13_have 10 l z h Q := by
  exact R_if_eq dX13_have_10 (by decide) (fun _ _ _ k => k) (fun _ _ _ k => k) k
theorem bX13_have_13 {G : Gt} {d bc bs : Nat} {Q : QT} {l : Ls} {z : List Value} {h : Hp} (k : (tAld 0 (tIld 2 (tCV1 G d 0 0 11 mX13_isThing (fun l z h => T G d bc bs mX13_have 18 l z h Q)))) l z h) : T G d bc bs mX13_have 13 l z h Q := by
  refine R_aload_n dX13_have_13 rfl (fun l z h k => ?_) k
  refine R_iload_n dX13_have_14 rfl (fun l z h k => ?_) k
  exact R_cv1 (M := mX13_have) (pc := 15) (bc := bc) (bs := bs) (cb := 0) (cs := 0) (M' := mX13_isThing) dX13_have_15 rfl (by decide) w_1787 w_144 w_1784 w_1786 w_74 (by decide +kernel) (fun _ _ _ k => k) k
theorem bX13_have_18 {G : Gt} {d bc bs : Nat} {Q : QT} {l : Ls} {z : List Value} {h : Hp} (k : (tIf (fun x => x = 0) (fun l z h => T G d bc bs mX13_have 30 l z h Q) (fun l z h => T G d bc bs mX13_have 21 l z h Q)) l z h) : T G d bc bs mX13_have 18 l z h Q := by
  exact R_if_eq dX13_have_18 (by decide) (fun _ _ _ k => k) (fun _ _ _ k => k) k
theorem bX13_have_21 {G : Gt} {d bc bs : Nat} {Q : QT} {l : Ls} {z : List Value} {h : Hp} (k : (tAld 0 (tIld 1 (tIld 2 (tCV2 G d 0 0 11 mX13_haveOf (fun l z h => T G d bc bs mX13_have 27 l z h Q))))) l z h) : T G d bc bs mX13_have 21 l z h Q := by
  refine R_aload_n dX13_have_21 rfl (fun l z h k => ?_) k
  refine R_iload_n dX13_have_22 rfl (fun l z h k => ?_) k
  refine R_iload_n dX13_have_23 rfl (fun l z h k => ?_) k
  exact R_cv2 (M := mX13_have) (pc := 24) (bc := bc) (bs := bs) (cb := 0) (cs := 0) (M' := mX13_haveOf) dX13_have_24 rfl (by decide) w_1779 w_144 w_1776 w_1778 w_73 (by decide +kernel) (fun _ _ _ k => k) k
theorem bX13_have_27 {G : Gt} {d bc bs : Nat} {Q : QT} {l : Ls} {z : List Value} {h : Hp} (k : (fun l z h => T G d bc bs mX13_have 31 l z h Q) l z h) : T G d bc bs mX13_have 27 l z h Q := by
  exact R_goto dX13_have_27 (by decide) (fun _ _ _ k => k) k
theorem bX13_have_30 {G : Gt} {d bc bs : Nat} {Q : QT} {l : Ls} {z : List Value} {h : Hp} (k : (tPush (.int (-1)) ((fun l z h => T G d bc bs mX13_have 31 l z h Q))) l z h) : T G d bc bs mX13_have 30 l z h Q := by
  refine R_iconst dX13_have_30 (by decide) (fun l z h k => ?_) k
  exact k
theorem bX13_have_31 {G : Gt} {d bc bs : Nat} {Q : QT} {l : Ls} {z : List Value} {h : Hp} (k : (tRetI Q) l z h) : T G d bc bs mX13_have 31 l z h Q := by
  exact R_iret dX13_have_31 rfl k
theorem dX13_thing_0 : decode cX13_thing 0 = .ok (.aload_n 0, 1) := by decide +kernel
theorem dX13_thing_1 : decode cX13_thing 1 = .ok (.iconst 0, 1) := by decide +kernel
theorem dX13_thing_2 : decode cX13_thing 2 = .ok (.putfield 85, 3) := by decide +kernel
theorem dX13_thing_5 : decode cX13_thing 5 = .ok (.aload_n 0, 1) := by decide +kernel
theorem dX13_thing_6 : decode cX13_thing 6 = .ok (.iload_n 1, 1) := by decide +kernel
theorem dX13_thing_7 : decode cX13_thing 7 = .ok (.invokevirtual 265, 3) := by decide +kernel
theorem dX13_thing_10 : decode cX13_thing 10 = .ok (.ifCond .ne 5, 3) := by decide +kernel
theorem dX13_thing_13 : decode cX13_thing 13 = .ok (.iconst (-1), 1) := by decide +kernel
theorem dX13_thing_14 : decode cX13_thing 14 = .ok (.ireturn, 1) := by decide +kernel
theorem dX13_thing_15 : decode cX13_thing 15 = .ok (.iconst 0, 1) := by decide +kernel
theorem dX13_thing_16 : decode cX13_thing 16 = .ok (.istore_n 3, 1) := by decide +kernel
theorem dX13_thing_17 : decode cX13_thing 17 = .ok (.iload_n 2, 1) := by decide +kernel
theorem dX13_thing_18 : decode cX13_thing 18 = .ok (.tableswitch 77 0 2 #[26, 35, 45], 26) := by decide +kernel
theorem dX13_thing_44 : decode cX13_thing 44 = .ok (.aload_n 0, 1) := by decide +kernel
theorem dX13_thing_45 : decode cX13_thing 45 = .ok (.getfield 13, 3) := by decide +kernel
theorem dX13_thing_48 : decode cX13_thing 48 = .ok (.iconst 2, 1) := by decide +kernel
theorem dX13_thing_49 : decode cX13_thing 49 = .ok (.iload_n 1, 1) := by decide +kernel
theorem dX13_thing_50 : decode cX13_thing 50 = .ok (.iadd, 1) := by decide +kernel
theorem dX13_thing_51 : decode cX13_thing 51 = .ok (.iaload, 1) := by decide +kernel
theorem dX13_thing_52 : decode cX13_thing 52 = .ok (.ireturn, 1) := by decide +kernel
theorem dX13_thing_53 : decode cX13_thing 53 = .ok (.aload_n 0, 1) := by decide +kernel
theorem dX13_thing_54 : decode cX13_thing 54 = .ok (.getfield 13, 3) := by decide +kernel
theorem dX13_thing_57 : decode cX13_thing 57 = .ok (.bipush 8, 2) := by decide +kernel
theorem dX13_thing_59 : decode cX13_thing 59 = .ok (.iload_n 1, 1) := by decide +kernel
theorem dX13_thing_60 : decode cX13_thing 60 = .ok (.iadd, 1) := by decide +kernel
theorem dX13_thing_61 : decode cX13_thing 61 = .ok (.iaload, 1) := by decide +kernel
theorem dX13_thing_62 : decode cX13_thing 62 = .ok (.ireturn, 1) := by decide +kernel
theorem dX13_thing_63 : decode cX13_thing 63 = .ok (.iconst 0, 1) := by decide +kernel
theorem dX13_thing_64 : decode cX13_thing 64 = .ok (.istore 4, 2) := by decide +kernel
theorem dX13_thing_66 : decode cX13_thing 66 = .ok (.iload 4, 2) := by decide +kernel
theorem dX13_thing_68 : decode cX13_thing 68 = .ok (.aload_n 0, 1) := by decide +kernel
theorem dX13_thing_69 : decode cX13_thing 69 = .ok (.getfield 13, 3) := by decide +kernel
theorem dX13_thing_72 : decode cX13_thing 72 = .ok (.iconst 1, 1) := by decide +kernel
theorem dX13_thing_73 : decode cX13_thing 73 = .ok (.iaload, 1) := by decide +kernel
theorem dX13_thing_74 : decode cX13_thing 74 = .ok (.if_icmp .ge 19, 3) := by decide +kernel
theorem dX13_thing_77 : decode cX13_thing 77 = .ok (.iload_n 3, 1) := by decide +kernel
theorem dX13_thing_78 : decode cX13_thing 78 = .ok (.aload_n 0, 1) := by decide +kernel
theorem dX13_thing_79 : decode cX13_thing 79 = .ok (.iload 4, 2) := by decide +kernel
theorem dX13_thing_81 : decode cX13_thing 81 = .ok (.iload_n 1, 1) := by decide +kernel
theorem dX13_thing_82 : decode cX13_thing 82 = .ok (.invokevirtual 240, 3) := by decide +kernel
theorem dX13_thing_85 : decode cX13_thing 85 = .ok (.iadd, 1) := by decide +kernel
theorem dX13_thing_86 : decode cX13_thing 86 = .ok (.istore_n 3, 1) := by decide +kernel
theorem dX13_thing_87 : decode cX13_thing 87 = .ok (.iinc 4 1, 3) := by decide +kernel
theorem dX13_thing_90 : decode cX13_thing 90 = .ok (.goto (-24), 3) := by decide +kernel
theorem dX13_thing_93 : decode cX13_thing 93 = .ok (.iload_n 3, 1) := by decide +kernel
theorem dX13_thing_94 : decode cX13_thing 94 = .ok (.ireturn, 1) := by decide +kernel
theorem dX13_thing_95 : decode cX13_thing 95 = .ok (.iconst (-1), 1) := by decide +kernel
theorem dX13_thing_96 : decode cX13_thing 96 = .ok (.ireturn, 1) := by decide +kernel
theorem bX13_thing_0 {G : Gt} {d bc bs : Nat} {Q : QT} {l : Ls} {z : List Value} {h : Hp} (k : (tAld 0 (tPush (.int 0) (tPutf isI 11 0 (tAld 0 (tIld 1 (tCV1 G d 0 0 11 mX13_isThing (fun l z h => T G d bc bs mX13_thing 10 l z h Q))))))) l z h) : T G d bc bs mX13_thing 0 l z h Q := by
  refine R_aload_n dX13_thing_0 rfl (fun l z h k => ?_) k
  refine R_iconst dX13_thing_1 (by decide) (fun l z h k => ?_) k
  refine R_putf (ci := 11) (f := 0) (C := RX13) (N := 49) (Tt := TX13) tyX13 tyX13_ok nmX13 dX13_thing_2 rfl i_X13 (by decide) w_1467 rfl (tyX13_ok 0 (by decide)) p_int (fun l z h k => ?_) k
  refine R_aload_n dX13_thing_5 rfl (fun l z h k => ?_) k
  refine R_iload_n dX13_thing_6 rfl (fun l z h k => ?_) k
  exact R_cv1 (M := mX13_thing) (pc := 7) (bc := bc) (bs := bs) (cb := 0) (cs := 0) (M' := mX13_isThing) dX13_thing_7 rfl (by decide) w_1787 w_144 w_1784 w_1786 w_74 (by decide +kernel) (fun _ _ _ k => k) k
theorem bX13_thing_10 {G : Gt} {d bc bs : Nat} {Q : QT} {l : Ls} {z : List Value} {h : Hp} (k : (tIf (fun x => x = 0) (fun l z h => T G d bc bs mX13_thing 13 l z h Q) (fun l z h => T G d bc bs mX13_thing 15 l z h Q)) l z h) : T G d bc bs mX13_thing 10 l z h Q := by
  exact R_if_ne dX13_thing_10 (by decide) (fun _ _ _ k => k) (fun _ _ _ k => k) k
theorem bX13_thing_13 {G : Gt} {d bc bs : Nat} {Q : QT} {l : Ls} {z : List Value} {h : Hp} (k : (tPush (.int (-1)) (tRetI Q)) l z h) : T G d bc bs mX13_thing 13 l z h Q := by
  refine R_iconst dX13_thing_13 (by decide) (fun l z h k => ?_) k
  exact R_iret dX13_thing_14 rfl k
theorem bX13_thing_15 {G : Gt} {d bc bs : Nat} {Q : QT} {l : Ls} {z : List Value} {h : Hp} (k : (tPush (.int 0) (tIst 3 (tIld 2 (tSw 0 [44, 53, 63] 95 (fun t l z h => T G d bc bs mX13_thing t l z h Q))))) l z h) : T G d bc bs mX13_thing 15 l z h Q := by
  refine R_iconst dX13_thing_15 (by decide) (fun l z h k => ?_) k
  refine R_istore_n dX13_thing_16 rfl (by decide) (fun l z h k => ?_) k
  refine R_iload_n dX13_thing_17 rfl (fun l z h k => ?_) k
  exact R_table dX13_thing_18 (by decide) (by decide) (by decide) (by decide) (by decide) (fun _ _ _ _ k => k) k
theorem bX13_thing_44 {G : Gt} {d bc bs : Nat} {Q : QT} {l : Ls} {z : List Value} {h : Hp} (k : (tAld 0 (tGetf 11 14 (tPush (.int 2) (tIld 1 (tB (fun x y => x + y) (tXald 0 (tRetI Q))))))) l z h) : T G d bc bs mX13_thing 44 l z h Q := by
  refine R_aload_n dX13_thing_44 rfl (fun l z h k => ?_) k
  refine R_getf (ci := 11) (f := 14) (C := RX13) (N := 49) (Tt := TX13) dX13_thing_45 rfl i_X13 (by decide) w_1481 (fun l z h k => ?_) k
  refine R_iconst dX13_thing_48 (by decide) (fun l z h k => ?_) k
  refine R_iload_n dX13_thing_49 rfl (fun l z h k => ?_) k
  refine R_iadd dX13_thing_50 (fun l z h k => ?_) k
  refine R_iaload dX13_thing_51 (fun l z h k => ?_) k
  exact R_iret dX13_thing_52 rfl k
theorem bX13_thing_53 {G : Gt} {d bc bs : Nat} {Q : QT} {l : Ls} {z : List Value} {h : Hp} (k : (tAld 0 (tGetf 11 14 (tPush (.int 8) (tIld 1 (tB (fun x y => x + y) (tXald 0 (tRetI Q))))))) l z h) : T G d bc bs mX13_thing 53 l z h Q := by
  refine R_aload_n dX13_thing_53 rfl (fun l z h k => ?_) k
  refine R_getf (ci := 11) (f := 14) (C := RX13) (N := 49) (Tt := TX13) dX13_thing_54 rfl i_X13 (by decide) w_1481 (fun l z h k => ?_) k
  refine R_bipush dX13_thing_57 (by decide) (fun l z h k => ?_) k
  refine R_iload_n dX13_thing_59 rfl (fun l z h k => ?_) k
  refine R_iadd dX13_thing_60 (fun l z h k => ?_) k
  refine R_iaload dX13_thing_61 (fun l z h k => ?_) k
  exact R_iret dX13_thing_62 rfl k
theorem bX13_thing_63 {G : Gt} {d bc bs : Nat} {Q : QT} {l : Ls} {z : List Value} {h : Hp} (k : (tPush (.int 0) (tIst 4 ((fun l z h => T G d bc bs mX13_thing 66 l z h Q)))) l z h) : T G d bc bs mX13_thing 63 l z h Q := by
  refine R_iconst dX13_thing_63 (by decide) (fun l z h k => ?_) k
  refine R_istore dX13_thing_64 (by decide) (fun l z h k => ?_) k
  exact k
theorem bX13_thing_66 {G : Gt} {d bc bs : Nat} {Q : QT} {l : Ls} {z : List Value} {h : Hp} (k : (tIld 4 (tAld 0 (tGetf 11 14 (tPush (.int 1) (tXald 0 (tIf2 (fun x y => y ≤ x) (fun l z h => T G d bc bs mX13_thing 93 l z h Q) (fun l z h => T G d bc bs mX13_thing 77 l z h Q))))))) l z h) : T G d bc bs mX13_thing 66 l z h Q := by
  refine R_iload dX13_thing_66 (fun l z h k => ?_) k
  refine R_aload_n dX13_thing_68 rfl (fun l z h k => ?_) k
  refine R_getf (ci := 11) (f := 14) (C := RX13) (N := 49) (Tt := TX13) dX13_thing_69 rfl i_X13 (by decide) w_1481 (fun l z h k => ?_) k
  refine R_iconst dX13_thing_72 (by decide) (fun l z h k => ?_) k
  refine R_iaload dX13_thing_73 (fun l z h k => ?_) k
  exact R_icmp_ge dX13_thing_74 (by decide) (fun _ _ _ k => k) (fun _ _ _ k => k) k
theorem bX13_thing_77 {G : Gt} {d bc bs : Nat} {Q : QT} {l : Ls} {z : List Value} {h : Hp} (k : (tIld 3 (tAld 0 (tIld 4 (tIld 1 (tCV2 G d 0 0 11 mX13_haveOf (fun l z h => T G d bc bs mX13_thing 85 l z h Q)))))) l z h) : T G d bc bs mX13_thing 77 l z h Q := by
  refine R_iload_n dX13_thing_77 rfl (fun l z h k => ?_) k
  refine R_aload_n dX13_thing_78 rfl (fun l z h k => ?_) k
  refine R_iload dX13_thing_79 (fun l z h k => ?_) k
  refine R_iload_n dX13_thing_81 rfl (fun l z h k => ?_) k
  exact R_cv2 (M := mX13_thing) (pc := 82) (bc := bc) (bs := bs) (cb := 0) (cs := 0) (M' := mX13_haveOf) dX13_thing_82 rfl (by decide) w_1779 w_144 w_1776 w_1778 w_73 (by decide +kernel) (fun _ _ _ k => k) k
theorem bX13_thing_85 {G : Gt} {d bc bs : Nat} {Q : QT} {l : Ls} {z : List Value} {h : Hp} (k : (tB (fun x y => x + y) (tIst 3 (tInc 4 1 ((fun l z h => T G d bc bs mX13_thing 66 l z h Q))))) l z h) : T G d bc bs mX13_thing 85 l z h Q := by
  refine R_iadd dX13_thing_85 (fun l z h k => ?_) k
  refine R_istore_n dX13_thing_86 rfl (by decide) (fun l z h k => ?_) k
  refine R_iinc dX13_thing_87 (by decide) (by decide) (fun l z h k => ?_) k
  exact R_goto dX13_thing_90 (by decide) (fun _ _ _ k => k) k
theorem bX13_thing_93 {G : Gt} {d bc bs : Nat} {Q : QT} {l : Ls} {z : List Value} {h : Hp} (k : (tIld 3 (tRetI Q)) l z h) : T G d bc bs mX13_thing 93 l z h Q := by
  refine R_iload_n dX13_thing_93 rfl (fun l z h k => ?_) k
  exact R_iret dX13_thing_94 rfl k
theorem bX13_thing_95 {G : Gt} {d bc bs : Nat} {Q : QT} {l : Ls} {z : List Value} {h : Hp} (k : (tPush (.int (-1)) (tRetI Q)) l z h) : T G d bc bs mX13_thing 95 l z h Q := by
  refine R_iconst dX13_thing_95 (by decide) (fun l z h k => ?_) k
  exact R_iret dX13_thing_96 rfl k
theorem dX13_asks_0 : decode cX13_asks 0 = .ok (.aload_n 0, 1) := by decide +kernel
theorem dX13_asks_1 : decode cX13_asks 1 = .ok (.iconst 0, 1) := by decide +kernel
theorem dX13_asks_2 : decode cX13_asks 2 = .ok (.putfield 85, 3) := by decide +kernel
theorem dX13_asks_5 : decode cX13_asks 5 = .ok (.iload_n 1, 1) := by decide +kernel
theorem dX13_asks_6 : decode cX13_asks 6 = .ok (.iconst 0, 1) := by decide +kernel
theorem dX13_asks_7 : decode cX13_asks 7 = .ok (.iconst 1, 1) := by decide +kernel
theorem dX13_asks_8 : decode cX13_asks 8 = .ok (.invokestatic 152, 3) := by decide +kernel
theorem dX13_asks_11 : decode cX13_asks 11 = .ok (.ifCond .eq 20, 3) := by decide +kernel
theorem dX13_asks_14 : decode cX13_asks 14 = .ok (.aload_n 0, 1) := by decide +kernel
theorem dX13_asks_15 : decode cX13_asks 15 = .ok (.iload_n 2, 1) := by decide +kernel
theorem dX13_asks_16 : decode cX13_asks 16 = .ok (.invokevirtual 265, 3) := by decide +kernel
theorem dX13_asks_19 : decode cX13_asks 19 = .ok (.ifCond .eq 12, 3) := by decide +kernel
theorem dX13_asks_22 : decode cX13_asks 22 = .ok (.aload_n 0, 1) := by decide +kernel
theorem dX13_asks_23 : decode cX13_asks 23 = .ok (.iload_n 1, 1) := by decide +kernel
theorem dX13_asks_24 : decode cX13_asks 24 = .ok (.iload_n 2, 1) := by decide +kernel
theorem dX13_asks_25 : decode cX13_asks 25 = .ok (.invokevirtual 244, 3) := by decide +kernel
theorem dX13_asks_28 : decode cX13_asks 28 = .ok (.goto 4, 3) := by decide +kernel
theorem dX13_asks_31 : decode cX13_asks 31 = .ok (.iconst (-1), 1) := by decide +kernel
theorem dX13_asks_32 : decode cX13_asks 32 = .ok (.ireturn, 1) := by decide +kernel
theorem bX13_asks_0 {G : Gt} {d bc bs : Nat} {Q : QT} {l : Ls} {z : List Value} {h : Hp} (k : (tAld 0 (tPush (.int 0) (tPutf isI 11 0 (tIld 1 (tPush (.int 0) (tPush (.int 1) (tCS3 G d 0 0 mX13_isIn (fun l z h => T G d bc bs mX13_asks 11 l z h Q)))))))) l z h) : T G d bc bs mX13_asks 0 l z h Q := by
  refine R_aload_n dX13_asks_0 rfl (fun l z h k => ?_) k
  refine R_iconst dX13_asks_1 (by decide) (fun l z h k => ?_) k
  refine R_putf (ci := 11) (f := 0) (C := RX13) (N := 49) (Tt := TX13) tyX13 tyX13_ok nmX13 dX13_asks_2 rfl i_X13 (by decide) w_1467 rfl (tyX13_ok 0 (by decide)) p_int (fun l z h k => ?_) k
  refine R_iload_n dX13_asks_5 rfl (fun l z h k => ?_) k
  refine R_iconst dX13_asks_6 (by decide) (fun l z h k => ?_) k
  refine R_iconst dX13_asks_7 (by decide) (fun l z h k => ?_) k
  exact R_cs3 (M := mX13_asks) (pc := 8) (bc := bc) (bs := bs) (cb := 0) (cs := 0) (M' := mX13_isIn) dX13_asks_8 (by decide) w_1711 w_144 w_1709 w_1710 (by decide +kernel) (fun _ _ _ k => k) k
theorem bX13_asks_11 {G : Gt} {d bc bs : Nat} {Q : QT} {l : Ls} {z : List Value} {h : Hp} (k : (tIf (fun x => x = 0) (fun l z h => T G d bc bs mX13_asks 31 l z h Q) (fun l z h => T G d bc bs mX13_asks 14 l z h Q)) l z h) : T G d bc bs mX13_asks 11 l z h Q := by
  exact R_if_eq dX13_asks_11 (by decide) (fun _ _ _ k => k) (fun _ _ _ k => k) k
theorem bX13_asks_14 {G : Gt} {d bc bs : Nat} {Q : QT} {l : Ls} {z : List Value} {h : Hp} (k : (tAld 0 (tIld 2 (tCV1 G d 0 0 11 mX13_isThing (fun l z h => T G d bc bs mX13_asks 19 l z h Q)))) l z h) : T G d bc bs mX13_asks 14 l z h Q := by
  refine R_aload_n dX13_asks_14 rfl (fun l z h k => ?_) k
  refine R_iload_n dX13_asks_15 rfl (fun l z h k => ?_) k
  exact R_cv1 (M := mX13_asks) (pc := 16) (bc := bc) (bs := bs) (cb := 0) (cs := 0) (M' := mX13_isThing) dX13_asks_16 rfl (by decide) w_1787 w_144 w_1784 w_1786 w_74 (by decide +kernel) (fun _ _ _ k => k) k
theorem bX13_asks_19 {G : Gt} {d bc bs : Nat} {Q : QT} {l : Ls} {z : List Value} {h : Hp} (k : (tIf (fun x => x = 0) (fun l z h => T G d bc bs mX13_asks 31 l z h Q) (fun l z h => T G d bc bs mX13_asks 22 l z h Q)) l z h) : T G d bc bs mX13_asks 19 l z h Q := by
  exact R_if_eq dX13_asks_19 (by decide) (fun _ _ _ k => k) (fun _ _ _ k => k) k
theorem bX13_asks_22 {G : Gt} {d bc bs : Nat} {Q : QT} {l : Ls} {z : List Value} {h : Hp} (k : (tAld 0 (tIld 1 (tIld 2 (tCV2 G d 0 0 11 mX13_askOf (fun l z h => T G d bc bs mX13_asks 28 l z h Q))))) l z h) : T G d bc bs mX13_asks 22 l z h Q := by
  refine R_aload_n dX13_asks_22 rfl (fun l z h k => ?_) k
  refine R_iload_n dX13_asks_23 rfl (fun l z h k => ?_) k
  refine R_iload_n dX13_asks_24 rfl (fun l z h k => ?_) k
  exact R_cv2 (M := mX13_asks) (pc := 25) (bc := bc) (bs := bs) (cb := 0) (cs := 0) (M' := mX13_askOf) dX13_asks_25 rfl (by decide) w_1799 w_144 w_1796 w_1798 w_75 (by decide +kernel) (fun _ _ _ k => k) k
theorem bX13_asks_28 {G : Gt} {d bc bs : Nat} {Q : QT} {l : Ls} {z : List Value} {h : Hp} (k : (fun l z h => T G d bc bs mX13_asks 32 l z h Q) l z h) : T G d bc bs mX13_asks 28 l z h Q := by
  exact R_goto dX13_asks_28 (by decide) (fun _ _ _ k => k) k
theorem bX13_asks_31 {G : Gt} {d bc bs : Nat} {Q : QT} {l : Ls} {z : List Value} {h : Hp} (k : (tPush (.int (-1)) ((fun l z h => T G d bc bs mX13_asks 32 l z h Q))) l z h) : T G d bc bs mX13_asks 31 l z h Q := by
  refine R_iconst dX13_asks_31 (by decide) (fun l z h k => ?_) k
  exact k
theorem bX13_asks_32 {G : Gt} {d bc bs : Nat} {Q : QT} {l : Ls} {z : List Value} {h : Hp} (k : (tRetI Q) l z h) : T G d bc bs mX13_asks 32 l z h Q := by
  exact R_iret dX13_asks_32 rfl k
theorem dX13_now_0 : decode cX13_now 0 = .ok (.aload_n 0, 1) := by decide +kernel
theorem dX13_now_1 : decode cX13_now 1 = .ok (.iconst 0, 1) := by decide +kernel
theorem dX13_now_2 : decode cX13_now 2 = .ok (.putfield 85, 3) := by decide +kernel
theorem dX13_now_5 : decode cX13_now 5 = .ok (.iconst 0, 1) := by decide +kernel
theorem dX13_now_6 : decode cX13_now 6 = .ok (.istore_n 2, 1) := by decide +kernel
theorem dX13_now_7 : decode cX13_now 7 = .ok (.iload_n 1, 1) := by decide +kernel
theorem dX13_now_8 : decode cX13_now 8 = .ok (.tableswitch 121 0 6 #[44, 52, 52, 52, 60, 65, 93], 44) := by decide +kernel
theorem dX13_now_52 : decode cX13_now 52 = .ok (.aload_n 0, 1) := by decide +kernel
theorem dX13_now_53 : decode cX13_now 53 = .ok (.getfield 13, 3) := by decide +kernel
theorem dX13_now_56 : decode cX13_now 56 = .ok (.bipush 98, 2) := by decide +kernel
theorem dX13_now_58 : decode cX13_now 58 = .ok (.iaload, 1) := by decide +kernel
theorem dX13_now_59 : decode cX13_now 59 = .ok (.ireturn, 1) := by decide +kernel
theorem dX13_now_60 : decode cX13_now 60 = .ok (.aload_n 0, 1) := by decide +kernel
theorem dX13_now_61 : decode cX13_now 61 = .ok (.iload_n 1, 1) := by decide +kernel
theorem dX13_now_62 : decode cX13_now 62 = .ok (.iconst 1, 1) := by decide +kernel
theorem dX13_now_63 : decode cX13_now 63 = .ok (.isub, 1) := by decide +kernel
theorem dX13_now_64 : decode cX13_now 64 = .ok (.invokevirtual 268, 3) := by decide +kernel
theorem dX13_now_67 : decode cX13_now 67 = .ok (.ireturn, 1) := by decide +kernel
theorem dX13_now_68 : decode cX13_now 68 = .ok (.aload_n 0, 1) := by decide +kernel
theorem dX13_now_69 : decode cX13_now 69 = .ok (.invokevirtual 271, 3) := by decide +kernel
theorem dX13_now_72 : decode cX13_now 72 = .ok (.ireturn, 1) := by decide +kernel
theorem dX13_now_73 : decode cX13_now 73 = .ok (.iconst 0, 1) := by decide +kernel
theorem dX13_now_74 : decode cX13_now 74 = .ok (.istore_n 3, 1) := by decide +kernel
theorem dX13_now_75 : decode cX13_now 75 = .ok (.iload_n 3, 1) := by decide +kernel
theorem dX13_now_76 : decode cX13_now 76 = .ok (.bipush 8, 2) := by decide +kernel
theorem dX13_now_78 : decode cX13_now 78 = .ok (.if_icmp .ge 21, 3) := by decide +kernel
theorem dX13_now_81 : decode cX13_now 81 = .ok (.iload_n 2, 1) := by decide +kernel
theorem dX13_now_82 : decode cX13_now 82 = .ok (.aload_n 0, 1) := by decide +kernel
theorem dX13_now_83 : decode cX13_now 83 = .ok (.getfield 13, 3) := by decide +kernel
theorem dX13_now_86 : decode cX13_now 86 = .ok (.bipush 115, 2) := by decide +kernel
theorem dX13_now_88 : decode cX13_now 88 = .ok (.iload_n 3, 1) := by decide +kernel
theorem dX13_now_89 : decode cX13_now 89 = .ok (.iadd, 1) := by decide +kernel
theorem dX13_now_90 : decode cX13_now 90 = .ok (.iaload, 1) := by decide +kernel
theorem dX13_now_91 : decode cX13_now 91 = .ok (.iadd, 1) := by decide +kernel
theorem dX13_now_92 : decode cX13_now 92 = .ok (.istore_n 2, 1) := by decide +kernel
theorem dX13_now_93 : decode cX13_now 93 = .ok (.iinc 3 1, 3) := by decide +kernel
theorem dX13_now_96 : decode cX13_now 96 = .ok (.goto (-21), 3) := by decide +kernel
theorem dX13_now_99 : decode cX13_now 99 = .ok (.iload_n 2, 1) := by decide +kernel
theorem dX13_now_100 : decode cX13_now 100 = .ok (.ireturn, 1) := by decide +kernel
theorem dX13_now_101 : decode cX13_now 101 = .ok (.iconst 0, 1) := by decide +kernel
theorem dX13_now_102 : decode cX13_now 102 = .ok (.istore_n 3, 1) := by decide +kernel
theorem dX13_now_103 : decode cX13_now 103 = .ok (.iload_n 3, 1) := by decide +kernel
theorem dX13_now_104 : decode cX13_now 104 = .ok (.aload_n 0, 1) := by decide +kernel
theorem dX13_now_105 : decode cX13_now 105 = .ok (.getfield 13, 3) := by decide +kernel
theorem dX13_now_108 : decode cX13_now 108 = .ok (.iconst 1, 1) := by decide +kernel
theorem dX13_now_109 : decode cX13_now 109 = .ok (.iaload, 1) := by decide +kernel
theorem dX13_now_110 : decode cX13_now 110 = .ok (.if_icmp .ge 17, 3) := by decide +kernel
theorem dX13_now_113 : decode cX13_now 113 = .ok (.iload_n 2, 1) := by decide +kernel
theorem dX13_now_114 : decode cX13_now 114 = .ok (.aload_n 0, 1) := by decide +kernel
theorem dX13_now_115 : decode cX13_now 115 = .ok (.iload_n 3, 1) := by decide +kernel
theorem dX13_now_116 : decode cX13_now 116 = .ok (.invokevirtual 262, 3) := by decide +kernel
theorem dX13_now_119 : decode cX13_now 119 = .ok (.iadd, 1) := by decide +kernel
theorem dX13_now_120 : decode cX13_now 120 = .ok (.istore_n 2, 1) := by decide +kernel
theorem dX13_now_121 : decode cX13_now 121 = .ok (.iinc 3 1, 3) := by decide +kernel
theorem dX13_now_124 : decode cX13_now 124 = .ok (.goto (-21), 3) := by decide +kernel
theorem dX13_now_127 : decode cX13_now 127 = .ok (.iload_n 2, 1) := by decide +kernel
theorem dX13_now_128 : decode cX13_now 128 = .ok (.ireturn, 1) := by decide +kernel
theorem dX13_now_129 : decode cX13_now 129 = .ok (.iconst (-1), 1) := by decide +kernel
theorem dX13_now_130 : decode cX13_now 130 = .ok (.ireturn, 1) := by decide +kernel
theorem bX13_now_0 {G : Gt} {d bc bs : Nat} {Q : QT} {l : Ls} {z : List Value} {h : Hp} (k : (tAld 0 (tPush (.int 0) (tPutf isI 11 0 (tPush (.int 0) (tIst 2 (tIld 1 (tSw 0 [52, 60, 60, 60, 68, 73, 101] 129 (fun t l z h => T G d bc bs mX13_now t l z h Q)))))))) l z h) : T G d bc bs mX13_now 0 l z h Q := by
  refine R_aload_n dX13_now_0 rfl (fun l z h k => ?_) k
  refine R_iconst dX13_now_1 (by decide) (fun l z h k => ?_) k
  refine R_putf (ci := 11) (f := 0) (C := RX13) (N := 49) (Tt := TX13) tyX13 tyX13_ok nmX13 dX13_now_2 rfl i_X13 (by decide) w_1467 rfl (tyX13_ok 0 (by decide)) p_int (fun l z h k => ?_) k
  refine R_iconst dX13_now_5 (by decide) (fun l z h k => ?_) k
  refine R_istore_n dX13_now_6 rfl (by decide) (fun l z h k => ?_) k
  refine R_iload_n dX13_now_7 rfl (fun l z h k => ?_) k
  exact R_table dX13_now_8 (by decide) (by decide) (by decide) (by decide) (by decide) (fun _ _ _ _ k => k) k
theorem bX13_now_52 {G : Gt} {d bc bs : Nat} {Q : QT} {l : Ls} {z : List Value} {h : Hp} (k : (tAld 0 (tGetf 11 14 (tPush (.int 98) (tXald 0 (tRetI Q))))) l z h) : T G d bc bs mX13_now 52 l z h Q := by
  refine R_aload_n dX13_now_52 rfl (fun l z h k => ?_) k
  refine R_getf (ci := 11) (f := 14) (C := RX13) (N := 49) (Tt := TX13) dX13_now_53 rfl i_X13 (by decide) w_1481 (fun l z h k => ?_) k
  refine R_bipush dX13_now_56 (by decide) (fun l z h k => ?_) k
  refine R_iaload dX13_now_58 (fun l z h k => ?_) k
  exact R_iret dX13_now_59 rfl k
theorem bX13_now_60 {G : Gt} {d bc bs : Nat} {Q : QT} {l : Ls} {z : List Value} {h : Hp} (k : (tAld 0 (tIld 1 (tPush (.int 1) (tB (fun x y => x - y) (tCV1 G d 0 0 11 mX13_those (fun l z h => T G d bc bs mX13_now 67 l z h Q)))))) l z h) : T G d bc bs mX13_now 60 l z h Q := by
  refine R_aload_n dX13_now_60 rfl (fun l z h k => ?_) k
  refine R_iload_n dX13_now_61 rfl (fun l z h k => ?_) k
  refine R_iconst dX13_now_62 (by decide) (fun l z h k => ?_) k
  refine R_isub dX13_now_63 (fun l z h k => ?_) k
  exact R_cv1 (M := mX13_now) (pc := 64) (bc := bc) (bs := bs) (cb := 0) (cs := 0) (M' := mX13_those) dX13_now_64 rfl (by decide) w_1807 w_144 w_1804 w_1806 w_76 (by decide +kernel) (fun _ _ _ k => k) k
theorem bX13_now_67 {G : Gt} {d bc bs : Nat} {Q : QT} {l : Ls} {z : List Value} {h : Hp} (k : (tRetI Q) l z h) : T G d bc bs mX13_now 67 l z h Q := by
  exact R_iret dX13_now_67 rfl k
theorem bX13_now_68 {G : Gt} {d bc bs : Nat} {Q : QT} {l : Ls} {z : List Value} {h : Hp} (k : (tAld 0 (tCV0 G d 0 0 11 mX13_payers (fun l z h => T G d bc bs mX13_now 72 l z h Q))) l z h) : T G d bc bs mX13_now 68 l z h Q := by
  refine R_aload_n dX13_now_68 rfl (fun l z h k => ?_) k
  exact R_cv0 (M := mX13_now) (pc := 69) (bc := bc) (bs := bs) (cb := 0) (cs := 0) (M' := mX13_payers) dX13_now_69 rfl (by decide) w_1811 w_144 w_1808 w_1810 w_77 (by decide +kernel) (fun _ _ _ k => k) k
theorem bX13_now_72 {G : Gt} {d bc bs : Nat} {Q : QT} {l : Ls} {z : List Value} {h : Hp} (k : (tRetI Q) l z h) : T G d bc bs mX13_now 72 l z h Q := by
  exact R_iret dX13_now_72 rfl k
theorem bX13_now_73 {G : Gt} {d bc bs : Nat} {Q : QT} {l : Ls} {z : List Value} {h : Hp} (k : (tPush (.int 0) (tIst 3 ((fun l z h => T G d bc bs mX13_now 75 l z h Q)))) l z h) : T G d bc bs mX13_now 73 l z h Q := by
  refine R_iconst dX13_now_73 (by decide) (fun l z h k => ?_) k
  refine R_istore_n dX13_now_74 rfl (by decide) (fun l z h k => ?_) k
  exact k
theorem bX13_now_75 {G : Gt} {d bc bs : Nat} {Q : QT} {l : Ls} {z : List Value} {h : Hp} (k : (tIld 3 (tPush (.int 8) (tIf2 (fun x y => y ≤ x) (fun l z h => T G d bc bs mX13_now 99 l z h Q) (fun l z h => T G d bc bs mX13_now 81 l z h Q)))) l z h) : T G d bc bs mX13_now 75 l z h Q := by
  refine R_iload_n dX13_now_75 rfl (fun l z h k => ?_) k
  refine R_bipush dX13_now_76 (by decide) (fun l z h k => ?_) k
  exact R_icmp_ge dX13_now_78 (by decide) (fun _ _ _ k => k) (fun _ _ _ k => k) k
theorem bX13_now_81 {G : Gt} {d bc bs : Nat} {Q : QT} {l : Ls} {z : List Value} {h : Hp} (k : (tIld 2 (tAld 0 (tGetf 11 14 (tPush (.int 115) (tIld 3 (tB (fun x y => x + y) (tXald 0 (tB (fun x y => x + y) (tIst 2 (tInc 3 1 ((fun l z h => T G d bc bs mX13_now 75 l z h Q)))))))))))) l z h) : T G d bc bs mX13_now 81 l z h Q := by
  refine R_iload_n dX13_now_81 rfl (fun l z h k => ?_) k
  refine R_aload_n dX13_now_82 rfl (fun l z h k => ?_) k
  refine R_getf (ci := 11) (f := 14) (C := RX13) (N := 49) (Tt := TX13) dX13_now_83 rfl i_X13 (by decide) w_1481 (fun l z h k => ?_) k
  refine R_bipush dX13_now_86 (by decide) (fun l z h k => ?_) k
  refine R_iload_n dX13_now_88 rfl (fun l z h k => ?_) k
  refine R_iadd dX13_now_89 (fun l z h k => ?_) k
  refine R_iaload dX13_now_90 (fun l z h k => ?_) k
  refine R_iadd dX13_now_91 (fun l z h k => ?_) k
  refine R_istore_n dX13_now_92 rfl (by decide) (fun l z h k => ?_) k
  refine R_iinc dX13_now_93 (by decide) (by decide) (fun l z h k => ?_) k
  exact R_goto dX13_now_96 (by decide) (fun _ _ _ k => k) k
theorem bX13_now_99 {G : Gt} {d bc bs : Nat} {Q : QT} {l : Ls} {z : List Value} {h : Hp} (k : (tIld 2 (tRetI Q)) l z h) : T G d bc bs mX13_now 99 l z h Q := by
  refine R_iload_n dX13_now_99 rfl (fun l z h k => ?_) k
  exact R_iret dX13_now_100 rfl k
theorem bX13_now_101 {G : Gt} {d bc bs : Nat} {Q : QT} {l : Ls} {z : List Value} {h : Hp} (k : (tPush (.int 0) (tIst 3 ((fun l z h => T G d bc bs mX13_now 103 l z h Q)))) l z h) : T G d bc bs mX13_now 101 l z h Q := by
  refine R_iconst dX13_now_101 (by decide) (fun l z h k => ?_) k
  refine R_istore_n dX13_now_102 rfl (by decide) (fun l z h k => ?_) k
  exact k
theorem bX13_now_103 {G : Gt} {d bc bs : Nat} {Q : QT} {l : Ls} {z : List Value} {h : Hp} (k : (tIld 3 (tAld 0 (tGetf 11 14 (tPush (.int 1) (tXald 0 (tIf2 (fun x y => y ≤ x) (fun l z h => T G d bc bs mX13_now 127 l z h Q) (fun l z h => T G d bc bs mX13_now 113 l z h Q))))))) l z h) : T G d bc bs mX13_now 103 l z h Q := by
  refine R_iload_n dX13_now_103 rfl (fun l z h k => ?_) k
  refine R_aload_n dX13_now_104 rfl (fun l z h k => ?_) k
  refine R_getf (ci := 11) (f := 14) (C := RX13) (N := 49) (Tt := TX13) dX13_now_105 rfl i_X13 (by decide) w_1481 (fun l z h k => ?_) k
  refine R_iconst dX13_now_108 (by decide) (fun l z h k => ?_) k
  refine R_iaload dX13_now_109 (fun l z h k => ?_) k
  exact R_icmp_ge dX13_now_110 (by decide) (fun _ _ _ k => k) (fun _ _ _ k => k) k
theorem bX13_now_113 {G : Gt} {d bc bs : Nat} {Q : QT} {l : Ls} {z : List Value} {h : Hp} (k : (tIld 2 (tAld 0 (tIld 3 (tCV1 G d 0 0 11 mX13_allOf (fun l z h => T G d bc bs mX13_now 119 l z h Q))))) l z h) : T G d bc bs mX13_now 113 l z h Q := by
  refine R_iload_n dX13_now_113 rfl (fun l z h k => ?_) k
  refine R_aload_n dX13_now_114 rfl (fun l z h k => ?_) k
  refine R_iload_n dX13_now_115 rfl (fun l z h k => ?_) k
  exact R_cv1 (M := mX13_now) (pc := 116) (bc := bc) (bs := bs) (cb := 0) (cs := 0) (M' := mX13_allOf) dX13_now_116 rfl (by decide) w_1775 w_144 w_1772 w_1774 w_72 (by decide +kernel) (fun _ _ _ k => k) k
theorem bX13_now_119 {G : Gt} {d bc bs : Nat} {Q : QT} {l : Ls} {z : List Value} {h : Hp} (k : (tB (fun x y => x + y) (tIst 2 (tInc 3 1 ((fun l z h => T G d bc bs mX13_now 103 l z h Q))))) l z h) : T G d bc bs mX13_now 119 l z h Q := by
  refine R_iadd dX13_now_119 (fun l z h k => ?_) k
  refine R_istore_n dX13_now_120 rfl (by decide) (fun l z h k => ?_) k
  refine R_iinc dX13_now_121 (by decide) (by decide) (fun l z h k => ?_) k
  exact R_goto dX13_now_124 (by decide) (fun _ _ _ k => k) k
theorem bX13_now_127 {G : Gt} {d bc bs : Nat} {Q : QT} {l : Ls} {z : List Value} {h : Hp} (k : (tIld 2 (tRetI Q)) l z h) : T G d bc bs mX13_now 127 l z h Q := by
  refine R_iload_n dX13_now_127 rfl (fun l z h k => ?_) k
  exact R_iret dX13_now_128 rfl k
theorem bX13_now_129 {G : Gt} {d bc bs : Nat} {Q : QT} {l : Ls} {z : List Value} {h : Hp} (k : (tPush (.int (-1)) (tRetI Q)) l z h) : T G d bc bs mX13_now 129 l z h Q := by
  refine R_iconst dX13_now_129 (by decide) (fun l z h k => ?_) k
  exact R_iret dX13_now_130 rfl k
theorem dX13_snap_0 : decode cX13_snap 0 = .ok (.aload_n 0, 1) := by decide +kernel
theorem dX13_snap_1 : decode cX13_snap 1 = .ok (.getfield 237, 3) := by decide +kernel
theorem dX13_snap_4 : decode cX13_snap 4 = .ok (.bipush 8, 2) := by decide +kernel
theorem dX13_snap_6 : decode cX13_snap 6 = .ok (.if_icmp .ne 43, 3) := by decide +kernel
theorem dX13_snap_9 : decode cX13_snap 9 = .ok (.iconst 0, 1) := by decide +kernel
theorem dX13_snap_10 : decode cX13_snap 10 = .ok (.istore_n 1, 1) := by decide +kernel
theorem dX13_snap_11 : decode cX13_snap 11 = .ok (.iload_n 1, 1) := by decide +kernel
theorem dX13_snap_12 : decode cX13_snap 12 = .ok (.sipush 651, 3) := by decide +kernel
theorem dX13_snap_15 : decode cX13_snap 15 = .ok (.if_icmp .ge 24, 3) := by decide +kernel
theorem dX13_snap_18 : decode cX13_snap 18 = .ok (.aload_n 0, 1) := by decide +kernel
theorem dX13_snap_19 : decode cX13_snap 19 = .ok (.getfield 22, 3) := by decide +kernel
theorem dX13_snap_22 : decode cX13_snap 22 = .ok (.iload_n 1, 1) := by decide +kernel
theorem dX13_snap_23 : decode cX13_snap 23 = .ok (.aload_n 0, 1) := by decide +kernel
theorem dX13_snap_24 : decode cX13_snap 24 = .ok (.getfield 22, 3) := by decide +kernel
theorem dX13_snap_27 : decode cX13_snap 27 = .ok (.iload_n 1, 1) := by decide +kernel
theorem dX13_snap_28 : decode cX13_snap 28 = .ok (.bipush 93, 2) := by decide +kernel
theorem dX13_snap_30 : decode cX13_snap 30 = .ok (.iadd, 1) := by decide +kernel
theorem dX13_snap_31 : decode cX13_snap 31 = .ok (.iaload, 1) := by decide +kernel
theorem dX13_snap_32 : decode cX13_snap 32 = .ok (.iastore, 1) := by decide +kernel
theorem dX13_snap_33 : decode cX13_snap 33 = .ok (.iinc 1 1, 3) := by decide +kernel
theorem dX13_snap_36 : decode cX13_snap 36 = .ok (.goto (-25), 3) := by decide +kernel
theorem dX13_snap_39 : decode cX13_snap 39 = .ok (.aload_n 0, 1) := by decide +kernel
theorem dX13_snap_40 : decode cX13_snap 40 = .ok (.dup, 1) := by decide +kernel
theorem dX13_snap_41 : decode cX13_snap 41 = .ok (.getfield 237, 3) := by decide +kernel
theorem dX13_snap_44 : decode cX13_snap 44 = .ok (.iconst 1, 1) := by decide +kernel
theorem dX13_snap_45 : decode cX13_snap 45 = .ok (.isub, 1) := by decide +kernel
theorem dX13_snap_46 : decode cX13_snap 46 = .ok (.putfield 237, 3) := by decide +kernel
theorem dX13_snap_49 : decode cX13_snap 49 = .ok (.iconst 0, 1) := by decide +kernel
theorem dX13_snap_50 : decode cX13_snap 50 = .ok (.istore_n 1, 1) := by decide +kernel
theorem dX13_snap_51 : decode cX13_snap 51 = .ok (.iload_n 1, 1) := by decide +kernel
theorem dX13_snap_52 : decode cX13_snap 52 = .ok (.bipush 93, 2) := by decide +kernel
theorem dX13_snap_54 : decode cX13_snap 54 = .ok (.if_icmp .ge 32, 3) := by decide +kernel
theorem dX13_snap_57 : decode cX13_snap 57 = .ok (.aload_n 0, 1) := by decide +kernel
theorem dX13_snap_58 : decode cX13_snap 58 = .ok (.getfield 22, 3) := by decide +kernel
theorem dX13_snap_61 : decode cX13_snap 61 = .ok (.bipush 93, 2) := by decide +kernel
theorem dX13_snap_63 : decode cX13_snap 63 = .ok (.aload_n 0, 1) := by decide +kernel
theorem dX13_snap_64 : decode cX13_snap 64 = .ok (.getfield 237, 3) := by decide +kernel
theorem dX13_snap_67 : decode cX13_snap 67 = .ok (.imul, 1) := by decide +kernel
theorem dX13_snap_68 : decode cX13_snap 68 = .ok (.iload_n 1, 1) := by decide +kernel
theorem dX13_snap_69 : decode cX13_snap 69 = .ok (.iadd, 1) := by decide +kernel
theorem dX13_snap_70 : decode cX13_snap 70 = .ok (.aload_n 0, 1) := by decide +kernel
theorem dX13_snap_71 : decode cX13_snap 71 = .ok (.getfield 13, 3) := by decide +kernel
theorem dX13_snap_74 : decode cX13_snap 74 = .ok (.bipush 98, 2) := by decide +kernel
theorem dX13_snap_76 : decode cX13_snap 76 = .ok (.iload_n 1, 1) := by decide +kernel
theorem dX13_snap_77 : decode cX13_snap 77 = .ok (.iadd, 1) := by decide +kernel
theorem dX13_snap_78 : decode cX13_snap 78 = .ok (.iaload, 1) := by decide +kernel
theorem dX13_snap_79 : decode cX13_snap 79 = .ok (.iastore, 1) := by decide +kernel
theorem dX13_snap_80 : decode cX13_snap 80 = .ok (.iinc 1 1, 3) := by decide +kernel
theorem dX13_snap_83 : decode cX13_snap 83 = .ok (.goto (-32), 3) := by decide +kernel
theorem dX13_snap_86 : decode cX13_snap 86 = .ok (.aload_n 0, 1) := by decide +kernel
theorem dX13_snap_87 : decode cX13_snap 87 = .ok (.dup, 1) := by decide +kernel
theorem dX13_snap_88 : decode cX13_snap 88 = .ok (.getfield 237, 3) := by decide +kernel
theorem dX13_snap_91 : decode cX13_snap 91 = .ok (.iconst 1, 1) := by decide +kernel
theorem dX13_snap_92 : decode cX13_snap 92 = .ok (.iadd, 1) := by decide +kernel
theorem dX13_snap_93 : decode cX13_snap 93 = .ok (.putfield 237, 3) := by decide +kernel
theorem dX13_snap_96 : decode cX13_snap 96 = .ok (.return_, 1) := by decide +kernel
theorem bX13_snap_0 {G : Gt} {d bc bs : Nat} {Q : QT} {l : Ls} {z : List Value} {h : Hp} (k : (tAld 0 (tGetf 11 26 (tPush (.int 8) (tIf2 (fun x y => x = y) (fun l z h => T G d bc bs mX13_snap 9 l z h Q) (fun l z h => T G d bc bs mX13_snap 49 l z h Q))))) l z h) : T G d bc bs mX13_snap 0 l z h Q := by
  refine R_aload_n dX13_snap_0 rfl (fun l z h k => ?_) k
  refine R_getf (ci := 11) (f := 26) (C := RX13) (N := 49) (Tt := TX13) dX13_snap_1 rfl i_X13 (by decide) w_1493 (fun l z h k => ?_) k
  refine R_bipush dX13_snap_4 (by decide) (fun l z h k => ?_) k
  exact R_icmp_ne dX13_snap_6 (by decide) (fun _ _ _ k => k) (fun _ _ _ k => k) k
theorem bX13_snap_9 {G : Gt} {d bc bs : Nat} {Q : QT} {l : Ls} {z : List Value} {h : Hp} (k : (tPush (.int 0) (tIst 1 ((fun l z h => T G d bc bs mX13_snap 11 l z h Q)))) l z h) : T G d bc bs mX13_snap 9 l z h Q := by
  refine R_iconst dX13_snap_9 (by decide) (fun l z h k => ?_) k
  refine R_istore_n dX13_snap_10 rfl (by decide) (fun l z h k => ?_) k
  exact k
theorem bX13_snap_11 {G : Gt} {d bc bs : Nat} {Q : QT} {l : Ls} {z : List Value} {h : Hp} (k : (tIld 1 (tPush (.int 651) (tIf2 (fun x y => y ≤ x) (fun l z h => T G d bc bs mX13_snap 39 l z h Q) (fun l z h => T G d bc bs mX13_snap 18 l z h Q)))) l z h) : T G d bc bs mX13_snap 11 l z h Q := by
  refine R_iload_n dX13_snap_11 rfl (fun l z h k => ?_) k
  refine R_sipush dX13_snap_12 (by decide) (fun l z h k => ?_) k
  exact R_icmp_ge dX13_snap_15 (by decide) (fun _ _ _ k => k) (fun _ _ _ k => k) k
theorem bX13_snap_18 {G : Gt} {d bc bs : Nat} {Q : QT} {l : Ls} {z : List Value} {h : Hp} (k : (tAld 0 (tGetf 11 17 (tIld 1 (tAld 0 (tGetf 11 17 (tIld 1 (tPush (.int 93) (tB (fun x y => x + y) (tXald 0 (tXast 0 (tInc 1 1 ((fun l z h => T G d bc bs mX13_snap 11 l z h Q))))))))))))) l z h) : T G d bc bs mX13_snap 18 l z h Q := by
  refine R_aload_n dX13_snap_18 rfl (fun l z h k => ?_) k
  refine R_getf (ci := 11) (f := 17) (C := RX13) (N := 49) (Tt := TX13) dX13_snap_19 rfl i_X13 (by decide) w_1484 (fun l z h k => ?_) k
  refine R_iload_n dX13_snap_22 rfl (fun l z h k => ?_) k
  refine R_aload_n dX13_snap_23 rfl (fun l z h k => ?_) k
  refine R_getf (ci := 11) (f := 17) (C := RX13) (N := 49) (Tt := TX13) dX13_snap_24 rfl i_X13 (by decide) w_1484 (fun l z h k => ?_) k
  refine R_iload_n dX13_snap_27 rfl (fun l z h k => ?_) k
  refine R_bipush dX13_snap_28 (by decide) (fun l z h k => ?_) k
  refine R_iadd dX13_snap_30 (fun l z h k => ?_) k
  refine R_iaload dX13_snap_31 (fun l z h k => ?_) k
  refine R_iastore dX13_snap_32 (fun l z h k => ?_) k
  refine R_iinc dX13_snap_33 (by decide) (by decide) (fun l z h k => ?_) k
  exact R_goto dX13_snap_36 (by decide) (fun _ _ _ k => k) k
theorem bX13_snap_39 {G : Gt} {d bc bs : Nat} {Q : QT} {l : Ls} {z : List Value} {h : Hp} (k : (tAld 0 (tDup (tGetf 11 26 (tPush (.int 1) (tB (fun x y => x - y) (tPutf isI 11 26 ((fun l z h => T G d bc bs mX13_snap 49 l z h Q)))))))) l z h) : T G d bc bs mX13_snap 39 l z h Q := by
  refine R_aload_n dX13_snap_39 rfl (fun l z h k => ?_) k
  refine R_dup dX13_snap_40 (fun l z h k => ?_) k
  refine R_getf (ci := 11) (f := 26) (C := RX13) (N := 49) (Tt := TX13) dX13_snap_41 rfl i_X13 (by decide) w_1493 (fun l z h k => ?_) k
  refine R_iconst dX13_snap_44 (by decide) (fun l z h k => ?_) k
  refine R_isub dX13_snap_45 (fun l z h k => ?_) k
  refine R_putf (ci := 11) (f := 26) (C := RX13) (N := 49) (Tt := TX13) tyX13 tyX13_ok nmX13 dX13_snap_46 rfl i_X13 (by decide) w_1493 rfl (tyX13_ok 26 (by decide)) p_int (fun l z h k => ?_) k
  exact k
theorem bX13_snap_49 {G : Gt} {d bc bs : Nat} {Q : QT} {l : Ls} {z : List Value} {h : Hp} (k : (tPush (.int 0) (tIst 1 ((fun l z h => T G d bc bs mX13_snap 51 l z h Q)))) l z h) : T G d bc bs mX13_snap 49 l z h Q := by
  refine R_iconst dX13_snap_49 (by decide) (fun l z h k => ?_) k
  refine R_istore_n dX13_snap_50 rfl (by decide) (fun l z h k => ?_) k
  exact k
theorem bX13_snap_51 {G : Gt} {d bc bs : Nat} {Q : QT} {l : Ls} {z : List Value} {h : Hp} (k : (tIld 1 (tPush (.int 93) (tIf2 (fun x y => y ≤ x) (fun l z h => T G d bc bs mX13_snap 86 l z h Q) (fun l z h => T G d bc bs mX13_snap 57 l z h Q)))) l z h) : T G d bc bs mX13_snap 51 l z h Q := by
  refine R_iload_n dX13_snap_51 rfl (fun l z h k => ?_) k
  refine R_bipush dX13_snap_52 (by decide) (fun l z h k => ?_) k
  exact R_icmp_ge dX13_snap_54 (by decide) (fun _ _ _ k => k) (fun _ _ _ k => k) k
theorem bX13_snap_57 {G : Gt} {d bc bs : Nat} {Q : QT} {l : Ls} {z : List Value} {h : Hp} (k : (tAld 0 (tGetf 11 17 (tPush (.int 93) (tAld 0 (tGetf 11 26 (tB (fun x y => x * y) (tIld 1 (tB (fun x y => x + y) (tAld 0 (tGetf 11 14 (tPush (.int 98) (tIld 1 (tB (fun x y => x + y) (tXald 0 (tXast 0 (tInc 1 1 ((fun l z h => T G d bc bs mX13_snap 51 l z h Q)))))))))))))))))) l z h) : T G d bc bs mX13_snap 57 l z h Q := by
  refine R_aload_n dX13_snap_57 rfl (fun l z h k => ?_) k
  refine R_getf (ci := 11) (f := 17) (C := RX13) (N := 49) (Tt := TX13) dX13_snap_58 rfl i_X13 (by decide) w_1484 (fun l z h k => ?_) k
  refine R_bipush dX13_snap_61 (by decide) (fun l z h k => ?_) k
  refine R_aload_n dX13_snap_63 rfl (fun l z h k => ?_) k
  refine R_getf (ci := 11) (f := 26) (C := RX13) (N := 49) (Tt := TX13) dX13_snap_64 rfl i_X13 (by decide) w_1493 (fun l z h k => ?_) k
  refine R_imul dX13_snap_67 (fun l z h k => ?_) k
  refine R_iload_n dX13_snap_68 rfl (fun l z h k => ?_) k
  refine R_iadd dX13_snap_69 (fun l z h k => ?_) k
  refine R_aload_n dX13_snap_70 rfl (fun l z h k => ?_) k
  refine R_getf (ci := 11) (f := 14) (C := RX13) (N := 49) (Tt := TX13) dX13_snap_71 rfl i_X13 (by decide) w_1481 (fun l z h k => ?_) k
  refine R_bipush dX13_snap_74 (by decide) (fun l z h k => ?_) k
  refine R_iload_n dX13_snap_76 rfl (fun l z h k => ?_) k
  refine R_iadd dX13_snap_77 (fun l z h k => ?_) k
  refine R_iaload dX13_snap_78 (fun l z h k => ?_) k
  refine R_iastore dX13_snap_79 (fun l z h k => ?_) k
  refine R_iinc dX13_snap_80 (by decide) (by decide) (fun l z h k => ?_) k
  exact R_goto dX13_snap_83 (by decide) (fun _ _ _ k => k) k
theorem bX13_snap_86 {G : Gt} {d bc bs : Nat} {Q : QT} {l : Ls} {z : List Value} {h : Hp} (k : (tAld 0 (tDup (tGetf 11 26 (tPush (.int 1) (tB (fun x y => x + y) (tPutf isI 11 26 (tRetV Q))))))) l z h) : T G d bc bs mX13_snap 86 l z h Q := by
  refine R_aload_n dX13_snap_86 rfl (fun l z h k => ?_) k
  refine R_dup dX13_snap_87 (fun l z h k => ?_) k
  refine R_getf (ci := 11) (f := 26) (C := RX13) (N := 49) (Tt := TX13) dX13_snap_88 rfl i_X13 (by decide) w_1493 (fun l z h k => ?_) k
  refine R_iconst dX13_snap_91 (by decide) (fun l z h k => ?_) k
  refine R_iadd dX13_snap_92 (fun l z h k => ?_) k
  refine R_putf (ci := 11) (f := 26) (C := RX13) (N := 49) (Tt := TX13) tyX13 tyX13_ok nmX13 dX13_snap_93 rfl i_X13 (by decide) w_1493 rfl (tyX13_ok 26 (by decide)) p_int (fun l z h k => ?_) k
  exact R_vret dX13_snap_96 rfl k
theorem dX13_whyGo_0 : decode cX13_whyGo 0 = .ok (.aload_n 0, 1) := by decide +kernel
theorem dX13_whyGo_1 : decode cX13_whyGo 1 = .ok (.getfield 13, 3) := by decide +kernel
theorem dX13_whyGo_4 : decode cX13_whyGo 4 = .ok (.bipush 99, 2) := by decide +kernel
theorem dX13_whyGo_6 : decode cX13_whyGo 6 = .ok (.iload_n 1, 1) := by decide +kernel
theorem dX13_whyGo_7 : decode cX13_whyGo 7 = .ok (.iadd, 1) := by decide +kernel
theorem dX13_whyGo_8 : decode cX13_whyGo 8 = .ok (.iaload, 1) := by decide +kernel
theorem dX13_whyGo_9 : decode cX13_whyGo 9 = .ok (.iload_n 2, 1) := by decide +kernel
theorem dX13_whyGo_10 : decode cX13_whyGo 10 = .ok (.isub, 1) := by decide +kernel
theorem dX13_whyGo_11 : decode cX13_whyGo 11 = .ok (.invokestatic 274, 3) := by decide +kernel
theorem dX13_whyGo_14 : decode cX13_whyGo 14 = .ok (.iconst 1, 1) := by decide +kernel
theorem dX13_whyGo_15 : decode cX13_whyGo 15 = .ok (.if_icmp .eq 5, 3) := by decide +kernel
theorem dX13_whyGo_18 : decode cX13_whyGo 18 = .ok (.iconst 1, 1) := by decide +kernel
theorem dX13_whyGo_19 : decode cX13_whyGo 19 = .ok (.ireturn, 1) := by decide +kernel
theorem dX13_whyGo_20 : decode cX13_whyGo 20 = .ok (.iload_n 2, 1) := by decide +kernel
theorem dX13_whyGo_21 : decode cX13_whyGo 21 = .ok (.iconst 1, 1) := by decide +kernel
theorem dX13_whyGo_22 : decode cX13_whyGo 22 = .ok (.if_icmp .eq 18, 3) := by decide +kernel
theorem dX13_whyGo_25 : decode cX13_whyGo 25 = .ok (.aload_n 0, 1) := by decide +kernel
theorem dX13_whyGo_26 : decode cX13_whyGo 26 = .ok (.iload_n 1, 1) := by decide +kernel
theorem dX13_whyGo_27 : decode cX13_whyGo 27 = .ok (.iload_n 2, 1) := by decide +kernel
theorem dX13_whyGo_28 : decode cX13_whyGo 28 = .ok (.iconst 2, 1) := by decide +kernel
theorem dX13_whyGo_29 : decode cX13_whyGo 29 = .ok (.idiv, 1) := by decide +kernel
theorem dX13_whyGo_30 : decode cX13_whyGo 30 = .ok (.invokevirtual 250, 3) := by decide +kernel
theorem dX13_whyGo_33 : decode cX13_whyGo 33 = .ok (.ifCond .ne 7, 3) := by decide +kernel
theorem dX13_whyGo_36 : decode cX13_whyGo 36 = .ok (.iconst 2, 1) := by decide +kernel
theorem dX13_whyGo_37 : decode cX13_whyGo 37 = .ok (.goto 4, 3) := by decide +kernel
theorem dX13_whyGo_40 : decode cX13_whyGo 40 = .ok (.iconst 0, 1) := by decide +kernel
theorem dX13_whyGo_41 : decode cX13_whyGo 41 = .ok (.ireturn, 1) := by decide +kernel
theorem bX13_whyGo_0 {G : Gt} {d bc bs : Nat} {Q : QT} {l : Ls} {z : List Value} {h : Hp} (k : (tAld 0 (tGetf 11 14 (tPush (.int 99) (tIld 1 (tB (fun x y => x + y) (tXald 0 (tIld 2 (tB (fun x y => x - y) (tCS1 G d 0 0 mX13_size (fun l z h => T G d bc bs mX13_whyGo 14 l z h Q)))))))))) l z h) : T G d bc bs mX13_whyGo 0 l z h Q := by
  refine R_aload_n dX13_whyGo_0 rfl (fun l z h k => ?_) k
  refine R_getf (ci := 11) (f := 14) (C := RX13) (N := 49) (Tt := TX13) dX13_whyGo_1 rfl i_X13 (by decide) w_1481 (fun l z h k => ?_) k
  refine R_bipush dX13_whyGo_4 (by decide) (fun l z h k => ?_) k
  refine R_iload_n dX13_whyGo_6 rfl (fun l z h k => ?_) k
  refine R_iadd dX13_whyGo_7 (fun l z h k => ?_) k
  refine R_iaload dX13_whyGo_8 (fun l z h k => ?_) k
  refine R_iload_n dX13_whyGo_9 rfl (fun l z h k => ?_) k
  refine R_isub dX13_whyGo_10 (fun l z h k => ?_) k
  exact R_cs1 (M := mX13_whyGo) (pc := 11) (bc := bc) (bs := bs) (cb := 0) (cs := 0) (M' := mX13_size) dX13_whyGo_11 (by decide) w_1842 w_144 w_1840 w_1841 (by decide +kernel) (fun _ _ _ k => k) k
theorem bX13_whyGo_14 {G : Gt} {d bc bs : Nat} {Q : QT} {l : Ls} {z : List Value} {h : Hp} (k : (tPush (.int 1) (tIf2 (fun x y => x = y) (fun l z h => T G d bc bs mX13_whyGo 20 l z h Q) (fun l z h => T G d bc bs mX13_whyGo 18 l z h Q))) l z h) : T G d bc bs mX13_whyGo 14 l z h Q := by
  refine R_iconst dX13_whyGo_14 (by decide) (fun l z h k => ?_) k
  exact R_icmp_eq dX13_whyGo_15 (by decide) (fun _ _ _ k => k) (fun _ _ _ k => k) k
theorem bX13_whyGo_18 {G : Gt} {d bc bs : Nat} {Q : QT} {l : Ls} {z : List Value} {h : Hp} (k : (tPush (.int 1) (tRetI Q)) l z h) : T G d bc bs mX13_whyGo 18 l z h Q := by
  refine R_iconst dX13_whyGo_18 (by decide) (fun l z h k => ?_) k
  exact R_iret dX13_whyGo_19 rfl k
theorem bX13_whyGo_20 {G : Gt} {d bc bs : Nat} {Q : QT} {l : Ls} {z : List Value} {h : Hp} (k : (tIld 2 (tPush (.int 1) (tIf2 (fun x y => x = y) (fun l z h => T G d bc bs mX13_whyGo 40 l z h Q) (fun l z h => T G d bc bs mX13_whyGo 25 l z h Q)))) l z h) : T G d bc bs mX13_whyGo 20 l z h Q := by
  refine R_iload_n dX13_whyGo_20 rfl (fun l z h k => ?_) k
  refine R_iconst dX13_whyGo_21 (by decide) (fun l z h k => ?_) k
  exact R_icmp_eq dX13_whyGo_22 (by decide) (fun _ _ _ k => k) (fun _ _ _ k => k) k
theorem bX13_whyGo_25 {G : Gt} {d bc bs : Nat} {Q : QT} {l : Ls} {z : List Value} {h : Hp} (k : (tAld 0 (tIld 1 (tIld 2 (tPush (.int 2) (tBn (fun x y => x / y) (tCV2 G d 0 0 11 mX13_pays (fun l z h => T G d bc bs mX13_whyGo 33 l z h Q))))))) l z h) : T G d bc bs mX13_whyGo 25 l z h Q := by
  refine R_aload_n dX13_whyGo_25 rfl (fun l z h k => ?_) k
  refine R_iload_n dX13_whyGo_26 rfl (fun l z h k => ?_) k
  refine R_iload_n dX13_whyGo_27 rfl (fun l z h k => ?_) k
  refine R_iconst dX13_whyGo_28 (by decide) (fun l z h k => ?_) k
  refine R_idiv dX13_whyGo_29 (fun l z h k => ?_) k
  exact R_cv2 (M := mX13_whyGo) (pc := 30) (bc := bc) (bs := bs) (cb := 0) (cs := 0) (M' := mX13_pays) dX13_whyGo_30 rfl (by decide) w_1819 w_144 w_1816 w_1818 w_79 (by decide +kernel) (fun _ _ _ k => k) k
theorem bX13_whyGo_33 {G : Gt} {d bc bs : Nat} {Q : QT} {l : Ls} {z : List Value} {h : Hp} (k : (tIf (fun x => x = 0) (fun l z h => T G d bc bs mX13_whyGo 36 l z h Q) (fun l z h => T G d bc bs mX13_whyGo 40 l z h Q)) l z h) : T G d bc bs mX13_whyGo 33 l z h Q := by
  exact R_if_ne dX13_whyGo_33 (by decide) (fun _ _ _ k => k) (fun _ _ _ k => k) k
theorem bX13_whyGo_36 {G : Gt} {d bc bs : Nat} {Q : QT} {l : Ls} {z : List Value} {h : Hp} (k : (tPush (.int 2) ((fun l z h => T G d bc bs mX13_whyGo 41 l z h Q))) l z h) : T G d bc bs mX13_whyGo 36 l z h Q := by
  refine R_iconst dX13_whyGo_36 (by decide) (fun l z h k => ?_) k
  exact R_goto dX13_whyGo_37 (by decide) (fun _ _ _ k => k) k
theorem bX13_whyGo_40 {G : Gt} {d bc bs : Nat} {Q : QT} {l : Ls} {z : List Value} {h : Hp} (k : (tPush (.int 0) ((fun l z h => T G d bc bs mX13_whyGo 41 l z h Q))) l z h) : T G d bc bs mX13_whyGo 40 l z h Q := by
  refine R_iconst dX13_whyGo_40 (by decide) (fun l z h k => ?_) k
  exact k
theorem bX13_whyGo_41 {G : Gt} {d bc bs : Nat} {Q : QT} {l : Ls} {z : List Value} {h : Hp} (k : (tRetI Q) l z h) : T G d bc bs mX13_whyGo 41 l z h Q := by
  exact R_iret dX13_whyGo_41 rfl k
theorem dX13_whyTrade_0 : decode cX13_whyTrade 0 = .ok (.iload_n 1, 1) := by decide +kernel
theorem dX13_whyTrade_1 : decode cX13_whyTrade 1 = .ok (.iload_n 3, 1) := by decide +kernel
theorem dX13_whyTrade_2 : decode cX13_whyTrade 2 = .ok (.if_icmp .ne 7, 3) := by decide +kernel
theorem dX13_whyTrade_5 : decode cX13_whyTrade 5 = .ok (.iconst 1, 1) := by decide +kernel
theorem dX13_whyTrade_6 : decode cX13_whyTrade 6 = .ok (.goto 54, 3) := by decide +kernel
theorem dX13_whyTrade_9 : decode cX13_whyTrade 9 = .ok (.aload_n 0, 1) := by decide +kernel
theorem dX13_whyTrade_10 : decode cX13_whyTrade 10 = .ok (.getfield 13, 3) := by decide +kernel
theorem dX13_whyTrade_13 : decode cX13_whyTrade 13 = .ok (.bipush 99, 2) := by decide +kernel
theorem dX13_whyTrade_15 : decode cX13_whyTrade 15 = .ok (.iload_n 1, 1) := by decide +kernel
theorem dX13_whyTrade_16 : decode cX13_whyTrade 16 = .ok (.iadd, 1) := by decide +kernel
theorem dX13_whyTrade_17 : decode cX13_whyTrade 17 = .ok (.iaload, 1) := by decide +kernel
theorem dX13_whyTrade_18 : decode cX13_whyTrade 18 = .ok (.aload_n 0, 1) := by decide +kernel
theorem dX13_whyTrade_19 : decode cX13_whyTrade 19 = .ok (.getfield 13, 3) := by decide +kernel
theorem dX13_whyTrade_22 : decode cX13_whyTrade 22 = .ok (.bipush 99, 2) := by decide +kernel
theorem dX13_whyTrade_24 : decode cX13_whyTrade 24 = .ok (.iload_n 3, 1) := by decide +kernel
theorem dX13_whyTrade_25 : decode cX13_whyTrade 25 = .ok (.iadd, 1) := by decide +kernel
theorem dX13_whyTrade_26 : decode cX13_whyTrade 26 = .ok (.iaload, 1) := by decide +kernel
theorem dX13_whyTrade_27 : decode cX13_whyTrade 27 = .ok (.if_icmp .eq 7, 3) := by decide +kernel
theorem dX13_whyTrade_30 : decode cX13_whyTrade 30 = .ok (.iconst 2, 1) := by decide +kernel
theorem dX13_whyTrade_31 : decode cX13_whyTrade 31 = .ok (.goto 29, 3) := by decide +kernel
theorem dX13_whyTrade_34 : decode cX13_whyTrade 34 = .ok (.aload_n 0, 1) := by decide +kernel
theorem dX13_whyTrade_35 : decode cX13_whyTrade 35 = .ok (.iload_n 1, 1) := by decide +kernel
theorem dX13_whyTrade_36 : decode cX13_whyTrade 36 = .ok (.iload_n 2, 1) := by decide +kernel
theorem dX13_whyTrade_37 : decode cX13_whyTrade 37 = .ok (.invokevirtual 240, 3) := by decide +kernel
theorem dX13_whyTrade_40 : decode cX13_whyTrade 40 = .ok (.iconst 2, 1) := by decide +kernel
theorem dX13_whyTrade_41 : decode cX13_whyTrade 41 = .ok (.if_icmp .lt 14, 3) := by decide +kernel
theorem dX13_whyTrade_44 : decode cX13_whyTrade 44 = .ok (.aload_n 0, 1) := by decide +kernel
theorem dX13_whyTrade_45 : decode cX13_whyTrade 45 = .ok (.iload_n 3, 1) := by decide +kernel
theorem dX13_whyTrade_46 : decode cX13_whyTrade 46 = .ok (.iload 4, 2) := by decide +kernel
theorem dX13_whyTrade_48 : decode cX13_whyTrade 48 = .ok (.invokevirtual 240, 3) := by decide +kernel
theorem dX13_whyTrade_51 : decode cX13_whyTrade 51 = .ok (.iconst 2, 1) := by decide +kernel
theorem dX13_whyTrade_52 : decode cX13_whyTrade 52 = .ok (.if_icmp .ge 7, 3) := by decide +kernel
theorem dX13_whyTrade_55 : decode cX13_whyTrade 55 = .ok (.iconst 3, 1) := by decide +kernel
theorem dX13_whyTrade_56 : decode cX13_whyTrade 56 = .ok (.goto 4, 3) := by decide +kernel
theorem dX13_whyTrade_59 : decode cX13_whyTrade 59 = .ok (.iconst 0, 1) := by decide +kernel
theorem dX13_whyTrade_60 : decode cX13_whyTrade 60 = .ok (.ireturn, 1) := by decide +kernel
theorem bX13_whyTrade_0 {G : Gt} {d bc bs : Nat} {Q : QT} {l : Ls} {z : List Value} {h : Hp} (k : (tIld 1 (tIld 3 (tIf2 (fun x y => x = y) (fun l z h => T G d bc bs mX13_whyTrade 5 l z h Q) (fun l z h => T G d bc bs mX13_whyTrade 9 l z h Q)))) l z h) : T G d bc bs mX13_whyTrade 0 l z h Q := by
  refine R_iload_n dX13_whyTrade_0 rfl (fun l z h k => ?_) k
  refine R_iload_n dX13_whyTrade_1 rfl (fun l z h k => ?_) k
  exact R_icmp_ne dX13_whyTrade_2 (by decide) (fun _ _ _ k => k) (fun _ _ _ k => k) k
theorem bX13_whyTrade_5 {G : Gt} {d bc bs : Nat} {Q : QT} {l : Ls} {z : List Value} {h : Hp} (k : (tPush (.int 1) ((fun l z h => T G d bc bs mX13_whyTrade 60 l z h Q))) l z h) : T G d bc bs mX13_whyTrade 5 l z h Q := by
  refine R_iconst dX13_whyTrade_5 (by decide) (fun l z h k => ?_) k
  exact R_goto dX13_whyTrade_6 (by decide) (fun _ _ _ k => k) k
theorem bX13_whyTrade_9 {G : Gt} {d bc bs : Nat} {Q : QT} {l : Ls} {z : List Value} {h : Hp} (k : (tAld 0 (tGetf 11 14 (tPush (.int 99) (tIld 1 (tB (fun x y => x + y) (tXald 0 (tAld 0 (tGetf 11 14 (tPush (.int 99) (tIld 3 (tB (fun x y => x + y) (tXald 0 (tIf2 (fun x y => x = y) (fun l z h => T G d bc bs mX13_whyTrade 34 l z h Q) (fun l z h => T G d bc bs mX13_whyTrade 30 l z h Q)))))))))))))) l z h) : T G d bc bs mX13_whyTrade 9 l z h Q := by
  refine R_aload_n dX13_whyTrade_9 rfl (fun l z h k => ?_) k
  refine R_getf (ci := 11) (f := 14) (C := RX13) (N := 49) (Tt := TX13) dX13_whyTrade_10 rfl i_X13 (by decide) w_1481 (fun l z h k => ?_) k
  refine R_bipush dX13_whyTrade_13 (by decide) (fun l z h k => ?_) k
  refine R_iload_n dX13_whyTrade_15 rfl (fun l z h k => ?_) k
  refine R_iadd dX13_whyTrade_16 (fun l z h k => ?_) k
  refine R_iaload dX13_whyTrade_17 (fun l z h k => ?_) k
  refine R_aload_n dX13_whyTrade_18 rfl (fun l z h k => ?_) k
  refine R_getf (ci := 11) (f := 14) (C := RX13) (N := 49) (Tt := TX13) dX13_whyTrade_19 rfl i_X13 (by decide) w_1481 (fun l z h k => ?_) k
  refine R_bipush dX13_whyTrade_22 (by decide) (fun l z h k => ?_) k
  refine R_iload_n dX13_whyTrade_24 rfl (fun l z h k => ?_) k
  refine R_iadd dX13_whyTrade_25 (fun l z h k => ?_) k
  refine R_iaload dX13_whyTrade_26 (fun l z h k => ?_) k
  exact R_icmp_eq dX13_whyTrade_27 (by decide) (fun _ _ _ k => k) (fun _ _ _ k => k) k
theorem bX13_whyTrade_30 {G : Gt} {d bc bs : Nat} {Q : QT} {l : Ls} {z : List Value} {h : Hp} (k : (tPush (.int 2) ((fun l z h => T G d bc bs mX13_whyTrade 60 l z h Q))) l z h) : T G d bc bs mX13_whyTrade 30 l z h Q := by
  refine R_iconst dX13_whyTrade_30 (by decide) (fun l z h k => ?_) k
  exact R_goto dX13_whyTrade_31 (by decide) (fun _ _ _ k => k) k
theorem bX13_whyTrade_34 {G : Gt} {d bc bs : Nat} {Q : QT} {l : Ls} {z : List Value} {h : Hp} (k : (tAld 0 (tIld 1 (tIld 2 (tCV2 G d 0 0 11 mX13_haveOf (fun l z h => T G d bc bs mX13_whyTrade 40 l z h Q))))) l z h) : T G d bc bs mX13_whyTrade 34 l z h Q := by
  refine R_aload_n dX13_whyTrade_34 rfl (fun l z h k => ?_) k
  refine R_iload_n dX13_whyTrade_35 rfl (fun l z h k => ?_) k
  refine R_iload_n dX13_whyTrade_36 rfl (fun l z h k => ?_) k
  exact R_cv2 (M := mX13_whyTrade) (pc := 37) (bc := bc) (bs := bs) (cb := 0) (cs := 0) (M' := mX13_haveOf) dX13_whyTrade_37 rfl (by decide) w_1779 w_144 w_1776 w_1778 w_73 (by decide +kernel) (fun _ _ _ k => k) k
theorem bX13_whyTrade_40 {G : Gt} {d bc bs : Nat} {Q : QT} {l : Ls} {z : List Value} {h : Hp} (k : (tPush (.int 2) (tIf2 (fun x y => x < y) (fun l z h => T G d bc bs mX13_whyTrade 55 l z h Q) (fun l z h => T G d bc bs mX13_whyTrade 44 l z h Q))) l z h) : T G d bc bs mX13_whyTrade 40 l z h Q := by
  refine R_iconst dX13_whyTrade_40 (by decide) (fun l z h k => ?_) k
  exact R_icmp_lt dX13_whyTrade_41 (by decide) (fun _ _ _ k => k) (fun _ _ _ k => k) k
theorem bX13_whyTrade_44 {G : Gt} {d bc bs : Nat} {Q : QT} {l : Ls} {z : List Value} {h : Hp} (k : (tAld 0 (tIld 3 (tIld 4 (tCV2 G d 0 0 11 mX13_haveOf (fun l z h => T G d bc bs mX13_whyTrade 51 l z h Q))))) l z h) : T G d bc bs mX13_whyTrade 44 l z h Q := by
  refine R_aload_n dX13_whyTrade_44 rfl (fun l z h k => ?_) k
  refine R_iload_n dX13_whyTrade_45 rfl (fun l z h k => ?_) k
  refine R_iload dX13_whyTrade_46 (fun l z h k => ?_) k
  exact R_cv2 (M := mX13_whyTrade) (pc := 48) (bc := bc) (bs := bs) (cb := 0) (cs := 0) (M' := mX13_haveOf) dX13_whyTrade_48 rfl (by decide) w_1779 w_144 w_1776 w_1778 w_73 (by decide +kernel) (fun _ _ _ k => k) k
theorem bX13_whyTrade_51 {G : Gt} {d bc bs : Nat} {Q : QT} {l : Ls} {z : List Value} {h : Hp} (k : (tPush (.int 2) (tIf2 (fun x y => y ≤ x) (fun l z h => T G d bc bs mX13_whyTrade 59 l z h Q) (fun l z h => T G d bc bs mX13_whyTrade 55 l z h Q))) l z h) : T G d bc bs mX13_whyTrade 51 l z h Q := by
  refine R_iconst dX13_whyTrade_51 (by decide) (fun l z h k => ?_) k
  exact R_icmp_ge dX13_whyTrade_52 (by decide) (fun _ _ _ k => k) (fun _ _ _ k => k) k
theorem bX13_whyTrade_55 {G : Gt} {d bc bs : Nat} {Q : QT} {l : Ls} {z : List Value} {h : Hp} (k : (tPush (.int 3) ((fun l z h => T G d bc bs mX13_whyTrade 60 l z h Q))) l z h) : T G d bc bs mX13_whyTrade 55 l z h Q := by
  refine R_iconst dX13_whyTrade_55 (by decide) (fun l z h k => ?_) k
  exact R_goto dX13_whyTrade_56 (by decide) (fun _ _ _ k => k) k
theorem bX13_whyTrade_59 {G : Gt} {d bc bs : Nat} {Q : QT} {l : Ls} {z : List Value} {h : Hp} (k : (tPush (.int 0) ((fun l z h => T G d bc bs mX13_whyTrade 60 l z h Q))) l z h) : T G d bc bs mX13_whyTrade 59 l z h Q := by
  refine R_iconst dX13_whyTrade_59 (by decide) (fun l z h k => ?_) k
  exact k
theorem bX13_whyTrade_60 {G : Gt} {d bc bs : Nat} {Q : QT} {l : Ls} {z : List Value} {h : Hp} (k : (tRetI Q) l z h) : T G d bc bs mX13_whyTrade 60 l z h Q := by
  exact R_iret dX13_whyTrade_60 rfl k
theorem dX13_why_0 : decode cX13_why 0 = .ok (.iload_n 1, 1) := by decide +kernel
theorem dX13_why_1 : decode cX13_why 1 = .ok (.tableswitch 112 0 3 #[31, 38, 81, 101], 31) := by decide +kernel
theorem dX13_why_32 : decode cX13_why 32 = .ok (.aload_n 0, 1) := by decide +kernel
theorem dX13_why_33 : decode cX13_why 33 = .ok (.iload_n 2, 1) := by decide +kernel
theorem dX13_why_34 : decode cX13_why 34 = .ok (.iload_n 3, 1) := by decide +kernel
theorem dX13_why_35 : decode cX13_why 35 = .ok (.invokevirtual 276, 3) := by decide +kernel
theorem dX13_why_38 : decode cX13_why 38 = .ok (.ireturn, 1) := by decide +kernel
theorem dX13_why_39 : decode cX13_why 39 = .ok (.iload_n 2, 1) := by decide +kernel
theorem dX13_why_40 : decode cX13_why 40 = .ok (.iload_n 3, 1) := by decide +kernel
theorem dX13_why_41 : decode cX13_why 41 = .ok (.if_icmp .ne 7, 3) := by decide +kernel
theorem dX13_why_44 : decode cX13_why 44 = .ok (.iconst 1, 1) := by decide +kernel
theorem dX13_why_45 : decode cX13_why 45 = .ok (.goto 36, 3) := by decide +kernel
theorem dX13_why_48 : decode cX13_why 48 = .ok (.aload_n 0, 1) := by decide +kernel
theorem dX13_why_49 : decode cX13_why 49 = .ok (.getfield 13, 3) := by decide +kernel
theorem dX13_why_52 : decode cX13_why 52 = .ok (.sipush 183, 3) := by decide +kernel
theorem dX13_why_55 : decode cX13_why 55 = .ok (.iload_n 2, 1) := by decide +kernel
theorem dX13_why_56 : decode cX13_why 56 = .ok (.iadd, 1) := by decide +kernel
theorem dX13_why_57 : decode cX13_why 57 = .ok (.iaload, 1) := by decide +kernel
theorem dX13_why_58 : decode cX13_why 58 = .ok (.iconst (-1), 1) := by decide +kernel
theorem dX13_why_59 : decode cX13_why 59 = .ok (.if_icmp .ne 17, 3) := by decide +kernel
theorem dX13_why_62 : decode cX13_why 62 = .ok (.aload_n 0, 1) := by decide +kernel
theorem dX13_why_63 : decode cX13_why 63 = .ok (.getfield 13, 3) := by decide +kernel
theorem dX13_why_66 : decode cX13_why 66 = .ok (.sipush 183, 3) := by decide +kernel
theorem dX13_why_69 : decode cX13_why 69 = .ok (.iload_n 3, 1) := by decide +kernel
theorem dX13_why_70 : decode cX13_why 70 = .ok (.iadd, 1) := by decide +kernel
theorem dX13_why_71 : decode cX13_why 71 = .ok (.iaload, 1) := by decide +kernel
theorem dX13_why_72 : decode cX13_why 72 = .ok (.iconst (-1), 1) := by decide +kernel
theorem dX13_why_73 : decode cX13_why 73 = .ok (.if_icmp .eq 7, 3) := by decide +kernel
theorem dX13_why_76 : decode cX13_why 76 = .ok (.iconst 2, 1) := by decide +kernel
theorem dX13_why_77 : decode cX13_why 77 = .ok (.goto 4, 3) := by decide +kernel
theorem dX13_why_80 : decode cX13_why 80 = .ok (.iconst 0, 1) := by decide +kernel
theorem dX13_why_81 : decode cX13_why 81 = .ok (.ireturn, 1) := by decide +kernel
theorem dX13_why_82 : decode cX13_why 82 = .ok (.aload_n 0, 1) := by decide +kernel
theorem dX13_why_83 : decode cX13_why 83 = .ok (.getfield 13, 3) := by decide +kernel
theorem dX13_why_86 : decode cX13_why 86 = .ok (.sipush 183, 3) := by decide +kernel
theorem dX13_why_89 : decode cX13_why 89 = .ok (.iload_n 2, 1) := by decide +kernel
theorem dX13_why_90 : decode cX13_why 90 = .ok (.iadd, 1) := by decide +kernel
theorem dX13_why_91 : decode cX13_why 91 = .ok (.iaload, 1) := by decide +kernel
theorem dX13_why_92 : decode cX13_why 92 = .ok (.iconst (-1), 1) := by decide +kernel
theorem dX13_why_93 : decode cX13_why 93 = .ok (.if_icmp .ne 7, 3) := by decide +kernel
theorem dX13_why_96 : decode cX13_why 96 = .ok (.iconst 1, 1) := by decide +kernel
theorem dX13_why_97 : decode cX13_why 97 = .ok (.goto 4, 3) := by decide +kernel
theorem dX13_why_100 : decode cX13_why 100 = .ok (.iconst 0, 1) := by decide +kernel
theorem dX13_why_101 : decode cX13_why 101 = .ok (.ireturn, 1) := by decide +kernel
theorem dX13_why_102 : decode cX13_why 102 = .ok (.aload_n 0, 1) := by decide +kernel
theorem dX13_why_103 : decode cX13_why 103 = .ok (.iload_n 2, 1) := by decide +kernel
theorem dX13_why_104 : decode cX13_why 104 = .ok (.iload_n 3, 1) := by decide +kernel
theorem dX13_why_105 : decode cX13_why 105 = .ok (.iload 4, 2) := by decide +kernel
theorem dX13_why_107 : decode cX13_why 107 = .ok (.iload 5, 2) := by decide +kernel
theorem dX13_why_109 : decode cX13_why 109 = .ok (.invokevirtual 279, 3) := by decide +kernel
theorem dX13_why_112 : decode cX13_why 112 = .ok (.ireturn, 1) := by decide +kernel
theorem dX13_why_113 : decode cX13_why 113 = .ok (.aload_n 0, 1) := by decide +kernel
theorem dX13_why_114 : decode cX13_why 114 = .ok (.iload_n 2, 1) := by decide +kernel
theorem dX13_why_115 : decode cX13_why 115 = .ok (.iload_n 3, 1) := by decide +kernel
theorem dX13_why_116 : decode cX13_why 116 = .ok (.invokevirtual 244, 3) := by decide +kernel
theorem dX13_why_119 : decode cX13_why 119 = .ok (.iload 4, 2) := by decide +kernel
theorem dX13_why_121 : decode cX13_why 121 = .ok (.if_icmp .ne 7, 3) := by decide +kernel
theorem dX13_why_124 : decode cX13_why 124 = .ok (.iconst 1, 1) := by decide +kernel
theorem dX13_why_125 : decode cX13_why 125 = .ok (.goto 4, 3) := by decide +kernel
theorem dX13_why_128 : decode cX13_why 128 = .ok (.iconst 0, 1) := by decide +kernel
theorem dX13_why_129 : decode cX13_why 129 = .ok (.ireturn, 1) := by decide +kernel
theorem bX13_why_0 {G : Gt} {d bc bs : Nat} {Q : QT} {l : Ls} {z : List Value} {h : Hp} (k : (tIld 1 (tSw 0 [32, 39, 82, 102] 113 (fun t l z h => T G d bc bs mX13_why t l z h Q))) l z h) : T G d bc bs mX13_why 0 l z h Q := by
  refine R_iload_n dX13_why_0 rfl (fun l z h k => ?_) k
  exact R_table dX13_why_1 (by decide) (by decide) (by decide) (by decide) (by decide) (fun _ _ _ _ k => k) k
theorem bX13_why_32 {G : Gt} {d bc bs : Nat} {Q : QT} {l : Ls} {z : List Value} {h : Hp} (k : (tAld 0 (tIld 2 (tIld 3 (tCV2 G d 0 0 11 mX13_whyGo (fun l z h => T G d bc bs mX13_why 38 l z h Q))))) l z h) : T G d bc bs mX13_why 32 l z h Q := by
  refine R_aload_n dX13_why_32 rfl (fun l z h k => ?_) k
  refine R_iload_n dX13_why_33 rfl (fun l z h k => ?_) k
  refine R_iload_n dX13_why_34 rfl (fun l z h k => ?_) k
  exact R_cv2 (M := mX13_why) (pc := 35) (bc := bc) (bs := bs) (cb := 0) (cs := 0) (M' := mX13_whyGo) dX13_why_35 rfl (by decide) w_1839 w_144 w_1836 w_1838 w_83 (by decide +kernel) (fun _ _ _ k => k) k
theorem bX13_why_38 {G : Gt} {d bc bs : Nat} {Q : QT} {l : Ls} {z : List Value} {h : Hp} (k : (tRetI Q) l z h) : T G d bc bs mX13_why 38 l z h Q := by
  exact R_iret dX13_why_38 rfl k
theorem bX13_why_39 {G : Gt} {d bc bs : Nat} {Q : QT} {l : Ls} {z : List Value} {h : Hp} (k : (tIld 2 (tIld 3 (tIf2 (fun x y => x = y) (fun l z h => T G d bc bs mX13_why 44 l z h Q) (fun l z h => T G d bc bs mX13_why 48 l z h Q)))) l z h) : T G d bc bs mX13_why 39 l z h Q := by
  refine R_iload_n dX13_why_39 rfl (fun l z h k => ?_) k
  refine R_iload_n dX13_why_40 rfl (fun l z h k => ?_) k
  exact R_icmp_ne dX13_why_41 (by decide) (fun _ _ _ k => k) (fun _ _ _ k => k) k
theorem bX13_why_44 {G : Gt} {d bc bs : Nat} {Q : QT} {l : Ls} {z : List Value} {h : Hp} (k : (tPush (.int 1) ((fun l z h => T G d bc bs mX13_why 81 l z h Q))) l z h) : T G d bc bs mX13_why 44 l z h Q := by
  refine R_iconst dX13_why_44 (by decide) (fun l z h k => ?_) k
  exact R_goto dX13_why_45 (by decide) (fun _ _ _ k => k) k
theorem bX13_why_48 {G : Gt} {d bc bs : Nat} {Q : QT} {l : Ls} {z : List Value} {h : Hp} (k : (tAld 0 (tGetf 11 14 (tPush (.int 183) (tIld 2 (tB (fun x y => x + y) (tXald 0 (tPush (.int (-1)) (tIf2 (fun x y => x = y) (fun l z h => T G d bc bs mX13_why 62 l z h Q) (fun l z h => T G d bc bs mX13_why 76 l z h Q))))))))) l z h) : T G d bc bs mX13_why 48 l z h Q := by
  refine R_aload_n dX13_why_48 rfl (fun l z h k => ?_) k
  refine R_getf (ci := 11) (f := 14) (C := RX13) (N := 49) (Tt := TX13) dX13_why_49 rfl i_X13 (by decide) w_1481 (fun l z h k => ?_) k
  refine R_sipush dX13_why_52 (by decide) (fun l z h k => ?_) k
  refine R_iload_n dX13_why_55 rfl (fun l z h k => ?_) k
  refine R_iadd dX13_why_56 (fun l z h k => ?_) k
  refine R_iaload dX13_why_57 (fun l z h k => ?_) k
  refine R_iconst dX13_why_58 (by decide) (fun l z h k => ?_) k
  exact R_icmp_ne dX13_why_59 (by decide) (fun _ _ _ k => k) (fun _ _ _ k => k) k
theorem bX13_why_62 {G : Gt} {d bc bs : Nat} {Q : QT} {l : Ls} {z : List Value} {h : Hp} (k : (tAld 0 (tGetf 11 14 (tPush (.int 183) (tIld 3 (tB (fun x y => x + y) (tXald 0 (tPush (.int (-1)) (tIf2 (fun x y => x = y) (fun l z h => T G d bc bs mX13_why 80 l z h Q) (fun l z h => T G d bc bs mX13_why 76 l z h Q))))))))) l z h) : T G d bc bs mX13_why 62 l z h Q := by
  refine R_aload_n dX13_why_62 rfl (fun l z h k => ?_) k
  refine R_getf (ci := 11) (f := 14) (C := RX13) (N := 49) (Tt := TX13) dX13_why_63 rfl i_X13 (by decide) w_1481 (fun l z h k => ?_) k
  refine R_sipush dX13_why_66 (by decide) (fun l z h k => ?_) k
  refine R_iload_n dX13_why_69 rfl (fun l z h k => ?_) k
  refine R_iadd dX13_why_70 (fun l z h k => ?_) k
  refine R_iaload dX13_why_71 (fun l z h k => ?_) k
  refine R_iconst dX13_why_72 (by decide) (fun l z h k => ?_) k
  exact R_icmp_eq dX13_why_73 (by decide) (fun _ _ _ k => k) (fun _ _ _ k => k) k
theorem bX13_why_76 {G : Gt} {d bc bs : Nat} {Q : QT} {l : Ls} {z : List Value} {h : Hp} (k : (tPush (.int 2) ((fun l z h => T G d bc bs mX13_why 81 l z h Q))) l z h) : T G d bc bs mX13_why 76 l z h Q := by
  refine R_iconst dX13_why_76 (by decide) (fun l z h k => ?_) k
  exact R_goto dX13_why_77 (by decide) (fun _ _ _ k => k) k
theorem bX13_why_80 {G : Gt} {d bc bs : Nat} {Q : QT} {l : Ls} {z : List Value} {h : Hp} (k : (tPush (.int 0) ((fun l z h => T G d bc bs mX13_why 81 l z h Q))) l z h) : T G d bc bs mX13_why 80 l z h Q := by
  refine R_iconst dX13_why_80 (by decide) (fun l z h k => ?_) k
  exact k
theorem bX13_why_81 {G : Gt} {d bc bs : Nat} {Q : QT} {l : Ls} {z : List Value} {h : Hp} (k : (tRetI Q) l z h) : T G d bc bs mX13_why 81 l z h Q := by
  exact R_iret dX13_why_81 rfl k
theorem bX13_why_82 {G : Gt} {d bc bs : Nat} {Q : QT} {l : Ls} {z : List Value} {h : Hp} (k : (tAld 0 (tGetf 11 14 (tPush (.int 183) (tIld 2 (tB (fun x y => x + y) (tXald 0 (tPush (.int (-1)) (tIf2 (fun x y => x = y) (fun l z h => T G d bc bs mX13_why 96 l z h Q) (fun l z h => T G d bc bs mX13_why 100 l z h Q))))))))) l z h) : T G d bc bs mX13_why 82 l z h Q := by
  refine R_aload_n dX13_why_82 rfl (fun l z h k => ?_) k
  refine R_getf (ci := 11) (f := 14) (C := RX13) (N := 49) (Tt := TX13) dX13_why_83 rfl i_X13 (by decide) w_1481 (fun l z h k => ?_) k
  refine R_sipush dX13_why_86 (by decide) (fun l z h k => ?_) k
  refine R_iload_n dX13_why_89 rfl (fun l z h k => ?_) k
  refine R_iadd dX13_why_90 (fun l z h k => ?_) k
  refine R_iaload dX13_why_91 (fun l z h k => ?_) k
  refine R_iconst dX13_why_92 (by decide) (fun l z h k => ?_) k
  exact R_icmp_ne dX13_why_93 (by decide) (fun _ _ _ k => k) (fun _ _ _ k => k) k
theorem bX13_why_96 {G : Gt} {d bc bs : Nat} {Q : QT} {l : Ls} {z : List Value} {h : Hp} (k : (tPush (.int 1) ((fun l z h => T G d bc bs mX13_why 101 l z h Q))) l z h) : T G d bc bs mX13_why 96 l z h Q := by
  refine R_iconst dX13_why_96 (by decide) (fun l z h k => ?_) k
  exact R_goto dX13_why_97 (by decide) (fun _ _ _ k => k) k
theorem bX13_why_100 {G : Gt} {d bc bs : Nat} {Q : QT} {l : Ls} {z : List Value} {h : Hp} (k : (tPush (.int 0) ((fun l z h => T G d bc bs mX13_why 101 l z h Q))) l z h) : T G d bc bs mX13_why 100 l z h Q := by
  refine R_iconst dX13_why_100 (by decide) (fun l z h k => ?_) k
  exact k
theorem bX13_why_101 {G : Gt} {d bc bs : Nat} {Q : QT} {l : Ls} {z : List Value} {h : Hp} (k : (tRetI Q) l z h) : T G d bc bs mX13_why 101 l z h Q := by
  exact R_iret dX13_why_101 rfl k
theorem bX13_why_102 {G : Gt} {d bc bs : Nat} {Q : QT} {l : Ls} {z : List Value} {h : Hp} (k : (tAld 0 (tIld 2 (tIld 3 (tIld 4 (tIld 5 (tCV4 G d 0 0 11 mX13_whyTrade (fun l z h => T G d bc bs mX13_why 112 l z h Q))))))) l z h) : T G d bc bs mX13_why 102 l z h Q := by
  refine R_aload_n dX13_why_102 rfl (fun l z h k => ?_) k
  refine R_iload_n dX13_why_103 rfl (fun l z h k => ?_) k
  refine R_iload_n dX13_why_104 rfl (fun l z h k => ?_) k
  refine R_iload dX13_why_105 (fun l z h k => ?_) k
  refine R_iload dX13_why_107 (fun l z h k => ?_) k
  exact R_cv4 (M := mX13_why) (pc := 109) (bc := bc) (bs := bs) (cb := 0) (cs := 0) (M' := mX13_whyTrade) dX13_why_109 rfl (by decide) w_1846 w_144 w_1843 w_1845 w_84 (by decide +kernel) (fun _ _ _ k => k) k
theorem bX13_why_112 {G : Gt} {d bc bs : Nat} {Q : QT} {l : Ls} {z : List Value} {h : Hp} (k : (tRetI Q) l z h) : T G d bc bs mX13_why 112 l z h Q := by
  exact R_iret dX13_why_112 rfl k
theorem bX13_why_113 {G : Gt} {d bc bs : Nat} {Q : QT} {l : Ls} {z : List Value} {h : Hp} (k : (tAld 0 (tIld 2 (tIld 3 (tCV2 G d 0 0 11 mX13_askOf (fun l z h => T G d bc bs mX13_why 119 l z h Q))))) l z h) : T G d bc bs mX13_why 113 l z h Q := by
  refine R_aload_n dX13_why_113 rfl (fun l z h k => ?_) k
  refine R_iload_n dX13_why_114 rfl (fun l z h k => ?_) k
  refine R_iload_n dX13_why_115 rfl (fun l z h k => ?_) k
  exact R_cv2 (M := mX13_why) (pc := 116) (bc := bc) (bs := bs) (cb := 0) (cs := 0) (M' := mX13_askOf) dX13_why_116 rfl (by decide) w_1799 w_144 w_1796 w_1798 w_75 (by decide +kernel) (fun _ _ _ k => k) k
theorem bX13_why_119 {G : Gt} {d bc bs : Nat} {Q : QT} {l : Ls} {z : List Value} {h : Hp} (k : (tIld 4 (tIf2 (fun x y => x = y) (fun l z h => T G d bc bs mX13_why 124 l z h Q) (fun l z h => T G d bc bs mX13_why 128 l z h Q))) l z h) : T G d bc bs mX13_why 119 l z h Q := by
  refine R_iload dX13_why_119 (fun l z h k => ?_) k
  exact R_icmp_ne dX13_why_121 (by decide) (fun _ _ _ k => k) (fun _ _ _ k => k) k
theorem bX13_why_124 {G : Gt} {d bc bs : Nat} {Q : QT} {l : Ls} {z : List Value} {h : Hp} (k : (tPush (.int 1) ((fun l z h => T G d bc bs mX13_why 129 l z h Q))) l z h) : T G d bc bs mX13_why 124 l z h Q := by
  refine R_iconst dX13_why_124 (by decide) (fun l z h k => ?_) k
  exact R_goto dX13_why_125 (by decide) (fun _ _ _ k => k) k
theorem bX13_why_128 {G : Gt} {d bc bs : Nat} {Q : QT} {l : Ls} {z : List Value} {h : Hp} (k : (tPush (.int 0) ((fun l z h => T G d bc bs mX13_why 129 l z h Q))) l z h) : T G d bc bs mX13_why 128 l z h Q := by
  refine R_iconst dX13_why_128 (by decide) (fun l z h k => ?_) k
  exact k
theorem bX13_why_129 {G : Gt} {d bc bs : Nat} {Q : QT} {l : Ls} {z : List Value} {h : Hp} (k : (tRetI Q) l z h) : T G d bc bs mX13_why 129 l z h Q := by
  exact R_iret dX13_why_129 rfl k
theorem dX13_doTrade_0 : decode cX13_doTrade 0 = .ok (.aload_n 0, 1) := by decide +kernel
theorem dX13_doTrade_1 : decode cX13_doTrade 1 = .ok (.iload_n 1, 1) := by decide +kernel
theorem dX13_doTrade_2 : decode cX13_doTrade 2 = .ok (.iload_n 2, 1) := by decide +kernel
theorem dX13_doTrade_3 : decode cX13_doTrade 3 = .ok (.invokevirtual 240, 3) := by decide +kernel
theorem dX13_doTrade_6 : decode cX13_doTrade 6 = .ok (.iconst 2, 1) := by decide +kernel
theorem dX13_doTrade_7 : decode cX13_doTrade 7 = .ok (.idiv, 1) := by decide +kernel
theorem dX13_doTrade_8 : decode cX13_doTrade 8 = .ok (.istore 5, 2) := by decide +kernel
theorem dX13_doTrade_10 : decode cX13_doTrade 10 = .ok (.aload_n 0, 1) := by decide +kernel
theorem dX13_doTrade_11 : decode cX13_doTrade 11 = .ok (.iload_n 3, 1) := by decide +kernel
theorem dX13_doTrade_12 : decode cX13_doTrade 12 = .ok (.iload 4, 2) := by decide +kernel
theorem dX13_doTrade_14 : decode cX13_doTrade 14 = .ok (.invokevirtual 240, 3) := by decide +kernel
theorem dX13_doTrade_17 : decode cX13_doTrade 17 = .ok (.iconst 2, 1) := by decide +kernel
theorem dX13_doTrade_18 : decode cX13_doTrade 18 = .ok (.idiv, 1) := by decide +kernel
theorem dX13_doTrade_19 : decode cX13_doTrade 19 = .ok (.istore 6, 2) := by decide +kernel
theorem dX13_doTrade_21 : decode cX13_doTrade 21 = .ok (.aload_n 0, 1) := by decide +kernel
theorem dX13_doTrade_22 : decode cX13_doTrade 22 = .ok (.getfield 13, 3) := by decide +kernel
theorem dX13_doTrade_25 : decode cX13_doTrade 25 = .ok (.bipush 123, 2) := by decide +kernel
theorem dX13_doTrade_27 : decode cX13_doTrade 27 = .ok (.bipush 6, 2) := by decide +kernel
theorem dX13_doTrade_29 : decode cX13_doTrade 29 = .ok (.iload_n 1, 1) := by decide +kernel
theorem dX13_doTrade_30 : decode cX13_doTrade 30 = .ok (.imul, 1) := by decide +kernel
theorem dX13_doTrade_31 : decode cX13_doTrade 31 = .ok (.iadd, 1) := by decide +kernel
theorem dX13_doTrade_32 : decode cX13_doTrade 32 = .ok (.iload_n 2, 1) := by decide +kernel
theorem dX13_doTrade_33 : decode cX13_doTrade 33 = .ok (.iadd, 1) := by decide +kernel
theorem dX13_doTrade_34 : decode cX13_doTrade 34 = .ok (.dup2, 1) := by decide +kernel
theorem dX13_doTrade_35 : decode cX13_doTrade 35 = .ok (.iaload, 1) := by decide +kernel
theorem dX13_doTrade_36 : decode cX13_doTrade 36 = .ok (.iload 5, 2) := by decide +kernel
theorem dX13_doTrade_38 : decode cX13_doTrade 38 = .ok (.isub, 1) := by decide +kernel
theorem dX13_doTrade_39 : decode cX13_doTrade 39 = .ok (.iastore, 1) := by decide +kernel
theorem dX13_doTrade_40 : decode cX13_doTrade 40 = .ok (.aload_n 0, 1) := by decide +kernel
theorem dX13_doTrade_41 : decode cX13_doTrade 41 = .ok (.getfield 13, 3) := by decide +kernel
theorem dX13_doTrade_44 : decode cX13_doTrade 44 = .ok (.bipush 123, 2) := by decide +kernel
theorem dX13_doTrade_46 : decode cX13_doTrade 46 = .ok (.bipush 6, 2) := by decide +kernel
theorem dX13_doTrade_48 : decode cX13_doTrade 48 = .ok (.iload_n 3, 1) := by decide +kernel
theorem dX13_doTrade_49 : decode cX13_doTrade 49 = .ok (.imul, 1) := by decide +kernel
theorem dX13_doTrade_50 : decode cX13_doTrade 50 = .ok (.iadd, 1) := by decide +kernel
theorem dX13_doTrade_51 : decode cX13_doTrade 51 = .ok (.iload 4, 2) := by decide +kernel
theorem dX13_doTrade_53 : decode cX13_doTrade 53 = .ok (.iadd, 1) := by decide +kernel
theorem dX13_doTrade_54 : decode cX13_doTrade 54 = .ok (.dup2, 1) := by decide +kernel
theorem dX13_doTrade_55 : decode cX13_doTrade 55 = .ok (.iaload, 1) := by decide +kernel
theorem dX13_doTrade_56 : decode cX13_doTrade 56 = .ok (.iload 6, 2) := by decide +kernel
theorem dX13_doTrade_58 : decode cX13_doTrade 58 = .ok (.isub, 1) := by decide +kernel
theorem dX13_doTrade_59 : decode cX13_doTrade 59 = .ok (.iastore, 1) := by decide +kernel
theorem dX13_doTrade_60 : decode cX13_doTrade 60 = .ok (.aload_n 0, 1) := by decide +kernel
theorem dX13_doTrade_61 : decode cX13_doTrade 61 = .ok (.getfield 13, 3) := by decide +kernel
theorem dX13_doTrade_64 : decode cX13_doTrade 64 = .ok (.bipush 123, 2) := by decide +kernel
theorem dX13_doTrade_66 : decode cX13_doTrade 66 = .ok (.bipush 6, 2) := by decide +kernel
theorem dX13_doTrade_68 : decode cX13_doTrade 68 = .ok (.iload_n 3, 1) := by decide +kernel
theorem dX13_doTrade_69 : decode cX13_doTrade 69 = .ok (.imul, 1) := by decide +kernel
theorem dX13_doTrade_70 : decode cX13_doTrade 70 = .ok (.iadd, 1) := by decide +kernel
theorem dX13_doTrade_71 : decode cX13_doTrade 71 = .ok (.iload_n 2, 1) := by decide +kernel
theorem dX13_doTrade_72 : decode cX13_doTrade 72 = .ok (.iadd, 1) := by decide +kernel
theorem dX13_doTrade_73 : decode cX13_doTrade 73 = .ok (.bipush 12, 2) := by decide +kernel
theorem dX13_doTrade_75 : decode cX13_doTrade 75 = .ok (.aload_n 0, 1) := by decide +kernel
theorem dX13_doTrade_76 : decode cX13_doTrade 76 = .ok (.iload_n 3, 1) := by decide +kernel
theorem dX13_doTrade_77 : decode cX13_doTrade 77 = .ok (.iload_n 2, 1) := by decide +kernel
theorem dX13_doTrade_78 : decode cX13_doTrade 78 = .ok (.invokevirtual 240, 3) := by decide +kernel
theorem dX13_doTrade_81 : decode cX13_doTrade 81 = .ok (.iload 5, 2) := by decide +kernel
theorem dX13_doTrade_83 : decode cX13_doTrade 83 = .ok (.iadd, 1) := by decide +kernel
theorem dX13_doTrade_84 : decode cX13_doTrade 84 = .ok (.invokestatic 283, 3) := by decide +kernel
theorem dX13_doTrade_87 : decode cX13_doTrade 87 = .ok (.iastore, 1) := by decide +kernel
theorem dX13_doTrade_88 : decode cX13_doTrade 88 = .ok (.aload_n 0, 1) := by decide +kernel
theorem dX13_doTrade_89 : decode cX13_doTrade 89 = .ok (.getfield 13, 3) := by decide +kernel
theorem dX13_doTrade_92 : decode cX13_doTrade 92 = .ok (.bipush 123, 2) := by decide +kernel
theorem dX13_doTrade_94 : decode cX13_doTrade 94 = .ok (.bipush 6, 2) := by decide +kernel
theorem dX13_doTrade_96 : decode cX13_doTrade 96 = .ok (.iload_n 1, 1) := by decide +kernel
theorem dX13_doTrade_97 : decode cX13_doTrade 97 = .ok (.imul, 1) := by decide +kernel
theorem dX13_doTrade_98 : decode cX13_doTrade 98 = .ok (.iadd, 1) := by decide +kernel
theorem dX13_doTrade_99 : decode cX13_doTrade 99 = .ok (.iload 4, 2) := by decide +kernel
theorem dX13_doTrade_101 : decode cX13_doTrade 101 = .ok (.iadd, 1) := by decide +kernel
theorem dX13_doTrade_102 : decode cX13_doTrade 102 = .ok (.bipush 12, 2) := by decide +kernel
theorem dX13_doTrade_104 : decode cX13_doTrade 104 = .ok (.aload_n 0, 1) := by decide +kernel
theorem dX13_doTrade_105 : decode cX13_doTrade 105 = .ok (.iload_n 1, 1) := by decide +kernel
theorem dX13_doTrade_106 : decode cX13_doTrade 106 = .ok (.iload 4, 2) := by decide +kernel
theorem dX13_doTrade_108 : decode cX13_doTrade 108 = .ok (.invokevirtual 240, 3) := by decide +kernel
theorem dX13_doTrade_111 : decode cX13_doTrade 111 = .ok (.iload 6, 2) := by decide +kernel
theorem dX13_doTrade_113 : decode cX13_doTrade 113 = .ok (.iadd, 1) := by decide +kernel
theorem dX13_doTrade_114 : decode cX13_doTrade 114 = .ok (.invokestatic 283, 3) := by decide +kernel
theorem dX13_doTrade_117 : decode cX13_doTrade 117 = .ok (.iastore, 1) := by decide +kernel
theorem dX13_doTrade_118 : decode cX13_doTrade 118 = .ok (.return_, 1) := by decide +kernel
theorem bX13_doTrade_0 {G : Gt} {d bc bs : Nat} {Q : QT} {l : Ls} {z : List Value} {h : Hp} (k : (tAld 0 (tIld 1 (tIld 2 (tCV2 G d 0 0 11 mX13_haveOf (fun l z h => T G d bc bs mX13_doTrade 6 l z h Q))))) l z h) : T G d bc bs mX13_doTrade 0 l z h Q := by
  refine R_aload_n dX13_doTrade_0 rfl (fun l z h k => ?_) k
  refine R_iload_n dX13_doTrade_1 rfl (fun l z h k => ?_) k
  refine R_iload_n dX13_doTrade_2 rfl (fun l z h k => ?_) k
  exact R_cv2 (M := mX13_doTrade) (pc := 3) (bc := bc) (bs := bs) (cb := 0) (cs := 0) (M' := mX13_haveOf) dX13_doTrade_3 rfl (by decide) w_1779 w_144 w_1776 w_1778 w_73 (by decide +kernel) (fun _ _ _ k => k) k
theorem bX13_doTrade_6 {G : Gt} {d bc bs : Nat} {Q : QT} {l : Ls} {z : List Value} {h : Hp} (k : (tPush (.int 2) (tBn (fun x y => x / y) (tIst 5 (tAld 0 (tIld 3 (tIld 4 (tCV2 G d 0 0 11 mX13_haveOf (fun l z h => T G d bc bs mX13_doTrade 17 l z h Q)))))))) l z h) : T G d bc bs mX13_doTrade 6 l z h Q := by
  refine R_iconst dX13_doTrade_6 (by decide) (fun l z h k => ?_) k
  refine R_idiv dX13_doTrade_7 (fun l z h k => ?_) k
  refine R_istore dX13_doTrade_8 (by decide) (fun l z h k => ?_) k
  refine R_aload_n dX13_doTrade_10 rfl (fun l z h k => ?_) k
  refine R_iload_n dX13_doTrade_11 rfl (fun l z h k => ?_) k
  refine R_iload dX13_doTrade_12 (fun l z h k => ?_) k
  exact R_cv2 (M := mX13_doTrade) (pc := 14) (bc := bc) (bs := bs) (cb := 0) (cs := 0) (M' := mX13_haveOf) dX13_doTrade_14 rfl (by decide) w_1779 w_144 w_1776 w_1778 w_73 (by decide +kernel) (fun _ _ _ k => k) k
theorem bX13_doTrade_17 {G : Gt} {d bc bs : Nat} {Q : QT} {l : Ls} {z : List Value} {h : Hp} (k : (tPush (.int 2) (tBn (fun x y => x / y) (tIst 6 (tAld 0 (tGetf 11 14 (tPush (.int 123) (tPush (.int 6) (tIld 1 (tB (fun x y => x * y) (tB (fun x y => x + y) (tIld 2 (tB (fun x y => x + y) (tDup2 (tXald 0 (tIld 5 (tB (fun x y => x - y) (tXast 0 (tAld 0 (tGetf 11 14 (tPush (.int 123) (tPush (.int 6) (tIld 3 (tB (fun x y => x * y) (tB (fun x y => x + y) (tIld 4 (tB (fun x y => x + y) (tDup2 (tXald 0 (tIld 6 (tB (fun x y => x - y) (tXast 0 (tAld 0 (tGetf 11 14 (tPush (.int 123) (tPush (.int 6) (tIld 3 (tB (fun x y => x * y) (tB (fun x y => x + y) (tIld 2 (tB (fun x y => x + y) (tPush (.int 12) (tAld 0 (tIld 3 (tIld 2 (tCV2 G d 0 0 11 mX13_haveOf (fun l z h => T G d bc bs mX13_doTrade 81 l z h Q)))))))))))))))))))))))))))))))))))))))))))))) l z h) : T G d bc bs mX13_doTrade 17 l z h Q := by
  refine R_iconst dX13_doTrade_17 (by decide) (fun l z h k => ?_) k
  refine R_idiv dX13_doTrade_18 (fun l z h k => ?_) k
  refine R_istore dX13_doTrade_19 (by decide) (fun l z h k => ?_) k
  refine R_aload_n dX13_doTrade_21 rfl (fun l z h k => ?_) k
  refine R_getf (ci := 11) (f := 14) (C := RX13) (N := 49) (Tt := TX13) dX13_doTrade_22 rfl i_X13 (by decide) w_1481 (fun l z h k => ?_) k
  refine R_bipush dX13_doTrade_25 (by decide) (fun l z h k => ?_) k
  refine R_bipush dX13_doTrade_27 (by decide) (fun l z h k => ?_) k
  refine R_iload_n dX13_doTrade_29 rfl (fun l z h k => ?_) k
  refine R_imul dX13_doTrade_30 (fun l z h k => ?_) k
  refine R_iadd dX13_doTrade_31 (fun l z h k => ?_) k
  refine R_iload_n dX13_doTrade_32 rfl (fun l z h k => ?_) k
  refine R_iadd dX13_doTrade_33 (fun l z h k => ?_) k
  refine R_dup2 dX13_doTrade_34 (fun l z h k => ?_) k
  refine R_iaload dX13_doTrade_35 (fun l z h k => ?_) k
  refine R_iload dX13_doTrade_36 (fun l z h k => ?_) k
  refine R_isub dX13_doTrade_38 (fun l z h k => ?_) k
  refine R_iastore dX13_doTrade_39 (fun l z h k => ?_) k
  refine R_aload_n dX13_doTrade_40 rfl (fun l z h k => ?_) k
  refine R_getf (ci := 11) (f := 14) (C := RX13) (N := 49) (Tt := TX13) dX13_doTrade_41 rfl i_X13 (by decide) w_1481 (fun l z h k => ?_) k
  refine R_bipush dX13_doTrade_44 (by decide) (fun l z h k => ?_) k
  refine R_bipush dX13_doTrade_46 (by decide) (fun l z h k => ?_) k
  refine R_iload_n dX13_doTrade_48 rfl (fun l z h k => ?_) k
  refine R_imul dX13_doTrade_49 (fun l z h k => ?_) k
  refine R_iadd dX13_doTrade_50 (fun l z h k => ?_) k
  refine R_iload dX13_doTrade_51 (fun l z h k => ?_) k
  refine R_iadd dX13_doTrade_53 (fun l z h k => ?_) k
  refine R_dup2 dX13_doTrade_54 (fun l z h k => ?_) k
  refine R_iaload dX13_doTrade_55 (fun l z h k => ?_) k
  refine R_iload dX13_doTrade_56 (fun l z h k => ?_) k
  refine R_isub dX13_doTrade_58 (fun l z h k => ?_) k
  refine R_iastore dX13_doTrade_59 (fun l z h k => ?_) k
  refine R_aload_n dX13_doTrade_60 rfl (fun l z h k => ?_) k
  refine R_getf (ci := 11) (f := 14) (C := RX13) (N := 49) (Tt := TX13) dX13_doTrade_61 rfl i_X13 (by decide) w_1481 (fun l z h k => ?_) k
  refine R_bipush dX13_doTrade_64 (by decide) (fun l z h k => ?_) k
  refine R_bipush dX13_doTrade_66 (by decide) (fun l z h k => ?_) k
  refine R_iload_n dX13_doTrade_68 rfl (fun l z h k => ?_) k
  refine R_imul dX13_doTrade_69 (fun l z h k => ?_) k
  refine R_iadd dX13_doTrade_70 (fun l z h k => ?_) k
  refine R_iload_n dX13_doTrade_71 rfl (fun l z h k => ?_) k
  refine R_iadd dX13_doTrade_72 (fun l z h k => ?_) k
  refine R_bipush dX13_doTrade_73 (by decide) (fun l z h k => ?_) k
  refine R_aload_n dX13_doTrade_75 rfl (fun l z h k => ?_) k
  refine R_iload_n dX13_doTrade_76 rfl (fun l z h k => ?_) k
  refine R_iload_n dX13_doTrade_77 rfl (fun l z h k => ?_) k
  exact R_cv2 (M := mX13_doTrade) (pc := 78) (bc := bc) (bs := bs) (cb := 0) (cs := 0) (M' := mX13_haveOf) dX13_doTrade_78 rfl (by decide) w_1779 w_144 w_1776 w_1778 w_73 (by decide +kernel) (fun _ _ _ k => k) k
theorem bX13_doTrade_81 {G : Gt} {d bc bs : Nat} {Q : QT} {l : Ls} {z : List Value} {h : Hp} (k : (tIld 5 (tB (fun x y => x + y) (tCS2 G d 0 0 mX13_least (fun l z h => T G d bc bs mX13_doTrade 87 l z h Q)))) l z h) : T G d bc bs mX13_doTrade 81 l z h Q := by
  refine R_iload dX13_doTrade_81 (fun l z h k => ?_) k
  refine R_iadd dX13_doTrade_83 (fun l z h k => ?_) k
  exact R_cs2 (M := mX13_doTrade) (pc := 84) (bc := bc) (bs := bs) (cb := 0) (cs := 0) (M' := mX13_least) dX13_doTrade_84 (by decide) w_1869 w_144 w_1867 w_1868 (by decide +kernel) (fun _ _ _ k => k) k
theorem bX13_doTrade_87 {G : Gt} {d bc bs : Nat} {Q : QT} {l : Ls} {z : List Value} {h : Hp} (k : (tXast 0 (tAld 0 (tGetf 11 14 (tPush (.int 123) (tPush (.int 6) (tIld 1 (tB (fun x y => x * y) (tB (fun x y => x + y) (tIld 4 (tB (fun x y => x + y) (tPush (.int 12) (tAld 0 (tIld 1 (tIld 4 (tCV2 G d 0 0 11 mX13_haveOf (fun l z h => T G d bc bs mX13_doTrade 111 l z h Q)))))))))))))))) l z h) : T G d bc bs mX13_doTrade 87 l z h Q := by
  refine R_iastore dX13_doTrade_87 (fun l z h k => ?_) k
  refine R_aload_n dX13_doTrade_88 rfl (fun l z h k => ?_) k
  refine R_getf (ci := 11) (f := 14) (C := RX13) (N := 49) (Tt := TX13) dX13_doTrade_89 rfl i_X13 (by decide) w_1481 (fun l z h k => ?_) k
  refine R_bipush dX13_doTrade_92 (by decide) (fun l z h k => ?_) k
  refine R_bipush dX13_doTrade_94 (by decide) (fun l z h k => ?_) k
  refine R_iload_n dX13_doTrade_96 rfl (fun l z h k => ?_) k
  refine R_imul dX13_doTrade_97 (fun l z h k => ?_) k
  refine R_iadd dX13_doTrade_98 (fun l z h k => ?_) k
  refine R_iload dX13_doTrade_99 (fun l z h k => ?_) k
  refine R_iadd dX13_doTrade_101 (fun l z h k => ?_) k
  refine R_bipush dX13_doTrade_102 (by decide) (fun l z h k => ?_) k
  refine R_aload_n dX13_doTrade_104 rfl (fun l z h k => ?_) k
  refine R_iload_n dX13_doTrade_105 rfl (fun l z h k => ?_) k
  refine R_iload dX13_doTrade_106 (fun l z h k => ?_) k
  exact R_cv2 (M := mX13_doTrade) (pc := 108) (bc := bc) (bs := bs) (cb := 0) (cs := 0) (M' := mX13_haveOf) dX13_doTrade_108 rfl (by decide) w_1779 w_144 w_1776 w_1778 w_73 (by decide +kernel) (fun _ _ _ k => k) k
theorem bX13_doTrade_111 {G : Gt} {d bc bs : Nat} {Q : QT} {l : Ls} {z : List Value} {h : Hp} (k : (tIld 6 (tB (fun x y => x + y) (tCS2 G d 0 0 mX13_least (fun l z h => T G d bc bs mX13_doTrade 117 l z h Q)))) l z h) : T G d bc bs mX13_doTrade 111 l z h Q := by
  refine R_iload dX13_doTrade_111 (fun l z h k => ?_) k
  refine R_iadd dX13_doTrade_113 (fun l z h k => ?_) k
  exact R_cs2 (M := mX13_doTrade) (pc := 114) (bc := bc) (bs := bs) (cb := 0) (cs := 0) (M' := mX13_least) dX13_doTrade_114 (by decide) w_1869 w_144 w_1867 w_1868 (by decide +kernel) (fun _ _ _ k => k) k
theorem bX13_doTrade_117 {G : Gt} {d bc bs : Nat} {Q : QT} {l : Ls} {z : List Value} {h : Hp} (k : (tXast 0 (tRetV Q)) l z h) : T G d bc bs mX13_doTrade 117 l z h Q := by
  refine R_iastore dX13_doTrade_117 (fun l z h k => ?_) k
  exact R_vret dX13_doTrade_118 rfl k
theorem dX13_doPart_0 : decode cX13_doPart 0 = .ok (.aload_n 0, 1) := by decide +kernel
theorem dX13_doPart_1 : decode cX13_doPart 1 = .ok (.getfield 13, 3) := by decide +kernel
theorem dX13_doPart_4 : decode cX13_doPart 4 = .ok (.sipush 183, 3) := by decide +kernel
theorem dX13_doPart_7 : decode cX13_doPart 7 = .ok (.iload_n 1, 1) := by decide +kernel
theorem dX13_doPart_8 : decode cX13_doPart 8 = .ok (.iadd, 1) := by decide +kernel
theorem dX13_doPart_9 : decode cX13_doPart 9 = .ok (.iaload, 1) := by decide +kernel
theorem dX13_doPart_10 : decode cX13_doPart 10 = .ok (.iconst (-1), 1) := by decide +kernel
theorem dX13_doPart_11 : decode cX13_doPart 11 = .ok (.if_icmp .ne 4, 3) := by decide +kernel
theorem dX13_doPart_14 : decode cX13_doPart 14 = .ok (.return_, 1) := by decide +kernel
theorem dX13_doPart_15 : decode cX13_doPart 15 = .ok (.aload_n 0, 1) := by decide +kernel
theorem dX13_doPart_16 : decode cX13_doPart 16 = .ok (.getfield 13, 3) := by decide +kernel
theorem dX13_doPart_19 : decode cX13_doPart 19 = .ok (.sipush 183, 3) := by decide +kernel
theorem dX13_doPart_22 : decode cX13_doPart 22 = .ok (.aload_n 0, 1) := by decide +kernel
theorem dX13_doPart_23 : decode cX13_doPart 23 = .ok (.getfield 13, 3) := by decide +kernel
theorem dX13_doPart_26 : decode cX13_doPart 26 = .ok (.sipush 183, 3) := by decide +kernel
theorem dX13_doPart_29 : decode cX13_doPart 29 = .ok (.iload_n 1, 1) := by decide +kernel
theorem dX13_doPart_30 : decode cX13_doPart 30 = .ok (.iadd, 1) := by decide +kernel
theorem dX13_doPart_31 : decode cX13_doPart 31 = .ok (.iaload, 1) := by decide +kernel
theorem dX13_doPart_32 : decode cX13_doPart 32 = .ok (.iadd, 1) := by decide +kernel
theorem dX13_doPart_33 : decode cX13_doPart 33 = .ok (.iconst (-1), 1) := by decide +kernel
theorem dX13_doPart_34 : decode cX13_doPart 34 = .ok (.iastore, 1) := by decide +kernel
theorem dX13_doPart_35 : decode cX13_doPart 35 = .ok (.aload_n 0, 1) := by decide +kernel
theorem dX13_doPart_36 : decode cX13_doPart 36 = .ok (.getfield 13, 3) := by decide +kernel
theorem dX13_doPart_39 : decode cX13_doPart 39 = .ok (.sipush 183, 3) := by decide +kernel
theorem dX13_doPart_42 : decode cX13_doPart 42 = .ok (.iload_n 1, 1) := by decide +kernel
theorem dX13_doPart_43 : decode cX13_doPart 43 = .ok (.iadd, 1) := by decide +kernel
theorem dX13_doPart_44 : decode cX13_doPart 44 = .ok (.iconst (-1), 1) := by decide +kernel
theorem dX13_doPart_45 : decode cX13_doPart 45 = .ok (.iastore, 1) := by decide +kernel
theorem dX13_doPart_46 : decode cX13_doPart 46 = .ok (.return_, 1) := by decide +kernel
theorem bX13_doPart_0 {G : Gt} {d bc bs : Nat} {Q : QT} {l : Ls} {z : List Value} {h : Hp} (k : (tAld 0 (tGetf 11 14 (tPush (.int 183) (tIld 1 (tB (fun x y => x + y) (tXald 0 (tPush (.int (-1)) (tIf2 (fun x y => x = y) (fun l z h => T G d bc bs mX13_doPart 14 l z h Q) (fun l z h => T G d bc bs mX13_doPart 15 l z h Q))))))))) l z h) : T G d bc bs mX13_doPart 0 l z h Q := by
  refine R_aload_n dX13_doPart_0 rfl (fun l z h k => ?_) k
  refine R_getf (ci := 11) (f := 14) (C := RX13) (N := 49) (Tt := TX13) dX13_doPart_1 rfl i_X13 (by decide) w_1481 (fun l z h k => ?_) k
  refine R_sipush dX13_doPart_4 (by decide) (fun l z h k => ?_) k
  refine R_iload_n dX13_doPart_7 rfl (fun l z h k => ?_) k
  refine R_iadd dX13_doPart_8 (fun l z h k => ?_) k
  refine R_iaload dX13_doPart_9 (fun l z h k => ?_) k
  refine R_iconst dX13_doPart_10 (by decide) (fun l z h k => ?_) k
  exact R_icmp_ne dX13_doPart_11 (by decide) (fun _ _ _ k => k) (fun _ _ _ k => k) k
theorem bX13_doPart_14 {G : Gt} {d bc bs : Nat} {Q : QT} {l : Ls} {z : List Value} {h : Hp} (k : (tRetV Q) l z h) : T G d bc bs mX13_doPart 14 l z h Q := by
  exact R_vret dX13_doPart_14 rfl k
theorem bX13_doPart_15 {G : Gt} {d bc bs : Nat} {Q : QT} {l : Ls} {z : List Value} {h : Hp} (k : (tAld 0 (tGetf 11 14 (tPush (.int 183) (tAld 0 (tGetf 11 14 (tPush (.int 183) (tIld 1 (tB (fun x y => x + y) (tXald 0 (tB (fun x y => x + y) (tPush (.int (-1)) (tXast 0 (tAld 0 (tGetf 11 14 (tPush (.int 183) (tIld 1 (tB (fun x y => x + y) (tPush (.int (-1)) (tXast 0 (tRetV Q)))))))))))))))))))) l z h) : T G d bc bs mX13_doPart 15 l z h Q := by
  refine R_aload_n dX13_doPart_15 rfl (fun l z h k => ?_) k
  refine R_getf (ci := 11) (f := 14) (C := RX13) (N := 49) (Tt := TX13) dX13_doPart_16 rfl i_X13 (by decide) w_1481 (fun l z h k => ?_) k
  refine R_sipush dX13_doPart_19 (by decide) (fun l z h k => ?_) k
  refine R_aload_n dX13_doPart_22 rfl (fun l z h k => ?_) k
  refine R_getf (ci := 11) (f := 14) (C := RX13) (N := 49) (Tt := TX13) dX13_doPart_23 rfl i_X13 (by decide) w_1481 (fun l z h k => ?_) k
  refine R_sipush dX13_doPart_26 (by decide) (fun l z h k => ?_) k
  refine R_iload_n dX13_doPart_29 rfl (fun l z h k => ?_) k
  refine R_iadd dX13_doPart_30 (fun l z h k => ?_) k
  refine R_iaload dX13_doPart_31 (fun l z h k => ?_) k
  refine R_iadd dX13_doPart_32 (fun l z h k => ?_) k
  refine R_iconst dX13_doPart_33 (by decide) (fun l z h k => ?_) k
  refine R_iastore dX13_doPart_34 (fun l z h k => ?_) k
  refine R_aload_n dX13_doPart_35 rfl (fun l z h k => ?_) k
  refine R_getf (ci := 11) (f := 14) (C := RX13) (N := 49) (Tt := TX13) dX13_doPart_36 rfl i_X13 (by decide) w_1481 (fun l z h k => ?_) k
  refine R_sipush dX13_doPart_39 (by decide) (fun l z h k => ?_) k
  refine R_iload_n dX13_doPart_42 rfl (fun l z h k => ?_) k
  refine R_iadd dX13_doPart_43 (fun l z h k => ?_) k
  refine R_iconst dX13_doPart_44 (by decide) (fun l z h k => ?_) k
  refine R_iastore dX13_doPart_45 (fun l z h k => ?_) k
  exact R_vret dX13_doPart_46 rfl k
theorem dX13_doMeet_0 : decode cX13_doMeet 0 = .ok (.aload_n 0, 1) := by decide +kernel
theorem dX13_doMeet_1 : decode cX13_doMeet 1 = .ok (.getfield 13, 3) := by decide +kernel
theorem dX13_doMeet_4 : decode cX13_doMeet 4 = .ok (.sipush 183, 3) := by decide +kernel
theorem dX13_doMeet_7 : decode cX13_doMeet 7 = .ok (.iload_n 1, 1) := by decide +kernel
theorem dX13_doMeet_8 : decode cX13_doMeet 8 = .ok (.iadd, 1) := by decide +kernel
theorem dX13_doMeet_9 : decode cX13_doMeet 9 = .ok (.iload_n 2, 1) := by decide +kernel
theorem dX13_doMeet_10 : decode cX13_doMeet 10 = .ok (.iastore, 1) := by decide +kernel
theorem dX13_doMeet_11 : decode cX13_doMeet 11 = .ok (.aload_n 0, 1) := by decide +kernel
theorem dX13_doMeet_12 : decode cX13_doMeet 12 = .ok (.getfield 13, 3) := by decide +kernel
theorem dX13_doMeet_15 : decode cX13_doMeet 15 = .ok (.sipush 183, 3) := by decide +kernel
theorem dX13_doMeet_18 : decode cX13_doMeet 18 = .ok (.iload_n 2, 1) := by decide +kernel
theorem dX13_doMeet_19 : decode cX13_doMeet 19 = .ok (.iadd, 1) := by decide +kernel
theorem dX13_doMeet_20 : decode cX13_doMeet 20 = .ok (.iload_n 1, 1) := by decide +kernel
theorem dX13_doMeet_21 : decode cX13_doMeet 21 = .ok (.iastore, 1) := by decide +kernel
theorem dX13_doMeet_22 : decode cX13_doMeet 22 = .ok (.return_, 1) := by decide +kernel
theorem bX13_doMeet_0 {G : Gt} {d bc bs : Nat} {Q : QT} {l : Ls} {z : List Value} {h : Hp} (k : (tAld 0 (tGetf 11 14 (tPush (.int 183) (tIld 1 (tB (fun x y => x + y) (tIld 2 (tXast 0 (tAld 0 (tGetf 11 14 (tPush (.int 183) (tIld 2 (tB (fun x y => x + y) (tIld 1 (tXast 0 (tRetV Q))))))))))))))) l z h) : T G d bc bs mX13_doMeet 0 l z h Q := by
  refine R_aload_n dX13_doMeet_0 rfl (fun l z h k => ?_) k
  refine R_getf (ci := 11) (f := 14) (C := RX13) (N := 49) (Tt := TX13) dX13_doMeet_1 rfl i_X13 (by decide) w_1481 (fun l z h k => ?_) k
  refine R_sipush dX13_doMeet_4 (by decide) (fun l z h k => ?_) k
  refine R_iload_n dX13_doMeet_7 rfl (fun l z h k => ?_) k
  refine R_iadd dX13_doMeet_8 (fun l z h k => ?_) k
  refine R_iload_n dX13_doMeet_9 rfl (fun l z h k => ?_) k
  refine R_iastore dX13_doMeet_10 (fun l z h k => ?_) k
  refine R_aload_n dX13_doMeet_11 rfl (fun l z h k => ?_) k
  refine R_getf (ci := 11) (f := 14) (C := RX13) (N := 49) (Tt := TX13) dX13_doMeet_12 rfl i_X13 (by decide) w_1481 (fun l z h k => ?_) k
  refine R_sipush dX13_doMeet_15 (by decide) (fun l z h k => ?_) k
  refine R_iload_n dX13_doMeet_18 rfl (fun l z h k => ?_) k
  refine R_iadd dX13_doMeet_19 (fun l z h k => ?_) k
  refine R_iload_n dX13_doMeet_20 rfl (fun l z h k => ?_) k
  refine R_iastore dX13_doMeet_21 (fun l z h k => ?_) k
  exact R_vret dX13_doMeet_22 rfl k
theorem dX13_live_0 : decode cX13_live 0 = .ok (.iload_n 1, 1) := by decide +kernel
theorem dX13_live_1 : decode cX13_live 1 = .ok (.tableswitch 89 0 3 #[31, 65, 72, 78], 31) := by decide +kernel
theorem dX13_live_32 : decode cX13_live 32 = .ok (.aload_n 0, 1) := by decide +kernel
theorem dX13_live_33 : decode cX13_live 33 = .ok (.getfield 13, 3) := by decide +kernel
theorem dX13_live_36 : decode cX13_live 36 = .ok (.bipush 99, 2) := by decide +kernel
theorem dX13_live_38 : decode cX13_live 38 = .ok (.iload_n 2, 1) := by decide +kernel
theorem dX13_live_39 : decode cX13_live 39 = .ok (.iadd, 1) := by decide +kernel
theorem dX13_live_40 : decode cX13_live 40 = .ok (.iload_n 3, 1) := by decide +kernel
theorem dX13_live_41 : decode cX13_live 41 = .ok (.iastore, 1) := by decide +kernel
theorem dX13_live_42 : decode cX13_live 42 = .ok (.aload_n 0, 1) := by decide +kernel
theorem dX13_live_43 : decode cX13_live 43 = .ok (.getfield 13, 3) := by decide +kernel
theorem dX13_live_46 : decode cX13_live 46 = .ok (.bipush 107, 2) := by decide +kernel
theorem dX13_live_48 : decode cX13_live 48 = .ok (.iload_n 2, 1) := by decide +kernel
theorem dX13_live_49 : decode cX13_live 49 = .ok (.iadd, 1) := by decide +kernel
theorem dX13_live_50 : decode cX13_live 50 = .ok (.iconst 0, 1) := by decide +kernel
theorem dX13_live_51 : decode cX13_live 51 = .ok (.iastore, 1) := by decide +kernel
theorem dX13_live_52 : decode cX13_live 52 = .ok (.aload_n 0, 1) := by decide +kernel
theorem dX13_live_53 : decode cX13_live 53 = .ok (.getfield 13, 3) := by decide +kernel
theorem dX13_live_56 : decode cX13_live 56 = .ok (.bipush 115, 2) := by decide +kernel
theorem dX13_live_58 : decode cX13_live 58 = .ok (.iload_n 2, 1) := by decide +kernel
theorem dX13_live_59 : decode cX13_live 59 = .ok (.iadd, 1) := by decide +kernel
theorem dX13_live_60 : decode cX13_live 60 = .ok (.dup2, 1) := by decide +kernel
theorem dX13_live_61 : decode cX13_live 61 = .ok (.iaload, 1) := by decide +kernel
theorem dX13_live_62 : decode cX13_live 62 = .ok (.iconst 1, 1) := by decide +kernel
theorem dX13_live_63 : decode cX13_live 63 = .ok (.iadd, 1) := by decide +kernel
theorem dX13_live_64 : decode cX13_live 64 = .ok (.iastore, 1) := by decide +kernel
theorem dX13_live_65 : decode cX13_live 65 = .ok (.return_, 1) := by decide +kernel
theorem dX13_live_66 : decode cX13_live 66 = .ok (.aload_n 0, 1) := by decide +kernel
theorem dX13_live_67 : decode cX13_live 67 = .ok (.iload_n 2, 1) := by decide +kernel
theorem dX13_live_68 : decode cX13_live 68 = .ok (.iload_n 3, 1) := by decide +kernel
theorem dX13_live_69 : decode cX13_live 69 = .ok (.invokevirtual 286, 3) := by decide +kernel
theorem dX13_live_72 : decode cX13_live 72 = .ok (.return_, 1) := by decide +kernel
theorem dX13_live_73 : decode cX13_live 73 = .ok (.aload_n 0, 1) := by decide +kernel
theorem dX13_live_74 : decode cX13_live 74 = .ok (.iload_n 2, 1) := by decide +kernel
theorem dX13_live_75 : decode cX13_live 75 = .ok (.invokevirtual 290, 3) := by decide +kernel
theorem dX13_live_78 : decode cX13_live 78 = .ok (.return_, 1) := by decide +kernel
theorem dX13_live_79 : decode cX13_live 79 = .ok (.aload_n 0, 1) := by decide +kernel
theorem dX13_live_80 : decode cX13_live 80 = .ok (.iload_n 2, 1) := by decide +kernel
theorem dX13_live_81 : decode cX13_live 81 = .ok (.iload_n 3, 1) := by decide +kernel
theorem dX13_live_82 : decode cX13_live 82 = .ok (.iload 4, 2) := by decide +kernel
theorem dX13_live_84 : decode cX13_live 84 = .ok (.iload 5, 2) := by decide +kernel
theorem dX13_live_86 : decode cX13_live 86 = .ok (.invokevirtual 293, 3) := by decide +kernel
theorem dX13_live_89 : decode cX13_live 89 = .ok (.return_, 1) := by decide +kernel
theorem dX13_live_90 : decode cX13_live 90 = .ok (.aload_n 0, 1) := by decide +kernel
theorem dX13_live_91 : decode cX13_live 91 = .ok (.getfield 13, 3) := by decide +kernel
theorem dX13_live_94 : decode cX13_live 94 = .ok (.sipush 171, 3) := by decide +kernel
theorem dX13_live_97 : decode cX13_live 97 = .ok (.bipush 6, 2) := by decide +kernel
theorem dX13_live_99 : decode cX13_live 99 = .ok (.iload_n 2, 1) := by decide +kernel
theorem dX13_live_100 : decode cX13_live 100 = .ok (.imul, 1) := by decide +kernel
theorem dX13_live_101 : decode cX13_live 101 = .ok (.iadd, 1) := by decide +kernel
theorem dX13_live_102 : decode cX13_live 102 = .ok (.iload_n 3, 1) := by decide +kernel
theorem dX13_live_103 : decode cX13_live 103 = .ok (.iadd, 1) := by decide +kernel
theorem dX13_live_104 : decode cX13_live 104 = .ok (.iload 4, 2) := by decide +kernel
theorem dX13_live_106 : decode cX13_live 106 = .ok (.iastore, 1) := by decide +kernel
theorem dX13_live_107 : decode cX13_live 107 = .ok (.return_, 1) := by decide +kernel
theorem bX13_live_0 {G : Gt} {d bc bs : Nat} {Q : QT} {l : Ls} {z : List Value} {h : Hp} (k : (tIld 1 (tSw 0 [32, 66, 73, 79] 90 (fun t l z h => T G d bc bs mX13_live t l z h Q))) l z h) : T G d bc bs mX13_live 0 l z h Q := by
  refine R_iload_n dX13_live_0 rfl (fun l z h k => ?_) k
  exact R_table dX13_live_1 (by decide) (by decide) (by decide) (by decide) (by decide) (fun _ _ _ _ k => k) k
theorem bX13_live_32 {G : Gt} {d bc bs : Nat} {Q : QT} {l : Ls} {z : List Value} {h : Hp} (k : (tAld 0 (tGetf 11 14 (tPush (.int 99) (tIld 2 (tB (fun x y => x + y) (tIld 3 (tXast 0 (tAld 0 (tGetf 11 14 (tPush (.int 107) (tIld 2 (tB (fun x y => x + y) (tPush (.int 0) (tXast 0 (tAld 0 (tGetf 11 14 (tPush (.int 115) (tIld 2 (tB (fun x y => x + y) (tDup2 (tXald 0 (tPush (.int 1) (tB (fun x y => x + y) (tXast 0 (tRetV Q))))))))))))))))))))))))) l z h) : T G d bc bs mX13_live 32 l z h Q := by
  refine R_aload_n dX13_live_32 rfl (fun l z h k => ?_) k
  refine R_getf (ci := 11) (f := 14) (C := RX13) (N := 49) (Tt := TX13) dX13_live_33 rfl i_X13 (by decide) w_1481 (fun l z h k => ?_) k
  refine R_bipush dX13_live_36 (by decide) (fun l z h k => ?_) k
  refine R_iload_n dX13_live_38 rfl (fun l z h k => ?_) k
  refine R_iadd dX13_live_39 (fun l z h k => ?_) k
  refine R_iload_n dX13_live_40 rfl (fun l z h k => ?_) k
  refine R_iastore dX13_live_41 (fun l z h k => ?_) k
  refine R_aload_n dX13_live_42 rfl (fun l z h k => ?_) k
  refine R_getf (ci := 11) (f := 14) (C := RX13) (N := 49) (Tt := TX13) dX13_live_43 rfl i_X13 (by decide) w_1481 (fun l z h k => ?_) k
  refine R_bipush dX13_live_46 (by decide) (fun l z h k => ?_) k
  refine R_iload_n dX13_live_48 rfl (fun l z h k => ?_) k
  refine R_iadd dX13_live_49 (fun l z h k => ?_) k
  refine R_iconst dX13_live_50 (by decide) (fun l z h k => ?_) k
  refine R_iastore dX13_live_51 (fun l z h k => ?_) k
  refine R_aload_n dX13_live_52 rfl (fun l z h k => ?_) k
  refine R_getf (ci := 11) (f := 14) (C := RX13) (N := 49) (Tt := TX13) dX13_live_53 rfl i_X13 (by decide) w_1481 (fun l z h k => ?_) k
  refine R_bipush dX13_live_56 (by decide) (fun l z h k => ?_) k
  refine R_iload_n dX13_live_58 rfl (fun l z h k => ?_) k
  refine R_iadd dX13_live_59 (fun l z h k => ?_) k
  refine R_dup2 dX13_live_60 (fun l z h k => ?_) k
  refine R_iaload dX13_live_61 (fun l z h k => ?_) k
  refine R_iconst dX13_live_62 (by decide) (fun l z h k => ?_) k
  refine R_iadd dX13_live_63 (fun l z h k => ?_) k
  refine R_iastore dX13_live_64 (fun l z h k => ?_) k
  exact R_vret dX13_live_65 rfl k
theorem bX13_live_66 {G : Gt} {d bc bs : Nat} {Q : QT} {l : Ls} {z : List Value} {h : Hp} (k : (tAld 0 (tIld 2 (tIld 3 (tCV2 G d 0 0 11 mX13_doMeet (fun l z h => T G d bc bs mX13_live 72 l z h Q))))) l z h) : T G d bc bs mX13_live 66 l z h Q := by
  refine R_aload_n dX13_live_66 rfl (fun l z h k => ?_) k
  refine R_iload_n dX13_live_67 rfl (fun l z h k => ?_) k
  refine R_iload_n dX13_live_68 rfl (fun l z h k => ?_) k
  exact R_cv2 (M := mX13_live) (pc := 69) (bc := bc) (bs := bs) (cb := 0) (cs := 0) (M' := mX13_doMeet) dX13_live_69 rfl (by decide) w_1858 w_144 w_1855 w_1857 w_87 (by decide +kernel) (fun _ _ _ k => k) k
theorem bX13_live_72 {G : Gt} {d bc bs : Nat} {Q : QT} {l : Ls} {z : List Value} {h : Hp} (k : (tRetV Q) l z h) : T G d bc bs mX13_live 72 l z h Q := by
  exact R_vret dX13_live_72 rfl k
theorem bX13_live_73 {G : Gt} {d bc bs : Nat} {Q : QT} {l : Ls} {z : List Value} {h : Hp} (k : (tAld 0 (tIld 2 (tCV1 G d 0 0 11 mX13_doPart (fun l z h => T G d bc bs mX13_live 78 l z h Q)))) l z h) : T G d bc bs mX13_live 73 l z h Q := by
  refine R_aload_n dX13_live_73 rfl (fun l z h k => ?_) k
  refine R_iload_n dX13_live_74 rfl (fun l z h k => ?_) k
  exact R_cv1 (M := mX13_live) (pc := 75) (bc := bc) (bs := bs) (cb := 0) (cs := 0) (M' := mX13_doPart) dX13_live_75 rfl (by decide) w_1862 w_144 w_1859 w_1861 w_88 (by decide +kernel) (fun _ _ _ k => k) k
theorem bX13_live_78 {G : Gt} {d bc bs : Nat} {Q : QT} {l : Ls} {z : List Value} {h : Hp} (k : (tRetV Q) l z h) : T G d bc bs mX13_live 78 l z h Q := by
  exact R_vret dX13_live_78 rfl k
theorem bX13_live_79 {G : Gt} {d bc bs : Nat} {Q : QT} {l : Ls} {z : List Value} {h : Hp} (k : (tAld 0 (tIld 2 (tIld 3 (tIld 4 (tIld 5 (tCV4 G d 0 0 11 mX13_doTrade (fun l z h => T G d bc bs mX13_live 89 l z h Q))))))) l z h) : T G d bc bs mX13_live 79 l z h Q := by
  refine R_aload_n dX13_live_79 rfl (fun l z h k => ?_) k
  refine R_iload_n dX13_live_80 rfl (fun l z h k => ?_) k
  refine R_iload_n dX13_live_81 rfl (fun l z h k => ?_) k
  refine R_iload dX13_live_82 (fun l z h k => ?_) k
  refine R_iload dX13_live_84 (fun l z h k => ?_) k
  exact R_cv4 (M := mX13_live) (pc := 86) (bc := bc) (bs := bs) (cb := 0) (cs := 0) (M' := mX13_doTrade) dX13_live_86 rfl (by decide) w_1866 w_144 w_1863 w_1865 w_89 (by decide +kernel) (fun _ _ _ k => k) k
theorem bX13_live_89 {G : Gt} {d bc bs : Nat} {Q : QT} {l : Ls} {z : List Value} {h : Hp} (k : (tRetV Q) l z h) : T G d bc bs mX13_live 89 l z h Q := by
  exact R_vret dX13_live_89 rfl k
theorem bX13_live_90 {G : Gt} {d bc bs : Nat} {Q : QT} {l : Ls} {z : List Value} {h : Hp} (k : (tAld 0 (tGetf 11 14 (tPush (.int 171) (tPush (.int 6) (tIld 2 (tB (fun x y => x * y) (tB (fun x y => x + y) (tIld 3 (tB (fun x y => x + y) (tIld 4 (tXast 0 (tRetV Q)))))))))))) l z h) : T G d bc bs mX13_live 90 l z h Q := by
  refine R_aload_n dX13_live_90 rfl (fun l z h k => ?_) k
  refine R_getf (ci := 11) (f := 14) (C := RX13) (N := 49) (Tt := TX13) dX13_live_91 rfl i_X13 (by decide) w_1481 (fun l z h k => ?_) k
  refine R_sipush dX13_live_94 (by decide) (fun l z h k => ?_) k
  refine R_bipush dX13_live_97 (by decide) (fun l z h k => ?_) k
  refine R_iload_n dX13_live_99 rfl (fun l z h k => ?_) k
  refine R_imul dX13_live_100 (fun l z h k => ?_) k
  refine R_iadd dX13_live_101 (fun l z h k => ?_) k
  refine R_iload_n dX13_live_102 rfl (fun l z h k => ?_) k
  refine R_iadd dX13_live_103 (fun l z h k => ?_) k
  refine R_iload dX13_live_104 (fun l z h k => ?_) k
  refine R_iastore dX13_live_106 (fun l z h k => ?_) k
  exact R_vret dX13_live_107 rfl k
theorem dX13_act_0 : decode cX13_act 0 = .ok (.aload_n 0, 1) := by decide +kernel
theorem dX13_act_1 : decode cX13_act 1 = .ok (.iload_n 1, 1) := by decide +kernel
theorem dX13_act_2 : decode cX13_act 2 = .ok (.iload_n 2, 1) := by decide +kernel
theorem dX13_act_3 : decode cX13_act 3 = .ok (.iload_n 3, 1) := by decide +kernel
theorem dX13_act_4 : decode cX13_act 4 = .ok (.iload 4, 2) := by decide +kernel
theorem dX13_act_6 : decode cX13_act 6 = .ok (.iload 5, 2) := by decide +kernel
theorem dX13_act_8 : decode cX13_act 8 = .ok (.invokevirtual 297, 3) := by decide +kernel
theorem dX13_act_11 : decode cX13_act 11 = .ok (.istore 6, 2) := by decide +kernel
theorem dX13_act_13 : decode cX13_act 13 = .ok (.iload 6, 2) := by decide +kernel
theorem dX13_act_15 : decode cX13_act 15 = .ok (.ifCond .eq 6, 3) := by decide +kernel
theorem dX13_act_18 : decode cX13_act 18 = .ok (.iload 6, 2) := by decide +kernel
theorem dX13_act_20 : decode cX13_act 20 = .ok (.ireturn, 1) := by decide +kernel
theorem dX13_act_21 : decode cX13_act 21 = .ok (.aload_n 0, 1) := by decide +kernel
theorem dX13_act_22 : decode cX13_act 22 = .ok (.invokevirtual 301, 3) := by decide +kernel
theorem dX13_act_25 : decode cX13_act 25 = .ok (.aload_n 0, 1) := by decide +kernel
theorem dX13_act_26 : decode cX13_act 26 = .ok (.iload_n 1, 1) := by decide +kernel
theorem dX13_act_27 : decode cX13_act 27 = .ok (.iload_n 2, 1) := by decide +kernel
theorem dX13_act_28 : decode cX13_act 28 = .ok (.iload_n 3, 1) := by decide +kernel
theorem dX13_act_29 : decode cX13_act 29 = .ok (.iload 4, 2) := by decide +kernel
theorem dX13_act_31 : decode cX13_act 31 = .ok (.iload 5, 2) := by decide +kernel
theorem dX13_act_33 : decode cX13_act 33 = .ok (.invokevirtual 304, 3) := by decide +kernel
theorem dX13_act_36 : decode cX13_act 36 = .ok (.iconst 0, 1) := by decide +kernel
theorem dX13_act_37 : decode cX13_act 37 = .ok (.ireturn, 1) := by decide +kernel
theorem bX13_act_0 {G : Gt} {d bc bs : Nat} {Q : QT} {l : Ls} {z : List Value} {h : Hp} (k : (tAld 0 (tIld 1 (tIld 2 (tIld 3 (tIld 4 (tIld 5 (tCV5 G d 0 0 11 mX13_why (fun l z h => T G d bc bs mX13_act 11 l z h Q)))))))) l z h) : T G d bc bs mX13_act 0 l z h Q := by
  refine R_aload_n dX13_act_0 rfl (fun l z h k => ?_) k
  refine R_iload_n dX13_act_1 rfl (fun l z h k => ?_) k
  refine R_iload_n dX13_act_2 rfl (fun l z h k => ?_) k
  refine R_iload_n dX13_act_3 rfl (fun l z h k => ?_) k
  refine R_iload dX13_act_4 (fun l z h k => ?_) k
  refine R_iload dX13_act_6 (fun l z h k => ?_) k
  exact R_cv5 (M := mX13_act) (pc := 8) (bc := bc) (bs := bs) (cb := 0) (cs := 0) (M' := mX13_why) dX13_act_8 rfl (by decide) w_1835 w_144 w_1832 w_1834 w_82 (by decide +kernel) (fun _ _ _ k => k) k
theorem bX13_act_11 {G : Gt} {d bc bs : Nat} {Q : QT} {l : Ls} {z : List Value} {h : Hp} (k : (tIst 6 (tIld 6 (tIf (fun x => x = 0) (fun l z h => T G d bc bs mX13_act 21 l z h Q) (fun l z h => T G d bc bs mX13_act 18 l z h Q)))) l z h) : T G d bc bs mX13_act 11 l z h Q := by
  refine R_istore dX13_act_11 (by decide) (fun l z h k => ?_) k
  refine R_iload dX13_act_13 (fun l z h k => ?_) k
  exact R_if_eq dX13_act_15 (by decide) (fun _ _ _ k => k) (fun _ _ _ k => k) k
theorem bX13_act_18 {G : Gt} {d bc bs : Nat} {Q : QT} {l : Ls} {z : List Value} {h : Hp} (k : (tIld 6 (tRetI Q)) l z h) : T G d bc bs mX13_act 18 l z h Q := by
  refine R_iload dX13_act_18 (fun l z h k => ?_) k
  exact R_iret dX13_act_20 rfl k
theorem bX13_act_21 {G : Gt} {d bc bs : Nat} {Q : QT} {l : Ls} {z : List Value} {h : Hp} (k : (tAld 0 (tCV0 G d 0 0 11 mX13_snap (fun l z h => T G d bc bs mX13_act 25 l z h Q))) l z h) : T G d bc bs mX13_act 21 l z h Q := by
  refine R_aload_n dX13_act_21 rfl (fun l z h k => ?_) k
  exact R_cv0 (M := mX13_act) (pc := 22) (bc := bc) (bs := bs) (cb := 0) (cs := 0) (M' := mX13_snap) dX13_act_22 rfl (by decide) w_1850 w_144 w_1847 w_1849 w_85 (by decide +kernel) (fun _ _ _ k => k) k
theorem bX13_act_25 {G : Gt} {d bc bs : Nat} {Q : QT} {l : Ls} {z : List Value} {h : Hp} (k : (tAld 0 (tIld 1 (tIld 2 (tIld 3 (tIld 4 (tIld 5 (tCV5 G d 0 0 11 mX13_live (fun l z h => T G d bc bs mX13_act 36 l z h Q)))))))) l z h) : T G d bc bs mX13_act 25 l z h Q := by
  refine R_aload_n dX13_act_25 rfl (fun l z h k => ?_) k
  refine R_iload_n dX13_act_26 rfl (fun l z h k => ?_) k
  refine R_iload_n dX13_act_27 rfl (fun l z h k => ?_) k
  refine R_iload_n dX13_act_28 rfl (fun l z h k => ?_) k
  refine R_iload dX13_act_29 (fun l z h k => ?_) k
  refine R_iload dX13_act_31 (fun l z h k => ?_) k
  exact R_cv5 (M := mX13_act) (pc := 33) (bc := bc) (bs := bs) (cb := 0) (cs := 0) (M' := mX13_live) dX13_act_33 rfl (by decide) w_1854 w_144 w_1851 w_1853 w_86 (by decide +kernel) (fun _ _ _ k => k) k
theorem bX13_act_36 {G : Gt} {d bc bs : Nat} {Q : QT} {l : Ls} {z : List Value} {h : Hp} (k : (tPush (.int 0) (tRetI Q)) l z h) : T G d bc bs mX13_act 36 l z h Q := by
  refine R_iconst dX13_act_36 (by decide) (fun l z h k => ?_) k
  exact R_iret dX13_act_37 rfl k
theorem dX13_go__0 : decode cX13_go_ 0 = .ok (.aload_n 0, 1) := by decide +kernel
theorem dX13_go__1 : decode cX13_go_ 1 = .ok (.iconst 0, 1) := by decide +kernel
theorem dX13_go__2 : decode cX13_go_ 2 = .ok (.putfield 85, 3) := by decide +kernel
theorem dX13_go__5 : decode cX13_go_ 5 = .ok (.aload_n 0, 1) := by decide +kernel
theorem dX13_go__6 : decode cX13_go_ 6 = .ok (.iload_n 1, 1) := by decide +kernel
theorem dX13_go__7 : decode cX13_go_ 7 = .ok (.invokevirtual 256, 3) := by decide +kernel
theorem dX13_go__10 : decode cX13_go_ 10 = .ok (.ifCond .eq 24, 3) := by decide +kernel
theorem dX13_go__13 : decode cX13_go_ 13 = .ok (.iload_n 2, 1) := by decide +kernel
theorem dX13_go__14 : decode cX13_go_ 14 = .ok (.iconst 0, 1) := by decide +kernel
theorem dX13_go__15 : decode cX13_go_ 15 = .ok (.iconst 2, 1) := by decide +kernel
theorem dX13_go__16 : decode cX13_go_ 16 = .ok (.invokestatic 152, 3) := by decide +kernel
theorem dX13_go__19 : decode cX13_go_ 19 = .ok (.ifCond .eq 15, 3) := by decide +kernel
theorem dX13_go__22 : decode cX13_go_ 22 = .ok (.aload_n 0, 1) := by decide +kernel
theorem dX13_go__23 : decode cX13_go_ 23 = .ok (.iconst 0, 1) := by decide +kernel
theorem dX13_go__24 : decode cX13_go_ 24 = .ok (.iload_n 1, 1) := by decide +kernel
theorem dX13_go__25 : decode cX13_go_ 25 = .ok (.iload_n 2, 1) := by decide +kernel
theorem dX13_go__26 : decode cX13_go_ 26 = .ok (.iconst 0, 1) := by decide +kernel
theorem dX13_go__27 : decode cX13_go_ 27 = .ok (.iconst 0, 1) := by decide +kernel
theorem dX13_go__28 : decode cX13_go_ 28 = .ok (.invokevirtual 308, 3) := by decide +kernel
theorem dX13_go__31 : decode cX13_go_ 31 = .ok (.goto 4, 3) := by decide +kernel
theorem dX13_go__34 : decode cX13_go_ 34 = .ok (.iconst (-1), 1) := by decide +kernel
theorem dX13_go__35 : decode cX13_go_ 35 = .ok (.ireturn, 1) := by decide +kernel
theorem bX13_go__0 {G : Gt} {d bc bs : Nat} {Q : QT} {l : Ls} {z : List Value} {h : Hp} (k : (tAld 0 (tPush (.int 0) (tPutf isI 11 0 (tAld 0 (tIld 1 (tCV1 G d 0 0 11 mX13_isPerson (fun l z h => T G d bc bs mX13_go_ 10 l z h Q))))))) l z h) : T G d bc bs mX13_go_ 0 l z h Q := by
  refine R_aload_n dX13_go__0 rfl (fun l z h k => ?_) k
  refine R_iconst dX13_go__1 (by decide) (fun l z h k => ?_) k
  refine R_putf (ci := 11) (f := 0) (C := RX13) (N := 49) (Tt := TX13) tyX13 tyX13_ok nmX13 dX13_go__2 rfl i_X13 (by decide) w_1467 rfl (tyX13_ok 0 (by decide)) p_int (fun l z h k => ?_) k
  refine R_aload_n dX13_go__5 rfl (fun l z h k => ?_) k
  refine R_iload_n dX13_go__6 rfl (fun l z h k => ?_) k
  exact R_cv1 (M := mX13_go_) (pc := 7) (bc := bc) (bs := bs) (cb := 0) (cs := 0) (M' := mX13_isPerson) dX13_go__7 rfl (by decide) w_1767 w_144 w_1764 w_1766 w_70 (by decide +kernel) (fun _ _ _ k => k) k
theorem bX13_go__10 {G : Gt} {d bc bs : Nat} {Q : QT} {l : Ls} {z : List Value} {h : Hp} (k : (tIf (fun x => x = 0) (fun l z h => T G d bc bs mX13_go_ 34 l z h Q) (fun l z h => T G d bc bs mX13_go_ 13 l z h Q)) l z h) : T G d bc bs mX13_go_ 10 l z h Q := by
  exact R_if_eq dX13_go__10 (by decide) (fun _ _ _ k => k) (fun _ _ _ k => k) k
theorem bX13_go__13 {G : Gt} {d bc bs : Nat} {Q : QT} {l : Ls} {z : List Value} {h : Hp} (k : (tIld 2 (tPush (.int 0) (tPush (.int 2) (tCS3 G d 0 0 mX13_isIn (fun l z h => T G d bc bs mX13_go_ 19 l z h Q))))) l z h) : T G d bc bs mX13_go_ 13 l z h Q := by
  refine R_iload_n dX13_go__13 rfl (fun l z h k => ?_) k
  refine R_iconst dX13_go__14 (by decide) (fun l z h k => ?_) k
  refine R_iconst dX13_go__15 (by decide) (fun l z h k => ?_) k
  exact R_cs3 (M := mX13_go_) (pc := 16) (bc := bc) (bs := bs) (cb := 0) (cs := 0) (M' := mX13_isIn) dX13_go__16 (by decide) w_1711 w_144 w_1709 w_1710 (by decide +kernel) (fun _ _ _ k => k) k
theorem bX13_go__19 {G : Gt} {d bc bs : Nat} {Q : QT} {l : Ls} {z : List Value} {h : Hp} (k : (tIf (fun x => x = 0) (fun l z h => T G d bc bs mX13_go_ 34 l z h Q) (fun l z h => T G d bc bs mX13_go_ 22 l z h Q)) l z h) : T G d bc bs mX13_go_ 19 l z h Q := by
  exact R_if_eq dX13_go__19 (by decide) (fun _ _ _ k => k) (fun _ _ _ k => k) k
theorem bX13_go__22 {G : Gt} {d bc bs : Nat} {Q : QT} {l : Ls} {z : List Value} {h : Hp} (k : (tAld 0 (tPush (.int 0) (tIld 1 (tIld 2 (tPush (.int 0) (tPush (.int 0) (tCV5 G d 0 0 11 mX13_act (fun l z h => T G d bc bs mX13_go_ 31 l z h Q)))))))) l z h) : T G d bc bs mX13_go_ 22 l z h Q := by
  refine R_aload_n dX13_go__22 rfl (fun l z h k => ?_) k
  refine R_iconst dX13_go__23 (by decide) (fun l z h k => ?_) k
  refine R_iload_n dX13_go__24 rfl (fun l z h k => ?_) k
  refine R_iload_n dX13_go__25 rfl (fun l z h k => ?_) k
  refine R_iconst dX13_go__26 (by decide) (fun l z h k => ?_) k
  refine R_iconst dX13_go__27 (by decide) (fun l z h k => ?_) k
  exact R_cv5 (M := mX13_go_) (pc := 28) (bc := bc) (bs := bs) (cb := 0) (cs := 0) (M' := mX13_act) dX13_go__28 rfl (by decide) w_1831 w_144 w_1828 w_1830 w_81 (by decide +kernel) (fun _ _ _ k => k) k
theorem bX13_go__31 {G : Gt} {d bc bs : Nat} {Q : QT} {l : Ls} {z : List Value} {h : Hp} (k : (fun l z h => T G d bc bs mX13_go_ 35 l z h Q) l z h) : T G d bc bs mX13_go_ 31 l z h Q := by
  exact R_goto dX13_go__31 (by decide) (fun _ _ _ k => k) k
theorem bX13_go__34 {G : Gt} {d bc bs : Nat} {Q : QT} {l : Ls} {z : List Value} {h : Hp} (k : (tPush (.int (-1)) ((fun l z h => T G d bc bs mX13_go_ 35 l z h Q))) l z h) : T G d bc bs mX13_go_ 34 l z h Q := by
  refine R_iconst dX13_go__34 (by decide) (fun l z h k => ?_) k
  exact k
theorem bX13_go__35 {G : Gt} {d bc bs : Nat} {Q : QT} {l : Ls} {z : List Value} {h : Hp} (k : (tRetI Q) l z h) : T G d bc bs mX13_go_ 35 l z h Q := by
  exact R_iret dX13_go__35 rfl k
theorem dX13_join_0 : decode cX13_join 0 = .ok (.aload_n 0, 1) := by decide +kernel
theorem dX13_join_1 : decode cX13_join 1 = .ok (.iconst 0, 1) := by decide +kernel
theorem dX13_join_2 : decode cX13_join 2 = .ok (.putfield 85, 3) := by decide +kernel
theorem dX13_join_5 : decode cX13_join 5 = .ok (.aload_n 0, 1) := by decide +kernel
theorem dX13_join_6 : decode cX13_join 6 = .ok (.iload_n 1, 1) := by decide +kernel
theorem dX13_join_7 : decode cX13_join 7 = .ok (.invokevirtual 256, 3) := by decide +kernel
theorem dX13_join_10 : decode cX13_join 10 = .ok (.ifCond .eq 23, 3) := by decide +kernel
theorem dX13_join_13 : decode cX13_join 13 = .ok (.aload_n 0, 1) := by decide +kernel
theorem dX13_join_14 : decode cX13_join 14 = .ok (.iload_n 2, 1) := by decide +kernel
theorem dX13_join_15 : decode cX13_join 15 = .ok (.invokevirtual 256, 3) := by decide +kernel
theorem dX13_join_18 : decode cX13_join 18 = .ok (.ifCond .eq 15, 3) := by decide +kernel
theorem dX13_join_21 : decode cX13_join 21 = .ok (.aload_n 0, 1) := by decide +kernel
theorem dX13_join_22 : decode cX13_join 22 = .ok (.iconst 1, 1) := by decide +kernel
theorem dX13_join_23 : decode cX13_join 23 = .ok (.iload_n 1, 1) := by decide +kernel
theorem dX13_join_24 : decode cX13_join 24 = .ok (.iload_n 2, 1) := by decide +kernel
theorem dX13_join_25 : decode cX13_join 25 = .ok (.iconst 0, 1) := by decide +kernel
theorem dX13_join_26 : decode cX13_join 26 = .ok (.iconst 0, 1) := by decide +kernel
theorem dX13_join_27 : decode cX13_join 27 = .ok (.invokevirtual 308, 3) := by decide +kernel
theorem dX13_join_30 : decode cX13_join 30 = .ok (.goto 4, 3) := by decide +kernel
theorem dX13_join_33 : decode cX13_join 33 = .ok (.iconst (-1), 1) := by decide +kernel
theorem dX13_join_34 : decode cX13_join 34 = .ok (.ireturn, 1) := by decide +kernel
theorem bX13_join_0 {G : Gt} {d bc bs : Nat} {Q : QT} {l : Ls} {z : List Value} {h : Hp} (k : (tAld 0 (tPush (.int 0) (tPutf isI 11 0 (tAld 0 (tIld 1 (tCV1 G d 0 0 11 mX13_isPerson (fun l z h => T G d bc bs mX13_join 10 l z h Q))))))) l z h) : T G d bc bs mX13_join 0 l z h Q := by
  refine R_aload_n dX13_join_0 rfl (fun l z h k => ?_) k
  refine R_iconst dX13_join_1 (by decide) (fun l z h k => ?_) k
  refine R_putf (ci := 11) (f := 0) (C := RX13) (N := 49) (Tt := TX13) tyX13 tyX13_ok nmX13 dX13_join_2 rfl i_X13 (by decide) w_1467 rfl (tyX13_ok 0 (by decide)) p_int (fun l z h k => ?_) k
  refine R_aload_n dX13_join_5 rfl (fun l z h k => ?_) k
  refine R_iload_n dX13_join_6 rfl (fun l z h k => ?_) k
  exact R_cv1 (M := mX13_join) (pc := 7) (bc := bc) (bs := bs) (cb := 0) (cs := 0) (M' := mX13_isPerson) dX13_join_7 rfl (by decide) w_1767 w_144 w_1764 w_1766 w_70 (by decide +kernel) (fun _ _ _ k => k) k
theorem bX13_join_10 {G : Gt} {d bc bs : Nat} {Q : QT} {l : Ls} {z : List Value} {h : Hp} (k : (tIf (fun x => x = 0) (fun l z h => T G d bc bs mX13_join 33 l z h Q) (fun l z h => T G d bc bs mX13_join 13 l z h Q)) l z h) : T G d bc bs mX13_join 10 l z h Q := by
  exact R_if_eq dX13_join_10 (by decide) (fun _ _ _ k => k) (fun _ _ _ k => k) k
theorem bX13_join_13 {G : Gt} {d bc bs : Nat} {Q : QT} {l : Ls} {z : List Value} {h : Hp} (k : (tAld 0 (tIld 2 (tCV1 G d 0 0 11 mX13_isPerson (fun l z h => T G d bc bs mX13_join 18 l z h Q)))) l z h) : T G d bc bs mX13_join 13 l z h Q := by
  refine R_aload_n dX13_join_13 rfl (fun l z h k => ?_) k
  refine R_iload_n dX13_join_14 rfl (fun l z h k => ?_) k
  exact R_cv1 (M := mX13_join) (pc := 15) (bc := bc) (bs := bs) (cb := 0) (cs := 0) (M' := mX13_isPerson) dX13_join_15 rfl (by decide) w_1767 w_144 w_1764 w_1766 w_70 (by decide +kernel) (fun _ _ _ k => k) k
theorem bX13_join_18 {G : Gt} {d bc bs : Nat} {Q : QT} {l : Ls} {z : List Value} {h : Hp} (k : (tIf (fun x => x = 0) (fun l z h => T G d bc bs mX13_join 33 l z h Q) (fun l z h => T G d bc bs mX13_join 21 l z h Q)) l z h) : T G d bc bs mX13_join 18 l z h Q := by
  exact R_if_eq dX13_join_18 (by decide) (fun _ _ _ k => k) (fun _ _ _ k => k) k
theorem bX13_join_21 {G : Gt} {d bc bs : Nat} {Q : QT} {l : Ls} {z : List Value} {h : Hp} (k : (tAld 0 (tPush (.int 1) (tIld 1 (tIld 2 (tPush (.int 0) (tPush (.int 0) (tCV5 G d 0 0 11 mX13_act (fun l z h => T G d bc bs mX13_join 30 l z h Q)))))))) l z h) : T G d bc bs mX13_join 21 l z h Q := by
  refine R_aload_n dX13_join_21 rfl (fun l z h k => ?_) k
  refine R_iconst dX13_join_22 (by decide) (fun l z h k => ?_) k
  refine R_iload_n dX13_join_23 rfl (fun l z h k => ?_) k
  refine R_iload_n dX13_join_24 rfl (fun l z h k => ?_) k
  refine R_iconst dX13_join_25 (by decide) (fun l z h k => ?_) k
  refine R_iconst dX13_join_26 (by decide) (fun l z h k => ?_) k
  exact R_cv5 (M := mX13_join) (pc := 27) (bc := bc) (bs := bs) (cb := 0) (cs := 0) (M' := mX13_act) dX13_join_27 rfl (by decide) w_1831 w_144 w_1828 w_1830 w_81 (by decide +kernel) (fun _ _ _ k => k) k
theorem bX13_join_30 {G : Gt} {d bc bs : Nat} {Q : QT} {l : Ls} {z : List Value} {h : Hp} (k : (fun l z h => T G d bc bs mX13_join 34 l z h Q) l z h) : T G d bc bs mX13_join 30 l z h Q := by
  exact R_goto dX13_join_30 (by decide) (fun _ _ _ k => k) k
theorem bX13_join_33 {G : Gt} {d bc bs : Nat} {Q : QT} {l : Ls} {z : List Value} {h : Hp} (k : (tPush (.int (-1)) ((fun l z h => T G d bc bs mX13_join 34 l z h Q))) l z h) : T G d bc bs mX13_join 33 l z h Q := by
  refine R_iconst dX13_join_33 (by decide) (fun l z h k => ?_) k
  exact k
theorem bX13_join_34 {G : Gt} {d bc bs : Nat} {Q : QT} {l : Ls} {z : List Value} {h : Hp} (k : (tRetI Q) l z h) : T G d bc bs mX13_join 34 l z h Q := by
  exact R_iret dX13_join_34 rfl k
theorem dX13_part_0 : decode cX13_part 0 = .ok (.aload_n 0, 1) := by decide +kernel
theorem dX13_part_1 : decode cX13_part 1 = .ok (.iconst 0, 1) := by decide +kernel
theorem dX13_part_2 : decode cX13_part 2 = .ok (.putfield 85, 3) := by decide +kernel
theorem dX13_part_5 : decode cX13_part 5 = .ok (.aload_n 0, 1) := by decide +kernel
theorem dX13_part_6 : decode cX13_part 6 = .ok (.iload_n 1, 1) := by decide +kernel
theorem dX13_part_7 : decode cX13_part 7 = .ok (.invokevirtual 256, 3) := by decide +kernel
theorem dX13_part_10 : decode cX13_part 10 = .ok (.ifCond .eq 15, 3) := by decide +kernel
theorem dX13_part_13 : decode cX13_part 13 = .ok (.aload_n 0, 1) := by decide +kernel
theorem dX13_part_14 : decode cX13_part 14 = .ok (.iconst 2, 1) := by decide +kernel
theorem dX13_part_15 : decode cX13_part 15 = .ok (.iload_n 1, 1) := by decide +kernel
theorem dX13_part_16 : decode cX13_part 16 = .ok (.iconst 0, 1) := by decide +kernel
theorem dX13_part_17 : decode cX13_part 17 = .ok (.iconst 0, 1) := by decide +kernel
theorem dX13_part_18 : decode cX13_part 18 = .ok (.iconst 0, 1) := by decide +kernel
theorem dX13_part_19 : decode cX13_part 19 = .ok (.invokevirtual 308, 3) := by decide +kernel
theorem dX13_part_22 : decode cX13_part 22 = .ok (.goto 4, 3) := by decide +kernel
theorem dX13_part_25 : decode cX13_part 25 = .ok (.iconst (-1), 1) := by decide +kernel
theorem dX13_part_26 : decode cX13_part 26 = .ok (.ireturn, 1) := by decide +kernel
theorem bX13_part_0 {G : Gt} {d bc bs : Nat} {Q : QT} {l : Ls} {z : List Value} {h : Hp} (k : (tAld 0 (tPush (.int 0) (tPutf isI 11 0 (tAld 0 (tIld 1 (tCV1 G d 0 0 11 mX13_isPerson (fun l z h => T G d bc bs mX13_part 10 l z h Q))))))) l z h) : T G d bc bs mX13_part 0 l z h Q := by
  refine R_aload_n dX13_part_0 rfl (fun l z h k => ?_) k
  refine R_iconst dX13_part_1 (by decide) (fun l z h k => ?_) k
  refine R_putf (ci := 11) (f := 0) (C := RX13) (N := 49) (Tt := TX13) tyX13 tyX13_ok nmX13 dX13_part_2 rfl i_X13 (by decide) w_1467 rfl (tyX13_ok 0 (by decide)) p_int (fun l z h k => ?_) k
  refine R_aload_n dX13_part_5 rfl (fun l z h k => ?_) k
  refine R_iload_n dX13_part_6 rfl (fun l z h k => ?_) k
  exact R_cv1 (M := mX13_part) (pc := 7) (bc := bc) (bs := bs) (cb := 0) (cs := 0) (M' := mX13_isPerson) dX13_part_7 rfl (by decide) w_1767 w_144 w_1764 w_1766 w_70 (by decide +kernel) (fun _ _ _ k => k) k
theorem bX13_part_10 {G : Gt} {d bc bs : Nat} {Q : QT} {l : Ls} {z : List Value} {h : Hp} (k : (tIf (fun x => x = 0) (fun l z h => T G d bc bs mX13_part 25 l z h Q) (fun l z h => T G d bc bs mX13_part 13 l z h Q)) l z h) : T G d bc bs mX13_part 10 l z h Q := by
  exact R_if_eq dX13_part_10 (by decide) (fun _ _ _ k => k) (fun _ _ _ k => k) k
theorem bX13_part_13 {G : Gt} {d bc bs : Nat} {Q : QT} {l : Ls} {z : List Value} {h : Hp} (k : (tAld 0 (tPush (.int 2) (tIld 1 (tPush (.int 0) (tPush (.int 0) (tPush (.int 0) (tCV5 G d 0 0 11 mX13_act (fun l z h => T G d bc bs mX13_part 22 l z h Q)))))))) l z h) : T G d bc bs mX13_part 13 l z h Q := by
  refine R_aload_n dX13_part_13 rfl (fun l z h k => ?_) k
  refine R_iconst dX13_part_14 (by decide) (fun l z h k => ?_) k
  refine R_iload_n dX13_part_15 rfl (fun l z h k => ?_) k
  refine R_iconst dX13_part_16 (by decide) (fun l z h k => ?_) k
  refine R_iconst dX13_part_17 (by decide) (fun l z h k => ?_) k
  refine R_iconst dX13_part_18 (by decide) (fun l z h k => ?_) k
  exact R_cv5 (M := mX13_part) (pc := 19) (bc := bc) (bs := bs) (cb := 0) (cs := 0) (M' := mX13_act) dX13_part_19 rfl (by decide) w_1831 w_144 w_1828 w_1830 w_81 (by decide +kernel) (fun _ _ _ k => k) k
theorem bX13_part_22 {G : Gt} {d bc bs : Nat} {Q : QT} {l : Ls} {z : List Value} {h : Hp} (k : (fun l z h => T G d bc bs mX13_part 26 l z h Q) l z h) : T G d bc bs mX13_part 22 l z h Q := by
  exact R_goto dX13_part_22 (by decide) (fun _ _ _ k => k) k
theorem bX13_part_25 {G : Gt} {d bc bs : Nat} {Q : QT} {l : Ls} {z : List Value} {h : Hp} (k : (tPush (.int (-1)) ((fun l z h => T G d bc bs mX13_part 26 l z h Q))) l z h) : T G d bc bs mX13_part 25 l z h Q := by
  refine R_iconst dX13_part_25 (by decide) (fun l z h k => ?_) k
  exact k
theorem bX13_part_26 {G : Gt} {d bc bs : Nat} {Q : QT} {l : Ls} {z : List Value} {h : Hp} (k : (tRetI Q) l z h) : T G d bc bs mX13_part 26 l z h Q := by
  exact R_iret dX13_part_26 rfl k
theorem dX13_trade_0 : decode cX13_trade 0 = .ok (.aload_n 0, 1) := by decide +kernel
theorem dX13_trade_1 : decode cX13_trade 1 = .ok (.iconst 0, 1) := by decide +kernel
theorem dX13_trade_2 : decode cX13_trade 2 = .ok (.putfield 85, 3) := by decide +kernel
theorem dX13_trade_5 : decode cX13_trade 5 = .ok (.aload_n 0, 1) := by decide +kernel
theorem dX13_trade_6 : decode cX13_trade 6 = .ok (.iload_n 1, 1) := by decide +kernel
theorem dX13_trade_7 : decode cX13_trade 7 = .ok (.invokevirtual 256, 3) := by decide +kernel
theorem dX13_trade_10 : decode cX13_trade 10 = .ok (.ifCond .eq 41, 3) := by decide +kernel
theorem dX13_trade_13 : decode cX13_trade 13 = .ok (.aload_n 0, 1) := by decide +kernel
theorem dX13_trade_14 : decode cX13_trade 14 = .ok (.iload_n 2, 1) := by decide +kernel
theorem dX13_trade_15 : decode cX13_trade 15 = .ok (.invokevirtual 265, 3) := by decide +kernel
theorem dX13_trade_18 : decode cX13_trade 18 = .ok (.ifCond .eq 33, 3) := by decide +kernel
theorem dX13_trade_21 : decode cX13_trade 21 = .ok (.aload_n 0, 1) := by decide +kernel
theorem dX13_trade_22 : decode cX13_trade 22 = .ok (.iload_n 3, 1) := by decide +kernel
theorem dX13_trade_23 : decode cX13_trade 23 = .ok (.invokevirtual 256, 3) := by decide +kernel
theorem dX13_trade_26 : decode cX13_trade 26 = .ok (.ifCond .eq 25, 3) := by decide +kernel
theorem dX13_trade_29 : decode cX13_trade 29 = .ok (.aload_n 0, 1) := by decide +kernel
theorem dX13_trade_30 : decode cX13_trade 30 = .ok (.iload 4, 2) := by decide +kernel
theorem dX13_trade_32 : decode cX13_trade 32 = .ok (.invokevirtual 265, 3) := by decide +kernel
theorem dX13_trade_35 : decode cX13_trade 35 = .ok (.ifCond .eq 16, 3) := by decide +kernel
theorem dX13_trade_38 : decode cX13_trade 38 = .ok (.aload_n 0, 1) := by decide +kernel
theorem dX13_trade_39 : decode cX13_trade 39 = .ok (.iconst 3, 1) := by decide +kernel
theorem dX13_trade_40 : decode cX13_trade 40 = .ok (.iload_n 1, 1) := by decide +kernel
theorem dX13_trade_41 : decode cX13_trade 41 = .ok (.iload_n 2, 1) := by decide +kernel
theorem dX13_trade_42 : decode cX13_trade 42 = .ok (.iload_n 3, 1) := by decide +kernel
theorem dX13_trade_43 : decode cX13_trade 43 = .ok (.iload 4, 2) := by decide +kernel
theorem dX13_trade_45 : decode cX13_trade 45 = .ok (.invokevirtual 308, 3) := by decide +kernel
theorem dX13_trade_48 : decode cX13_trade 48 = .ok (.goto 4, 3) := by decide +kernel
theorem dX13_trade_51 : decode cX13_trade 51 = .ok (.iconst (-1), 1) := by decide +kernel
theorem dX13_trade_52 : decode cX13_trade 52 = .ok (.ireturn, 1) := by decide +kernel
theorem bX13_trade_0 {G : Gt} {d bc bs : Nat} {Q : QT} {l : Ls} {z : List Value} {h : Hp} (k : (tAld 0 (tPush (.int 0) (tPutf isI 11 0 (tAld 0 (tIld 1 (tCV1 G d 0 0 11 mX13_isPerson (fun l z h => T G d bc bs mX13_trade 10 l z h Q))))))) l z h) : T G d bc bs mX13_trade 0 l z h Q := by
  refine R_aload_n dX13_trade_0 rfl (fun l z h k => ?_) k
  refine R_iconst dX13_trade_1 (by decide) (fun l z h k => ?_) k
  refine R_putf (ci := 11) (f := 0) (C := RX13) (N := 49) (Tt := TX13) tyX13 tyX13_ok nmX13 dX13_trade_2 rfl i_X13 (by decide) w_1467 rfl (tyX13_ok 0 (by decide)) p_int (fun l z h k => ?_) k
  refine R_aload_n dX13_trade_5 rfl (fun l z h k => ?_) k
  refine R_iload_n dX13_trade_6 rfl (fun l z h k => ?_) k
  exact R_cv1 (M := mX13_trade) (pc := 7) (bc := bc) (bs := bs) (cb := 0) (cs := 0) (M' := mX13_isPerson) dX13_trade_7 rfl (by decide) w_1767 w_144 w_1764 w_1766 w_70 (by decide +kernel) (fun _ _ _ k => k) k
theorem bX13_trade_10 {G : Gt} {d bc bs : Nat} {Q : QT} {l : Ls} {z : List Value} {h : Hp} (k : (tIf (fun x => x = 0) (fun l z h => T G d bc bs mX13_trade 51 l z h Q) (fun l z h => T G d bc bs mX13_trade 13 l z h Q)) l z h) : T G d bc bs mX13_trade 10 l z h Q := by
  exact R_if_eq dX13_trade_10 (by decide) (fun _ _ _ k => k) (fun _ _ _ k => k) k
theorem bX13_trade_13 {G : Gt} {d bc bs : Nat} {Q : QT} {l : Ls} {z : List Value} {h : Hp} (k : (tAld 0 (tIld 2 (tCV1 G d 0 0 11 mX13_isThing (fun l z h => T G d bc bs mX13_trade 18 l z h Q)))) l z h) : T G d bc bs mX13_trade 13 l z h Q := by
  refine R_aload_n dX13_trade_13 rfl (fun l z h k => ?_) k
  refine R_iload_n dX13_trade_14 rfl (fun l z h k => ?_) k
  exact R_cv1 (M := mX13_trade) (pc := 15) (bc := bc) (bs := bs) (cb := 0) (cs := 0) (M' := mX13_isThing) dX13_trade_15 rfl (by decide) w_1787 w_144 w_1784 w_1786 w_74 (by decide +kernel) (fun _ _ _ k => k) k
theorem bX13_trade_18 {G : Gt} {d bc bs : Nat} {Q : QT} {l : Ls} {z : List Value} {h : Hp} (k : (tIf (fun x => x = 0) (fun l z h => T G d bc bs mX13_trade 51 l z h Q) (fun l z h => T G d bc bs mX13_trade 21 l z h Q)) l z h) : T G d bc bs mX13_trade 18 l z h Q := by
  exact R_if_eq dX13_trade_18 (by decide) (fun _ _ _ k => k) (fun _ _ _ k => k) k
theorem bX13_trade_21 {G : Gt} {d bc bs : Nat} {Q : QT} {l : Ls} {z : List Value} {h : Hp} (k : (tAld 0 (tIld 3 (tCV1 G d 0 0 11 mX13_isPerson (fun l z h => T G d bc bs mX13_trade 26 l z h Q)))) l z h) : T G d bc bs mX13_trade 21 l z h Q := by
  refine R_aload_n dX13_trade_21 rfl (fun l z h k => ?_) k
  refine R_iload_n dX13_trade_22 rfl (fun l z h k => ?_) k
  exact R_cv1 (M := mX13_trade) (pc := 23) (bc := bc) (bs := bs) (cb := 0) (cs := 0) (M' := mX13_isPerson) dX13_trade_23 rfl (by decide) w_1767 w_144 w_1764 w_1766 w_70 (by decide +kernel) (fun _ _ _ k => k) k
theorem bX13_trade_26 {G : Gt} {d bc bs : Nat} {Q : QT} {l : Ls} {z : List Value} {h : Hp} (k : (tIf (fun x => x = 0) (fun l z h => T G d bc bs mX13_trade 51 l z h Q) (fun l z h => T G d bc bs mX13_trade 29 l z h Q)) l z h) : T G d bc bs mX13_trade 26 l z h Q := by
  exact R_if_eq dX13_trade_26 (by decide) (fun _ _ _ k => k) (fun _ _ _ k => k) k
theorem bX13_trade_29 {G : Gt} {d bc bs : Nat} {Q : QT} {l : Ls} {z : List Value} {h : Hp} (k : (tAld 0 (tIld 4 (tCV1 G d 0 0 11 mX13_isThing (fun l z h => T G d bc bs mX13_trade 35 l z h Q)))) l z h) : T G d bc bs mX13_trade 29 l z h Q := by
  refine R_aload_n dX13_trade_29 rfl (fun l z h k => ?_) k
  refine R_iload dX13_trade_30 (fun l z h k => ?_) k
  exact R_cv1 (M := mX13_trade) (pc := 32) (bc := bc) (bs := bs) (cb := 0) (cs := 0) (M' := mX13_isThing) dX13_trade_32 rfl (by decide) w_1787 w_144 w_1784 w_1786 w_74 (by decide +kernel) (fun _ _ _ k => k) k
theorem bX13_trade_35 {G : Gt} {d bc bs : Nat} {Q : QT} {l : Ls} {z : List Value} {h : Hp} (k : (tIf (fun x => x = 0) (fun l z h => T G d bc bs mX13_trade 51 l z h Q) (fun l z h => T G d bc bs mX13_trade 38 l z h Q)) l z h) : T G d bc bs mX13_trade 35 l z h Q := by
  exact R_if_eq dX13_trade_35 (by decide) (fun _ _ _ k => k) (fun _ _ _ k => k) k
theorem bX13_trade_38 {G : Gt} {d bc bs : Nat} {Q : QT} {l : Ls} {z : List Value} {h : Hp} (k : (tAld 0 (tPush (.int 3) (tIld 1 (tIld 2 (tIld 3 (tIld 4 (tCV5 G d 0 0 11 mX13_act (fun l z h => T G d bc bs mX13_trade 48 l z h Q)))))))) l z h) : T G d bc bs mX13_trade 38 l z h Q := by
  refine R_aload_n dX13_trade_38 rfl (fun l z h k => ?_) k
  refine R_iconst dX13_trade_39 (by decide) (fun l z h k => ?_) k
  refine R_iload_n dX13_trade_40 rfl (fun l z h k => ?_) k
  refine R_iload_n dX13_trade_41 rfl (fun l z h k => ?_) k
  refine R_iload_n dX13_trade_42 rfl (fun l z h k => ?_) k
  refine R_iload dX13_trade_43 (fun l z h k => ?_) k
  exact R_cv5 (M := mX13_trade) (pc := 45) (bc := bc) (bs := bs) (cb := 0) (cs := 0) (M' := mX13_act) dX13_trade_45 rfl (by decide) w_1831 w_144 w_1828 w_1830 w_81 (by decide +kernel) (fun _ _ _ k => k) k
theorem bX13_trade_48 {G : Gt} {d bc bs : Nat} {Q : QT} {l : Ls} {z : List Value} {h : Hp} (k : (fun l z h => T G d bc bs mX13_trade 52 l z h Q) l z h) : T G d bc bs mX13_trade 48 l z h Q := by
  exact R_goto dX13_trade_48 (by decide) (fun _ _ _ k => k) k
theorem bX13_trade_51 {G : Gt} {d bc bs : Nat} {Q : QT} {l : Ls} {z : List Value} {h : Hp} (k : (tPush (.int (-1)) ((fun l z h => T G d bc bs mX13_trade 52 l z h Q))) l z h) : T G d bc bs mX13_trade 51 l z h Q := by
  refine R_iconst dX13_trade_51 (by decide) (fun l z h k => ?_) k
  exact k
theorem bX13_trade_52 {G : Gt} {d bc bs : Nat} {Q : QT} {l : Ls} {z : List Value} {h : Hp} (k : (tRetI Q) l z h) : T G d bc bs mX13_trade 52 l z h Q := by
  exact R_iret dX13_trade_52 rfl k
theorem dX13_ask_0 : decode cX13_ask 0 = .ok (.aload_n 0, 1) := by decide +kernel
theorem dX13_ask_1 : decode cX13_ask 1 = .ok (.iconst 0, 1) := by decide +kernel
theorem dX13_ask_2 : decode cX13_ask 2 = .ok (.putfield 85, 3) := by decide +kernel
theorem dX13_ask_5 : decode cX13_ask 5 = .ok (.iload_n 1, 1) := by decide +kernel
theorem dX13_ask_6 : decode cX13_ask 6 = .ok (.iconst 0, 1) := by decide +kernel
theorem dX13_ask_7 : decode cX13_ask 7 = .ok (.iconst 1, 1) := by decide +kernel
theorem dX13_ask_8 : decode cX13_ask 8 = .ok (.invokestatic 152, 3) := by decide +kernel
theorem dX13_ask_11 : decode cX13_ask 11 = .ok (.ifCond .eq 33, 3) := by decide +kernel
theorem dX13_ask_14 : decode cX13_ask 14 = .ok (.aload_n 0, 1) := by decide +kernel
theorem dX13_ask_15 : decode cX13_ask 15 = .ok (.iload_n 2, 1) := by decide +kernel
theorem dX13_ask_16 : decode cX13_ask 16 = .ok (.invokevirtual 265, 3) := by decide +kernel
theorem dX13_ask_19 : decode cX13_ask 19 = .ok (.ifCond .eq 25, 3) := by decide +kernel
theorem dX13_ask_22 : decode cX13_ask 22 = .ok (.iload_n 3, 1) := by decide +kernel
theorem dX13_ask_23 : decode cX13_ask 23 = .ok (.iconst 0, 1) := by decide +kernel
theorem dX13_ask_24 : decode cX13_ask 24 = .ok (.bipush 12, 2) := by decide +kernel
theorem dX13_ask_26 : decode cX13_ask 26 = .ok (.invokestatic 152, 3) := by decide +kernel
theorem dX13_ask_29 : decode cX13_ask 29 = .ok (.ifCond .eq 15, 3) := by decide +kernel
theorem dX13_ask_32 : decode cX13_ask 32 = .ok (.aload_n 0, 1) := by decide +kernel
theorem dX13_ask_33 : decode cX13_ask 33 = .ok (.iconst 4, 1) := by decide +kernel
theorem dX13_ask_34 : decode cX13_ask 34 = .ok (.iload_n 1, 1) := by decide +kernel
theorem dX13_ask_35 : decode cX13_ask 35 = .ok (.iload_n 2, 1) := by decide +kernel
theorem dX13_ask_36 : decode cX13_ask 36 = .ok (.iload_n 3, 1) := by decide +kernel
theorem dX13_ask_37 : decode cX13_ask 37 = .ok (.iconst 0, 1) := by decide +kernel
theorem dX13_ask_38 : decode cX13_ask 38 = .ok (.invokevirtual 308, 3) := by decide +kernel
theorem dX13_ask_41 : decode cX13_ask 41 = .ok (.goto 4, 3) := by decide +kernel
theorem dX13_ask_44 : decode cX13_ask 44 = .ok (.iconst (-1), 1) := by decide +kernel
theorem dX13_ask_45 : decode cX13_ask 45 = .ok (.ireturn, 1) := by decide +kernel
theorem bX13_ask_0 {G : Gt} {d bc bs : Nat} {Q : QT} {l : Ls} {z : List Value} {h : Hp} (k : (tAld 0 (tPush (.int 0) (tPutf isI 11 0 (tIld 1 (tPush (.int 0) (tPush (.int 1) (tCS3 G d 0 0 mX13_isIn (fun l z h => T G d bc bs mX13_ask 11 l z h Q)))))))) l z h) : T G d bc bs mX13_ask 0 l z h Q := by
  refine R_aload_n dX13_ask_0 rfl (fun l z h k => ?_) k
  refine R_iconst dX13_ask_1 (by decide) (fun l z h k => ?_) k
  refine R_putf (ci := 11) (f := 0) (C := RX13) (N := 49) (Tt := TX13) tyX13 tyX13_ok nmX13 dX13_ask_2 rfl i_X13 (by decide) w_1467 rfl (tyX13_ok 0 (by decide)) p_int (fun l z h k => ?_) k
  refine R_iload_n dX13_ask_5 rfl (fun l z h k => ?_) k
  refine R_iconst dX13_ask_6 (by decide) (fun l z h k => ?_) k
  refine R_iconst dX13_ask_7 (by decide) (fun l z h k => ?_) k
  exact R_cs3 (M := mX13_ask) (pc := 8) (bc := bc) (bs := bs) (cb := 0) (cs := 0) (M' := mX13_isIn) dX13_ask_8 (by decide) w_1711 w_144 w_1709 w_1710 (by decide +kernel) (fun _ _ _ k => k) k
theorem bX13_ask_11 {G : Gt} {d bc bs : Nat} {Q : QT} {l : Ls} {z : List Value} {h : Hp} (k : (tIf (fun x => x = 0) (fun l z h => T G d bc bs mX13_ask 44 l z h Q) (fun l z h => T G d bc bs mX13_ask 14 l z h Q)) l z h) : T G d bc bs mX13_ask 11 l z h Q := by
  exact R_if_eq dX13_ask_11 (by decide) (fun _ _ _ k => k) (fun _ _ _ k => k) k
theorem bX13_ask_14 {G : Gt} {d bc bs : Nat} {Q : QT} {l : Ls} {z : List Value} {h : Hp} (k : (tAld 0 (tIld 2 (tCV1 G d 0 0 11 mX13_isThing (fun l z h => T G d bc bs mX13_ask 19 l z h Q)))) l z h) : T G d bc bs mX13_ask 14 l z h Q := by
  refine R_aload_n dX13_ask_14 rfl (fun l z h k => ?_) k
  refine R_iload_n dX13_ask_15 rfl (fun l z h k => ?_) k
  exact R_cv1 (M := mX13_ask) (pc := 16) (bc := bc) (bs := bs) (cb := 0) (cs := 0) (M' := mX13_isThing) dX13_ask_16 rfl (by decide) w_1787 w_144 w_1784 w_1786 w_74 (by decide +kernel) (fun _ _ _ k => k) k
theorem bX13_ask_19 {G : Gt} {d bc bs : Nat} {Q : QT} {l : Ls} {z : List Value} {h : Hp} (k : (tIf (fun x => x = 0) (fun l z h => T G d bc bs mX13_ask 44 l z h Q) (fun l z h => T G d bc bs mX13_ask 22 l z h Q)) l z h) : T G d bc bs mX13_ask 19 l z h Q := by
  exact R_if_eq dX13_ask_19 (by decide) (fun _ _ _ k => k) (fun _ _ _ k => k) k
theorem bX13_ask_22 {G : Gt} {d bc bs : Nat} {Q : QT} {l : Ls} {z : List Value} {h : Hp} (k : (tIld 3 (tPush (.int 0) (tPush (.int 12) (tCS3 G d 0 0 mX13_isIn (fun l z h => T G d bc bs mX13_ask 29 l z h Q))))) l z h) : T G d bc bs mX13_ask 22 l z h Q := by
  refine R_iload_n dX13_ask_22 rfl (fun l z h k => ?_) k
  refine R_iconst dX13_ask_23 (by decide) (fun l z h k => ?_) k
  refine R_bipush dX13_ask_24 (by decide) (fun l z h k => ?_) k
  exact R_cs3 (M := mX13_ask) (pc := 26) (bc := bc) (bs := bs) (cb := 0) (cs := 0) (M' := mX13_isIn) dX13_ask_26 (by decide) w_1711 w_144 w_1709 w_1710 (by decide +kernel) (fun _ _ _ k => k) k
theorem bX13_ask_29 {G : Gt} {d bc bs : Nat} {Q : QT} {l : Ls} {z : List Value} {h : Hp} (k : (tIf (fun x => x = 0) (fun l z h => T G d bc bs mX13_ask 44 l z h Q) (fun l z h => T G d bc bs mX13_ask 32 l z h Q)) l z h) : T G d bc bs mX13_ask 29 l z h Q := by
  exact R_if_eq dX13_ask_29 (by decide) (fun _ _ _ k => k) (fun _ _ _ k => k) k
theorem bX13_ask_32 {G : Gt} {d bc bs : Nat} {Q : QT} {l : Ls} {z : List Value} {h : Hp} (k : (tAld 0 (tPush (.int 4) (tIld 1 (tIld 2 (tIld 3 (tPush (.int 0) (tCV5 G d 0 0 11 mX13_act (fun l z h => T G d bc bs mX13_ask 41 l z h Q)))))))) l z h) : T G d bc bs mX13_ask 32 l z h Q := by
  refine R_aload_n dX13_ask_32 rfl (fun l z h k => ?_) k
  refine R_iconst dX13_ask_33 (by decide) (fun l z h k => ?_) k
  refine R_iload_n dX13_ask_34 rfl (fun l z h k => ?_) k
  refine R_iload_n dX13_ask_35 rfl (fun l z h k => ?_) k
  refine R_iload_n dX13_ask_36 rfl (fun l z h k => ?_) k
  refine R_iconst dX13_ask_37 (by decide) (fun l z h k => ?_) k
  exact R_cv5 (M := mX13_ask) (pc := 38) (bc := bc) (bs := bs) (cb := 0) (cs := 0) (M' := mX13_act) dX13_ask_38 rfl (by decide) w_1831 w_144 w_1828 w_1830 w_81 (by decide +kernel) (fun _ _ _ k => k) k
theorem bX13_ask_41 {G : Gt} {d bc bs : Nat} {Q : QT} {l : Ls} {z : List Value} {h : Hp} (k : (fun l z h => T G d bc bs mX13_ask 45 l z h Q) l z h) : T G d bc bs mX13_ask 41 l z h Q := by
  exact R_goto dX13_ask_41 (by decide) (fun _ _ _ k => k) k
theorem bX13_ask_44 {G : Gt} {d bc bs : Nat} {Q : QT} {l : Ls} {z : List Value} {h : Hp} (k : (tPush (.int (-1)) ((fun l z h => T G d bc bs mX13_ask 45 l z h Q))) l z h) : T G d bc bs mX13_ask 44 l z h Q := by
  refine R_iconst dX13_ask_44 (by decide) (fun l z h k => ?_) k
  exact k
theorem bX13_ask_45 {G : Gt} {d bc bs : Nat} {Q : QT} {l : Ls} {z : List Value} {h : Hp} (k : (tRetI Q) l z h) : T G d bc bs mX13_ask 45 l z h Q := by
  exact R_iret dX13_ask_45 rfl k
theorem dX13_undo_0 : decode cX13_undo 0 = .ok (.aload_n 0, 1) := by decide +kernel
theorem dX13_undo_1 : decode cX13_undo 1 = .ok (.iconst 0, 1) := by decide +kernel
theorem dX13_undo_2 : decode cX13_undo 2 = .ok (.putfield 85, 3) := by decide +kernel
theorem dX13_undo_5 : decode cX13_undo 5 = .ok (.aload_n 0, 1) := by decide +kernel
theorem dX13_undo_6 : decode cX13_undo 6 = .ok (.getfield 237, 3) := by decide +kernel
theorem dX13_undo_9 : decode cX13_undo 9 = .ok (.ifCond .ne 5, 3) := by decide +kernel
theorem dX13_undo_12 : decode cX13_undo 12 = .ok (.iconst (-1), 1) := by decide +kernel
theorem dX13_undo_13 : decode cX13_undo 13 = .ok (.ireturn, 1) := by decide +kernel
theorem dX13_undo_14 : decode cX13_undo 14 = .ok (.aload_n 0, 1) := by decide +kernel
theorem dX13_undo_15 : decode cX13_undo 15 = .ok (.dup, 1) := by decide +kernel
theorem dX13_undo_16 : decode cX13_undo 16 = .ok (.getfield 237, 3) := by decide +kernel
theorem dX13_undo_19 : decode cX13_undo 19 = .ok (.iconst 1, 1) := by decide +kernel
theorem dX13_undo_20 : decode cX13_undo 20 = .ok (.isub, 1) := by decide +kernel
theorem dX13_undo_21 : decode cX13_undo 21 = .ok (.putfield 237, 3) := by decide +kernel
theorem dX13_undo_24 : decode cX13_undo 24 = .ok (.iconst 0, 1) := by decide +kernel
theorem dX13_undo_25 : decode cX13_undo 25 = .ok (.istore_n 1, 1) := by decide +kernel
theorem dX13_undo_26 : decode cX13_undo 26 = .ok (.iload_n 1, 1) := by decide +kernel
theorem dX13_undo_27 : decode cX13_undo 27 = .ok (.bipush 93, 2) := by decide +kernel
theorem dX13_undo_29 : decode cX13_undo 29 = .ok (.if_icmp .ge 32, 3) := by decide +kernel
theorem dX13_undo_32 : decode cX13_undo 32 = .ok (.aload_n 0, 1) := by decide +kernel
theorem dX13_undo_33 : decode cX13_undo 33 = .ok (.getfield 13, 3) := by decide +kernel
theorem dX13_undo_36 : decode cX13_undo 36 = .ok (.bipush 98, 2) := by decide +kernel
theorem dX13_undo_38 : decode cX13_undo 38 = .ok (.iload_n 1, 1) := by decide +kernel
theorem dX13_undo_39 : decode cX13_undo 39 = .ok (.iadd, 1) := by decide +kernel
theorem dX13_undo_40 : decode cX13_undo 40 = .ok (.aload_n 0, 1) := by decide +kernel
theorem dX13_undo_41 : decode cX13_undo 41 = .ok (.getfield 22, 3) := by decide +kernel
theorem dX13_undo_44 : decode cX13_undo 44 = .ok (.bipush 93, 2) := by decide +kernel
theorem dX13_undo_46 : decode cX13_undo 46 = .ok (.aload_n 0, 1) := by decide +kernel
theorem dX13_undo_47 : decode cX13_undo 47 = .ok (.getfield 237, 3) := by decide +kernel
theorem dX13_undo_50 : decode cX13_undo 50 = .ok (.imul, 1) := by decide +kernel
theorem dX13_undo_51 : decode cX13_undo 51 = .ok (.iload_n 1, 1) := by decide +kernel
theorem dX13_undo_52 : decode cX13_undo 52 = .ok (.iadd, 1) := by decide +kernel
theorem dX13_undo_53 : decode cX13_undo 53 = .ok (.iaload, 1) := by decide +kernel
theorem dX13_undo_54 : decode cX13_undo 54 = .ok (.iastore, 1) := by decide +kernel
theorem dX13_undo_55 : decode cX13_undo 55 = .ok (.iinc 1 1, 3) := by decide +kernel
theorem dX13_undo_58 : decode cX13_undo 58 = .ok (.goto (-32), 3) := by decide +kernel
theorem dX13_undo_61 : decode cX13_undo 61 = .ok (.aload_n 0, 1) := by decide +kernel
theorem dX13_undo_62 : decode cX13_undo 62 = .ok (.getfield 237, 3) := by decide +kernel
theorem dX13_undo_65 : decode cX13_undo 65 = .ok (.ireturn, 1) := by decide +kernel
theorem bX13_undo_0 {G : Gt} {d bc bs : Nat} {Q : QT} {l : Ls} {z : List Value} {h : Hp} (k : (tAld 0 (tPush (.int 0) (tPutf isI 11 0 (tAld 0 (tGetf 11 26 (tIf (fun x => x = 0) (fun l z h => T G d bc bs mX13_undo 12 l z h Q) (fun l z h => T G d bc bs mX13_undo 14 l z h Q))))))) l z h) : T G d bc bs mX13_undo 0 l z h Q := by
  refine R_aload_n dX13_undo_0 rfl (fun l z h k => ?_) k
  refine R_iconst dX13_undo_1 (by decide) (fun l z h k => ?_) k
  refine R_putf (ci := 11) (f := 0) (C := RX13) (N := 49) (Tt := TX13) tyX13 tyX13_ok nmX13 dX13_undo_2 rfl i_X13 (by decide) w_1467 rfl (tyX13_ok 0 (by decide)) p_int (fun l z h k => ?_) k
  refine R_aload_n dX13_undo_5 rfl (fun l z h k => ?_) k
  refine R_getf (ci := 11) (f := 26) (C := RX13) (N := 49) (Tt := TX13) dX13_undo_6 rfl i_X13 (by decide) w_1493 (fun l z h k => ?_) k
  exact R_if_ne dX13_undo_9 (by decide) (fun _ _ _ k => k) (fun _ _ _ k => k) k
theorem bX13_undo_12 {G : Gt} {d bc bs : Nat} {Q : QT} {l : Ls} {z : List Value} {h : Hp} (k : (tPush (.int (-1)) (tRetI Q)) l z h) : T G d bc bs mX13_undo 12 l z h Q := by
  refine R_iconst dX13_undo_12 (by decide) (fun l z h k => ?_) k
  exact R_iret dX13_undo_13 rfl k
theorem bX13_undo_14 {G : Gt} {d bc bs : Nat} {Q : QT} {l : Ls} {z : List Value} {h : Hp} (k : (tAld 0 (tDup (tGetf 11 26 (tPush (.int 1) (tB (fun x y => x - y) (tPutf isI 11 26 (tPush (.int 0) (tIst 1 ((fun l z h => T G d bc bs mX13_undo 26 l z h Q)))))))))) l z h) : T G d bc bs mX13_undo 14 l z h Q := by
  refine R_aload_n dX13_undo_14 rfl (fun l z h k => ?_) k
  refine R_dup dX13_undo_15 (fun l z h k => ?_) k
  refine R_getf (ci := 11) (f := 26) (C := RX13) (N := 49) (Tt := TX13) dX13_undo_16 rfl i_X13 (by decide) w_1493 (fun l z h k => ?_) k
  refine R_iconst dX13_undo_19 (by decide) (fun l z h k => ?_) k
  refine R_isub dX13_undo_20 (fun l z h k => ?_) k
  refine R_putf (ci := 11) (f := 26) (C := RX13) (N := 49) (Tt := TX13) tyX13 tyX13_ok nmX13 dX13_undo_21 rfl i_X13 (by decide) w_1493 rfl (tyX13_ok 26 (by decide)) p_int (fun l z h k => ?_) k
  refine R_iconst dX13_undo_24 (by decide) (fun l z h k => ?_) k
  refine R_istore_n dX13_undo_25 rfl (by decide) (fun l z h k => ?_) k
  exact k
theorem bX13_undo_26 {G : Gt} {d bc bs : Nat} {Q : QT} {l : Ls} {z : List Value} {h : Hp} (k : (tIld 1 (tPush (.int 93) (tIf2 (fun x y => y ≤ x) (fun l z h => T G d bc bs mX13_undo 61 l z h Q) (fun l z h => T G d bc bs mX13_undo 32 l z h Q)))) l z h) : T G d bc bs mX13_undo 26 l z h Q := by
  refine R_iload_n dX13_undo_26 rfl (fun l z h k => ?_) k
  refine R_bipush dX13_undo_27 (by decide) (fun l z h k => ?_) k
  exact R_icmp_ge dX13_undo_29 (by decide) (fun _ _ _ k => k) (fun _ _ _ k => k) k
theorem bX13_undo_32 {G : Gt} {d bc bs : Nat} {Q : QT} {l : Ls} {z : List Value} {h : Hp} (k : (tAld 0 (tGetf 11 14 (tPush (.int 98) (tIld 1 (tB (fun x y => x + y) (tAld 0 (tGetf 11 17 (tPush (.int 93) (tAld 0 (tGetf 11 26 (tB (fun x y => x * y) (tIld 1 (tB (fun x y => x + y) (tXald 0 (tXast 0 (tInc 1 1 ((fun l z h => T G d bc bs mX13_undo 26 l z h Q)))))))))))))))))) l z h) : T G d bc bs mX13_undo 32 l z h Q := by
  refine R_aload_n dX13_undo_32 rfl (fun l z h k => ?_) k
  refine R_getf (ci := 11) (f := 14) (C := RX13) (N := 49) (Tt := TX13) dX13_undo_33 rfl i_X13 (by decide) w_1481 (fun l z h k => ?_) k
  refine R_bipush dX13_undo_36 (by decide) (fun l z h k => ?_) k
  refine R_iload_n dX13_undo_38 rfl (fun l z h k => ?_) k
  refine R_iadd dX13_undo_39 (fun l z h k => ?_) k
  refine R_aload_n dX13_undo_40 rfl (fun l z h k => ?_) k
  refine R_getf (ci := 11) (f := 17) (C := RX13) (N := 49) (Tt := TX13) dX13_undo_41 rfl i_X13 (by decide) w_1484 (fun l z h k => ?_) k
  refine R_bipush dX13_undo_44 (by decide) (fun l z h k => ?_) k
  refine R_aload_n dX13_undo_46 rfl (fun l z h k => ?_) k
  refine R_getf (ci := 11) (f := 26) (C := RX13) (N := 49) (Tt := TX13) dX13_undo_47 rfl i_X13 (by decide) w_1493 (fun l z h k => ?_) k
  refine R_imul dX13_undo_50 (fun l z h k => ?_) k
  refine R_iload_n dX13_undo_51 rfl (fun l z h k => ?_) k
  refine R_iadd dX13_undo_52 (fun l z h k => ?_) k
  refine R_iaload dX13_undo_53 (fun l z h k => ?_) k
  refine R_iastore dX13_undo_54 (fun l z h k => ?_) k
  refine R_iinc dX13_undo_55 (by decide) (by decide) (fun l z h k => ?_) k
  exact R_goto dX13_undo_58 (by decide) (fun _ _ _ k => k) k
theorem bX13_undo_61 {G : Gt} {d bc bs : Nat} {Q : QT} {l : Ls} {z : List Value} {h : Hp} (k : (tAld 0 (tGetf 11 26 (tRetI Q))) l z h) : T G d bc bs mX13_undo 61 l z h Q := by
  refine R_aload_n dX13_undo_61 rfl (fun l z h k => ?_) k
  refine R_getf (ci := 11) (f := 26) (C := RX13) (N := 49) (Tt := TX13) dX13_undo_62 rfl i_X13 (by decide) w_1493 (fun l z h k => ?_) k
  exact R_iret dX13_undo_65 rfl k
theorem dX13_learns_0 : decode cX13_learns 0 = .ok (.aload_n 0, 1) := by decide +kernel
theorem dX13_learns_1 : decode cX13_learns 1 = .ok (.getfield 13, 3) := by decide +kernel
theorem dX13_learns_4 : decode cX13_learns 4 = .ok (.bipush 107, 2) := by decide +kernel
theorem dX13_learns_6 : decode cX13_learns 6 = .ok (.iload_n 1, 1) := by decide +kernel
theorem dX13_learns_7 : decode cX13_learns 7 = .ok (.iadd, 1) := by decide +kernel
theorem dX13_learns_8 : decode cX13_learns 8 = .ok (.dup2, 1) := by decide +kernel
theorem dX13_learns_9 : decode cX13_learns 9 = .ok (.iaload, 1) := by decide +kernel
theorem dX13_learns_10 : decode cX13_learns 10 = .ok (.iconst 1, 1) := by decide +kernel
theorem dX13_learns_11 : decode cX13_learns 11 = .ok (.iadd, 1) := by decide +kernel
theorem dX13_learns_12 : decode cX13_learns 12 = .ok (.iastore, 1) := by decide +kernel
theorem dX13_learns_13 : decode cX13_learns 13 = .ok (.aload_n 0, 1) := by decide +kernel
theorem dX13_learns_14 : decode cX13_learns 14 = .ok (.getfield 13, 3) := by decide +kernel
theorem dX13_learns_17 : decode cX13_learns 17 = .ok (.bipush 99, 2) := by decide +kernel
theorem dX13_learns_19 : decode cX13_learns 19 = .ok (.iload_n 1, 1) := by decide +kernel
theorem dX13_learns_20 : decode cX13_learns 20 = .ok (.iadd, 1) := by decide +kernel
theorem dX13_learns_21 : decode cX13_learns 21 = .ok (.iaload, 1) := by decide +kernel
theorem dX13_learns_22 : decode cX13_learns 22 = .ok (.iconst 1, 1) := by decide +kernel
theorem dX13_learns_23 : decode cX13_learns 23 = .ok (.if_icmp .ne 4, 3) := by decide +kernel
theorem dX13_learns_26 : decode cX13_learns 26 = .ok (.return_, 1) := by decide +kernel
theorem dX13_learns_27 : decode cX13_learns 27 = .ok (.iconst 0, 1) := by decide +kernel
theorem dX13_learns_28 : decode cX13_learns 28 = .ok (.istore_n 2, 1) := by decide +kernel
theorem dX13_learns_29 : decode cX13_learns 29 = .ok (.iload_n 2, 1) := by decide +kernel
theorem dX13_learns_30 : decode cX13_learns 30 = .ok (.aload_n 0, 1) := by decide +kernel
theorem dX13_learns_31 : decode cX13_learns 31 = .ok (.getfield 13, 3) := by decide +kernel
theorem dX13_learns_34 : decode cX13_learns 34 = .ok (.iconst 0, 1) := by decide +kernel
theorem dX13_learns_35 : decode cX13_learns 35 = .ok (.iaload, 1) := by decide +kernel
theorem dX13_learns_36 : decode cX13_learns 36 = .ok (.if_icmp .ge 83, 3) := by decide +kernel
theorem dX13_learns_39 : decode cX13_learns 39 = .ok (.iconst 2, 1) := by decide +kernel
theorem dX13_learns_40 : decode cX13_learns 40 = .ok (.aload_n 0, 1) := by decide +kernel
theorem dX13_learns_41 : decode cX13_learns 41 = .ok (.getfield 13, 3) := by decide +kernel
theorem dX13_learns_44 : decode cX13_learns 44 = .ok (.iconst 2, 1) := by decide +kernel
theorem dX13_learns_45 : decode cX13_learns 45 = .ok (.iload_n 2, 1) := by decide +kernel
theorem dX13_learns_46 : decode cX13_learns 46 = .ok (.iadd, 1) := by decide +kernel
theorem dX13_learns_47 : decode cX13_learns 47 = .ok (.iaload, 1) := by decide +kernel
theorem dX13_learns_48 : decode cX13_learns 48 = .ok (.imul, 1) := by decide +kernel
theorem dX13_learns_49 : decode cX13_learns 49 = .ok (.aload_n 0, 1) := by decide +kernel
theorem dX13_learns_50 : decode cX13_learns 50 = .ok (.getfield 13, 3) := by decide +kernel
theorem dX13_learns_53 : decode cX13_learns 53 = .ok (.bipush 99, 2) := by decide +kernel
theorem dX13_learns_55 : decode cX13_learns 55 = .ok (.iload_n 1, 1) := by decide +kernel
theorem dX13_learns_56 : decode cX13_learns 56 = .ok (.iadd, 1) := by decide +kernel
theorem dX13_learns_57 : decode cX13_learns 57 = .ok (.iaload, 1) := by decide +kernel
theorem dX13_learns_58 : decode cX13_learns 58 = .ok (.if_icmp .ne 55, 3) := by decide +kernel
theorem dX13_learns_61 : decode cX13_learns 61 = .ok (.aload_n 0, 1) := by decide +kernel
theorem dX13_learns_62 : decode cX13_learns 62 = .ok (.getfield 13, 3) := by decide +kernel
theorem dX13_learns_65 : decode cX13_learns 65 = .ok (.bipush 107, 2) := by decide +kernel
theorem dX13_learns_67 : decode cX13_learns 67 = .ok (.iload_n 1, 1) := by decide +kernel
theorem dX13_learns_68 : decode cX13_learns 68 = .ok (.iadd, 1) := by decide +kernel
theorem dX13_learns_69 : decode cX13_learns 69 = .ok (.iaload, 1) := by decide +kernel
theorem dX13_learns_70 : decode cX13_learns 70 = .ok (.aload_n 0, 1) := by decide +kernel
theorem dX13_learns_71 : decode cX13_learns 71 = .ok (.getfield 13, 3) := by decide +kernel
theorem dX13_learns_74 : decode cX13_learns 74 = .ok (.bipush 8, 2) := by decide +kernel
theorem dX13_learns_76 : decode cX13_learns 76 = .ok (.iload_n 2, 1) := by decide +kernel
theorem dX13_learns_77 : decode cX13_learns 77 = .ok (.iadd, 1) := by decide +kernel
theorem dX13_learns_78 : decode cX13_learns 78 = .ok (.iaload, 1) := by decide +kernel
theorem dX13_learns_79 : decode cX13_learns 79 = .ok (.irem, 1) := by decide +kernel
theorem dX13_learns_80 : decode cX13_learns 80 = .ok (.ifCond .eq 6, 3) := by decide +kernel
theorem dX13_learns_83 : decode cX13_learns 83 = .ok (.goto 30, 3) := by decide +kernel
theorem dX13_learns_86 : decode cX13_learns 86 = .ok (.aload_n 0, 1) := by decide +kernel
theorem dX13_learns_87 : decode cX13_learns 87 = .ok (.getfield 13, 3) := by decide +kernel
theorem dX13_learns_90 : decode cX13_learns 90 = .ok (.bipush 123, 2) := by decide +kernel
theorem dX13_learns_92 : decode cX13_learns 92 = .ok (.bipush 6, 2) := by decide +kernel
theorem dX13_learns_94 : decode cX13_learns 94 = .ok (.iload_n 1, 1) := by decide +kernel
theorem dX13_learns_95 : decode cX13_learns 95 = .ok (.imul, 1) := by decide +kernel
theorem dX13_learns_96 : decode cX13_learns 96 = .ok (.iadd, 1) := by decide +kernel
theorem dX13_learns_97 : decode cX13_learns 97 = .ok (.iload_n 2, 1) := by decide +kernel
theorem dX13_learns_98 : decode cX13_learns 98 = .ok (.iadd, 1) := by decide +kernel
theorem dX13_learns_99 : decode cX13_learns 99 = .ok (.bipush 12, 2) := by decide +kernel
theorem dX13_learns_101 : decode cX13_learns 101 = .ok (.aload_n 0, 1) := by decide +kernel
theorem dX13_learns_102 : decode cX13_learns 102 = .ok (.iload_n 1, 1) := by decide +kernel
theorem dX13_learns_103 : decode cX13_learns 103 = .ok (.iload_n 2, 1) := by decide +kernel
theorem dX13_learns_104 : decode cX13_learns 104 = .ok (.invokevirtual 240, 3) := by decide +kernel
theorem dX13_learns_107 : decode cX13_learns 107 = .ok (.iconst 1, 1) := by decide +kernel
theorem dX13_learns_108 : decode cX13_learns 108 = .ok (.iadd, 1) := by decide +kernel
theorem dX13_learns_109 : decode cX13_learns 109 = .ok (.invokestatic 283, 3) := by decide +kernel
theorem dX13_learns_112 : decode cX13_learns 112 = .ok (.iastore, 1) := by decide +kernel
theorem dX13_learns_113 : decode cX13_learns 113 = .ok (.iinc 2 1, 3) := by decide +kernel
theorem dX13_learns_116 : decode cX13_learns 116 = .ok (.goto (-87), 3) := by decide +kernel
theorem dX13_learns_119 : decode cX13_learns 119 = .ok (.return_, 1) := by decide +kernel
theorem bX13_learns_0 {G : Gt} {d bc bs : Nat} {Q : QT} {l : Ls} {z : List Value} {h : Hp} (k : (tAld 0 (tGetf 11 14 (tPush (.int 107) (tIld 1 (tB (fun x y => x + y) (tDup2 (tXald 0 (tPush (.int 1) (tB (fun x y => x + y) (tXast 0 (tAld 0 (tGetf 11 14 (tPush (.int 99) (tIld 1 (tB (fun x y => x + y) (tXald 0 (tPush (.int 1) (tIf2 (fun x y => x = y) (fun l z h => T G d bc bs mX13_learns 26 l z h Q) (fun l z h => T G d bc bs mX13_learns 27 l z h Q))))))))))))))))))) l z h) : T G d bc bs mX13_learns 0 l z h Q := by
  refine R_aload_n dX13_learns_0 rfl (fun l z h k => ?_) k
  refine R_getf (ci := 11) (f := 14) (C := RX13) (N := 49) (Tt := TX13) dX13_learns_1 rfl i_X13 (by decide) w_1481 (fun l z h k => ?_) k
  refine R_bipush dX13_learns_4 (by decide) (fun l z h k => ?_) k
  refine R_iload_n dX13_learns_6 rfl (fun l z h k => ?_) k
  refine R_iadd dX13_learns_7 (fun l z h k => ?_) k
  refine R_dup2 dX13_learns_8 (fun l z h k => ?_) k
  refine R_iaload dX13_learns_9 (fun l z h k => ?_) k
  refine R_iconst dX13_learns_10 (by decide) (fun l z h k => ?_) k
  refine R_iadd dX13_learns_11 (fun l z h k => ?_) k
  refine R_iastore dX13_learns_12 (fun l z h k => ?_) k
  refine R_aload_n dX13_learns_13 rfl (fun l z h k => ?_) k
  refine R_getf (ci := 11) (f := 14) (C := RX13) (N := 49) (Tt := TX13) dX13_learns_14 rfl i_X13 (by decide) w_1481 (fun l z h k => ?_) k
  refine R_bipush dX13_learns_17 (by decide) (fun l z h k => ?_) k
  refine R_iload_n dX13_learns_19 rfl (fun l z h k => ?_) k
  refine R_iadd dX13_learns_20 (fun l z h k => ?_) k
  refine R_iaload dX13_learns_21 (fun l z h k => ?_) k
  refine R_iconst dX13_learns_22 (by decide) (fun l z h k => ?_) k
  exact R_icmp_ne dX13_learns_23 (by decide) (fun _ _ _ k => k) (fun _ _ _ k => k) k
theorem bX13_learns_26 {G : Gt} {d bc bs : Nat} {Q : QT} {l : Ls} {z : List Value} {h : Hp} (k : (tRetV Q) l z h) : T G d bc bs mX13_learns 26 l z h Q := by
  exact R_vret dX13_learns_26 rfl k
theorem bX13_learns_27 {G : Gt} {d bc bs : Nat} {Q : QT} {l : Ls} {z : List Value} {h : Hp} (k : (tPush (.int 0) (tIst 2 ((fun l z h => T G d bc bs mX13_learns 29 l z h Q)))) l z h) : T G d bc bs mX13_learns 27 l z h Q := by
  refine R_iconst dX13_learns_27 (by decide) (fun l z h k => ?_) k
  refine R_istore_n dX13_learns_28 rfl (by decide) (fun l z h k => ?_) k
  exact k
theorem bX13_learns_29 {G : Gt} {d bc bs : Nat} {Q : QT} {l : Ls} {z : List Value} {h : Hp} (k : (tIld 2 (tAld 0 (tGetf 11 14 (tPush (.int 0) (tXald 0 (tIf2 (fun x y => y ≤ x) (fun l z h => T G d bc bs mX13_learns 119 l z h Q) (fun l z h => T G d bc bs mX13_learns 39 l z h Q))))))) l z h) : T G d bc bs mX13_learns 29 l z h Q := by
  refine R_iload_n dX13_learns_29 rfl (fun l z h k => ?_) k
  refine R_aload_n dX13_learns_30 rfl (fun l z h k => ?_) k
  refine R_getf (ci := 11) (f := 14) (C := RX13) (N := 49) (Tt := TX13) dX13_learns_31 rfl i_X13 (by decide) w_1481 (fun l z h k => ?_) k
  refine R_iconst dX13_learns_34 (by decide) (fun l z h k => ?_) k
  refine R_iaload dX13_learns_35 (fun l z h k => ?_) k
  exact R_icmp_ge dX13_learns_36 (by decide) (fun _ _ _ k => k) (fun _ _ _ k => k) k
theorem bX13_learns_39 {G : Gt} {d bc bs : Nat} {Q : QT} {l : Ls} {z : List Value} {h : Hp} (k : (tPush (.int 2) (tAld 0 (tGetf 11 14 (tPush (.int 2) (tIld 2 (tB (fun x y => x + y) (tXald 0 (tB (fun x y => x * y) (tAld 0 (tGetf 11 14 (tPush (.int 99) (tIld 1 (tB (fun x y => x + y) (tXald 0 (tIf2 (fun x y => x = y) (fun l z h => T G d bc bs mX13_learns 61 l z h Q) (fun l z h => T G d bc bs mX13_learns 113 l z h Q)))))))))))))))) l z h) : T G d bc bs mX13_learns 39 l z h Q := by
  refine R_iconst dX13_learns_39 (by decide) (fun l z h k => ?_) k
  refine R_aload_n dX13_learns_40 rfl (fun l z h k => ?_) k
  refine R_getf (ci := 11) (f := 14) (C := RX13) (N := 49) (Tt := TX13) dX13_learns_41 rfl i_X13 (by decide) w_1481 (fun l z h k => ?_) k
  refine R_iconst dX13_learns_44 (by decide) (fun l z h k => ?_) k
  refine R_iload_n dX13_learns_45 rfl (fun l z h k => ?_) k
  refine R_iadd dX13_learns_46 (fun l z h k => ?_) k
  refine R_iaload dX13_learns_47 (fun l z h k => ?_) k
  refine R_imul dX13_learns_48 (fun l z h k => ?_) k
  refine R_aload_n dX13_learns_49 rfl (fun l z h k => ?_) k
  refine R_getf (ci := 11) (f := 14) (C := RX13) (N := 49) (Tt := TX13) dX13_learns_50 rfl i_X13 (by decide) w_1481 (fun l z h k => ?_) k
  refine R_bipush dX13_learns_53 (by decide) (fun l z h k => ?_) k
  refine R_iload_n dX13_learns_55 rfl (fun l z h k => ?_) k
  refine R_iadd dX13_learns_56 (fun l z h k => ?_) k
  refine R_iaload dX13_learns_57 (fun l z h k => ?_) k
  exact R_icmp_ne dX13_learns_58 (by decide) (fun _ _ _ k => k) (fun _ _ _ k => k) k
theorem bX13_learns_61 {G : Gt} {d bc bs : Nat} {Q : QT} {l : Ls} {z : List Value} {h : Hp} (k : (tAld 0 (tGetf 11 14 (tPush (.int 107) (tIld 1 (tB (fun x y => x + y) (tXald 0 (tAld 0 (tGetf 11 14 (tPush (.int 8) (tIld 2 (tB (fun x y => x + y) (tXald 0 (tBn (fun x y => x - x / y * y) (tIf (fun x => x = 0) (fun l z h => T G d bc bs mX13_learns 86 l z h Q) (fun l z h => T G d bc bs mX13_learns 83 l z h Q))))))))))))))) l z h) : T G d bc bs mX13_learns 61 l z h Q := by
  refine R_aload_n dX13_learns_61 rfl (fun l z h k => ?_) k
  refine R_getf (ci := 11) (f := 14) (C := RX13) (N := 49) (Tt := TX13) dX13_learns_62 rfl i_X13 (by decide) w_1481 (fun l z h k => ?_) k
  refine R_bipush dX13_learns_65 (by decide) (fun l z h k => ?_) k
  refine R_iload_n dX13_learns_67 rfl (fun l z h k => ?_) k
  refine R_iadd dX13_learns_68 (fun l z h k => ?_) k
  refine R_iaload dX13_learns_69 (fun l z h k => ?_) k
  refine R_aload_n dX13_learns_70 rfl (fun l z h k => ?_) k
  refine R_getf (ci := 11) (f := 14) (C := RX13) (N := 49) (Tt := TX13) dX13_learns_71 rfl i_X13 (by decide) w_1481 (fun l z h k => ?_) k
  refine R_bipush dX13_learns_74 (by decide) (fun l z h k => ?_) k
  refine R_iload_n dX13_learns_76 rfl (fun l z h k => ?_) k
  refine R_iadd dX13_learns_77 (fun l z h k => ?_) k
  refine R_iaload dX13_learns_78 (fun l z h k => ?_) k
  refine R_irem dX13_learns_79 (fun l z h k => ?_) k
  exact R_if_eq dX13_learns_80 (by decide) (fun _ _ _ k => k) (fun _ _ _ k => k) k
theorem bX13_learns_83 {G : Gt} {d bc bs : Nat} {Q : QT} {l : Ls} {z : List Value} {h : Hp} (k : (fun l z h => T G d bc bs mX13_learns 113 l z h Q) l z h) : T G d bc bs mX13_learns 83 l z h Q := by
  exact R_goto dX13_learns_83 (by decide) (fun _ _ _ k => k) k
theorem bX13_learns_86 {G : Gt} {d bc bs : Nat} {Q : QT} {l : Ls} {z : List Value} {h : Hp} (k : (tAld 0 (tGetf 11 14 (tPush (.int 123) (tPush (.int 6) (tIld 1 (tB (fun x y => x * y) (tB (fun x y => x + y) (tIld 2 (tB (fun x y => x + y) (tPush (.int 12) (tAld 0 (tIld 1 (tIld 2 (tCV2 G d 0 0 11 mX13_haveOf (fun l z h => T G d bc bs mX13_learns 107 l z h Q))))))))))))))) l z h) : T G d bc bs mX13_learns 86 l z h Q := by
  refine R_aload_n dX13_learns_86 rfl (fun l z h k => ?_) k
  refine R_getf (ci := 11) (f := 14) (C := RX13) (N := 49) (Tt := TX13) dX13_learns_87 rfl i_X13 (by decide) w_1481 (fun l z h k => ?_) k
  refine R_bipush dX13_learns_90 (by decide) (fun l z h k => ?_) k
  refine R_bipush dX13_learns_92 (by decide) (fun l z h k => ?_) k
  refine R_iload_n dX13_learns_94 rfl (fun l z h k => ?_) k
  refine R_imul dX13_learns_95 (fun l z h k => ?_) k
  refine R_iadd dX13_learns_96 (fun l z h k => ?_) k
  refine R_iload_n dX13_learns_97 rfl (fun l z h k => ?_) k
  refine R_iadd dX13_learns_98 (fun l z h k => ?_) k
  refine R_bipush dX13_learns_99 (by decide) (fun l z h k => ?_) k
  refine R_aload_n dX13_learns_101 rfl (fun l z h k => ?_) k
  refine R_iload_n dX13_learns_102 rfl (fun l z h k => ?_) k
  refine R_iload_n dX13_learns_103 rfl (fun l z h k => ?_) k
  exact R_cv2 (M := mX13_learns) (pc := 104) (bc := bc) (bs := bs) (cb := 0) (cs := 0) (M' := mX13_haveOf) dX13_learns_104 rfl (by decide) w_1779 w_144 w_1776 w_1778 w_73 (by decide +kernel) (fun _ _ _ k => k) k
theorem bX13_learns_107 {G : Gt} {d bc bs : Nat} {Q : QT} {l : Ls} {z : List Value} {h : Hp} (k : (tPush (.int 1) (tB (fun x y => x + y) (tCS2 G d 0 0 mX13_least (fun l z h => T G d bc bs mX13_learns 112 l z h Q)))) l z h) : T G d bc bs mX13_learns 107 l z h Q := by
  refine R_iconst dX13_learns_107 (by decide) (fun l z h k => ?_) k
  refine R_iadd dX13_learns_108 (fun l z h k => ?_) k
  exact R_cs2 (M := mX13_learns) (pc := 109) (bc := bc) (bs := bs) (cb := 0) (cs := 0) (M' := mX13_least) dX13_learns_109 (by decide) w_1869 w_144 w_1867 w_1868 (by decide +kernel) (fun _ _ _ k => k) k
theorem bX13_learns_112 {G : Gt} {d bc bs : Nat} {Q : QT} {l : Ls} {z : List Value} {h : Hp} (k : (tXast 0 ((fun l z h => T G d bc bs mX13_learns 113 l z h Q))) l z h) : T G d bc bs mX13_learns 112 l z h Q := by
  refine R_iastore dX13_learns_112 (fun l z h k => ?_) k
  exact k
theorem bX13_learns_113 {G : Gt} {d bc bs : Nat} {Q : QT} {l : Ls} {z : List Value} {h : Hp} (k : (tInc 2 1 ((fun l z h => T G d bc bs mX13_learns 29 l z h Q))) l z h) : T G d bc bs mX13_learns 113 l z h Q := by
  refine R_iinc dX13_learns_113 (by decide) (by decide) (fun l z h k => ?_) k
  exact R_goto dX13_learns_116 (by decide) (fun _ _ _ k => k) k
theorem bX13_learns_119 {G : Gt} {d bc bs : Nat} {Q : QT} {l : Ls} {z : List Value} {h : Hp} (k : (tRetV Q) l z h) : T G d bc bs mX13_learns 119 l z h Q := by
  exact R_vret dX13_learns_119 rfl k
theorem dX13_teach_0 : decode cX13_teach 0 = .ok (.iconst 0, 1) := by decide +kernel
theorem dX13_teach_1 : decode cX13_teach 1 = .ok (.istore_n 3, 1) := by decide +kernel
theorem dX13_teach_2 : decode cX13_teach 2 = .ok (.iload_n 3, 1) := by decide +kernel
theorem dX13_teach_3 : decode cX13_teach 3 = .ok (.bipush 6, 2) := by decide +kernel
theorem dX13_teach_5 : decode cX13_teach 5 = .ok (.if_icmp .ge 73, 3) := by decide +kernel
theorem dX13_teach_8 : decode cX13_teach 8 = .ok (.aload_n 0, 1) := by decide +kernel
theorem dX13_teach_9 : decode cX13_teach 9 = .ok (.iload_n 1, 1) := by decide +kernel
theorem dX13_teach_10 : decode cX13_teach 10 = .ok (.iload_n 3, 1) := by decide +kernel
theorem dX13_teach_11 : decode cX13_teach 11 = .ok (.invokevirtual 240, 3) := by decide +kernel
theorem dX13_teach_14 : decode cX13_teach 14 = .ok (.aload_n 0, 1) := by decide +kernel
theorem dX13_teach_15 : decode cX13_teach 15 = .ok (.iload_n 2, 1) := by decide +kernel
theorem dX13_teach_16 : decode cX13_teach 16 = .ok (.iload_n 3, 1) := by decide +kernel
theorem dX13_teach_17 : decode cX13_teach 17 = .ok (.invokevirtual 240, 3) := by decide +kernel
theorem dX13_teach_20 : decode cX13_teach 20 = .ok (.isub, 1) := by decide +kernel
theorem dX13_teach_21 : decode cX13_teach 21 = .ok (.istore 4, 2) := by decide +kernel
theorem dX13_teach_23 : decode cX13_teach 23 = .ok (.iload 4, 2) := by decide +kernel
theorem dX13_teach_25 : decode cX13_teach 25 = .ok (.iconst 2, 1) := by decide +kernel
theorem dX13_teach_26 : decode cX13_teach 26 = .ok (.if_icmp .lt 21, 3) := by decide +kernel
theorem dX13_teach_29 : decode cX13_teach 29 = .ok (.aload_n 0, 1) := by decide +kernel
theorem dX13_teach_30 : decode cX13_teach 30 = .ok (.getfield 13, 3) := by decide +kernel
theorem dX13_teach_33 : decode cX13_teach 33 = .ok (.bipush 123, 2) := by decide +kernel
theorem dX13_teach_35 : decode cX13_teach 35 = .ok (.bipush 6, 2) := by decide +kernel
theorem dX13_teach_37 : decode cX13_teach 37 = .ok (.iload_n 2, 1) := by decide +kernel
theorem dX13_teach_38 : decode cX13_teach 38 = .ok (.imul, 1) := by decide +kernel
theorem dX13_teach_39 : decode cX13_teach 39 = .ok (.iadd, 1) := by decide +kernel
theorem dX13_teach_40 : decode cX13_teach 40 = .ok (.iload_n 3, 1) := by decide +kernel
theorem dX13_teach_41 : decode cX13_teach 41 = .ok (.iadd, 1) := by decide +kernel
theorem dX13_teach_42 : decode cX13_teach 42 = .ok (.dup2, 1) := by decide +kernel
theorem dX13_teach_43 : decode cX13_teach 43 = .ok (.iaload, 1) := by decide +kernel
theorem dX13_teach_44 : decode cX13_teach 44 = .ok (.iconst 1, 1) := by decide +kernel
theorem dX13_teach_45 : decode cX13_teach 45 = .ok (.iadd, 1) := by decide +kernel
theorem dX13_teach_46 : decode cX13_teach 46 = .ok (.iastore, 1) := by decide +kernel
theorem dX13_teach_47 : decode cX13_teach 47 = .ok (.iload 4, 2) := by decide +kernel
theorem dX13_teach_49 : decode cX13_teach 49 = .ok (.bipush (-2), 2) := by decide +kernel
theorem dX13_teach_51 : decode cX13_teach 51 = .ok (.if_icmp .gt 21, 3) := by decide +kernel
theorem dX13_teach_54 : decode cX13_teach 54 = .ok (.aload_n 0, 1) := by decide +kernel
theorem dX13_teach_55 : decode cX13_teach 55 = .ok (.getfield 13, 3) := by decide +kernel
theorem dX13_teach_58 : decode cX13_teach 58 = .ok (.bipush 123, 2) := by decide +kernel
theorem dX13_teach_60 : decode cX13_teach 60 = .ok (.bipush 6, 2) := by decide +kernel
theorem dX13_teach_62 : decode cX13_teach 62 = .ok (.iload_n 1, 1) := by decide +kernel
theorem dX13_teach_63 : decode cX13_teach 63 = .ok (.imul, 1) := by decide +kernel
theorem dX13_teach_64 : decode cX13_teach 64 = .ok (.iadd, 1) := by decide +kernel
theorem dX13_teach_65 : decode cX13_teach 65 = .ok (.iload_n 3, 1) := by decide +kernel
theorem dX13_teach_66 : decode cX13_teach 66 = .ok (.iadd, 1) := by decide +kernel
theorem dX13_teach_67 : decode cX13_teach 67 = .ok (.dup2, 1) := by decide +kernel
theorem dX13_teach_68 : decode cX13_teach 68 = .ok (.iaload, 1) := by decide +kernel
theorem dX13_teach_69 : decode cX13_teach 69 = .ok (.iconst 1, 1) := by decide +kernel
theorem dX13_teach_70 : decode cX13_teach 70 = .ok (.iadd, 1) := by decide +kernel
theorem dX13_teach_71 : decode cX13_teach 71 = .ok (.iastore, 1) := by decide +kernel
theorem dX13_teach_72 : decode cX13_teach 72 = .ok (.iinc 3 1, 3) := by decide +kernel
theorem dX13_teach_75 : decode cX13_teach 75 = .ok (.goto (-73), 3) := by decide +kernel
theorem dX13_teach_78 : decode cX13_teach 78 = .ok (.return_, 1) := by decide +kernel
theorem bX13_teach_0 {G : Gt} {d bc bs : Nat} {Q : QT} {l : Ls} {z : List Value} {h : Hp} (k : (tPush (.int 0) (tIst 3 ((fun l z h => T G d bc bs mX13_teach 2 l z h Q)))) l z h) : T G d bc bs mX13_teach 0 l z h Q := by
  refine R_iconst dX13_teach_0 (by decide) (fun l z h k => ?_) k
  refine R_istore_n dX13_teach_1 rfl (by decide) (fun l z h k => ?_) k
  exact k
theorem bX13_teach_2 {G : Gt} {d bc bs : Nat} {Q : QT} {l : Ls} {z : List Value} {h : Hp} (k : (tIld 3 (tPush (.int 6) (tIf2 (fun x y => y ≤ x) (fun l z h => T G d bc bs mX13_teach 78 l z h Q) (fun l z h => T G d bc bs mX13_teach 8 l z h Q)))) l z h) : T G d bc bs mX13_teach 2 l z h Q := by
  refine R_iload_n dX13_teach_2 rfl (fun l z h k => ?_) k
  refine R_bipush dX13_teach_3 (by decide) (fun l z h k => ?_) k
  exact R_icmp_ge dX13_teach_5 (by decide) (fun _ _ _ k => k) (fun _ _ _ k => k) k
theorem bX13_teach_8 {G : Gt} {d bc bs : Nat} {Q : QT} {l : Ls} {z : List Value} {h : Hp} (k : (tAld 0 (tIld 1 (tIld 3 (tCV2 G d 0 0 11 mX13_haveOf (fun l z h => T G d bc bs mX13_teach 14 l z h Q))))) l z h) : T G d bc bs mX13_teach 8 l z h Q := by
  refine R_aload_n dX13_teach_8 rfl (fun l z h k => ?_) k
  refine R_iload_n dX13_teach_9 rfl (fun l z h k => ?_) k
  refine R_iload_n dX13_teach_10 rfl (fun l z h k => ?_) k
  exact R_cv2 (M := mX13_teach) (pc := 11) (bc := bc) (bs := bs) (cb := 0) (cs := 0) (M' := mX13_haveOf) dX13_teach_11 rfl (by decide) w_1779 w_144 w_1776 w_1778 w_73 (by decide +kernel) (fun _ _ _ k => k) k
theorem bX13_teach_14 {G : Gt} {d bc bs : Nat} {Q : QT} {l : Ls} {z : List Value} {h : Hp} (k : (tAld 0 (tIld 2 (tIld 3 (tCV2 G d 0 0 11 mX13_haveOf (fun l z h => T G d bc bs mX13_teach 20 l z h Q))))) l z h) : T G d bc bs mX13_teach 14 l z h Q := by
  refine R_aload_n dX13_teach_14 rfl (fun l z h k => ?_) k
  refine R_iload_n dX13_teach_15 rfl (fun l z h k => ?_) k
  refine R_iload_n dX13_teach_16 rfl (fun l z h k => ?_) k
  exact R_cv2 (M := mX13_teach) (pc := 17) (bc := bc) (bs := bs) (cb := 0) (cs := 0) (M' := mX13_haveOf) dX13_teach_17 rfl (by decide) w_1779 w_144 w_1776 w_1778 w_73 (by decide +kernel) (fun _ _ _ k => k) k
theorem bX13_teach_20 {G : Gt} {d bc bs : Nat} {Q : QT} {l : Ls} {z : List Value} {h : Hp} (k : (tB (fun x y => x - y) (tIst 4 (tIld 4 (tPush (.int 2) (tIf2 (fun x y => x < y) (fun l z h => T G d bc bs mX13_teach 47 l z h Q) (fun l z h => T G d bc bs mX13_teach 29 l z h Q)))))) l z h) : T G d bc bs mX13_teach 20 l z h Q := by
  refine R_isub dX13_teach_20 (fun l z h k => ?_) k
  refine R_istore dX13_teach_21 (by decide) (fun l z h k => ?_) k
  refine R_iload dX13_teach_23 (fun l z h k => ?_) k
  refine R_iconst dX13_teach_25 (by decide) (fun l z h k => ?_) k
  exact R_icmp_lt dX13_teach_26 (by decide) (fun _ _ _ k => k) (fun _ _ _ k => k) k
theorem bX13_teach_29 {G : Gt} {d bc bs : Nat} {Q : QT} {l : Ls} {z : List Value} {h : Hp} (k : (tAld 0 (tGetf 11 14 (tPush (.int 123) (tPush (.int 6) (tIld 2 (tB (fun x y => x * y) (tB (fun x y => x + y) (tIld 3 (tB (fun x y => x + y) (tDup2 (tXald 0 (tPush (.int 1) (tB (fun x y => x + y) (tXast 0 ((fun l z h => T G d bc bs mX13_teach 47 l z h Q)))))))))))))))) l z h) : T G d bc bs mX13_teach 29 l z h Q := by
  refine R_aload_n dX13_teach_29 rfl (fun l z h k => ?_) k
  refine R_getf (ci := 11) (f := 14) (C := RX13) (N := 49) (Tt := TX13) dX13_teach_30 rfl i_X13 (by decide) w_1481 (fun l z h k => ?_) k
  refine R_bipush dX13_teach_33 (by decide) (fun l z h k => ?_) k
  refine R_bipush dX13_teach_35 (by decide) (fun l z h k => ?_) k
  refine R_iload_n dX13_teach_37 rfl (fun l z h k => ?_) k
  refine R_imul dX13_teach_38 (fun l z h k => ?_) k
  refine R_iadd dX13_teach_39 (fun l z h k => ?_) k
  refine R_iload_n dX13_teach_40 rfl (fun l z h k => ?_) k
  refine R_iadd dX13_teach_41 (fun l z h k => ?_) k
  refine R_dup2 dX13_teach_42 (fun l z h k => ?_) k
  refine R_iaload dX13_teach_43 (fun l z h k => ?_) k
  refine R_iconst dX13_teach_44 (by decide) (fun l z h k => ?_) k
  refine R_iadd dX13_teach_45 (fun l z h k => ?_) k
  refine R_iastore dX13_teach_46 (fun l z h k => ?_) k
  exact k
theorem bX13_teach_47 {G : Gt} {d bc bs : Nat} {Q : QT} {l : Ls} {z : List Value} {h : Hp} (k : (tIld 4 (tPush (.int (-2)) (tIf2 (fun x y => y < x) (fun l z h => T G d bc bs mX13_teach 72 l z h Q) (fun l z h => T G d bc bs mX13_teach 54 l z h Q)))) l z h) : T G d bc bs mX13_teach 47 l z h Q := by
  refine R_iload dX13_teach_47 (fun l z h k => ?_) k
  refine R_bipush dX13_teach_49 (by decide) (fun l z h k => ?_) k
  exact R_icmp_gt dX13_teach_51 (by decide) (fun _ _ _ k => k) (fun _ _ _ k => k) k
theorem bX13_teach_54 {G : Gt} {d bc bs : Nat} {Q : QT} {l : Ls} {z : List Value} {h : Hp} (k : (tAld 0 (tGetf 11 14 (tPush (.int 123) (tPush (.int 6) (tIld 1 (tB (fun x y => x * y) (tB (fun x y => x + y) (tIld 3 (tB (fun x y => x + y) (tDup2 (tXald 0 (tPush (.int 1) (tB (fun x y => x + y) (tXast 0 ((fun l z h => T G d bc bs mX13_teach 72 l z h Q)))))))))))))))) l z h) : T G d bc bs mX13_teach 54 l z h Q := by
  refine R_aload_n dX13_teach_54 rfl (fun l z h k => ?_) k
  refine R_getf (ci := 11) (f := 14) (C := RX13) (N := 49) (Tt := TX13) dX13_teach_55 rfl i_X13 (by decide) w_1481 (fun l z h k => ?_) k
  refine R_bipush dX13_teach_58 (by decide) (fun l z h k => ?_) k
  refine R_bipush dX13_teach_60 (by decide) (fun l z h k => ?_) k
  refine R_iload_n dX13_teach_62 rfl (fun l z h k => ?_) k
  refine R_imul dX13_teach_63 (fun l z h k => ?_) k
  refine R_iadd dX13_teach_64 (fun l z h k => ?_) k
  refine R_iload_n dX13_teach_65 rfl (fun l z h k => ?_) k
  refine R_iadd dX13_teach_66 (fun l z h k => ?_) k
  refine R_dup2 dX13_teach_67 (fun l z h k => ?_) k
  refine R_iaload dX13_teach_68 (fun l z h k => ?_) k
  refine R_iconst dX13_teach_69 (by decide) (fun l z h k => ?_) k
  refine R_iadd dX13_teach_70 (fun l z h k => ?_) k
  refine R_iastore dX13_teach_71 (fun l z h k => ?_) k
  exact k
theorem bX13_teach_72 {G : Gt} {d bc bs : Nat} {Q : QT} {l : Ls} {z : List Value} {h : Hp} (k : (tInc 3 1 ((fun l z h => T G d bc bs mX13_teach 2 l z h Q))) l z h) : T G d bc bs mX13_teach 72 l z h Q := by
  refine R_iinc dX13_teach_72 (by decide) (by decide) (fun l z h k => ?_) k
  exact R_goto dX13_teach_75 (by decide) (fun _ _ _ k => k) k
theorem bX13_teach_78 {G : Gt} {d bc bs : Nat} {Q : QT} {l : Ls} {z : List Value} {h : Hp} (k : (tRetV Q) l z h) : T G d bc bs mX13_teach 78 l z h Q := by
  exact R_vret dX13_teach_78 rfl k
theorem dX13_oneDay_0 : decode cX13_oneDay 0 = .ok (.iconst 0, 1) := by decide +kernel
theorem dX13_oneDay_1 : decode cX13_oneDay 1 = .ok (.istore_n 1, 1) := by decide +kernel
theorem dX13_oneDay_2 : decode cX13_oneDay 2 = .ok (.iload_n 1, 1) := by decide +kernel
theorem dX13_oneDay_3 : decode cX13_oneDay 3 = .ok (.aload_n 0, 1) := by decide +kernel
theorem dX13_oneDay_4 : decode cX13_oneDay 4 = .ok (.getfield 13, 3) := by decide +kernel
theorem dX13_oneDay_7 : decode cX13_oneDay 7 = .ok (.iconst 1, 1) := by decide +kernel
theorem dX13_oneDay_8 : decode cX13_oneDay 8 = .ok (.iaload, 1) := by decide +kernel
theorem dX13_oneDay_9 : decode cX13_oneDay 9 = .ok (.if_icmp .ge 14, 3) := by decide +kernel
theorem dX13_oneDay_12 : decode cX13_oneDay 12 = .ok (.aload_n 0, 1) := by decide +kernel
theorem dX13_oneDay_13 : decode cX13_oneDay 13 = .ok (.iload_n 1, 1) := by decide +kernel
theorem dX13_oneDay_14 : decode cX13_oneDay 14 = .ok (.invokevirtual 311, 3) := by decide +kernel
theorem dX13_oneDay_17 : decode cX13_oneDay 17 = .ok (.iinc 1 1, 3) := by decide +kernel
theorem dX13_oneDay_20 : decode cX13_oneDay 20 = .ok (.goto (-18), 3) := by decide +kernel
theorem dX13_oneDay_23 : decode cX13_oneDay 23 = .ok (.iconst 0, 1) := by decide +kernel
theorem dX13_oneDay_24 : decode cX13_oneDay 24 = .ok (.istore_n 1, 1) := by decide +kernel
theorem dX13_oneDay_25 : decode cX13_oneDay 25 = .ok (.iload_n 1, 1) := by decide +kernel
theorem dX13_oneDay_26 : decode cX13_oneDay 26 = .ok (.aload_n 0, 1) := by decide +kernel
theorem dX13_oneDay_27 : decode cX13_oneDay 27 = .ok (.getfield 13, 3) := by decide +kernel
theorem dX13_oneDay_30 : decode cX13_oneDay 30 = .ok (.iconst 1, 1) := by decide +kernel
theorem dX13_oneDay_31 : decode cX13_oneDay 31 = .ok (.iaload, 1) := by decide +kernel
theorem dX13_oneDay_32 : decode cX13_oneDay 32 = .ok (.if_icmp .ge 52, 3) := by decide +kernel
theorem dX13_oneDay_35 : decode cX13_oneDay 35 = .ok (.aload_n 0, 1) := by decide +kernel
theorem dX13_oneDay_36 : decode cX13_oneDay 36 = .ok (.getfield 13, 3) := by decide +kernel
theorem dX13_oneDay_39 : decode cX13_oneDay 39 = .ok (.sipush 183, 3) := by decide +kernel
theorem dX13_oneDay_42 : decode cX13_oneDay 42 = .ok (.iload_n 1, 1) := by decide +kernel
theorem dX13_oneDay_43 : decode cX13_oneDay 43 = .ok (.iadd, 1) := by decide +kernel
theorem dX13_oneDay_44 : decode cX13_oneDay 44 = .ok (.iaload, 1) := by decide +kernel
theorem dX13_oneDay_45 : decode cX13_oneDay 45 = .ok (.istore_n 2, 1) := by decide +kernel
theorem dX13_oneDay_46 : decode cX13_oneDay 46 = .ok (.iload_n 2, 1) := by decide +kernel
theorem dX13_oneDay_47 : decode cX13_oneDay 47 = .ok (.iload_n 1, 1) := by decide +kernel
theorem dX13_oneDay_48 : decode cX13_oneDay 48 = .ok (.if_icmp .le 30, 3) := by decide +kernel
theorem dX13_oneDay_51 : decode cX13_oneDay 51 = .ok (.aload_n 0, 1) := by decide +kernel
theorem dX13_oneDay_52 : decode cX13_oneDay 52 = .ok (.getfield 13, 3) := by decide +kernel
theorem dX13_oneDay_55 : decode cX13_oneDay 55 = .ok (.bipush 99, 2) := by decide +kernel
theorem dX13_oneDay_57 : decode cX13_oneDay 57 = .ok (.iload_n 1, 1) := by decide +kernel
theorem dX13_oneDay_58 : decode cX13_oneDay 58 = .ok (.iadd, 1) := by decide +kernel
theorem dX13_oneDay_59 : decode cX13_oneDay 59 = .ok (.iaload, 1) := by decide +kernel
theorem dX13_oneDay_60 : decode cX13_oneDay 60 = .ok (.aload_n 0, 1) := by decide +kernel
theorem dX13_oneDay_61 : decode cX13_oneDay 61 = .ok (.getfield 13, 3) := by decide +kernel
theorem dX13_oneDay_64 : decode cX13_oneDay 64 = .ok (.bipush 99, 2) := by decide +kernel
theorem dX13_oneDay_66 : decode cX13_oneDay 66 = .ok (.iload_n 2, 1) := by decide +kernel
theorem dX13_oneDay_67 : decode cX13_oneDay 67 = .ok (.iadd, 1) := by decide +kernel
theorem dX13_oneDay_68 : decode cX13_oneDay 68 = .ok (.iaload, 1) := by decide +kernel
theorem dX13_oneDay_69 : decode cX13_oneDay 69 = .ok (.if_icmp .ne 9, 3) := by decide +kernel
theorem dX13_oneDay_72 : decode cX13_oneDay 72 = .ok (.aload_n 0, 1) := by decide +kernel
theorem dX13_oneDay_73 : decode cX13_oneDay 73 = .ok (.iload_n 1, 1) := by decide +kernel
theorem dX13_oneDay_74 : decode cX13_oneDay 74 = .ok (.iload_n 2, 1) := by decide +kernel
theorem dX13_oneDay_75 : decode cX13_oneDay 75 = .ok (.invokevirtual 314, 3) := by decide +kernel
theorem dX13_oneDay_78 : decode cX13_oneDay 78 = .ok (.iinc 1 1, 3) := by decide +kernel
theorem dX13_oneDay_81 : decode cX13_oneDay 81 = .ok (.goto (-56), 3) := by decide +kernel
theorem dX13_oneDay_84 : decode cX13_oneDay 84 = .ok (.aload_n 0, 1) := by decide +kernel
theorem dX13_oneDay_85 : decode cX13_oneDay 85 = .ok (.getfield 13, 3) := by decide +kernel
theorem dX13_oneDay_88 : decode cX13_oneDay 88 = .ok (.bipush 98, 2) := by decide +kernel
theorem dX13_oneDay_90 : decode cX13_oneDay 90 = .ok (.dup2, 1) := by decide +kernel
theorem dX13_oneDay_91 : decode cX13_oneDay 91 = .ok (.iaload, 1) := by decide +kernel
theorem dX13_oneDay_92 : decode cX13_oneDay 92 = .ok (.iconst 1, 1) := by decide +kernel
theorem dX13_oneDay_93 : decode cX13_oneDay 93 = .ok (.iadd, 1) := by decide +kernel
theorem dX13_oneDay_94 : decode cX13_oneDay 94 = .ok (.iastore, 1) := by decide +kernel
theorem dX13_oneDay_95 : decode cX13_oneDay 95 = .ok (.return_, 1) := by decide +kernel
theorem bX13_oneDay_0 {G : Gt} {d bc bs : Nat} {Q : QT} {l : Ls} {z : List Value} {h : Hp} (k : (tPush (.int 0) (tIst 1 ((fun l z h => T G d bc bs mX13_oneDay 2 l z h Q)))) l z h) : T G d bc bs mX13_oneDay 0 l z h Q := by
  refine R_iconst dX13_oneDay_0 (by decide) (fun l z h k => ?_) k
  refine R_istore_n dX13_oneDay_1 rfl (by decide) (fun l z h k => ?_) k
  exact k
theorem bX13_oneDay_2 {G : Gt} {d bc bs : Nat} {Q : QT} {l : Ls} {z : List Value} {h : Hp} (k : (tIld 1 (tAld 0 (tGetf 11 14 (tPush (.int 1) (tXald 0 (tIf2 (fun x y => y ≤ x) (fun l z h => T G d bc bs mX13_oneDay 23 l z h Q) (fun l z h => T G d bc bs mX13_oneDay 12 l z h Q))))))) l z h) : T G d bc bs mX13_oneDay 2 l z h Q := by
  refine R_iload_n dX13_oneDay_2 rfl (fun l z h k => ?_) k
  refine R_aload_n dX13_oneDay_3 rfl (fun l z h k => ?_) k
  refine R_getf (ci := 11) (f := 14) (C := RX13) (N := 49) (Tt := TX13) dX13_oneDay_4 rfl i_X13 (by decide) w_1481 (fun l z h k => ?_) k
  refine R_iconst dX13_oneDay_7 (by decide) (fun l z h k => ?_) k
  refine R_iaload dX13_oneDay_8 (fun l z h k => ?_) k
  exact R_icmp_ge dX13_oneDay_9 (by decide) (fun _ _ _ k => k) (fun _ _ _ k => k) k
theorem bX13_oneDay_12 {G : Gt} {d bc bs : Nat} {Q : QT} {l : Ls} {z : List Value} {h : Hp} (k : (tAld 0 (tIld 1 (tCV1 G d 0 0 11 mX13_learns (fun l z h => T G d bc bs mX13_oneDay 17 l z h Q)))) l z h) : T G d bc bs mX13_oneDay 12 l z h Q := by
  refine R_aload_n dX13_oneDay_12 rfl (fun l z h k => ?_) k
  refine R_iload_n dX13_oneDay_13 rfl (fun l z h k => ?_) k
  exact R_cv1 (M := mX13_oneDay) (pc := 14) (bc := bc) (bs := bs) (cb := 0) (cs := 0) (M' := mX13_learns) dX13_oneDay_14 rfl (by decide) w_1905 w_144 w_1902 w_1904 w_92 (by decide +kernel) (fun _ _ _ k => k) k
theorem bX13_oneDay_17 {G : Gt} {d bc bs : Nat} {Q : QT} {l : Ls} {z : List Value} {h : Hp} (k : (tInc 1 1 ((fun l z h => T G d bc bs mX13_oneDay 2 l z h Q))) l z h) : T G d bc bs mX13_oneDay 17 l z h Q := by
  refine R_iinc dX13_oneDay_17 (by decide) (by decide) (fun l z h k => ?_) k
  exact R_goto dX13_oneDay_20 (by decide) (fun _ _ _ k => k) k
theorem bX13_oneDay_23 {G : Gt} {d bc bs : Nat} {Q : QT} {l : Ls} {z : List Value} {h : Hp} (k : (tPush (.int 0) (tIst 1 ((fun l z h => T G d bc bs mX13_oneDay 25 l z h Q)))) l z h) : T G d bc bs mX13_oneDay 23 l z h Q := by
  refine R_iconst dX13_oneDay_23 (by decide) (fun l z h k => ?_) k
  refine R_istore_n dX13_oneDay_24 rfl (by decide) (fun l z h k => ?_) k
  exact k
theorem bX13_oneDay_25 {G : Gt} {d bc bs : Nat} {Q : QT} {l : Ls} {z : List Value} {h : Hp} (k : (tIld 1 (tAld 0 (tGetf 11 14 (tPush (.int 1) (tXald 0 (tIf2 (fun x y => y ≤ x) (fun l z h => T G d bc bs mX13_oneDay 84 l z h Q) (fun l z h => T G d bc bs mX13_oneDay 35 l z h Q))))))) l z h) : T G d bc bs mX13_oneDay 25 l z h Q := by
  refine R_iload_n dX13_oneDay_25 rfl (fun l z h k => ?_) k
  refine R_aload_n dX13_oneDay_26 rfl (fun l z h k => ?_) k
  refine R_getf (ci := 11) (f := 14) (C := RX13) (N := 49) (Tt := TX13) dX13_oneDay_27 rfl i_X13 (by decide) w_1481 (fun l z h k => ?_) k
  refine R_iconst dX13_oneDay_30 (by decide) (fun l z h k => ?_) k
  refine R_iaload dX13_oneDay_31 (fun l z h k => ?_) k
  exact R_icmp_ge dX13_oneDay_32 (by decide) (fun _ _ _ k => k) (fun _ _ _ k => k) k
theorem bX13_oneDay_35 {G : Gt} {d bc bs : Nat} {Q : QT} {l : Ls} {z : List Value} {h : Hp} (k : (tAld 0 (tGetf 11 14 (tPush (.int 183) (tIld 1 (tB (fun x y => x + y) (tXald 0 (tIst 2 (tIld 2 (tIld 1 (tIf2 (fun x y => x ≤ y) (fun l z h => T G d bc bs mX13_oneDay 78 l z h Q) (fun l z h => T G d bc bs mX13_oneDay 51 l z h Q))))))))))) l z h) : T G d bc bs mX13_oneDay 35 l z h Q := by
  refine R_aload_n dX13_oneDay_35 rfl (fun l z h k => ?_) k
  refine R_getf (ci := 11) (f := 14) (C := RX13) (N := 49) (Tt := TX13) dX13_oneDay_36 rfl i_X13 (by decide) w_1481 (fun l z h k => ?_) k
  refine R_sipush dX13_oneDay_39 (by decide) (fun l z h k => ?_) k
  refine R_iload_n dX13_oneDay_42 rfl (fun l z h k => ?_) k
  refine R_iadd dX13_oneDay_43 (fun l z h k => ?_) k
  refine R_iaload dX13_oneDay_44 (fun l z h k => ?_) k
  refine R_istore_n dX13_oneDay_45 rfl (by decide) (fun l z h k => ?_) k
  refine R_iload_n dX13_oneDay_46 rfl (fun l z h k => ?_) k
  refine R_iload_n dX13_oneDay_47 rfl (fun l z h k => ?_) k
  exact R_icmp_le dX13_oneDay_48 (by decide) (fun _ _ _ k => k) (fun _ _ _ k => k) k
theorem bX13_oneDay_51 {G : Gt} {d bc bs : Nat} {Q : QT} {l : Ls} {z : List Value} {h : Hp} (k : (tAld 0 (tGetf 11 14 (tPush (.int 99) (tIld 1 (tB (fun x y => x + y) (tXald 0 (tAld 0 (tGetf 11 14 (tPush (.int 99) (tIld 2 (tB (fun x y => x + y) (tXald 0 (tIf2 (fun x y => x = y) (fun l z h => T G d bc bs mX13_oneDay 72 l z h Q) (fun l z h => T G d bc bs mX13_oneDay 78 l z h Q)))))))))))))) l z h) : T G d bc bs mX13_oneDay 51 l z h Q := by
  refine R_aload_n dX13_oneDay_51 rfl (fun l z h k => ?_) k
  refine R_getf (ci := 11) (f := 14) (C := RX13) (N := 49) (Tt := TX13) dX13_oneDay_52 rfl i_X13 (by decide) w_1481 (fun l z h k => ?_) k
  refine R_bipush dX13_oneDay_55 (by decide) (fun l z h k => ?_) k
  refine R_iload_n dX13_oneDay_57 rfl (fun l z h k => ?_) k
  refine R_iadd dX13_oneDay_58 (fun l z h k => ?_) k
  refine R_iaload dX13_oneDay_59 (fun l z h k => ?_) k
  refine R_aload_n dX13_oneDay_60 rfl (fun l z h k => ?_) k
  refine R_getf (ci := 11) (f := 14) (C := RX13) (N := 49) (Tt := TX13) dX13_oneDay_61 rfl i_X13 (by decide) w_1481 (fun l z h k => ?_) k
  refine R_bipush dX13_oneDay_64 (by decide) (fun l z h k => ?_) k
  refine R_iload_n dX13_oneDay_66 rfl (fun l z h k => ?_) k
  refine R_iadd dX13_oneDay_67 (fun l z h k => ?_) k
  refine R_iaload dX13_oneDay_68 (fun l z h k => ?_) k
  exact R_icmp_ne dX13_oneDay_69 (by decide) (fun _ _ _ k => k) (fun _ _ _ k => k) k
theorem bX13_oneDay_72 {G : Gt} {d bc bs : Nat} {Q : QT} {l : Ls} {z : List Value} {h : Hp} (k : (tAld 0 (tIld 1 (tIld 2 (tCV2 G d 0 0 11 mX13_teach (fun l z h => T G d bc bs mX13_oneDay 78 l z h Q))))) l z h) : T G d bc bs mX13_oneDay 72 l z h Q := by
  refine R_aload_n dX13_oneDay_72 rfl (fun l z h k => ?_) k
  refine R_iload_n dX13_oneDay_73 rfl (fun l z h k => ?_) k
  refine R_iload_n dX13_oneDay_74 rfl (fun l z h k => ?_) k
  exact R_cv2 (M := mX13_oneDay) (pc := 75) (bc := bc) (bs := bs) (cb := 0) (cs := 0) (M' := mX13_teach) dX13_oneDay_75 rfl (by decide) w_1909 w_144 w_1906 w_1908 w_93 (by decide +kernel) (fun _ _ _ k => k) k
theorem bX13_oneDay_78 {G : Gt} {d bc bs : Nat} {Q : QT} {l : Ls} {z : List Value} {h : Hp} (k : (tInc 1 1 ((fun l z h => T G d bc bs mX13_oneDay 25 l z h Q))) l z h) : T G d bc bs mX13_oneDay 78 l z h Q := by
  refine R_iinc dX13_oneDay_78 (by decide) (by decide) (fun l z h k => ?_) k
  exact R_goto dX13_oneDay_81 (by decide) (fun _ _ _ k => k) k
theorem bX13_oneDay_84 {G : Gt} {d bc bs : Nat} {Q : QT} {l : Ls} {z : List Value} {h : Hp} (k : (tAld 0 (tGetf 11 14 (tPush (.int 98) (tDup2 (tXald 0 (tPush (.int 1) (tB (fun x y => x + y) (tXast 0 (tRetV Q))))))))) l z h) : T G d bc bs mX13_oneDay 84 l z h Q := by
  refine R_aload_n dX13_oneDay_84 rfl (fun l z h k => ?_) k
  refine R_getf (ci := 11) (f := 14) (C := RX13) (N := 49) (Tt := TX13) dX13_oneDay_85 rfl i_X13 (by decide) w_1481 (fun l z h k => ?_) k
  refine R_bipush dX13_oneDay_88 (by decide) (fun l z h k => ?_) k
  refine R_dup2 dX13_oneDay_90 (fun l z h k => ?_) k
  refine R_iaload dX13_oneDay_91 (fun l z h k => ?_) k
  refine R_iconst dX13_oneDay_92 (by decide) (fun l z h k => ?_) k
  refine R_iadd dX13_oneDay_93 (fun l z h k => ?_) k
  refine R_iastore dX13_oneDay_94 (fun l z h k => ?_) k
  exact R_vret dX13_oneDay_95 rfl k
theorem dX13_passDays_0 : decode cX13_passDays 0 = .ok (.iload_n 1, 1) := by decide +kernel
theorem dX13_passDays_1 : decode cX13_passDays 1 = .ok (.sipush 400, 3) := by decide +kernel
theorem dX13_passDays_4 : decode cX13_passDays 4 = .ok (.aload_n 0, 1) := by decide +kernel
theorem dX13_passDays_5 : decode cX13_passDays 5 = .ok (.getfield 13, 3) := by decide +kernel
theorem dX13_passDays_8 : decode cX13_passDays 8 = .ok (.bipush 98, 2) := by decide +kernel
theorem dX13_passDays_10 : decode cX13_passDays 10 = .ok (.iaload, 1) := by decide +kernel
theorem dX13_passDays_11 : decode cX13_passDays 11 = .ok (.isub, 1) := by decide +kernel
theorem dX13_passDays_12 : decode cX13_passDays 12 = .ok (.invokestatic 283, 3) := by decide +kernel
theorem dX13_passDays_15 : decode cX13_passDays 15 = .ok (.istore_n 2, 1) := by decide +kernel
theorem dX13_passDays_16 : decode cX13_passDays 16 = .ok (.iconst 0, 1) := by decide +kernel
theorem dX13_passDays_17 : decode cX13_passDays 17 = .ok (.istore_n 3, 1) := by decide +kernel
theorem dX13_passDays_18 : decode cX13_passDays 18 = .ok (.iload_n 3, 1) := by decide +kernel
theorem dX13_passDays_19 : decode cX13_passDays 19 = .ok (.iload_n 2, 1) := by decide +kernel
theorem dX13_passDays_20 : decode cX13_passDays 20 = .ok (.if_icmp .ge 13, 3) := by decide +kernel
theorem dX13_passDays_23 : decode cX13_passDays 23 = .ok (.aload_n 0, 1) := by decide +kernel
theorem dX13_passDays_24 : decode cX13_passDays 24 = .ok (.invokevirtual 317, 3) := by decide +kernel
theorem dX13_passDays_27 : decode cX13_passDays 27 = .ok (.iinc 3 1, 3) := by decide +kernel
theorem dX13_passDays_30 : decode cX13_passDays 30 = .ok (.goto (-12), 3) := by decide +kernel
theorem dX13_passDays_33 : decode cX13_passDays 33 = .ok (.iload_n 2, 1) := by decide +kernel
theorem dX13_passDays_34 : decode cX13_passDays 34 = .ok (.ireturn, 1) := by decide +kernel
theorem bX13_passDays_0 {G : Gt} {d bc bs : Nat} {Q : QT} {l : Ls} {z : List Value} {h : Hp} (k : (tIld 1 (tPush (.int 400) (tAld 0 (tGetf 11 14 (tPush (.int 98) (tXald 0 (tB (fun x y => x - y) (tCS2 G d 0 0 mX13_least (fun l z h => T G d bc bs mX13_passDays 15 l z h Q))))))))) l z h) : T G d bc bs mX13_passDays 0 l z h Q := by
  refine R_iload_n dX13_passDays_0 rfl (fun l z h k => ?_) k
  refine R_sipush dX13_passDays_1 (by decide) (fun l z h k => ?_) k
  refine R_aload_n dX13_passDays_4 rfl (fun l z h k => ?_) k
  refine R_getf (ci := 11) (f := 14) (C := RX13) (N := 49) (Tt := TX13) dX13_passDays_5 rfl i_X13 (by decide) w_1481 (fun l z h k => ?_) k
  refine R_bipush dX13_passDays_8 (by decide) (fun l z h k => ?_) k
  refine R_iaload dX13_passDays_10 (fun l z h k => ?_) k
  refine R_isub dX13_passDays_11 (fun l z h k => ?_) k
  exact R_cs2 (M := mX13_passDays) (pc := 12) (bc := bc) (bs := bs) (cb := 0) (cs := 0) (M' := mX13_least) dX13_passDays_12 (by decide) w_1869 w_144 w_1867 w_1868 (by decide +kernel) (fun _ _ _ k => k) k
theorem bX13_passDays_15 {G : Gt} {d bc bs : Nat} {Q : QT} {l : Ls} {z : List Value} {h : Hp} (k : (tIst 2 (tPush (.int 0) (tIst 3 ((fun l z h => T G d bc bs mX13_passDays 18 l z h Q))))) l z h) : T G d bc bs mX13_passDays 15 l z h Q := by
  refine R_istore_n dX13_passDays_15 rfl (by decide) (fun l z h k => ?_) k
  refine R_iconst dX13_passDays_16 (by decide) (fun l z h k => ?_) k
  refine R_istore_n dX13_passDays_17 rfl (by decide) (fun l z h k => ?_) k
  exact k
theorem bX13_passDays_18 {G : Gt} {d bc bs : Nat} {Q : QT} {l : Ls} {z : List Value} {h : Hp} (k : (tIld 3 (tIld 2 (tIf2 (fun x y => y ≤ x) (fun l z h => T G d bc bs mX13_passDays 33 l z h Q) (fun l z h => T G d bc bs mX13_passDays 23 l z h Q)))) l z h) : T G d bc bs mX13_passDays 18 l z h Q := by
  refine R_iload_n dX13_passDays_18 rfl (fun l z h k => ?_) k
  refine R_iload_n dX13_passDays_19 rfl (fun l z h k => ?_) k
  exact R_icmp_ge dX13_passDays_20 (by decide) (fun _ _ _ k => k) (fun _ _ _ k => k) k
theorem bX13_passDays_23 {G : Gt} {d bc bs : Nat} {Q : QT} {l : Ls} {z : List Value} {h : Hp} (k : (tAld 0 (tCV0 G d 0 0 11 mX13_oneDay (fun l z h => T G d bc bs mX13_passDays 27 l z h Q))) l z h) : T G d bc bs mX13_passDays 23 l z h Q := by
  refine R_aload_n dX13_passDays_23 rfl (fun l z h k => ?_) k
  exact R_cv0 (M := mX13_passDays) (pc := 24) (bc := bc) (bs := bs) (cb := 0) (cs := 0) (M' := mX13_oneDay) dX13_passDays_24 rfl (by decide) w_1901 w_144 w_1898 w_1900 w_91 (by decide +kernel) (fun _ _ _ k => k) k
theorem bX13_passDays_27 {G : Gt} {d bc bs : Nat} {Q : QT} {l : Ls} {z : List Value} {h : Hp} (k : (tInc 3 1 ((fun l z h => T G d bc bs mX13_passDays 18 l z h Q))) l z h) : T G d bc bs mX13_passDays 27 l z h Q := by
  refine R_iinc dX13_passDays_27 (by decide) (by decide) (fun l z h k => ?_) k
  exact R_goto dX13_passDays_30 (by decide) (fun _ _ _ k => k) k
theorem bX13_passDays_33 {G : Gt} {d bc bs : Nat} {Q : QT} {l : Ls} {z : List Value} {h : Hp} (k : (tIld 2 (tRetI Q)) l z h) : T G d bc bs mX13_passDays 33 l z h Q := by
  refine R_iload_n dX13_passDays_33 rfl (fun l z h k => ?_) k
  exact R_iret dX13_passDays_34 rfl k
theorem dX13_days_0 : decode cX13_days 0 = .ok (.aload_n 0, 1) := by decide +kernel
theorem dX13_days_1 : decode cX13_days 1 = .ok (.iconst 0, 1) := by decide +kernel
theorem dX13_days_2 : decode cX13_days 2 = .ok (.putfield 85, 3) := by decide +kernel
theorem dX13_days_5 : decode cX13_days 5 = .ok (.iload_n 1, 1) := by decide +kernel
theorem dX13_days_6 : decode cX13_days 6 = .ok (.iconst 1, 1) := by decide +kernel
theorem dX13_days_7 : decode cX13_days 7 = .ok (.bipush 60, 2) := by decide +kernel
theorem dX13_days_9 : decode cX13_days 9 = .ok (.invokestatic 152, 3) := by decide +kernel
theorem dX13_days_12 : decode cX13_days 12 = .ok (.ifCond .ne 5, 3) := by decide +kernel
theorem dX13_days_15 : decode cX13_days 15 = .ok (.iconst (-1), 1) := by decide +kernel
theorem dX13_days_16 : decode cX13_days 16 = .ok (.ireturn, 1) := by decide +kernel
theorem dX13_days_17 : decode cX13_days 17 = .ok (.aload_n 0, 1) := by decide +kernel
theorem dX13_days_18 : decode cX13_days 18 = .ok (.getfield 13, 3) := by decide +kernel
theorem dX13_days_21 : decode cX13_days 21 = .ok (.bipush 98, 2) := by decide +kernel
theorem dX13_days_23 : decode cX13_days 23 = .ok (.iaload, 1) := by decide +kernel
theorem dX13_days_24 : decode cX13_days 24 = .ok (.sipush 400, 3) := by decide +kernel
theorem dX13_days_27 : decode cX13_days 27 = .ok (.if_icmp .ne 5, 3) := by decide +kernel
theorem dX13_days_30 : decode cX13_days 30 = .ok (.iconst 0, 1) := by decide +kernel
theorem dX13_days_31 : decode cX13_days 31 = .ok (.ireturn, 1) := by decide +kernel
theorem dX13_days_32 : decode cX13_days 32 = .ok (.aload_n 0, 1) := by decide +kernel
theorem dX13_days_33 : decode cX13_days 33 = .ok (.invokevirtual 301, 3) := by decide +kernel
theorem dX13_days_36 : decode cX13_days 36 = .ok (.aload_n 0, 1) := by decide +kernel
theorem dX13_days_37 : decode cX13_days 37 = .ok (.iload_n 1, 1) := by decide +kernel
theorem dX13_days_38 : decode cX13_days 38 = .ok (.invokevirtual 320, 3) := by decide +kernel
theorem dX13_days_41 : decode cX13_days 41 = .ok (.ireturn, 1) := by decide +kernel
theorem bX13_days_0 {G : Gt} {d bc bs : Nat} {Q : QT} {l : Ls} {z : List Value} {h : Hp} (k : (tAld 0 (tPush (.int 0) (tPutf isI 11 0 (tIld 1 (tPush (.int 1) (tPush (.int 60) (tCS3 G d 0 0 mX13_isIn (fun l z h => T G d bc bs mX13_days 12 l z h Q)))))))) l z h) : T G d bc bs mX13_days 0 l z h Q := by
  refine R_aload_n dX13_days_0 rfl (fun l z h k => ?_) k
  refine R_iconst dX13_days_1 (by decide) (fun l z h k => ?_) k
  refine R_putf (ci := 11) (f := 0) (C := RX13) (N := 49) (Tt := TX13) tyX13 tyX13_ok nmX13 dX13_days_2 rfl i_X13 (by decide) w_1467 rfl (tyX13_ok 0 (by decide)) p_int (fun l z h k => ?_) k
  refine R_iload_n dX13_days_5 rfl (fun l z h k => ?_) k
  refine R_iconst dX13_days_6 (by decide) (fun l z h k => ?_) k
  refine R_bipush dX13_days_7 (by decide) (fun l z h k => ?_) k
  exact R_cs3 (M := mX13_days) (pc := 9) (bc := bc) (bs := bs) (cb := 0) (cs := 0) (M' := mX13_isIn) dX13_days_9 (by decide) w_1711 w_144 w_1709 w_1710 (by decide +kernel) (fun _ _ _ k => k) k
theorem bX13_days_12 {G : Gt} {d bc bs : Nat} {Q : QT} {l : Ls} {z : List Value} {h : Hp} (k : (tIf (fun x => x = 0) (fun l z h => T G d bc bs mX13_days 15 l z h Q) (fun l z h => T G d bc bs mX13_days 17 l z h Q)) l z h) : T G d bc bs mX13_days 12 l z h Q := by
  exact R_if_ne dX13_days_12 (by decide) (fun _ _ _ k => k) (fun _ _ _ k => k) k
theorem bX13_days_15 {G : Gt} {d bc bs : Nat} {Q : QT} {l : Ls} {z : List Value} {h : Hp} (k : (tPush (.int (-1)) (tRetI Q)) l z h) : T G d bc bs mX13_days 15 l z h Q := by
  refine R_iconst dX13_days_15 (by decide) (fun l z h k => ?_) k
  exact R_iret dX13_days_16 rfl k
theorem bX13_days_17 {G : Gt} {d bc bs : Nat} {Q : QT} {l : Ls} {z : List Value} {h : Hp} (k : (tAld 0 (tGetf 11 14 (tPush (.int 98) (tXald 0 (tPush (.int 400) (tIf2 (fun x y => x = y) (fun l z h => T G d bc bs mX13_days 30 l z h Q) (fun l z h => T G d bc bs mX13_days 32 l z h Q))))))) l z h) : T G d bc bs mX13_days 17 l z h Q := by
  refine R_aload_n dX13_days_17 rfl (fun l z h k => ?_) k
  refine R_getf (ci := 11) (f := 14) (C := RX13) (N := 49) (Tt := TX13) dX13_days_18 rfl i_X13 (by decide) w_1481 (fun l z h k => ?_) k
  refine R_bipush dX13_days_21 (by decide) (fun l z h k => ?_) k
  refine R_iaload dX13_days_23 (fun l z h k => ?_) k
  refine R_sipush dX13_days_24 (by decide) (fun l z h k => ?_) k
  exact R_icmp_ne dX13_days_27 (by decide) (fun _ _ _ k => k) (fun _ _ _ k => k) k
theorem bX13_days_30 {G : Gt} {d bc bs : Nat} {Q : QT} {l : Ls} {z : List Value} {h : Hp} (k : (tPush (.int 0) (tRetI Q)) l z h) : T G d bc bs mX13_days 30 l z h Q := by
  refine R_iconst dX13_days_30 (by decide) (fun l z h k => ?_) k
  exact R_iret dX13_days_31 rfl k
theorem bX13_days_32 {G : Gt} {d bc bs : Nat} {Q : QT} {l : Ls} {z : List Value} {h : Hp} (k : (tAld 0 (tCV0 G d 0 0 11 mX13_snap (fun l z h => T G d bc bs mX13_days 36 l z h Q))) l z h) : T G d bc bs mX13_days 32 l z h Q := by
  refine R_aload_n dX13_days_32 rfl (fun l z h k => ?_) k
  exact R_cv0 (M := mX13_days) (pc := 33) (bc := bc) (bs := bs) (cb := 0) (cs := 0) (M' := mX13_snap) dX13_days_33 rfl (by decide) w_1850 w_144 w_1847 w_1849 w_85 (by decide +kernel) (fun _ _ _ k => k) k
theorem bX13_days_36 {G : Gt} {d bc bs : Nat} {Q : QT} {l : Ls} {z : List Value} {h : Hp} (k : (tAld 0 (tIld 1 (tCV1 G d 0 0 11 mX13_passDays (fun l z h => T G d bc bs mX13_days 41 l z h Q)))) l z h) : T G d bc bs mX13_days 36 l z h Q := by
  refine R_aload_n dX13_days_36 rfl (fun l z h k => ?_) k
  refine R_iload_n dX13_days_37 rfl (fun l z h k => ?_) k
  exact R_cv1 (M := mX13_days) (pc := 38) (bc := bc) (bs := bs) (cb := 0) (cs := 0) (M' := mX13_passDays) dX13_days_38 rfl (by decide) w_1897 w_144 w_1894 w_1896 w_90 (by decide +kernel) (fun _ _ _ k => k) k
theorem bX13_days_41 {G : Gt} {d bc bs : Nat} {Q : QT} {l : Ls} {z : List Value} {h : Hp} (k : (tRetI Q) l z h) : T G d bc bs mX13_days 41 l z h Q := by
  exact R_iret dX13_days_41 rfl k
theorem dX13_layAside_0 : decode cX13_layAside 0 = .ok (.iconst 0, 1) := by decide +kernel
theorem dX13_layAside_1 : decode cX13_layAside 1 = .ok (.istore_n 1, 1) := by decide +kernel
theorem dX13_layAside_2 : decode cX13_layAside 2 = .ok (.iload_n 1, 1) := by decide +kernel
theorem dX13_layAside_3 : decode cX13_layAside 3 = .ok (.bipush 93, 2) := by decide +kernel
theorem dX13_layAside_5 : decode cX13_layAside 5 = .ok (.if_icmp .ge 24, 3) := by decide +kernel
theorem dX13_layAside_8 : decode cX13_layAside 8 = .ok (.aload_n 0, 1) := by decide +kernel
theorem dX13_layAside_9 : decode cX13_layAside 9 = .ok (.getfield 25, 3) := by decide +kernel
theorem dX13_layAside_12 : decode cX13_layAside 12 = .ok (.iload_n 1, 1) := by decide +kernel
theorem dX13_layAside_13 : decode cX13_layAside 13 = .ok (.aload_n 0, 1) := by decide +kernel
theorem dX13_layAside_14 : decode cX13_layAside 14 = .ok (.getfield 13, 3) := by decide +kernel
theorem dX13_layAside_17 : decode cX13_layAside 17 = .ok (.bipush 98, 2) := by decide +kernel
theorem dX13_layAside_19 : decode cX13_layAside 19 = .ok (.iload_n 1, 1) := by decide +kernel
theorem dX13_layAside_20 : decode cX13_layAside 20 = .ok (.iadd, 1) := by decide +kernel
theorem dX13_layAside_21 : decode cX13_layAside 21 = .ok (.iaload, 1) := by decide +kernel
theorem dX13_layAside_22 : decode cX13_layAside 22 = .ok (.iastore, 1) := by decide +kernel
theorem dX13_layAside_23 : decode cX13_layAside 23 = .ok (.iinc 1 1, 3) := by decide +kernel
theorem dX13_layAside_26 : decode cX13_layAside 26 = .ok (.goto (-24), 3) := by decide +kernel
theorem dX13_layAside_29 : decode cX13_layAside 29 = .ok (.return_, 1) := by decide +kernel
theorem bX13_layAside_0 {G : Gt} {d bc bs : Nat} {Q : QT} {l : Ls} {z : List Value} {h : Hp} (k : (tPush (.int 0) (tIst 1 ((fun l z h => T G d bc bs mX13_layAside 2 l z h Q)))) l z h) : T G d bc bs mX13_layAside 0 l z h Q := by
  refine R_iconst dX13_layAside_0 (by decide) (fun l z h k => ?_) k
  refine R_istore_n dX13_layAside_1 rfl (by decide) (fun l z h k => ?_) k
  exact k
theorem bX13_layAside_2 {G : Gt} {d bc bs : Nat} {Q : QT} {l : Ls} {z : List Value} {h : Hp} (k : (tIld 1 (tPush (.int 93) (tIf2 (fun x y => y ≤ x) (fun l z h => T G d bc bs mX13_layAside 29 l z h Q) (fun l z h => T G d bc bs mX13_layAside 8 l z h Q)))) l z h) : T G d bc bs mX13_layAside 2 l z h Q := by
  refine R_iload_n dX13_layAside_2 rfl (fun l z h k => ?_) k
  refine R_bipush dX13_layAside_3 (by decide) (fun l z h k => ?_) k
  exact R_icmp_ge dX13_layAside_5 (by decide) (fun _ _ _ k => k) (fun _ _ _ k => k) k
theorem bX13_layAside_8 {G : Gt} {d bc bs : Nat} {Q : QT} {l : Ls} {z : List Value} {h : Hp} (k : (tAld 0 (tGetf 11 18 (tIld 1 (tAld 0 (tGetf 11 14 (tPush (.int 98) (tIld 1 (tB (fun x y => x + y) (tXald 0 (tXast 0 (tInc 1 1 ((fun l z h => T G d bc bs mX13_layAside 2 l z h Q))))))))))))) l z h) : T G d bc bs mX13_layAside 8 l z h Q := by
  refine R_aload_n dX13_layAside_8 rfl (fun l z h k => ?_) k
  refine R_getf (ci := 11) (f := 18) (C := RX13) (N := 49) (Tt := TX13) dX13_layAside_9 rfl i_X13 (by decide) w_1485 (fun l z h k => ?_) k
  refine R_iload_n dX13_layAside_12 rfl (fun l z h k => ?_) k
  refine R_aload_n dX13_layAside_13 rfl (fun l z h k => ?_) k
  refine R_getf (ci := 11) (f := 14) (C := RX13) (N := 49) (Tt := TX13) dX13_layAside_14 rfl i_X13 (by decide) w_1481 (fun l z h k => ?_) k
  refine R_bipush dX13_layAside_17 (by decide) (fun l z h k => ?_) k
  refine R_iload_n dX13_layAside_19 rfl (fun l z h k => ?_) k
  refine R_iadd dX13_layAside_20 (fun l z h k => ?_) k
  refine R_iaload dX13_layAside_21 (fun l z h k => ?_) k
  refine R_iastore dX13_layAside_22 (fun l z h k => ?_) k
  refine R_iinc dX13_layAside_23 (by decide) (by decide) (fun l z h k => ?_) k
  exact R_goto dX13_layAside_26 (by decide) (fun _ _ _ k => k) k
theorem bX13_layAside_29 {G : Gt} {d bc bs : Nat} {Q : QT} {l : Ls} {z : List Value} {h : Hp} (k : (tRetV Q) l z h) : T G d bc bs mX13_layAside 29 l z h Q := by
  exact R_vret dX13_layAside_29 rfl k
theorem dX13_takeBack_0 : decode cX13_takeBack 0 = .ok (.iconst 0, 1) := by decide +kernel
theorem dX13_takeBack_1 : decode cX13_takeBack 1 = .ok (.istore_n 1, 1) := by decide +kernel
theorem dX13_takeBack_2 : decode cX13_takeBack 2 = .ok (.iload_n 1, 1) := by decide +kernel
theorem dX13_takeBack_3 : decode cX13_takeBack 3 = .ok (.bipush 93, 2) := by decide +kernel
theorem dX13_takeBack_5 : decode cX13_takeBack 5 = .ok (.if_icmp .ge 24, 3) := by decide +kernel
theorem dX13_takeBack_8 : decode cX13_takeBack 8 = .ok (.aload_n 0, 1) := by decide +kernel
theorem dX13_takeBack_9 : decode cX13_takeBack 9 = .ok (.getfield 13, 3) := by decide +kernel
theorem dX13_takeBack_12 : decode cX13_takeBack 12 = .ok (.bipush 98, 2) := by decide +kernel
theorem dX13_takeBack_14 : decode cX13_takeBack 14 = .ok (.iload_n 1, 1) := by decide +kernel
theorem dX13_takeBack_15 : decode cX13_takeBack 15 = .ok (.iadd, 1) := by decide +kernel
theorem dX13_takeBack_16 : decode cX13_takeBack 16 = .ok (.aload_n 0, 1) := by decide +kernel
theorem dX13_takeBack_17 : decode cX13_takeBack 17 = .ok (.getfield 25, 3) := by decide +kernel
theorem dX13_takeBack_20 : decode cX13_takeBack 20 = .ok (.iload_n 1, 1) := by decide +kernel
theorem dX13_takeBack_21 : decode cX13_takeBack 21 = .ok (.iaload, 1) := by decide +kernel
theorem dX13_takeBack_22 : decode cX13_takeBack 22 = .ok (.iastore, 1) := by decide +kernel
theorem dX13_takeBack_23 : decode cX13_takeBack 23 = .ok (.iinc 1 1, 3) := by decide +kernel
theorem dX13_takeBack_26 : decode cX13_takeBack 26 = .ok (.goto (-24), 3) := by decide +kernel
theorem dX13_takeBack_29 : decode cX13_takeBack 29 = .ok (.return_, 1) := by decide +kernel
theorem bX13_takeBack_0 {G : Gt} {d bc bs : Nat} {Q : QT} {l : Ls} {z : List Value} {h : Hp} (k : (tPush (.int 0) (tIst 1 ((fun l z h => T G d bc bs mX13_takeBack 2 l z h Q)))) l z h) : T G d bc bs mX13_takeBack 0 l z h Q := by
  refine R_iconst dX13_takeBack_0 (by decide) (fun l z h k => ?_) k
  refine R_istore_n dX13_takeBack_1 rfl (by decide) (fun l z h k => ?_) k
  exact k
theorem bX13_takeBack_2 {G : Gt} {d bc bs : Nat} {Q : QT} {l : Ls} {z : List Value} {h : Hp} (k : (tIld 1 (tPush (.int 93) (tIf2 (fun x y => y ≤ x) (fun l z h => T G d bc bs mX13_takeBack 29 l z h Q) (fun l z h => T G d bc bs mX13_takeBack 8 l z h Q)))) l z h) : T G d bc bs mX13_takeBack 2 l z h Q := by
  refine R_iload_n dX13_takeBack_2 rfl (fun l z h k => ?_) k
  refine R_bipush dX13_takeBack_3 (by decide) (fun l z h k => ?_) k
  exact R_icmp_ge dX13_takeBack_5 (by decide) (fun _ _ _ k => k) (fun _ _ _ k => k) k
theorem bX13_takeBack_8 {G : Gt} {d bc bs : Nat} {Q : QT} {l : Ls} {z : List Value} {h : Hp} (k : (tAld 0 (tGetf 11 14 (tPush (.int 98) (tIld 1 (tB (fun x y => x + y) (tAld 0 (tGetf 11 18 (tIld 1 (tXald 0 (tXast 0 (tInc 1 1 ((fun l z h => T G d bc bs mX13_takeBack 2 l z h Q))))))))))))) l z h) : T G d bc bs mX13_takeBack 8 l z h Q := by
  refine R_aload_n dX13_takeBack_8 rfl (fun l z h k => ?_) k
  refine R_getf (ci := 11) (f := 14) (C := RX13) (N := 49) (Tt := TX13) dX13_takeBack_9 rfl i_X13 (by decide) w_1481 (fun l z h k => ?_) k
  refine R_bipush dX13_takeBack_12 (by decide) (fun l z h k => ?_) k
  refine R_iload_n dX13_takeBack_14 rfl (fun l z h k => ?_) k
  refine R_iadd dX13_takeBack_15 (fun l z h k => ?_) k
  refine R_aload_n dX13_takeBack_16 rfl (fun l z h k => ?_) k
  refine R_getf (ci := 11) (f := 18) (C := RX13) (N := 49) (Tt := TX13) dX13_takeBack_17 rfl i_X13 (by decide) w_1485 (fun l z h k => ?_) k
  refine R_iload_n dX13_takeBack_20 rfl (fun l z h k => ?_) k
  refine R_iaload dX13_takeBack_21 (fun l z h k => ?_) k
  refine R_iastore dX13_takeBack_22 (fun l z h k => ?_) k
  refine R_iinc dX13_takeBack_23 (by decide) (by decide) (fun l z h k => ?_) k
  exact R_goto dX13_takeBack_26 (by decide) (fun _ _ _ k => k) k
theorem bX13_takeBack_29 {G : Gt} {d bc bs : Nat} {Q : QT} {l : Ls} {z : List Value} {h : Hp} (k : (tRetV Q) l z h) : T G d bc bs mX13_takeBack 29 l z h Q := by
  exact R_vret dX13_takeBack_29 rfl k
theorem dX13_hold_0 : decode cX13_hold 0 = .ok (.iconst 0, 1) := by decide +kernel
theorem dX13_hold_1 : decode cX13_hold 1 = .ok (.istore_n 1, 1) := by decide +kernel
theorem dX13_hold_2 : decode cX13_hold 2 = .ok (.iload_n 1, 1) := by decide +kernel
theorem dX13_hold_3 : decode cX13_hold 3 = .ok (.bipush 93, 2) := by decide +kernel
theorem dX13_hold_5 : decode cX13_hold 5 = .ok (.if_icmp .ge 24, 3) := by decide +kernel
theorem dX13_hold_8 : decode cX13_hold 8 = .ok (.aload_n 0, 1) := by decide +kernel
theorem dX13_hold_9 : decode cX13_hold 9 = .ok (.getfield 28, 3) := by decide +kernel
theorem dX13_hold_12 : decode cX13_hold 12 = .ok (.iload_n 1, 1) := by decide +kernel
theorem dX13_hold_13 : decode cX13_hold 13 = .ok (.aload_n 0, 1) := by decide +kernel
theorem dX13_hold_14 : decode cX13_hold 14 = .ok (.getfield 13, 3) := by decide +kernel
theorem dX13_hold_17 : decode cX13_hold 17 = .ok (.bipush 98, 2) := by decide +kernel
theorem dX13_hold_19 : decode cX13_hold 19 = .ok (.iload_n 1, 1) := by decide +kernel
theorem dX13_hold_20 : decode cX13_hold 20 = .ok (.iadd, 1) := by decide +kernel
theorem dX13_hold_21 : decode cX13_hold 21 = .ok (.iaload, 1) := by decide +kernel
theorem dX13_hold_22 : decode cX13_hold 22 = .ok (.iastore, 1) := by decide +kernel
theorem dX13_hold_23 : decode cX13_hold 23 = .ok (.iinc 1 1, 3) := by decide +kernel
theorem dX13_hold_26 : decode cX13_hold 26 = .ok (.goto (-24), 3) := by decide +kernel
theorem dX13_hold_29 : decode cX13_hold 29 = .ok (.return_, 1) := by decide +kernel
theorem bX13_hold_0 {G : Gt} {d bc bs : Nat} {Q : QT} {l : Ls} {z : List Value} {h : Hp} (k : (tPush (.int 0) (tIst 1 ((fun l z h => T G d bc bs mX13_hold 2 l z h Q)))) l z h) : T G d bc bs mX13_hold 0 l z h Q := by
  refine R_iconst dX13_hold_0 (by decide) (fun l z h k => ?_) k
  refine R_istore_n dX13_hold_1 rfl (by decide) (fun l z h k => ?_) k
  exact k
theorem bX13_hold_2 {G : Gt} {d bc bs : Nat} {Q : QT} {l : Ls} {z : List Value} {h : Hp} (k : (tIld 1 (tPush (.int 93) (tIf2 (fun x y => y ≤ x) (fun l z h => T G d bc bs mX13_hold 29 l z h Q) (fun l z h => T G d bc bs mX13_hold 8 l z h Q)))) l z h) : T G d bc bs mX13_hold 2 l z h Q := by
  refine R_iload_n dX13_hold_2 rfl (fun l z h k => ?_) k
  refine R_bipush dX13_hold_3 (by decide) (fun l z h k => ?_) k
  exact R_icmp_ge dX13_hold_5 (by decide) (fun _ _ _ k => k) (fun _ _ _ k => k) k
theorem bX13_hold_8 {G : Gt} {d bc bs : Nat} {Q : QT} {l : Ls} {z : List Value} {h : Hp} (k : (tAld 0 (tGetf 11 19 (tIld 1 (tAld 0 (tGetf 11 14 (tPush (.int 98) (tIld 1 (tB (fun x y => x + y) (tXald 0 (tXast 0 (tInc 1 1 ((fun l z h => T G d bc bs mX13_hold 2 l z h Q))))))))))))) l z h) : T G d bc bs mX13_hold 8 l z h Q := by
  refine R_aload_n dX13_hold_8 rfl (fun l z h k => ?_) k
  refine R_getf (ci := 11) (f := 19) (C := RX13) (N := 49) (Tt := TX13) dX13_hold_9 rfl i_X13 (by decide) w_1486 (fun l z h k => ?_) k
  refine R_iload_n dX13_hold_12 rfl (fun l z h k => ?_) k
  refine R_aload_n dX13_hold_13 rfl (fun l z h k => ?_) k
  refine R_getf (ci := 11) (f := 14) (C := RX13) (N := 49) (Tt := TX13) dX13_hold_14 rfl i_X13 (by decide) w_1481 (fun l z h k => ?_) k
  refine R_bipush dX13_hold_17 (by decide) (fun l z h k => ?_) k
  refine R_iload_n dX13_hold_19 rfl (fun l z h k => ?_) k
  refine R_iadd dX13_hold_20 (fun l z h k => ?_) k
  refine R_iaload dX13_hold_21 (fun l z h k => ?_) k
  refine R_iastore dX13_hold_22 (fun l z h k => ?_) k
  refine R_iinc dX13_hold_23 (by decide) (by decide) (fun l z h k => ?_) k
  exact R_goto dX13_hold_26 (by decide) (fun _ _ _ k => k) k
theorem bX13_hold_29 {G : Gt} {d bc bs : Nat} {Q : QT} {l : Ls} {z : List Value} {h : Hp} (k : (tRetV Q) l z h) : T G d bc bs mX13_hold 29 l z h Q := by
  exact R_vret dX13_hold_29 rfl k
theorem dX13_back_0 : decode cX13_back 0 = .ok (.iconst 0, 1) := by decide +kernel
theorem dX13_back_1 : decode cX13_back 1 = .ok (.istore_n 1, 1) := by decide +kernel
theorem dX13_back_2 : decode cX13_back 2 = .ok (.iload_n 1, 1) := by decide +kernel
theorem dX13_back_3 : decode cX13_back 3 = .ok (.bipush 93, 2) := by decide +kernel
theorem dX13_back_5 : decode cX13_back 5 = .ok (.if_icmp .ge 24, 3) := by decide +kernel
theorem dX13_back_8 : decode cX13_back 8 = .ok (.aload_n 0, 1) := by decide +kernel
theorem dX13_back_9 : decode cX13_back 9 = .ok (.getfield 13, 3) := by decide +kernel
theorem dX13_back_12 : decode cX13_back 12 = .ok (.bipush 98, 2) := by decide +kernel
theorem dX13_back_14 : decode cX13_back 14 = .ok (.iload_n 1, 1) := by decide +kernel
theorem dX13_back_15 : decode cX13_back 15 = .ok (.iadd, 1) := by decide +kernel
theorem dX13_back_16 : decode cX13_back 16 = .ok (.aload_n 0, 1) := by decide +kernel
theorem dX13_back_17 : decode cX13_back 17 = .ok (.getfield 28, 3) := by decide +kernel
theorem dX13_back_20 : decode cX13_back 20 = .ok (.iload_n 1, 1) := by decide +kernel
theorem dX13_back_21 : decode cX13_back 21 = .ok (.iaload, 1) := by decide +kernel
theorem dX13_back_22 : decode cX13_back 22 = .ok (.iastore, 1) := by decide +kernel
theorem dX13_back_23 : decode cX13_back 23 = .ok (.iinc 1 1, 3) := by decide +kernel
theorem dX13_back_26 : decode cX13_back 26 = .ok (.goto (-24), 3) := by decide +kernel
theorem dX13_back_29 : decode cX13_back 29 = .ok (.return_, 1) := by decide +kernel
theorem bX13_back_0 {G : Gt} {d bc bs : Nat} {Q : QT} {l : Ls} {z : List Value} {h : Hp} (k : (tPush (.int 0) (tIst 1 ((fun l z h => T G d bc bs mX13_back 2 l z h Q)))) l z h) : T G d bc bs mX13_back 0 l z h Q := by
  refine R_iconst dX13_back_0 (by decide) (fun l z h k => ?_) k
  refine R_istore_n dX13_back_1 rfl (by decide) (fun l z h k => ?_) k
  exact k
theorem bX13_back_2 {G : Gt} {d bc bs : Nat} {Q : QT} {l : Ls} {z : List Value} {h : Hp} (k : (tIld 1 (tPush (.int 93) (tIf2 (fun x y => y ≤ x) (fun l z h => T G d bc bs mX13_back 29 l z h Q) (fun l z h => T G d bc bs mX13_back 8 l z h Q)))) l z h) : T G d bc bs mX13_back 2 l z h Q := by
  refine R_iload_n dX13_back_2 rfl (fun l z h k => ?_) k
  refine R_bipush dX13_back_3 (by decide) (fun l z h k => ?_) k
  exact R_icmp_ge dX13_back_5 (by decide) (fun _ _ _ k => k) (fun _ _ _ k => k) k
theorem bX13_back_8 {G : Gt} {d bc bs : Nat} {Q : QT} {l : Ls} {z : List Value} {h : Hp} (k : (tAld 0 (tGetf 11 14 (tPush (.int 98) (tIld 1 (tB (fun x y => x + y) (tAld 0 (tGetf 11 19 (tIld 1 (tXald 0 (tXast 0 (tInc 1 1 ((fun l z h => T G d bc bs mX13_back 2 l z h Q))))))))))))) l z h) : T G d bc bs mX13_back 8 l z h Q := by
  refine R_aload_n dX13_back_8 rfl (fun l z h k => ?_) k
  refine R_getf (ci := 11) (f := 14) (C := RX13) (N := 49) (Tt := TX13) dX13_back_9 rfl i_X13 (by decide) w_1481 (fun l z h k => ?_) k
  refine R_bipush dX13_back_12 (by decide) (fun l z h k => ?_) k
  refine R_iload_n dX13_back_14 rfl (fun l z h k => ?_) k
  refine R_iadd dX13_back_15 (fun l z h k => ?_) k
  refine R_aload_n dX13_back_16 rfl (fun l z h k => ?_) k
  refine R_getf (ci := 11) (f := 19) (C := RX13) (N := 49) (Tt := TX13) dX13_back_17 rfl i_X13 (by decide) w_1486 (fun l z h k => ?_) k
  refine R_iload_n dX13_back_20 rfl (fun l z h k => ?_) k
  refine R_iaload dX13_back_21 (fun l z h k => ?_) k
  refine R_iastore dX13_back_22 (fun l z h k => ?_) k
  refine R_iinc dX13_back_23 (by decide) (by decide) (fun l z h k => ?_) k
  exact R_goto dX13_back_26 (by decide) (fun _ _ _ k => k) k
theorem bX13_back_29 {G : Gt} {d bc bs : Nat} {Q : QT} {l : Ls} {z : List Value} {h : Hp} (k : (tRetV Q) l z h) : T G d bc bs mX13_back 29 l z h Q := by
  exact R_vret dX13_back_29 rfl k
theorem dX13_lacks_0 : decode cX13_lacks 0 = .ok (.aload_n 0, 1) := by decide +kernel
theorem dX13_lacks_1 : decode cX13_lacks 1 = .ok (.iconst 0, 1) := by decide +kernel
theorem dX13_lacks_2 : decode cX13_lacks 2 = .ok (.putfield 85, 3) := by decide +kernel
theorem dX13_lacks_5 : decode cX13_lacks 5 = .ok (.aload_n 0, 1) := by decide +kernel
theorem dX13_lacks_6 : decode cX13_lacks 6 = .ok (.iload_n 1, 1) := by decide +kernel
theorem dX13_lacks_7 : decode cX13_lacks 7 = .ok (.invokevirtual 256, 3) := by decide +kernel
theorem dX13_lacks_10 : decode cX13_lacks 10 = .ok (.ifCond .eq 21, 3) := by decide +kernel
theorem dX13_lacks_13 : decode cX13_lacks 13 = .ok (.iload_n 2, 1) := by decide +kernel
theorem dX13_lacks_14 : decode cX13_lacks 14 = .ok (.iconst 0, 1) := by decide +kernel
theorem dX13_lacks_15 : decode cX13_lacks 15 = .ok (.iconst 1, 1) := by decide +kernel
theorem dX13_lacks_16 : decode cX13_lacks 16 = .ok (.invokestatic 152, 3) := by decide +kernel
theorem dX13_lacks_19 : decode cX13_lacks 19 = .ok (.ifCond .eq 12, 3) := by decide +kernel
theorem dX13_lacks_22 : decode cX13_lacks 22 = .ok (.aload_n 0, 1) := by decide +kernel
theorem dX13_lacks_23 : decode cX13_lacks 23 = .ok (.iload_n 1, 1) := by decide +kernel
theorem dX13_lacks_24 : decode cX13_lacks 24 = .ok (.iload_n 2, 1) := by decide +kernel
theorem dX13_lacks_25 : decode cX13_lacks 25 = .ok (.invokevirtual 247, 3) := by decide +kernel
theorem dX13_lacks_28 : decode cX13_lacks 28 = .ok (.goto 4, 3) := by decide +kernel
theorem dX13_lacks_31 : decode cX13_lacks 31 = .ok (.iconst (-1), 1) := by decide +kernel
theorem dX13_lacks_32 : decode cX13_lacks 32 = .ok (.ireturn, 1) := by decide +kernel
theorem bX13_lacks_0 {G : Gt} {d bc bs : Nat} {Q : QT} {l : Ls} {z : List Value} {h : Hp} (k : (tAld 0 (tPush (.int 0) (tPutf isI 11 0 (tAld 0 (tIld 1 (tCV1 G d 0 0 11 mX13_isPerson (fun l z h => T G d bc bs mX13_lacks 10 l z h Q))))))) l z h) : T G d bc bs mX13_lacks 0 l z h Q := by
  refine R_aload_n dX13_lacks_0 rfl (fun l z h k => ?_) k
  refine R_iconst dX13_lacks_1 (by decide) (fun l z h k => ?_) k
  refine R_putf (ci := 11) (f := 0) (C := RX13) (N := 49) (Tt := TX13) tyX13 tyX13_ok nmX13 dX13_lacks_2 rfl i_X13 (by decide) w_1467 rfl (tyX13_ok 0 (by decide)) p_int (fun l z h k => ?_) k
  refine R_aload_n dX13_lacks_5 rfl (fun l z h k => ?_) k
  refine R_iload_n dX13_lacks_6 rfl (fun l z h k => ?_) k
  exact R_cv1 (M := mX13_lacks) (pc := 7) (bc := bc) (bs := bs) (cb := 0) (cs := 0) (M' := mX13_isPerson) dX13_lacks_7 rfl (by decide) w_1767 w_144 w_1764 w_1766 w_70 (by decide +kernel) (fun _ _ _ k => k) k
theorem bX13_lacks_10 {G : Gt} {d bc bs : Nat} {Q : QT} {l : Ls} {z : List Value} {h : Hp} (k : (tIf (fun x => x = 0) (fun l z h => T G d bc bs mX13_lacks 31 l z h Q) (fun l z h => T G d bc bs mX13_lacks 13 l z h Q)) l z h) : T G d bc bs mX13_lacks 10 l z h Q := by
  exact R_if_eq dX13_lacks_10 (by decide) (fun _ _ _ k => k) (fun _ _ _ k => k) k
theorem bX13_lacks_13 {G : Gt} {d bc bs : Nat} {Q : QT} {l : Ls} {z : List Value} {h : Hp} (k : (tIld 2 (tPush (.int 0) (tPush (.int 1) (tCS3 G d 0 0 mX13_isIn (fun l z h => T G d bc bs mX13_lacks 19 l z h Q))))) l z h) : T G d bc bs mX13_lacks 13 l z h Q := by
  refine R_iload_n dX13_lacks_13 rfl (fun l z h k => ?_) k
  refine R_iconst dX13_lacks_14 (by decide) (fun l z h k => ?_) k
  refine R_iconst dX13_lacks_15 (by decide) (fun l z h k => ?_) k
  exact R_cs3 (M := mX13_lacks) (pc := 16) (bc := bc) (bs := bs) (cb := 0) (cs := 0) (M' := mX13_isIn) dX13_lacks_16 (by decide) w_1711 w_144 w_1709 w_1710 (by decide +kernel) (fun _ _ _ k => k) k
theorem bX13_lacks_19 {G : Gt} {d bc bs : Nat} {Q : QT} {l : Ls} {z : List Value} {h : Hp} (k : (tIf (fun x => x = 0) (fun l z h => T G d bc bs mX13_lacks 31 l z h Q) (fun l z h => T G d bc bs mX13_lacks 22 l z h Q)) l z h) : T G d bc bs mX13_lacks 19 l z h Q := by
  exact R_if_eq dX13_lacks_19 (by decide) (fun _ _ _ k => k) (fun _ _ _ k => k) k
theorem bX13_lacks_22 {G : Gt} {d bc bs : Nat} {Q : QT} {l : Ls} {z : List Value} {h : Hp} (k : (tAld 0 (tIld 1 (tIld 2 (tCV2 G d 0 0 11 mX13_lacksOf (fun l z h => T G d bc bs mX13_lacks 28 l z h Q))))) l z h) : T G d bc bs mX13_lacks 22 l z h Q := by
  refine R_aload_n dX13_lacks_22 rfl (fun l z h k => ?_) k
  refine R_iload_n dX13_lacks_23 rfl (fun l z h k => ?_) k
  refine R_iload_n dX13_lacks_24 rfl (fun l z h k => ?_) k
  exact R_cv2 (M := mX13_lacks) (pc := 25) (bc := bc) (bs := bs) (cb := 0) (cs := 0) (M' := mX13_lacksOf) dX13_lacks_25 rfl (by decide) w_1823 w_144 w_1820 w_1822 w_80 (by decide +kernel) (fun _ _ _ k => k) k
theorem bX13_lacks_28 {G : Gt} {d bc bs : Nat} {Q : QT} {l : Ls} {z : List Value} {h : Hp} (k : (fun l z h => T G d bc bs mX13_lacks 32 l z h Q) l z h) : T G d bc bs mX13_lacks 28 l z h Q := by
  exact R_goto dX13_lacks_28 (by decide) (fun _ _ _ k => k) k
theorem bX13_lacks_31 {G : Gt} {d bc bs : Nat} {Q : QT} {l : Ls} {z : List Value} {h : Hp} (k : (tPush (.int (-1)) ((fun l z h => T G d bc bs mX13_lacks 32 l z h Q))) l z h) : T G d bc bs mX13_lacks 31 l z h Q := by
  refine R_iconst dX13_lacks_31 (by decide) (fun l z h k => ?_) k
  exact k
theorem bX13_lacks_32 {G : Gt} {d bc bs : Nat} {Q : QT} {l : Ls} {z : List Value} {h : Hp} (k : (tRetI Q) l z h) : T G d bc bs mX13_lacks 32 l z h Q := by
  exact R_iret dX13_lacks_32 rfl k
theorem dX13_daysTill_0 : decode cX13_daysTill 0 = .ok (.aload_n 0, 1) := by decide +kernel
theorem dX13_daysTill_1 : decode cX13_daysTill 1 = .ok (.invokevirtual 323, 3) := by decide +kernel
theorem dX13_daysTill_4 : decode cX13_daysTill 4 = .ok (.iconst 0, 1) := by decide +kernel
theorem dX13_daysTill_5 : decode cX13_daysTill 5 = .ok (.istore_n 3, 1) := by decide +kernel
theorem dX13_daysTill_6 : decode cX13_daysTill 6 = .ok (.iload_n 3, 1) := by decide +kernel
theorem dX13_daysTill_7 : decode cX13_daysTill 7 = .ok (.iload_n 2, 1) := by decide +kernel
theorem dX13_daysTill_8 : decode cX13_daysTill 8 = .ok (.if_icmp .gt 42, 3) := by decide +kernel
theorem dX13_daysTill_11 : decode cX13_daysTill 11 = .ok (.iload_n 1, 1) := by decide +kernel
theorem dX13_daysTill_12 : decode cX13_daysTill 12 = .ok (.aload_n 0, 1) := by decide +kernel
theorem dX13_daysTill_13 : decode cX13_daysTill 13 = .ok (.invokevirtual 271, 3) := by decide +kernel
theorem dX13_daysTill_16 : decode cX13_daysTill 16 = .ok (.iconst (-1), 1) := by decide +kernel
theorem dX13_daysTill_17 : decode cX13_daysTill 17 = .ok (.ixor, 1) := by decide +kernel
theorem dX13_daysTill_18 : decode cX13_daysTill 18 = .ok (.iand, 1) := by decide +kernel
theorem dX13_daysTill_19 : decode cX13_daysTill 19 = .ok (.ifCond .eq 31, 3) := by decide +kernel
theorem dX13_daysTill_22 : decode cX13_daysTill 22 = .ok (.aload_n 0, 1) := by decide +kernel
theorem dX13_daysTill_23 : decode cX13_daysTill 23 = .ok (.getfield 13, 3) := by decide +kernel
theorem dX13_daysTill_26 : decode cX13_daysTill 26 = .ok (.bipush 98, 2) := by decide +kernel
theorem dX13_daysTill_28 : decode cX13_daysTill 28 = .ok (.iaload, 1) := by decide +kernel
theorem dX13_daysTill_29 : decode cX13_daysTill 29 = .ok (.sipush 400, 3) := by decide +kernel
theorem dX13_daysTill_32 : decode cX13_daysTill 32 = .ok (.if_icmp .ne 8, 3) := by decide +kernel
theorem dX13_daysTill_35 : decode cX13_daysTill 35 = .ok (.iload_n 2, 1) := by decide +kernel
theorem dX13_daysTill_36 : decode cX13_daysTill 36 = .ok (.istore_n 3, 1) := by decide +kernel
theorem dX13_daysTill_37 : decode cX13_daysTill 37 = .ok (.goto 7, 3) := by decide +kernel
theorem dX13_daysTill_40 : decode cX13_daysTill 40 = .ok (.aload_n 0, 1) := by decide +kernel
theorem dX13_daysTill_41 : decode cX13_daysTill 41 = .ok (.invokevirtual 317, 3) := by decide +kernel
theorem dX13_daysTill_44 : decode cX13_daysTill 44 = .ok (.iinc 3 1, 3) := by decide +kernel
theorem dX13_daysTill_47 : decode cX13_daysTill 47 = .ok (.goto (-41), 3) := by decide +kernel
theorem dX13_daysTill_50 : decode cX13_daysTill 50 = .ok (.aload_n 0, 1) := by decide +kernel
theorem dX13_daysTill_51 : decode cX13_daysTill 51 = .ok (.invokevirtual 326, 3) := by decide +kernel
theorem dX13_daysTill_54 : decode cX13_daysTill 54 = .ok (.iload_n 3, 1) := by decide +kernel
theorem dX13_daysTill_55 : decode cX13_daysTill 55 = .ok (.iload_n 2, 1) := by decide +kernel
theorem dX13_daysTill_56 : decode cX13_daysTill 56 = .ok (.if_icmp .le 7, 3) := by decide +kernel
theorem dX13_daysTill_59 : decode cX13_daysTill 59 = .ok (.iconst (-1), 1) := by decide +kernel
theorem dX13_daysTill_60 : decode cX13_daysTill 60 = .ok (.goto 4, 3) := by decide +kernel
theorem dX13_daysTill_63 : decode cX13_daysTill 63 = .ok (.iload_n 3, 1) := by decide +kernel
theorem dX13_daysTill_64 : decode cX13_daysTill 64 = .ok (.ireturn, 1) := by decide +kernel
theorem bX13_daysTill_0 {G : Gt} {d bc bs : Nat} {Q : QT} {l : Ls} {z : List Value} {h : Hp} (k : (tAld 0 (tCV0 G d 0 0 11 mX13_hold (fun l z h => T G d bc bs mX13_daysTill 4 l z h Q))) l z h) : T G d bc bs mX13_daysTill 0 l z h Q := by
  refine R_aload_n dX13_daysTill_0 rfl (fun l z h k => ?_) k
  exact R_cv0 (M := mX13_daysTill) (pc := 1) (bc := bc) (bs := bs) (cb := 0) (cs := 0) (M' := mX13_hold) dX13_daysTill_1 rfl (by decide) w_1925 w_144 w_1922 w_1924 w_95 (by decide +kernel) (fun _ _ _ k => k) k
theorem bX13_daysTill_4 {G : Gt} {d bc bs : Nat} {Q : QT} {l : Ls} {z : List Value} {h : Hp} (k : (tPush (.int 0) (tIst 3 ((fun l z h => T G d bc bs mX13_daysTill 6 l z h Q)))) l z h) : T G d bc bs mX13_daysTill 4 l z h Q := by
  refine R_iconst dX13_daysTill_4 (by decide) (fun l z h k => ?_) k
  refine R_istore_n dX13_daysTill_5 rfl (by decide) (fun l z h k => ?_) k
  exact k
theorem bX13_daysTill_6 {G : Gt} {d bc bs : Nat} {Q : QT} {l : Ls} {z : List Value} {h : Hp} (k : (tIld 3 (tIld 2 (tIf2 (fun x y => y < x) (fun l z h => T G d bc bs mX13_daysTill 50 l z h Q) (fun l z h => T G d bc bs mX13_daysTill 11 l z h Q)))) l z h) : T G d bc bs mX13_daysTill 6 l z h Q := by
  refine R_iload_n dX13_daysTill_6 rfl (fun l z h k => ?_) k
  refine R_iload_n dX13_daysTill_7 rfl (fun l z h k => ?_) k
  exact R_icmp_gt dX13_daysTill_8 (by decide) (fun _ _ _ k => k) (fun _ _ _ k => k) k
theorem bX13_daysTill_11 {G : Gt} {d bc bs : Nat} {Q : QT} {l : Ls} {z : List Value} {h : Hp} (k : (tIld 1 (tAld 0 (tCV0 G d 0 0 11 mX13_payers (fun l z h => T G d bc bs mX13_daysTill 16 l z h Q)))) l z h) : T G d bc bs mX13_daysTill 11 l z h Q := by
  refine R_iload_n dX13_daysTill_11 rfl (fun l z h k => ?_) k
  refine R_aload_n dX13_daysTill_12 rfl (fun l z h k => ?_) k
  exact R_cv0 (M := mX13_daysTill) (pc := 13) (bc := bc) (bs := bs) (cb := 0) (cs := 0) (M' := mX13_payers) dX13_daysTill_13 rfl (by decide) w_1811 w_144 w_1808 w_1810 w_77 (by decide +kernel) (fun _ _ _ k => k) k
theorem bX13_daysTill_16 {G : Gt} {d bc bs : Nat} {Q : QT} {l : Ls} {z : List Value} {h : Hp} (k : (tPush (.int (-1)) (tB (fun x y => x ^^^ y) (tB (fun x y => x &&& y) (tIf (fun x => x = 0) (fun l z h => T G d bc bs mX13_daysTill 50 l z h Q) (fun l z h => T G d bc bs mX13_daysTill 22 l z h Q))))) l z h) : T G d bc bs mX13_daysTill 16 l z h Q := by
  refine R_iconst dX13_daysTill_16 (by decide) (fun l z h k => ?_) k
  refine R_ixor dX13_daysTill_17 (fun l z h k => ?_) k
  refine R_iand dX13_daysTill_18 (fun l z h k => ?_) k
  exact R_if_eq dX13_daysTill_19 (by decide) (fun _ _ _ k => k) (fun _ _ _ k => k) k
theorem bX13_daysTill_22 {G : Gt} {d bc bs : Nat} {Q : QT} {l : Ls} {z : List Value} {h : Hp} (k : (tAld 0 (tGetf 11 14 (tPush (.int 98) (tXald 0 (tPush (.int 400) (tIf2 (fun x y => x = y) (fun l z h => T G d bc bs mX13_daysTill 35 l z h Q) (fun l z h => T G d bc bs mX13_daysTill 40 l z h Q))))))) l z h) : T G d bc bs mX13_daysTill 22 l z h Q := by
  refine R_aload_n dX13_daysTill_22 rfl (fun l z h k => ?_) k
  refine R_getf (ci := 11) (f := 14) (C := RX13) (N := 49) (Tt := TX13) dX13_daysTill_23 rfl i_X13 (by decide) w_1481 (fun l z h k => ?_) k
  refine R_bipush dX13_daysTill_26 (by decide) (fun l z h k => ?_) k
  refine R_iaload dX13_daysTill_28 (fun l z h k => ?_) k
  refine R_sipush dX13_daysTill_29 (by decide) (fun l z h k => ?_) k
  exact R_icmp_ne dX13_daysTill_32 (by decide) (fun _ _ _ k => k) (fun _ _ _ k => k) k
theorem bX13_daysTill_35 {G : Gt} {d bc bs : Nat} {Q : QT} {l : Ls} {z : List Value} {h : Hp} (k : (tIld 2 (tIst 3 ((fun l z h => T G d bc bs mX13_daysTill 44 l z h Q)))) l z h) : T G d bc bs mX13_daysTill 35 l z h Q := by
  refine R_iload_n dX13_daysTill_35 rfl (fun l z h k => ?_) k
  refine R_istore_n dX13_daysTill_36 rfl (by decide) (fun l z h k => ?_) k
  exact R_goto dX13_daysTill_37 (by decide) (fun _ _ _ k => k) k
theorem bX13_daysTill_40 {G : Gt} {d bc bs : Nat} {Q : QT} {l : Ls} {z : List Value} {h : Hp} (k : (tAld 0 (tCV0 G d 0 0 11 mX13_oneDay (fun l z h => T G d bc bs mX13_daysTill 44 l z h Q))) l z h) : T G d bc bs mX13_daysTill 40 l z h Q := by
  refine R_aload_n dX13_daysTill_40 rfl (fun l z h k => ?_) k
  exact R_cv0 (M := mX13_daysTill) (pc := 41) (bc := bc) (bs := bs) (cb := 0) (cs := 0) (M' := mX13_oneDay) dX13_daysTill_41 rfl (by decide) w_1901 w_144 w_1898 w_1900 w_91 (by decide +kernel) (fun _ _ _ k => k) k
theorem bX13_daysTill_44 {G : Gt} {d bc bs : Nat} {Q : QT} {l : Ls} {z : List Value} {h : Hp} (k : (tInc 3 1 ((fun l z h => T G d bc bs mX13_daysTill 6 l z h Q))) l z h) : T G d bc bs mX13_daysTill 44 l z h Q := by
  refine R_iinc dX13_daysTill_44 (by decide) (by decide) (fun l z h k => ?_) k
  exact R_goto dX13_daysTill_47 (by decide) (fun _ _ _ k => k) k
theorem bX13_daysTill_50 {G : Gt} {d bc bs : Nat} {Q : QT} {l : Ls} {z : List Value} {h : Hp} (k : (tAld 0 (tCV0 G d 0 0 11 mX13_back (fun l z h => T G d bc bs mX13_daysTill 54 l z h Q))) l z h) : T G d bc bs mX13_daysTill 50 l z h Q := by
  refine R_aload_n dX13_daysTill_50 rfl (fun l z h k => ?_) k
  exact R_cv0 (M := mX13_daysTill) (pc := 51) (bc := bc) (bs := bs) (cb := 0) (cs := 0) (M' := mX13_back) dX13_daysTill_51 rfl (by decide) w_1929 w_144 w_1926 w_1928 w_96 (by decide +kernel) (fun _ _ _ k => k) k
theorem bX13_daysTill_54 {G : Gt} {d bc bs : Nat} {Q : QT} {l : Ls} {z : List Value} {h : Hp} (k : (tIld 3 (tIld 2 (tIf2 (fun x y => x ≤ y) (fun l z h => T G d bc bs mX13_daysTill 63 l z h Q) (fun l z h => T G d bc bs mX13_daysTill 59 l z h Q)))) l z h) : T G d bc bs mX13_daysTill 54 l z h Q := by
  refine R_iload_n dX13_daysTill_54 rfl (fun l z h k => ?_) k
  refine R_iload_n dX13_daysTill_55 rfl (fun l z h k => ?_) k
  exact R_icmp_le dX13_daysTill_56 (by decide) (fun _ _ _ k => k) (fun _ _ _ k => k) k
theorem bX13_daysTill_59 {G : Gt} {d bc bs : Nat} {Q : QT} {l : Ls} {z : List Value} {h : Hp} (k : (tPush (.int (-1)) ((fun l z h => T G d bc bs mX13_daysTill 64 l z h Q))) l z h) : T G d bc bs mX13_daysTill 59 l z h Q := by
  refine R_iconst dX13_daysTill_59 (by decide) (fun l z h k => ?_) k
  exact R_goto dX13_daysTill_60 (by decide) (fun _ _ _ k => k) k
theorem bX13_daysTill_63 {G : Gt} {d bc bs : Nat} {Q : QT} {l : Ls} {z : List Value} {h : Hp} (k : (tIld 3 ((fun l z h => T G d bc bs mX13_daysTill 64 l z h Q))) l z h) : T G d bc bs mX13_daysTill 63 l z h Q := by
  refine R_iload_n dX13_daysTill_63 rfl (fun l z h k => ?_) k
  exact k
theorem bX13_daysTill_64 {G : Gt} {d bc bs : Nat} {Q : QT} {l : Ls} {z : List Value} {h : Hp} (k : (tRetI Q) l z h) : T G d bc bs mX13_daysTill 64 l z h Q := by
  exact R_iret dX13_daysTill_64 rfl k
theorem dX13_when_0 : decode cX13_when 0 = .ok (.aload_n 0, 1) := by decide +kernel
theorem dX13_when_1 : decode cX13_when 1 = .ok (.iconst 0, 1) := by decide +kernel
theorem dX13_when_2 : decode cX13_when 2 = .ok (.putfield 85, 3) := by decide +kernel
theorem dX13_when_5 : decode cX13_when 5 = .ok (.aload_n 0, 1) := by decide +kernel
theorem dX13_when_6 : decode cX13_when 6 = .ok (.iload_n 1, 1) := by decide +kernel
theorem dX13_when_7 : decode cX13_when 7 = .ok (.invokevirtual 256, 3) := by decide +kernel
theorem dX13_when_10 : decode cX13_when 10 = .ok (.ifCond .eq 12, 3) := by decide +kernel
theorem dX13_when_13 : decode cX13_when 13 = .ok (.iload_n 2, 1) := by decide +kernel
theorem dX13_when_14 : decode cX13_when 14 = .ok (.iconst 0, 1) := by decide +kernel
theorem dX13_when_15 : decode cX13_when 15 = .ok (.iconst 1, 1) := by decide +kernel
theorem dX13_when_16 : decode cX13_when 16 = .ok (.invokestatic 152, 3) := by decide +kernel
theorem dX13_when_19 : decode cX13_when 19 = .ok (.ifCond .ne 5, 3) := by decide +kernel
theorem dX13_when_22 : decode cX13_when 22 = .ok (.iconst (-1), 1) := by decide +kernel
theorem dX13_when_23 : decode cX13_when 23 = .ok (.ireturn, 1) := by decide +kernel
theorem dX13_when_24 : decode cX13_when 24 = .ok (.aload_n 0, 1) := by decide +kernel
theorem dX13_when_25 : decode cX13_when 25 = .ok (.getfield 13, 3) := by decide +kernel
theorem dX13_when_28 : decode cX13_when 28 = .ok (.bipush 22, 2) := by decide +kernel
theorem dX13_when_30 : decode cX13_when 30 = .ok (.iload_n 1, 1) := by decide +kernel
theorem dX13_when_31 : decode cX13_when 31 = .ok (.iadd, 1) := by decide +kernel
theorem dX13_when_32 : decode cX13_when 32 = .ok (.iaload, 1) := by decide +kernel
theorem dX13_when_33 : decode cX13_when 33 = .ok (.istore_n 3, 1) := by decide +kernel
theorem dX13_when_34 : decode cX13_when 34 = .ok (.aload_n 0, 1) := by decide +kernel
theorem dX13_when_35 : decode cX13_when 35 = .ok (.getfield 13, 3) := by decide +kernel
theorem dX13_when_38 : decode cX13_when 38 = .ok (.bipush 22, 2) := by decide +kernel
theorem dX13_when_40 : decode cX13_when 40 = .ok (.iload_n 1, 1) := by decide +kernel
theorem dX13_when_41 : decode cX13_when 41 = .ok (.iadd, 1) := by decide +kernel
theorem dX13_when_42 : decode cX13_when 42 = .ok (.iload_n 2, 1) := by decide +kernel
theorem dX13_when_43 : decode cX13_when 43 = .ok (.iastore, 1) := by decide +kernel
theorem dX13_when_44 : decode cX13_when 44 = .ok (.aload_n 0, 1) := by decide +kernel
theorem dX13_when_45 : decode cX13_when 45 = .ok (.iconst 1, 1) := by decide +kernel
theorem dX13_when_46 : decode cX13_when 46 = .ok (.iload_n 1, 1) := by decide +kernel
theorem dX13_when_47 : decode cX13_when 47 = .ok (.ishl, 1) := by decide +kernel
theorem dX13_when_48 : decode cX13_when 48 = .ok (.bipush 100, 2) := by decide +kernel
theorem dX13_when_50 : decode cX13_when 50 = .ok (.invokevirtual 329, 3) := by decide +kernel
theorem dX13_when_53 : decode cX13_when 53 = .ok (.istore 4, 2) := by decide +kernel
theorem dX13_when_55 : decode cX13_when 55 = .ok (.aload_n 0, 1) := by decide +kernel
theorem dX13_when_56 : decode cX13_when 56 = .ok (.getfield 13, 3) := by decide +kernel
theorem dX13_when_59 : decode cX13_when 59 = .ok (.bipush 22, 2) := by decide +kernel
theorem dX13_when_61 : decode cX13_when 61 = .ok (.iload_n 1, 1) := by decide +kernel
theorem dX13_when_62 : decode cX13_when 62 = .ok (.iadd, 1) := by decide +kernel
theorem dX13_when_63 : decode cX13_when 63 = .ok (.iload_n 3, 1) := by decide +kernel
theorem dX13_when_64 : decode cX13_when 64 = .ok (.iastore, 1) := by decide +kernel
theorem dX13_when_65 : decode cX13_when 65 = .ok (.iload 4, 2) := by decide +kernel
theorem dX13_when_67 : decode cX13_when 67 = .ok (.ireturn, 1) := by decide +kernel
theorem bX13_when_0 {G : Gt} {d bc bs : Nat} {Q : QT} {l : Ls} {z : List Value} {h : Hp} (k : (tAld 0 (tPush (.int 0) (tPutf isI 11 0 (tAld 0 (tIld 1 (tCV1 G d 0 0 11 mX13_isPerson (fun l z h => T G d bc bs mX13_when 10 l z h Q))))))) l z h) : T G d bc bs mX13_when 0 l z h Q := by
  refine R_aload_n dX13_when_0 rfl (fun l z h k => ?_) k
  refine R_iconst dX13_when_1 (by decide) (fun l z h k => ?_) k
  refine R_putf (ci := 11) (f := 0) (C := RX13) (N := 49) (Tt := TX13) tyX13 tyX13_ok nmX13 dX13_when_2 rfl i_X13 (by decide) w_1467 rfl (tyX13_ok 0 (by decide)) p_int (fun l z h k => ?_) k
  refine R_aload_n dX13_when_5 rfl (fun l z h k => ?_) k
  refine R_iload_n dX13_when_6 rfl (fun l z h k => ?_) k
  exact R_cv1 (M := mX13_when) (pc := 7) (bc := bc) (bs := bs) (cb := 0) (cs := 0) (M' := mX13_isPerson) dX13_when_7 rfl (by decide) w_1767 w_144 w_1764 w_1766 w_70 (by decide +kernel) (fun _ _ _ k => k) k
theorem bX13_when_10 {G : Gt} {d bc bs : Nat} {Q : QT} {l : Ls} {z : List Value} {h : Hp} (k : (tIf (fun x => x = 0) (fun l z h => T G d bc bs mX13_when 22 l z h Q) (fun l z h => T G d bc bs mX13_when 13 l z h Q)) l z h) : T G d bc bs mX13_when 10 l z h Q := by
  exact R_if_eq dX13_when_10 (by decide) (fun _ _ _ k => k) (fun _ _ _ k => k) k
theorem bX13_when_13 {G : Gt} {d bc bs : Nat} {Q : QT} {l : Ls} {z : List Value} {h : Hp} (k : (tIld 2 (tPush (.int 0) (tPush (.int 1) (tCS3 G d 0 0 mX13_isIn (fun l z h => T G d bc bs mX13_when 19 l z h Q))))) l z h) : T G d bc bs mX13_when 13 l z h Q := by
  refine R_iload_n dX13_when_13 rfl (fun l z h k => ?_) k
  refine R_iconst dX13_when_14 (by decide) (fun l z h k => ?_) k
  refine R_iconst dX13_when_15 (by decide) (fun l z h k => ?_) k
  exact R_cs3 (M := mX13_when) (pc := 16) (bc := bc) (bs := bs) (cb := 0) (cs := 0) (M' := mX13_isIn) dX13_when_16 (by decide) w_1711 w_144 w_1709 w_1710 (by decide +kernel) (fun _ _ _ k => k) k
theorem bX13_when_19 {G : Gt} {d bc bs : Nat} {Q : QT} {l : Ls} {z : List Value} {h : Hp} (k : (tIf (fun x => x = 0) (fun l z h => T G d bc bs mX13_when 22 l z h Q) (fun l z h => T G d bc bs mX13_when 24 l z h Q)) l z h) : T G d bc bs mX13_when 19 l z h Q := by
  exact R_if_ne dX13_when_19 (by decide) (fun _ _ _ k => k) (fun _ _ _ k => k) k
theorem bX13_when_22 {G : Gt} {d bc bs : Nat} {Q : QT} {l : Ls} {z : List Value} {h : Hp} (k : (tPush (.int (-1)) (tRetI Q)) l z h) : T G d bc bs mX13_when 22 l z h Q := by
  refine R_iconst dX13_when_22 (by decide) (fun l z h k => ?_) k
  exact R_iret dX13_when_23 rfl k
theorem bX13_when_24 {G : Gt} {d bc bs : Nat} {Q : QT} {l : Ls} {z : List Value} {h : Hp} (k : (tAld 0 (tGetf 11 14 (tPush (.int 22) (tIld 1 (tB (fun x y => x + y) (tXald 0 (tIst 3 (tAld 0 (tGetf 11 14 (tPush (.int 22) (tIld 1 (tB (fun x y => x + y) (tIld 2 (tXast 0 (tAld 0 (tPush (.int 1) (tIld 1 (tB (fun x y => x <<< (y &&& 31)) (tPush (.int 100) (tCV2 G d 0 0 11 mX13_daysTill (fun l z h => T G d bc bs mX13_when 53 l z h Q))))))))))))))))))))) l z h) : T G d bc bs mX13_when 24 l z h Q := by
  refine R_aload_n dX13_when_24 rfl (fun l z h k => ?_) k
  refine R_getf (ci := 11) (f := 14) (C := RX13) (N := 49) (Tt := TX13) dX13_when_25 rfl i_X13 (by decide) w_1481 (fun l z h k => ?_) k
  refine R_bipush dX13_when_28 (by decide) (fun l z h k => ?_) k
  refine R_iload_n dX13_when_30 rfl (fun l z h k => ?_) k
  refine R_iadd dX13_when_31 (fun l z h k => ?_) k
  refine R_iaload dX13_when_32 (fun l z h k => ?_) k
  refine R_istore_n dX13_when_33 rfl (by decide) (fun l z h k => ?_) k
  refine R_aload_n dX13_when_34 rfl (fun l z h k => ?_) k
  refine R_getf (ci := 11) (f := 14) (C := RX13) (N := 49) (Tt := TX13) dX13_when_35 rfl i_X13 (by decide) w_1481 (fun l z h k => ?_) k
  refine R_bipush dX13_when_38 (by decide) (fun l z h k => ?_) k
  refine R_iload_n dX13_when_40 rfl (fun l z h k => ?_) k
  refine R_iadd dX13_when_41 (fun l z h k => ?_) k
  refine R_iload_n dX13_when_42 rfl (fun l z h k => ?_) k
  refine R_iastore dX13_when_43 (fun l z h k => ?_) k
  refine R_aload_n dX13_when_44 rfl (fun l z h k => ?_) k
  refine R_iconst dX13_when_45 (by decide) (fun l z h k => ?_) k
  refine R_iload_n dX13_when_46 rfl (fun l z h k => ?_) k
  refine R_ishl dX13_when_47 (fun l z h k => ?_) k
  refine R_bipush dX13_when_48 (by decide) (fun l z h k => ?_) k
  exact R_cv2 (M := mX13_when) (pc := 50) (bc := bc) (bs := bs) (cb := 0) (cs := 0) (M' := mX13_daysTill) dX13_when_50 rfl (by decide) w_1921 w_144 w_1918 w_1920 w_94 (by decide +kernel) (fun _ _ _ k => k) k
theorem bX13_when_53 {G : Gt} {d bc bs : Nat} {Q : QT} {l : Ls} {z : List Value} {h : Hp} (k : (tIst 4 (tAld 0 (tGetf 11 14 (tPush (.int 22) (tIld 1 (tB (fun x y => x + y) (tIld 3 (tXast 0 (tIld 4 (tRetI Q)))))))))) l z h) : T G d bc bs mX13_when 53 l z h Q := by
  refine R_istore dX13_when_53 (by decide) (fun l z h k => ?_) k
  refine R_aload_n dX13_when_55 rfl (fun l z h k => ?_) k
  refine R_getf (ci := 11) (f := 14) (C := RX13) (N := 49) (Tt := TX13) dX13_when_56 rfl i_X13 (by decide) w_1481 (fun l z h k => ?_) k
  refine R_bipush dX13_when_59 (by decide) (fun l z h k => ?_) k
  refine R_iload_n dX13_when_61 rfl (fun l z h k => ?_) k
  refine R_iadd dX13_when_62 (fun l z h k => ?_) k
  refine R_iload_n dX13_when_63 rfl (fun l z h k => ?_) k
  refine R_iastore dX13_when_64 (fun l z h k => ?_) k
  refine R_iload dX13_when_65 (fun l z h k => ?_) k
  exact R_iret dX13_when_67 rfl k
