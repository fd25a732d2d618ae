theorem dX4_init_0 : decode cX4_init 0 = .ok (.aload_n 0, 1) := by decide +kernel
theorem dX4_init_1 : decode cX4_init 1 = .ok (.invokespecial 3, 3) := by decide +kernel
theorem dX4_init_4 : decode cX4_init 4 = .ok (.aload_n 0, 1) := by decide +kernel
theorem dX4_init_5 : decode cX4_init 5 = .ok (.bipush 64, 2) := by decide +kernel
theorem dX4_init_7 : decode cX4_init 7 = .ok (.newarray .int, 2) := by decide +kernel
theorem dX4_init_9 : decode cX4_init 9 = .ok (.putfield 11, 3) := by decide +kernel
theorem dX4_init_12 : decode cX4_init 12 = .ok (.aload_n 0, 1) := by decide +kernel
theorem dX4_init_13 : decode cX4_init 13 = .ok (.bipush 8, 2) := by decide +kernel
theorem dX4_init_15 : decode cX4_init 15 = .ok (.newarray .int, 2) := by decide +kernel
theorem dX4_init_17 : decode cX4_init 17 = .ok (.putfield 15, 3) := by decide +kernel
theorem dX4_init_20 : decode cX4_init 20 = .ok (.aload_n 0, 1) := by decide +kernel
theorem dX4_init_21 : decode cX4_init 21 = .ok (.iconst (-1), 1) := by decide +kernel
theorem dX4_init_22 : decode cX4_init 22 = .ok (.putfield 18, 3) := by decide +kernel
theorem dX4_init_25 : decode cX4_init 25 = .ok (.aload_n 0, 1) := by decide +kernel
theorem dX4_init_26 : decode cX4_init 26 = .ok (.iconst (-1), 1) := by decide +kernel
theorem dX4_init_27 : decode cX4_init 27 = .ok (.putfield 22, 3) := by decide +kernel
theorem dX4_init_30 : decode cX4_init 30 = .ok (.return_, 1) := by decide +kernel
theorem bX4_init_0 {G : Gt} {d bc bs : Nat} {Q : QT} {l : Ls} {z : List Value} {h : Hp} (hd1 : 1 ≤ d) (k : (tAld 0 (tObj ((fun l z h => T G d bc bs mX4_init 4 l z h Q)))) l z h) : T G d bc bs mX4_init 0 l z h Q := by
  refine R_aload_n dX4_init_0 rfl (fun l z h k => ?_) k
  refine R_obj dX4_init_1 hd1 w_469 w_163 w_164 (fun l z h k => ?_) k
  exact k
theorem bX4_init_4 {G : Gt} {d bc bs : Nat} {Q : QT} {l : Ls} {z : List Value} {h : Hp} (k : (tAld 0 (tPush (.int 64) (tNewI 0 64 (tPutf isA 3 0 (tAld 0 (tPush (.int 8) (tNewI 0 8 (tPutf isA 3 1 (tAld 0 (tPush (.int (-1)) (tPutf isI 3 2 (tAld 0 (tPush (.int (-1)) (tPutf isI 3 3 (tRetV Q))))))))))))))) l z h) : T G d (bc + 1 + 1) (bs + 8 + 64) mX4_init 4 l z h Q := by
  refine R_aload_n dX4_init_4 rfl (fun l z h k => ?_) k
  refine R_bipush dX4_init_5 (by decide) (fun l z h k => ?_) k
  refine R_newI (ty := .int) dX4_init_7 (by decide) rfl rfl (fun _ _ => rfl) rfl w_183 (by decide) (fun l z h k => ?_) k
  refine R_putF (ci := 3) (f := 0) (C := RX4) (N := 4) (Tt := TX4) tyX4 tyX4_ok nmX4 dX4_init_9 rfl i_X4 (by decide) w_470 rfl rfl rfl (tyX4_ok 0 (by decide)) (p_ref rfl) (fun l z h k => ?_) k
  refine R_aload_n dX4_init_12 rfl (fun l z h k => ?_) k
  refine R_bipush dX4_init_13 (by decide) (fun l z h k => ?_) k
  refine R_newI (ty := .int) dX4_init_15 (by decide) rfl rfl (fun _ _ => rfl) rfl w_183 (by decide) (fun l z h k => ?_) k
  refine R_putF (ci := 3) (f := 1) (C := RX4) (N := 4) (Tt := TX4) tyX4 tyX4_ok nmX4 dX4_init_17 rfl i_X4 (by decide) w_471 rfl rfl rfl (tyX4_ok 1 (by decide)) (p_ref rfl) (fun l z h k => ?_) k
  refine R_aload_n dX4_init_20 rfl (fun l z h k => ?_) k
  refine R_iconst dX4_init_21 (by decide) (fun l z h k => ?_) k
  refine R_putf (ci := 3) (f := 2) (C := RX4) (N := 4) (Tt := TX4) tyX4 tyX4_ok nmX4 dX4_init_22 rfl i_X4 (by decide) w_472 rfl (tyX4_ok 2 (by decide)) p_int (fun l z h k => ?_) k
  refine R_aload_n dX4_init_25 rfl (fun l z h k => ?_) k
  refine R_iconst dX4_init_26 (by decide) (fun l z h k => ?_) k
  refine R_putf (ci := 3) (f := 3) (C := RX4) (N := 4) (Tt := TX4) tyX4 tyX4_ok nmX4 dX4_init_27 rfl i_X4 (by decide) w_474 rfl (tyX4_ok 3 (by decide)) p_int (fun l z h k => ?_) k
  exact R_vret dX4_init_30 rfl k
theorem dX4_findSets_0 : decode cX4_findSets 0 = .ok (.aload_n 1, 1) := by decide +kernel
theorem dX4_findSets_1 : decode cX4_findSets 1 = .ok (.aload_n 2, 1) := by decide +kernel
theorem dX4_findSets_2 : decode cX4_findSets 2 = .ok (.invokestatic 25, 3) := by decide +kernel
theorem dX4_findSets_5 : decode cX4_findSets 5 = .ok (.ifCond .ne 5, 3) := by decide +kernel
theorem dX4_findSets_8 : decode cX4_findSets 8 = .ok (.iconst (-1), 1) := by decide +kernel
theorem dX4_findSets_9 : decode cX4_findSets 9 = .ok (.ireturn, 1) := by decide +kernel
theorem dX4_findSets_10 : decode cX4_findSets 10 = .ok (.iconst 0, 1) := by decide +kernel
theorem dX4_findSets_11 : decode cX4_findSets 11 = .ok (.istore_n 3, 1) := by decide +kernel
theorem dX4_findSets_12 : decode cX4_findSets 12 = .ok (.iload_n 3, 1) := by decide +kernel
theorem dX4_findSets_13 : decode cX4_findSets 13 = .ok (.aload_n 2, 1) := by decide +kernel
theorem dX4_findSets_14 : decode cX4_findSets 14 = .ok (.getfield 29, 3) := by decide +kernel
theorem dX4_findSets_17 : decode cX4_findSets 17 = .ok (.if_icmp .ge 26, 3) := by decide +kernel
theorem dX4_findSets_20 : decode cX4_findSets 20 = .ok (.aload_n 0, 1) := by decide +kernel
theorem dX4_findSets_21 : decode cX4_findSets 21 = .ok (.getfield 15, 3) := by decide +kernel
theorem dX4_findSets_24 : decode cX4_findSets 24 = .ok (.iload_n 3, 1) := by decide +kernel
theorem dX4_findSets_25 : decode cX4_findSets 25 = .ok (.aload_n 2, 1) := by decide +kernel
theorem dX4_findSets_26 : decode cX4_findSets 26 = .ok (.iload_n 3, 1) := by decide +kernel
theorem dX4_findSets_27 : decode cX4_findSets 27 = .ok (.aload_n 1, 1) := by decide +kernel
theorem dX4_findSets_28 : decode cX4_findSets 28 = .ok (.getfield 34, 3) := by decide +kernel
theorem dX4_findSets_31 : decode cX4_findSets 31 = .ok (.iconst 0, 1) := by decide +kernel
theorem dX4_findSets_32 : decode cX4_findSets 32 = .ok (.iaload, 1) := by decide +kernel
theorem dX4_findSets_33 : decode cX4_findSets 33 = .ok (.invokestatic 39, 3) := by decide +kernel
theorem dX4_findSets_36 : decode cX4_findSets 36 = .ok (.iastore, 1) := by decide +kernel
theorem dX4_findSets_37 : decode cX4_findSets 37 = .ok (.iinc 3 1, 3) := by decide +kernel
theorem dX4_findSets_40 : decode cX4_findSets 40 = .ok (.goto (-28), 3) := by decide +kernel
theorem dX4_findSets_43 : decode cX4_findSets 43 = .ok (.iconst 0, 1) := by decide +kernel
theorem dX4_findSets_44 : decode cX4_findSets 44 = .ok (.istore_n 3, 1) := by decide +kernel
theorem dX4_findSets_45 : decode cX4_findSets 45 = .ok (.iconst 0, 1) := by decide +kernel
theorem dX4_findSets_46 : decode cX4_findSets 46 = .ok (.istore 4, 2) := by decide +kernel
theorem dX4_findSets_48 : decode cX4_findSets 48 = .ok (.iload 4, 2) := by decide +kernel
theorem dX4_findSets_50 : decode cX4_findSets 50 = .ok (.iconst 1, 1) := by decide +kernel
theorem dX4_findSets_51 : decode cX4_findSets 51 = .ok (.aload_n 2, 1) := by decide +kernel
theorem dX4_findSets_52 : decode cX4_findSets 52 = .ok (.getfield 43, 3) := by decide +kernel
theorem dX4_findSets_55 : decode cX4_findSets 55 = .ok (.ishl, 1) := by decide +kernel
theorem dX4_findSets_56 : decode cX4_findSets 56 = .ok (.if_icmp .ge 36, 3) := by decide +kernel
theorem dX4_findSets_59 : decode cX4_findSets 59 = .ok (.iload_n 3, 1) := by decide +kernel
theorem dX4_findSets_60 : decode cX4_findSets 60 = .ok (.bipush 64, 2) := by decide +kernel
theorem dX4_findSets_62 : decode cX4_findSets 62 = .ok (.if_icmp .ge 24, 3) := by decide +kernel
theorem dX4_findSets_65 : decode cX4_findSets 65 = .ok (.aload_n 0, 1) := by decide +kernel
theorem dX4_findSets_66 : decode cX4_findSets 66 = .ok (.iload 4, 2) := by decide +kernel
theorem dX4_findSets_68 : decode cX4_findSets 68 = .ok (.aload_n 1, 1) := by decide +kernel
theorem dX4_findSets_69 : decode cX4_findSets 69 = .ok (.invokevirtual 46, 3) := by decide +kernel
theorem dX4_findSets_72 : decode cX4_findSets 72 = .ok (.ifCond .eq 14, 3) := by decide +kernel
theorem dX4_findSets_75 : decode cX4_findSets 75 = .ok (.aload_n 0, 1) := by decide +kernel
theorem dX4_findSets_76 : decode cX4_findSets 76 = .ok (.getfield 11, 3) := by decide +kernel
theorem dX4_findSets_79 : decode cX4_findSets 79 = .ok (.iload_n 3, 1) := by decide +kernel
theorem dX4_findSets_80 : decode cX4_findSets 80 = .ok (.iload 4, 2) := by decide +kernel
theorem dX4_findSets_82 : decode cX4_findSets 82 = .ok (.iastore, 1) := by decide +kernel
theorem dX4_findSets_83 : decode cX4_findSets 83 = .ok (.iinc 3 1, 3) := by decide +kernel
theorem dX4_findSets_86 : decode cX4_findSets 86 = .ok (.iinc 4 1, 3) := by decide +kernel
theorem dX4_findSets_89 : decode cX4_findSets 89 = .ok (.goto (-41), 3) := by decide +kernel
theorem dX4_findSets_92 : decode cX4_findSets 92 = .ok (.iload_n 3, 1) := by decide +kernel
theorem dX4_findSets_93 : decode cX4_findSets 93 = .ok (.ifCond .le 25, 3) := by decide +kernel
theorem dX4_findSets_96 : decode cX4_findSets 96 = .ok (.aload_n 0, 1) := by decide +kernel
theorem dX4_findSets_97 : decode cX4_findSets 97 = .ok (.aload_n 0, 1) := by decide +kernel
theorem dX4_findSets_98 : decode cX4_findSets 98 = .ok (.iload_n 3, 1) := by decide +kernel
theorem dX4_findSets_99 : decode cX4_findSets 99 = .ok (.invokevirtual 50, 3) := by decide +kernel
theorem dX4_findSets_102 : decode cX4_findSets 102 = .ok (.putfield 18, 3) := by decide +kernel
theorem dX4_findSets_105 : decode cX4_findSets 105 = .ok (.aload_n 0, 1) := by decide +kernel
theorem dX4_findSets_106 : decode cX4_findSets 106 = .ok (.aload_n 0, 1) := by decide +kernel
theorem dX4_findSets_107 : decode cX4_findSets 107 = .ok (.iload_n 3, 1) := by decide +kernel
theorem dX4_findSets_108 : decode cX4_findSets 108 = .ok (.aload_n 2, 1) := by decide +kernel
theorem dX4_findSets_109 : decode cX4_findSets 109 = .ok (.getfield 29, 3) := by decide +kernel
theorem dX4_findSets_112 : decode cX4_findSets 112 = .ok (.invokevirtual 54, 3) := by decide +kernel
theorem dX4_findSets_115 : decode cX4_findSets 115 = .ok (.putfield 22, 3) := by decide +kernel
theorem dX4_findSets_118 : decode cX4_findSets 118 = .ok (.iload_n 3, 1) := by decide +kernel
theorem dX4_findSets_119 : decode cX4_findSets 119 = .ok (.ireturn, 1) := by decide +kernel
theorem bX4_findSets_0 {G : Gt} {d bc bs : Nat} {Q : QT} {l : Ls} {z : List Value} {h : Hp} (k : (tAld 1 (tAld 2 (tCS2 G d 0 0 mX4_isAsTold (fun l z h => T G d bc bs mX4_findSets 5 l z h Q)))) l z h) : T G d bc bs mX4_findSets 0 l z h Q := by
  refine R_aload_n dX4_findSets_0 rfl (fun l z h k => ?_) k
  refine R_aload_n dX4_findSets_1 rfl (fun l z h k => ?_) k
  exact R_cs2 (M := mX4_findSets) (pc := 2) (bc := bc) (bs := bs) (cb := 0) (cs := 0) (M' := mX4_isAsTold) dX4_findSets_2 (by decide) w_1079 w_143 w_1077 w_1078 (by decide +kernel) (fun _ _ _ k => k) k
theorem bX4_findSets_5 {G : Gt} {d bc bs : Nat} {Q : QT} {l : Ls} {z : List Value} {h : Hp} (k : (tIf (fun x => x = 0) (fun l z h => T G d bc bs mX4_findSets 8 l z h Q) (fun l z h => T G d bc bs mX4_findSets 10 l z h Q)) l z h) : T G d bc bs mX4_findSets 5 l z h Q := by
  exact R_if_ne dX4_findSets_5 (by decide) (fun _ _ _ k => k) (fun _ _ _ k => k) k
theorem bX4_findSets_8 {G : Gt} {d bc bs : Nat} {Q : QT} {l : Ls} {z : List Value} {h : Hp} (k : (tPush (.int (-1)) (tRetI Q)) l z h) : T G d bc bs mX4_findSets 8 l z h Q := by
  refine R_iconst dX4_findSets_8 (by decide) (fun l z h k => ?_) k
  exact R_iret dX4_findSets_9 rfl k
theorem bX4_findSets_10 {G : Gt} {d bc bs : Nat} {Q : QT} {l : Ls} {z : List Value} {h : Hp} (k : (tPush (.int 0) (tIst 3 ((fun l z h => T G d bc bs mX4_findSets 12 l z h Q)))) l z h) : T G d bc bs mX4_findSets 10 l z h Q := by
  refine R_iconst dX4_findSets_10 (by decide) (fun l z h k => ?_) k
  refine R_istore_n dX4_findSets_11 rfl (by decide) (fun l z h k => ?_) k
  exact k
theorem bX4_findSets_12 {G : Gt} {d bc bs : Nat} {Q : QT} {l : Ls} {z : List Value} {h : Hp} (k : (tIld 3 (tAld 2 (tGetf 9 1 (tIf2 (fun x y => y ≤ x) (fun l z h => T G d bc bs mX4_findSets 43 l z h Q) (fun l z h => T G d bc bs mX4_findSets 20 l z h Q))))) l z h) : T G d bc bs mX4_findSets 12 l z h Q := by
  refine R_iload_n dX4_findSets_12 rfl (fun l z h k => ?_) k
  refine R_aload_n dX4_findSets_13 rfl (fun l z h k => ?_) k
  refine R_getf (ci := 9) (f := 1) (C := RX11) (N := 14) (Tt := TX11) dX4_findSets_14 rfl i_X11 (by decide) w_253 (fun l z h k => ?_) k
  exact R_icmp_ge dX4_findSets_17 (by decide) (fun _ _ _ k => k) (fun _ _ _ k => k) k
theorem bX4_findSets_20 {G : Gt} {d bc bs : Nat} {Q : QT} {l : Ls} {z : List Value} {h : Hp} (k : (tAld 0 (tGetf 3 1 (tIld 3 (tAld 2 (tIld 3 (tAld 1 (tGetf 7 0 (tPush (.int 0) (tXald 0 (tCS3 G d 0 0 mX4_enoughOf (fun l z h => T G d bc bs mX4_findSets 36 l z h Q))))))))))) l z h) : T G d bc bs mX4_findSets 20 l z h Q := by
  refine R_aload_n dX4_findSets_20 rfl (fun l z h k => ?_) k
  refine R_getf (ci := 3) (f := 1) (C := RX4) (N := 4) (Tt := TX4) dX4_findSets_21 rfl i_X4 (by decide) w_471 (fun l z h k => ?_) k
  refine R_iload_n dX4_findSets_24 rfl (fun l z h k => ?_) k
  refine R_aload_n dX4_findSets_25 rfl (fun l z h k => ?_) k
  refine R_iload_n dX4_findSets_26 rfl (fun l z h k => ?_) k
  refine R_aload_n dX4_findSets_27 rfl (fun l z h k => ?_) k
  refine R_getf (ci := 7) (f := 0) (C := RX8) (N := 2) (Tt := TX8) dX4_findSets_28 rfl i_X8 (by decide) w_172 (fun l z h k => ?_) k
  refine R_iconst dX4_findSets_31 (by decide) (fun l z h k => ?_) k
  refine R_iaload dX4_findSets_32 (fun l z h k => ?_) k
  exact R_cs3 (M := mX4_findSets) (pc := 33) (bc := bc) (bs := bs) (cb := 0) (cs := 0) (M' := mX4_enoughOf) dX4_findSets_33 (by decide) w_1083 w_143 w_1081 w_1082 (by decide +kernel) (fun _ _ _ k => k) k
theorem bX4_findSets_36 {G : Gt} {d bc bs : Nat} {Q : QT} {l : Ls} {z : List Value} {h : Hp} (k : (tXast 0 (tInc 3 1 ((fun l z h => T G d bc bs mX4_findSets 12 l z h Q)))) l z h) : T G d bc bs mX4_findSets 36 l z h Q := by
  refine R_iastore dX4_findSets_36 (fun l z h k => ?_) k
  refine R_iinc dX4_findSets_37 (by decide) (by decide) (fun l z h k => ?_) k
  exact R_goto dX4_findSets_40 (by decide) (fun _ _ _ k => k) k
theorem bX4_findSets_43 {G : Gt} {d bc bs : Nat} {Q : QT} {l : Ls} {z : List Value} {h : Hp} (k : (tPush (.int 0) (tIst 3 (tPush (.int 0) (tIst 4 ((fun l z h => T G d bc bs mX4_findSets 48 l z h Q)))))) l z h) : T G d bc bs mX4_findSets 43 l z h Q := by
  refine R_iconst dX4_findSets_43 (by decide) (fun l z h k => ?_) k
  refine R_istore_n dX4_findSets_44 rfl (by decide) (fun l z h k => ?_) k
  refine R_iconst dX4_findSets_45 (by decide) (fun l z h k => ?_) k
  refine R_istore dX4_findSets_46 (by decide) (fun l z h k => ?_) k
  exact k
theorem bX4_findSets_48 {G : Gt} {d bc bs : Nat} {Q : QT} {l : Ls} {z : List Value} {h : Hp} (k : (tIld 4 (tPush (.int 1) (tAld 2 (tGetf 9 0 (tB (fun x y => x <<< (y &&& 31)) (tIf2 (fun x y => y ≤ x) (fun l z h => T G d bc bs mX4_findSets 92 l z h Q) (fun l z h => T G d bc bs mX4_findSets 59 l z h Q))))))) l z h) : T G d bc bs mX4_findSets 48 l z h Q := by
  refine R_iload dX4_findSets_48 (fun l z h k => ?_) k
  refine R_iconst dX4_findSets_50 (by decide) (fun l z h k => ?_) k
  refine R_aload_n dX4_findSets_51 rfl (fun l z h k => ?_) k
  refine R_getf (ci := 9) (f := 0) (C := RX11) (N := 14) (Tt := TX11) dX4_findSets_52 rfl i_X11 (by decide) w_249 (fun l z h k => ?_) k
  refine R_ishl dX4_findSets_55 (fun l z h k => ?_) k
  exact R_icmp_ge dX4_findSets_56 (by decide) (fun _ _ _ k => k) (fun _ _ _ k => k) k
theorem bX4_findSets_59 {G : Gt} {d bc bs : Nat} {Q : QT} {l : Ls} {z : List Value} {h : Hp} (k : (tIld 3 (tPush (.int 64) (tIf2 (fun x y => y ≤ x) (fun l z h => T G d bc bs mX4_findSets 86 l z h Q) (fun l z h => T G d bc bs mX4_findSets 65 l z h Q)))) l z h) : T G d bc bs mX4_findSets 59 l z h Q := by
  refine R_iload_n dX4_findSets_59 rfl (fun l z h k => ?_) k
  refine R_bipush dX4_findSets_60 (by decide) (fun l z h k => ?_) k
  exact R_icmp_ge dX4_findSets_62 (by decide) (fun _ _ _ k => k) (fun _ _ _ k => k) k
theorem bX4_findSets_65 {G : Gt} {d bc bs : Nat} {Q : QT} {l : Ls} {z : List Value} {h : Hp} (k : (tAld 0 (tIld 4 (tAld 1 (tCV2 G d 0 0 3 mX4_agrees (fun l z h => T G d bc bs mX4_findSets 72 l z h Q))))) l z h) : T G d bc bs mX4_findSets 65 l z h Q := by
  refine R_aload_n dX4_findSets_65 rfl (fun l z h k => ?_) k
  refine R_iload dX4_findSets_66 (fun l z h k => ?_) k
  refine R_aload_n dX4_findSets_68 rfl (fun l z h k => ?_) k
  exact R_cv2 (M := mX4_findSets) (pc := 69) (bc := bc) (bs := bs) (cb := 0) (cs := 0) (M' := mX4_agrees) dX4_findSets_69 rfl (by decide) w_1088 w_143 w_1085 w_1087 w_18 (by decide +kernel) (fun _ _ _ k => k) k
theorem bX4_findSets_72 {G : Gt} {d bc bs : Nat} {Q : QT} {l : Ls} {z : List Value} {h : Hp} (k : (tIf (fun x => x = 0) (fun l z h => T G d bc bs mX4_findSets 86 l z h Q) (fun l z h => T G d bc bs mX4_findSets 75 l z h Q)) l z h) : T G d bc bs mX4_findSets 72 l z h Q := by
  exact R_if_eq dX4_findSets_72 (by decide) (fun _ _ _ k => k) (fun _ _ _ k => k) k
theorem bX4_findSets_75 {G : Gt} {d bc bs : Nat} {Q : QT} {l : Ls} {z : List Value} {h : Hp} (k : (tAld 0 (tGetf 3 0 (tIld 3 (tIld 4 (tXast 0 (tInc 3 1 ((fun l z h => T G d bc bs mX4_findSets 86 l z h Q)))))))) l z h) : T G d bc bs mX4_findSets 75 l z h Q := by
  refine R_aload_n dX4_findSets_75 rfl (fun l z h k => ?_) k
  refine R_getf (ci := 3) (f := 0) (C := RX4) (N := 4) (Tt := TX4) dX4_findSets_76 rfl i_X4 (by decide) w_470 (fun l z h k => ?_) k
  refine R_iload_n dX4_findSets_79 rfl (fun l z h k => ?_) k
  refine R_iload dX4_findSets_80 (fun l z h k => ?_) k
  refine R_iastore dX4_findSets_82 (fun l z h k => ?_) k
  refine R_iinc dX4_findSets_83 (by decide) (by decide) (fun l z h k => ?_) k
  exact k
theorem bX4_findSets_86 {G : Gt} {d bc bs : Nat} {Q : QT} {l : Ls} {z : List Value} {h : Hp} (k : (tInc 4 1 ((fun l z h => T G d bc bs mX4_findSets 48 l z h Q))) l z h) : T G d bc bs mX4_findSets 86 l z h Q := by
  refine R_iinc dX4_findSets_86 (by decide) (by decide) (fun l z h k => ?_) k
  exact R_goto dX4_findSets_89 (by decide) (fun _ _ _ k => k) k
theorem bX4_findSets_92 {G : Gt} {d bc bs : Nat} {Q : QT} {l : Ls} {z : List Value} {h : Hp} (k : (tIld 3 (tIf (fun x => x ≤ 0) (fun l z h => T G d bc bs mX4_findSets 118 l z h Q) (fun l z h => T G d bc bs mX4_findSets 96 l z h Q))) l z h) : T G d bc bs mX4_findSets 92 l z h Q := by
  refine R_iload_n dX4_findSets_92 rfl (fun l z h k => ?_) k
  exact R_if_le dX4_findSets_93 (by decide) (fun _ _ _ k => k) (fun _ _ _ k => k) k
theorem bX4_findSets_96 {G : Gt} {d bc bs : Nat} {Q : QT} {l : Ls} {z : List Value} {h : Hp} (k : (tAld 0 (tAld 0 (tIld 3 (tCV1 G d 0 0 3 mX4_smallestOf (fun l z h => T G d bc bs mX4_findSets 102 l z h Q))))) l z h) : T G d bc bs mX4_findSets 96 l z h Q := by
  refine R_aload_n dX4_findSets_96 rfl (fun l z h k => ?_) k
  refine R_aload_n dX4_findSets_97 rfl (fun l z h k => ?_) k
  refine R_iload_n dX4_findSets_98 rfl (fun l z h k => ?_) k
  exact R_cv1 (M := mX4_findSets) (pc := 99) (bc := bc) (bs := bs) (cb := 0) (cs := 0) (M' := mX4_smallestOf) dX4_findSets_99 rfl (by decide) w_1096 w_143 w_1093 w_1095 w_20 (by decide +kernel) (fun _ _ _ k => k) k
theorem bX4_findSets_102 {G : Gt} {d bc bs : Nat} {Q : QT} {l : Ls} {z : List Value} {h : Hp} (k : (tPutf isI 3 2 (tAld 0 (tAld 0 (tIld 3 (tAld 2 (tGetf 9 1 (tCV2 G d 0 0 3 mX4_bestOffer (fun l z h => T G d bc bs mX4_findSets 115 l z h Q)))))))) l z h) : T G d bc bs mX4_findSets 102 l z h Q := by
  refine R_putf (ci := 3) (f := 2) (C := RX4) (N := 4) (Tt := TX4) tyX4 tyX4_ok nmX4 dX4_findSets_102 rfl i_X4 (by decide) w_472 rfl (tyX4_ok 2 (by decide)) p_int (fun l z h k => ?_) k
  refine R_aload_n dX4_findSets_105 rfl (fun l z h k => ?_) k
  refine R_aload_n dX4_findSets_106 rfl (fun l z h k => ?_) k
  refine R_iload_n dX4_findSets_107 rfl (fun l z h k => ?_) k
  refine R_aload_n dX4_findSets_108 rfl (fun l z h k => ?_) k
  refine R_getf (ci := 9) (f := 1) (C := RX11) (N := 14) (Tt := TX11) dX4_findSets_109 rfl i_X11 (by decide) w_253 (fun l z h k => ?_) k
  exact R_cv2 (M := mX4_findSets) (pc := 112) (bc := bc) (bs := bs) (cb := 0) (cs := 0) (M' := mX4_bestOffer) dX4_findSets_112 rfl (by decide) w_1106 w_143 w_1103 w_1105 w_21 (by decide +kernel) (fun _ _ _ k => k) k
theorem bX4_findSets_115 {G : Gt} {d bc bs : Nat} {Q : QT} {l : Ls} {z : List Value} {h : Hp} (k : (tPutf isI 3 3 ((fun l z h => T G d bc bs mX4_findSets 118 l z h Q))) l z h) : T G d bc bs mX4_findSets 115 l z h Q := by
  refine R_putf (ci := 3) (f := 3) (C := RX4) (N := 4) (Tt := TX4) tyX4 tyX4_ok nmX4 dX4_findSets_115 rfl i_X4 (by decide) w_474 rfl (tyX4_ok 3 (by decide)) p_int (fun l z h k => ?_) k
  exact k
theorem bX4_findSets_118 {G : Gt} {d bc bs : Nat} {Q : QT} {l : Ls} {z : List Value} {h : Hp} (k : (tIld 3 (tRetI Q)) l z h) : T G d bc bs mX4_findSets 118 l z h Q := by
  refine R_iload_n dX4_findSets_118 rfl (fun l z h k => ?_) k
  exact R_iret dX4_findSets_119 rfl k
theorem dX4_isAsTold_0 : decode cX4_isAsTold 0 = .ok (.aload_n 0, 1) := by decide +kernel
theorem dX4_isAsTold_1 : decode cX4_isAsTold 1 = .ok (.getfield 58, 3) := by decide +kernel
theorem dX4_isAsTold_4 : decode cX4_isAsTold 4 = .ok (.iconst 3, 1) := by decide +kernel
theorem dX4_isAsTold_5 : decode cX4_isAsTold 5 = .ok (.if_icmp .lt 21, 3) := by decide +kernel
theorem dX4_isAsTold_8 : decode cX4_isAsTold 8 = .ok (.aload_n 0, 1) := by decide +kernel
theorem dX4_isAsTold_9 : decode cX4_isAsTold 9 = .ok (.getfield 58, 3) := by decide +kernel
theorem dX4_isAsTold_12 : decode cX4_isAsTold 12 = .ok (.bipush 17, 2) := by decide +kernel
theorem dX4_isAsTold_14 : decode cX4_isAsTold 14 = .ok (.if_icmp .gt 12, 3) := by decide +kernel
theorem dX4_isAsTold_17 : decode cX4_isAsTold 17 = .ok (.aload_n 0, 1) := by decide +kernel
theorem dX4_isAsTold_18 : decode cX4_isAsTold 18 = .ok (.getfield 58, 3) := by decide +kernel
theorem dX4_isAsTold_21 : decode cX4_isAsTold 21 = .ok (.iconst 2, 1) := by decide +kernel
theorem dX4_isAsTold_22 : decode cX4_isAsTold 22 = .ok (.irem, 1) := by decide +kernel
theorem dX4_isAsTold_23 : decode cX4_isAsTold 23 = .ok (.ifCond .ne 5, 3) := by decide +kernel
theorem dX4_isAsTold_26 : decode cX4_isAsTold 26 = .ok (.iconst 0, 1) := by decide +kernel
theorem dX4_isAsTold_27 : decode cX4_isAsTold 27 = .ok (.ireturn, 1) := by decide +kernel
theorem dX4_isAsTold_28 : decode cX4_isAsTold 28 = .ok (.aload_n 0, 1) := by decide +kernel
theorem dX4_isAsTold_29 : decode cX4_isAsTold 29 = .ok (.getfield 34, 3) := by decide +kernel
theorem dX4_isAsTold_32 : decode cX4_isAsTold 32 = .ok (.iconst 0, 1) := by decide +kernel
theorem dX4_isAsTold_33 : decode cX4_isAsTold 33 = .ok (.iaload, 1) := by decide +kernel
theorem dX4_isAsTold_34 : decode cX4_isAsTold 34 = .ok (.iconst 1, 1) := by decide +kernel
theorem dX4_isAsTold_35 : decode cX4_isAsTold 35 = .ok (.if_icmp .lt 14, 3) := by decide +kernel
theorem dX4_isAsTold_38 : decode cX4_isAsTold 38 = .ok (.aload_n 0, 1) := by decide +kernel
theorem dX4_isAsTold_39 : decode cX4_isAsTold 39 = .ok (.getfield 34, 3) := by decide +kernel
theorem dX4_isAsTold_42 : decode cX4_isAsTold 42 = .ok (.iconst 0, 1) := by decide +kernel
theorem dX4_isAsTold_43 : decode cX4_isAsTold 43 = .ok (.iaload, 1) := by decide +kernel
theorem dX4_isAsTold_44 : decode cX4_isAsTold 44 = .ok (.bipush 12, 2) := by decide +kernel
theorem dX4_isAsTold_46 : decode cX4_isAsTold 46 = .ok (.if_icmp .le 5, 3) := by decide +kernel
theorem dX4_isAsTold_49 : decode cX4_isAsTold 49 = .ok (.iconst 0, 1) := by decide +kernel
theorem dX4_isAsTold_50 : decode cX4_isAsTold 50 = .ok (.ireturn, 1) := by decide +kernel
theorem dX4_isAsTold_51 : decode cX4_isAsTold 51 = .ok (.iconst 1, 1) := by decide +kernel
theorem dX4_isAsTold_52 : decode cX4_isAsTold 52 = .ok (.istore_n 2, 1) := by decide +kernel
theorem dX4_isAsTold_53 : decode cX4_isAsTold 53 = .ok (.iload_n 2, 1) := by decide +kernel
theorem dX4_isAsTold_54 : decode cX4_isAsTold 54 = .ok (.iconst 1, 1) := by decide +kernel
theorem dX4_isAsTold_55 : decode cX4_isAsTold 55 = .ok (.iadd, 1) := by decide +kernel
theorem dX4_isAsTold_56 : decode cX4_isAsTold 56 = .ok (.aload_n 0, 1) := by decide +kernel
theorem dX4_isAsTold_57 : decode cX4_isAsTold 57 = .ok (.getfield 58, 3) := by decide +kernel
theorem dX4_isAsTold_60 : decode cX4_isAsTold 60 = .ok (.if_icmp .ge 36, 3) := by decide +kernel
theorem dX4_isAsTold_63 : decode cX4_isAsTold 63 = .ok (.aload_n 1, 1) := by decide +kernel
theorem dX4_isAsTold_64 : decode cX4_isAsTold 64 = .ok (.aload_n 0, 1) := by decide +kernel
theorem dX4_isAsTold_65 : decode cX4_isAsTold 65 = .ok (.getfield 34, 3) := by decide +kernel
theorem dX4_isAsTold_68 : decode cX4_isAsTold 68 = .ok (.iload_n 2, 1) := by decide +kernel
theorem dX4_isAsTold_69 : decode cX4_isAsTold 69 = .ok (.iaload, 1) := by decide +kernel
theorem dX4_isAsTold_70 : decode cX4_isAsTold 70 = .ok (.invokevirtual 61, 3) := by decide +kernel
theorem dX4_isAsTold_73 : decode cX4_isAsTold 73 = .ok (.ifCond .eq 15, 3) := by decide +kernel
theorem dX4_isAsTold_76 : decode cX4_isAsTold 76 = .ok (.aload_n 0, 1) := by decide +kernel
theorem dX4_isAsTold_77 : decode cX4_isAsTold 77 = .ok (.getfield 34, 3) := by decide +kernel
theorem dX4_isAsTold_80 : decode cX4_isAsTold 80 = .ok (.iload_n 2, 1) := by decide +kernel
theorem dX4_isAsTold_81 : decode cX4_isAsTold 81 = .ok (.iconst 1, 1) := by decide +kernel
theorem dX4_isAsTold_82 : decode cX4_isAsTold 82 = .ok (.iadd, 1) := by decide +kernel
theorem dX4_isAsTold_83 : decode cX4_isAsTold 83 = .ok (.iaload, 1) := by decide +kernel
theorem dX4_isAsTold_84 : decode cX4_isAsTold 84 = .ok (.iconst 1, 1) := by decide +kernel
theorem dX4_isAsTold_85 : decode cX4_isAsTold 85 = .ok (.if_icmp .le 5, 3) := by decide +kernel
theorem dX4_isAsTold_88 : decode cX4_isAsTold 88 = .ok (.iconst 0, 1) := by decide +kernel
theorem dX4_isAsTold_89 : decode cX4_isAsTold 89 = .ok (.ireturn, 1) := by decide +kernel
theorem dX4_isAsTold_90 : decode cX4_isAsTold 90 = .ok (.iinc 2 2, 3) := by decide +kernel
theorem dX4_isAsTold_93 : decode cX4_isAsTold 93 = .ok (.goto (-40), 3) := by decide +kernel
theorem dX4_isAsTold_96 : decode cX4_isAsTold 96 = .ok (.iconst 1, 1) := by decide +kernel
theorem dX4_isAsTold_97 : decode cX4_isAsTold 97 = .ok (.ireturn, 1) := by decide +kernel
theorem bX4_isAsTold_0 {G : Gt} {d bc bs : Nat} {Q : QT} {l : Ls} {z : List Value} {h : Hp} (k : (tAld 0 (tGetf 7 1 (tPush (.int 3) (tIf2 (fun x y => x < y) (fun l z h => T G d bc bs mX4_isAsTold 26 l z h Q) (fun l z h => T G d bc bs mX4_isAsTold 8 l z h Q))))) l z h) : T G d bc bs mX4_isAsTold 0 l z h Q := by
  refine R_aload_n dX4_isAsTold_0 rfl (fun l z h k => ?_) k
  refine R_getf (ci := 7) (f := 1) (C := RX8) (N := 2) (Tt := TX8) dX4_isAsTold_1 rfl i_X8 (by decide) w_177 (fun l z h k => ?_) k
  refine R_iconst dX4_isAsTold_4 (by decide) (fun l z h k => ?_) k
  exact R_icmp_lt dX4_isAsTold_5 (by decide) (fun _ _ _ k => k) (fun _ _ _ k => k) k
theorem bX4_isAsTold_8 {G : Gt} {d bc bs : Nat} {Q : QT} {l : Ls} {z : List Value} {h : Hp} (k : (tAld 0 (tGetf 7 1 (tPush (.int 17) (tIf2 (fun x y => y < x) (fun l z h => T G d bc bs mX4_isAsTold 26 l z h Q) (fun l z h => T G d bc bs mX4_isAsTold 17 l z h Q))))) l z h) : T G d bc bs mX4_isAsTold 8 l z h Q := by
  refine R_aload_n dX4_isAsTold_8 rfl (fun l z h k => ?_) k
  refine R_getf (ci := 7) (f := 1) (C := RX8) (N := 2) (Tt := TX8) dX4_isAsTold_9 rfl i_X8 (by decide) w_177 (fun l z h k => ?_) k
  refine R_bipush dX4_isAsTold_12 (by decide) (fun l z h k => ?_) k
  exact R_icmp_gt dX4_isAsTold_14 (by decide) (fun _ _ _ k => k) (fun _ _ _ k => k) k
theorem bX4_isAsTold_17 {G : Gt} {d bc bs : Nat} {Q : QT} {l : Ls} {z : List Value} {h : Hp} (k : (tAld 0 (tGetf 7 1 (tPush (.int 2) (tBn (fun x y => x - x / y * y) (tIf (fun x => x = 0) (fun l z h => T G d bc bs mX4_isAsTold 26 l z h Q) (fun l z h => T G d bc bs mX4_isAsTold 28 l z h Q)))))) l z h) : T G d bc bs mX4_isAsTold 17 l z h Q := by
  refine R_aload_n dX4_isAsTold_17 rfl (fun l z h k => ?_) k
  refine R_getf (ci := 7) (f := 1) (C := RX8) (N := 2) (Tt := TX8) dX4_isAsTold_18 rfl i_X8 (by decide) w_177 (fun l z h k => ?_) k
  refine R_iconst dX4_isAsTold_21 (by decide) (fun l z h k => ?_) k
  refine R_irem dX4_isAsTold_22 (fun l z h k => ?_) k
  exact R_if_ne dX4_isAsTold_23 (by decide) (fun _ _ _ k => k) (fun _ _ _ k => k) k
theorem bX4_isAsTold_26 {G : Gt} {d bc bs : Nat} {Q : QT} {l : Ls} {z : List Value} {h : Hp} (k : (tPush (.int 0) (tRetZ Q)) l z h) : T G d bc bs mX4_isAsTold 26 l z h Q := by
  refine R_iconst dX4_isAsTold_26 (by decide) (fun l z h k => ?_) k
  exact R_zret dX4_isAsTold_27 rfl k
theorem bX4_isAsTold_28 {G : Gt} {d bc bs : Nat} {Q : QT} {l : Ls} {z : List Value} {h : Hp} (k : (tAld 0 (tGetf 7 0 (tPush (.int 0) (tXald 0 (tPush (.int 1) (tIf2 (fun x y => x < y) (fun l z h => T G d bc bs mX4_isAsTold 49 l z h Q) (fun l z h => T G d bc bs mX4_isAsTold 38 l z h Q))))))) l z h) : T G d bc bs mX4_isAsTold 28 l z h Q := by
  refine R_aload_n dX4_isAsTold_28 rfl (fun l z h k => ?_) k
  refine R_getf (ci := 7) (f := 0) (C := RX8) (N := 2) (Tt := TX8) dX4_isAsTold_29 rfl i_X8 (by decide) w_172 (fun l z h k => ?_) k
  refine R_iconst dX4_isAsTold_32 (by decide) (fun l z h k => ?_) k
  refine R_iaload dX4_isAsTold_33 (fun l z h k => ?_) k
  refine R_iconst dX4_isAsTold_34 (by decide) (fun l z h k => ?_) k
  exact R_icmp_lt dX4_isAsTold_35 (by decide) (fun _ _ _ k => k) (fun _ _ _ k => k) k
theorem bX4_isAsTold_38 {G : Gt} {d bc bs : Nat} {Q : QT} {l : Ls} {z : List Value} {h : Hp} (k : (tAld 0 (tGetf 7 0 (tPush (.int 0) (tXald 0 (tPush (.int 12) (tIf2 (fun x y => x ≤ y) (fun l z h => T G d bc bs mX4_isAsTold 51 l z h Q) (fun l z h => T G d bc bs mX4_isAsTold 49 l z h Q))))))) l z h) : T G d bc bs mX4_isAsTold 38 l z h Q := by
  refine R_aload_n dX4_isAsTold_38 rfl (fun l z h k => ?_) k
  refine R_getf (ci := 7) (f := 0) (C := RX8) (N := 2) (Tt := TX8) dX4_isAsTold_39 rfl i_X8 (by decide) w_172 (fun l z h k => ?_) k
  refine R_iconst dX4_isAsTold_42 (by decide) (fun l z h k => ?_) k
  refine R_iaload dX4_isAsTold_43 (fun l z h k => ?_) k
  refine R_bipush dX4_isAsTold_44 (by decide) (fun l z h k => ?_) k
  exact R_icmp_le dX4_isAsTold_46 (by decide) (fun _ _ _ k => k) (fun _ _ _ k => k) k
theorem bX4_isAsTold_49 {G : Gt} {d bc bs : Nat} {Q : QT} {l : Ls} {z : List Value} {h : Hp} (k : (tPush (.int 0) (tRetZ Q)) l z h) : T G d bc bs mX4_isAsTold 49 l z h Q := by
  refine R_iconst dX4_isAsTold_49 (by decide) (fun l z h k => ?_) k
  exact R_zret dX4_isAsTold_50 rfl k
theorem bX4_isAsTold_51 {G : Gt} {d bc bs : Nat} {Q : QT} {l : Ls} {z : List Value} {h : Hp} (k : (tPush (.int 1) (tIst 2 ((fun l z h => T G d bc bs mX4_isAsTold 53 l z h Q)))) l z h) : T G d bc bs mX4_isAsTold 51 l z h Q := by
  refine R_iconst dX4_isAsTold_51 (by decide) (fun l z h k => ?_) k
  refine R_istore_n dX4_isAsTold_52 rfl (by decide) (fun l z h k => ?_) k
  exact k
theorem bX4_isAsTold_53 {G : Gt} {d bc bs : Nat} {Q : QT} {l : Ls} {z : List Value} {h : Hp} (k : (tIld 2 (tPush (.int 1) (tB (fun x y => x + y) (tAld 0 (tGetf 7 1 (tIf2 (fun x y => y ≤ x) (fun l z h => T G d bc bs mX4_isAsTold 96 l z h Q) (fun l z h => T G d bc bs mX4_isAsTold 63 l z h Q))))))) l z h) : T G d bc bs mX4_isAsTold 53 l z h Q := by
  refine R_iload_n dX4_isAsTold_53 rfl (fun l z h k => ?_) k
  refine R_iconst dX4_isAsTold_54 (by decide) (fun l z h k => ?_) k
  refine R_iadd dX4_isAsTold_55 (fun l z h k => ?_) k
  refine R_aload_n dX4_isAsTold_56 rfl (fun l z h k => ?_) k
  refine R_getf (ci := 7) (f := 1) (C := RX8) (N := 2) (Tt := TX8) dX4_isAsTold_57 rfl i_X8 (by decide) w_177 (fun l z h k => ?_) k
  exact R_icmp_ge dX4_isAsTold_60 (by decide) (fun _ _ _ k => k) (fun _ _ _ k => k) k
theorem bX4_isAsTold_63 {G : Gt} {d bc bs : Nat} {Q : QT} {l : Ls} {z : List Value} {h : Hp} (k : (tAld 1 (tAld 0 (tGetf 7 0 (tIld 2 (tXald 0 (tCV1 G d 0 0 9 mX11_isPerson (fun l z h => T G d bc bs mX4_isAsTold 73 l z h Q))))))) l z h) : T G d bc bs mX4_isAsTold 63 l z h Q := by
  refine R_aload_n dX4_isAsTold_63 rfl (fun l z h k => ?_) k
  refine R_aload_n dX4_isAsTold_64 rfl (fun l z h k => ?_) k
  refine R_getf (ci := 7) (f := 0) (C := RX8) (N := 2) (Tt := TX8) dX4_isAsTold_65 rfl i_X8 (by decide) w_172 (fun l z h k => ?_) k
  refine R_iload_n dX4_isAsTold_68 rfl (fun l z h k => ?_) k
  refine R_iaload dX4_isAsTold_69 (fun l z h k => ?_) k
  exact R_cv1 (M := mX4_isAsTold) (pc := 70) (bc := bc) (bs := bs) (cb := 0) (cs := 0) (M' := mX11_isPerson) dX4_isAsTold_70 rfl (by decide) w_810 w_136 w_1080 w_808 w_809 (by decide +kernel) (fun _ _ _ k => k) k
theorem bX4_isAsTold_73 {G : Gt} {d bc bs : Nat} {Q : QT} {l : Ls} {z : List Value} {h : Hp} (k : (tIf (fun x => x = 0) (fun l z h => T G d bc bs mX4_isAsTold 88 l z h Q) (fun l z h => T G d bc bs mX4_isAsTold 76 l z h Q)) l z h) : T G d bc bs mX4_isAsTold 73 l z h Q := by
  exact R_if_eq dX4_isAsTold_73 (by decide) (fun _ _ _ k => k) (fun _ _ _ k => k) k
theorem bX4_isAsTold_76 {G : Gt} {d bc bs : Nat} {Q : QT} {l : Ls} {z : List Value} {h : Hp} (k : (tAld 0 (tGetf 7 0 (tIld 2 (tPush (.int 1) (tB (fun x y => x + y) (tXald 0 (tPush (.int 1) (tIf2 (fun x y => x ≤ y) (fun l z h => T G d bc bs mX4_isAsTold 90 l z h Q) (fun l z h => T G d bc bs mX4_isAsTold 88 l z h Q))))))))) l z h) : T G d bc bs mX4_isAsTold 76 l z h Q := by
  refine R_aload_n dX4_isAsTold_76 rfl (fun l z h k => ?_) k
  refine R_getf (ci := 7) (f := 0) (C := RX8) (N := 2) (Tt := TX8) dX4_isAsTold_77 rfl i_X8 (by decide) w_172 (fun l z h k => ?_) k
  refine R_iload_n dX4_isAsTold_80 rfl (fun l z h k => ?_) k
  refine R_iconst dX4_isAsTold_81 (by decide) (fun l z h k => ?_) k
  refine R_iadd dX4_isAsTold_82 (fun l z h k => ?_) k
  refine R_iaload dX4_isAsTold_83 (fun l z h k => ?_) k
  refine R_iconst dX4_isAsTold_84 (by decide) (fun l z h k => ?_) k
  exact R_icmp_le dX4_isAsTold_85 (by decide) (fun _ _ _ k => k) (fun _ _ _ k => k) k
theorem bX4_isAsTold_88 {G : Gt} {d bc bs : Nat} {Q : QT} {l : Ls} {z : List Value} {h : Hp} (k : (tPush (.int 0) (tRetZ Q)) l z h) : T G d bc bs mX4_isAsTold 88 l z h Q := by
  refine R_iconst dX4_isAsTold_88 (by decide) (fun l z h k => ?_) k
  exact R_zret dX4_isAsTold_89 rfl k
theorem bX4_isAsTold_90 {G : Gt} {d bc bs : Nat} {Q : QT} {l : Ls} {z : List Value} {h : Hp} (k : (tInc 2 2 ((fun l z h => T G d bc bs mX4_isAsTold 53 l z h Q))) l z h) : T G d bc bs mX4_isAsTold 90 l z h Q := by
  refine R_iinc dX4_isAsTold_90 (by decide) (by decide) (fun l z h k => ?_) k
  exact R_goto dX4_isAsTold_93 (by decide) (fun _ _ _ k => k) k
theorem bX4_isAsTold_96 {G : Gt} {d bc bs : Nat} {Q : QT} {l : Ls} {z : List Value} {h : Hp} (k : (tPush (.int 1) (tRetZ Q)) l z h) : T G d bc bs mX4_isAsTold 96 l z h Q := by
  refine R_iconst dX4_isAsTold_96 (by decide) (fun l z h k => ?_) k
  exact R_zret dX4_isAsTold_97 rfl k
theorem dX4_enoughOf_0 : decode cX4_enoughOf 0 = .ok (.iconst 0, 1) := by decide +kernel
theorem dX4_enoughOf_1 : decode cX4_enoughOf 1 = .ok (.istore_n 3, 1) := by decide +kernel
theorem dX4_enoughOf_2 : decode cX4_enoughOf 2 = .ok (.iconst 0, 1) := by decide +kernel
theorem dX4_enoughOf_3 : decode cX4_enoughOf 3 = .ok (.istore 4, 2) := by decide +kernel
theorem dX4_enoughOf_5 : decode cX4_enoughOf 5 = .ok (.iload 4, 2) := by decide +kernel
theorem dX4_enoughOf_7 : decode cX4_enoughOf 7 = .ok (.aload_n 0, 1) := by decide +kernel
theorem dX4_enoughOf_8 : decode cX4_enoughOf 8 = .ok (.getfield 43, 3) := by decide +kernel
theorem dX4_enoughOf_11 : decode cX4_enoughOf 11 = .ok (.if_icmp .ge 27, 3) := by decide +kernel
theorem dX4_enoughOf_14 : decode cX4_enoughOf 14 = .ok (.aload_n 0, 1) := by decide +kernel
theorem dX4_enoughOf_15 : decode cX4_enoughOf 15 = .ok (.iload_n 1, 1) := by decide +kernel
theorem dX4_enoughOf_16 : decode cX4_enoughOf 16 = .ok (.iload 4, 2) := by decide +kernel
theorem dX4_enoughOf_18 : decode cX4_enoughOf 18 = .ok (.invokevirtual 65, 3) := by decide +kernel
theorem dX4_enoughOf_21 : decode cX4_enoughOf 21 = .ok (.iload_n 2, 1) := by decide +kernel
theorem dX4_enoughOf_22 : decode cX4_enoughOf 22 = .ok (.if_icmp .lt 10, 3) := by decide +kernel
theorem dX4_enoughOf_25 : decode cX4_enoughOf 25 = .ok (.iload_n 3, 1) := by decide +kernel
theorem dX4_enoughOf_26 : decode cX4_enoughOf 26 = .ok (.iconst 1, 1) := by decide +kernel
theorem dX4_enoughOf_27 : decode cX4_enoughOf 27 = .ok (.iload 4, 2) := by decide +kernel
theorem dX4_enoughOf_29 : decode cX4_enoughOf 29 = .ok (.ishl, 1) := by decide +kernel
theorem dX4_enoughOf_30 : decode cX4_enoughOf 30 = .ok (.ior, 1) := by decide +kernel
theorem dX4_enoughOf_31 : decode cX4_enoughOf 31 = .ok (.istore_n 3, 1) := by decide +kernel
theorem dX4_enoughOf_32 : decode cX4_enoughOf 32 = .ok (.iinc 4 1, 3) := by decide +kernel
theorem dX4_enoughOf_35 : decode cX4_enoughOf 35 = .ok (.goto (-30), 3) := by decide +kernel
theorem dX4_enoughOf_38 : decode cX4_enoughOf 38 = .ok (.iload_n 3, 1) := by decide +kernel
theorem dX4_enoughOf_39 : decode cX4_enoughOf 39 = .ok (.ireturn, 1) := by decide +kernel
theorem bX4_enoughOf_0 {G : Gt} {d bc bs : Nat} {Q : QT} {l : Ls} {z : List Value} {h : Hp} (k : (tPush (.int 0) (tIst 3 (tPush (.int 0) (tIst 4 ((fun l z h => T G d bc bs mX4_enoughOf 5 l z h Q)))))) l z h) : T G d bc bs mX4_enoughOf 0 l z h Q := by
  refine R_iconst dX4_enoughOf_0 (by decide) (fun l z h k => ?_) k
  refine R_istore_n dX4_enoughOf_1 rfl (by decide) (fun l z h k => ?_) k
  refine R_iconst dX4_enoughOf_2 (by decide) (fun l z h k => ?_) k
  refine R_istore dX4_enoughOf_3 (by decide) (fun l z h k => ?_) k
  exact k
theorem bX4_enoughOf_5 {G : Gt} {d bc bs : Nat} {Q : QT} {l : Ls} {z : List Value} {h : Hp} (k : (tIld 4 (tAld 0 (tGetf 9 0 (tIf2 (fun x y => y ≤ x) (fun l z h => T G d bc bs mX4_enoughOf 38 l z h Q) (fun l z h => T G d bc bs mX4_enoughOf 14 l z h Q))))) l z h) : T G d bc bs mX4_enoughOf 5 l z h Q := by
  refine R_iload dX4_enoughOf_5 (fun l z h k => ?_) k
  refine R_aload_n dX4_enoughOf_7 rfl (fun l z h k => ?_) k
  refine R_getf (ci := 9) (f := 0) (C := RX11) (N := 14) (Tt := TX11) dX4_enoughOf_8 rfl i_X11 (by decide) w_249 (fun l z h k => ?_) k
  exact R_icmp_ge dX4_enoughOf_11 (by decide) (fun _ _ _ k => k) (fun _ _ _ k => k) k
theorem bX4_enoughOf_14 {G : Gt} {d bc bs : Nat} {Q : QT} {l : Ls} {z : List Value} {h : Hp} (k : (tAld 0 (tIld 1 (tIld 4 (tCV2 G d 0 0 9 mX11_held (fun l z h => T G d bc bs mX4_enoughOf 21 l z h Q))))) l z h) : T G d bc bs mX4_enoughOf 14 l z h Q := by
  refine R_aload_n dX4_enoughOf_14 rfl (fun l z h k => ?_) k
  refine R_iload_n dX4_enoughOf_15 rfl (fun l z h k => ?_) k
  refine R_iload dX4_enoughOf_16 (fun l z h k => ?_) k
  exact R_cv2 (M := mX4_enoughOf) (pc := 18) (bc := bc) (bs := bs) (cb := 0) (cs := 0) (M' := mX11_held) dX4_enoughOf_18 rfl (by decide) w_739 w_136 w_1084 w_737 w_738 (by decide +kernel) (fun _ _ _ k => k) k
theorem bX4_enoughOf_21 {G : Gt} {d bc bs : Nat} {Q : QT} {l : Ls} {z : List Value} {h : Hp} (k : (tIld 2 (tIf2 (fun x y => x < y) (fun l z h => T G d bc bs mX4_enoughOf 32 l z h Q) (fun l z h => T G d bc bs mX4_enoughOf 25 l z h Q))) l z h) : T G d bc bs mX4_enoughOf 21 l z h Q := by
  refine R_iload_n dX4_enoughOf_21 rfl (fun l z h k => ?_) k
  exact R_icmp_lt dX4_enoughOf_22 (by decide) (fun _ _ _ k => k) (fun _ _ _ k => k) k
theorem bX4_enoughOf_25 {G : Gt} {d bc bs : Nat} {Q : QT} {l : Ls} {z : List Value} {h : Hp} (k : (tIld 3 (tPush (.int 1) (tIld 4 (tB (fun x y => x <<< (y &&& 31)) (tB (fun x y => x ||| y) (tIst 3 ((fun l z h => T G d bc bs mX4_enoughOf 32 l z h Q)))))))) l z h) : T G d bc bs mX4_enoughOf 25 l z h Q := by
  refine R_iload_n dX4_enoughOf_25 rfl (fun l z h k => ?_) k
  refine R_iconst dX4_enoughOf_26 (by decide) (fun l z h k => ?_) k
  refine R_iload dX4_enoughOf_27 (fun l z h k => ?_) k
  refine R_ishl dX4_enoughOf_29 (fun l z h k => ?_) k
  refine R_ior dX4_enoughOf_30 (fun l z h k => ?_) k
  refine R_istore_n dX4_enoughOf_31 rfl (by decide) (fun l z h k => ?_) k
  exact k
theorem bX4_enoughOf_32 {G : Gt} {d bc bs : Nat} {Q : QT} {l : Ls} {z : List Value} {h : Hp} (k : (tInc 4 1 ((fun l z h => T G d bc bs mX4_enoughOf 5 l z h Q))) l z h) : T G d bc bs mX4_enoughOf 32 l z h Q := by
  refine R_iinc dX4_enoughOf_32 (by decide) (by decide) (fun l z h k => ?_) k
  exact R_goto dX4_enoughOf_35 (by decide) (fun _ _ _ k => k) k
theorem bX4_enoughOf_38 {G : Gt} {d bc bs : Nat} {Q : QT} {l : Ls} {z : List Value} {h : Hp} (k : (tIld 3 (tRetI Q)) l z h) : T G d bc bs mX4_enoughOf 38 l z h Q := by
  refine R_iload_n dX4_enoughOf_38 rfl (fun l z h k => ?_) k
  exact R_iret dX4_enoughOf_39 rfl k
theorem dX4_agrees_0 : decode cX4_agrees 0 = .ok (.iconst 1, 1) := by decide +kernel
theorem dX4_agrees_1 : decode cX4_agrees 1 = .ok (.istore_n 3, 1) := by decide +kernel
theorem dX4_agrees_2 : decode cX4_agrees 2 = .ok (.iload_n 3, 1) := by decide +kernel
theorem dX4_agrees_3 : decode cX4_agrees 3 = .ok (.iconst 1, 1) := by decide +kernel
theorem dX4_agrees_4 : decode cX4_agrees 4 = .ok (.iadd, 1) := by decide +kernel
theorem dX4_agrees_5 : decode cX4_agrees 5 = .ok (.aload_n 2, 1) := by decide +kernel
theorem dX4_agrees_6 : decode cX4_agrees 6 = .ok (.getfield 58, 3) := by decide +kernel
theorem dX4_agrees_9 : decode cX4_agrees 9 = .ok (.if_icmp .ge 42, 3) := by decide +kernel
theorem dX4_agrees_12 : decode cX4_agrees 12 = .ok (.aload_n 0, 1) := by decide +kernel
theorem dX4_agrees_13 : decode cX4_agrees 13 = .ok (.iload_n 1, 1) := by decide +kernel
theorem dX4_agrees_14 : decode cX4_agrees 14 = .ok (.aload_n 2, 1) := by decide +kernel
theorem dX4_agrees_15 : decode cX4_agrees 15 = .ok (.getfield 34, 3) := by decide +kernel
theorem dX4_agrees_18 : decode cX4_agrees 18 = .ok (.iload_n 3, 1) := by decide +kernel
theorem dX4_agrees_19 : decode cX4_agrees 19 = .ok (.iaload, 1) := by decide +kernel
theorem dX4_agrees_20 : decode cX4_agrees 20 = .ok (.invokevirtual 68, 3) := by decide +kernel
theorem dX4_agrees_23 : decode cX4_agrees 23 = .ok (.aload_n 2, 1) := by decide +kernel
theorem dX4_agrees_24 : decode cX4_agrees 24 = .ok (.getfield 34, 3) := by decide +kernel
theorem dX4_agrees_27 : decode cX4_agrees 27 = .ok (.iload_n 3, 1) := by decide +kernel
theorem dX4_agrees_28 : decode cX4_agrees 28 = .ok (.iconst 1, 1) := by decide +kernel
theorem dX4_agrees_29 : decode cX4_agrees 29 = .ok (.iadd, 1) := by decide +kernel
theorem dX4_agrees_30 : decode cX4_agrees 30 = .ok (.iaload, 1) := by decide +kernel
theorem dX4_agrees_31 : decode cX4_agrees 31 = .ok (.iconst 1, 1) := by decide +kernel
theorem dX4_agrees_32 : decode cX4_agrees 32 = .ok (.if_icmp .ne 7, 3) := by decide +kernel
theorem dX4_agrees_35 : decode cX4_agrees 35 = .ok (.iconst 1, 1) := by decide +kernel
theorem dX4_agrees_36 : decode cX4_agrees 36 = .ok (.goto 4, 3) := by decide +kernel
theorem dX4_agrees_39 : decode cX4_agrees 39 = .ok (.iconst 0, 1) := by decide +kernel
theorem dX4_agrees_40 : decode cX4_agrees 40 = .ok (.if_icmp .eq 5, 3) := by decide +kernel
theorem dX4_agrees_43 : decode cX4_agrees 43 = .ok (.iconst 0, 1) := by decide +kernel
theorem dX4_agrees_44 : decode cX4_agrees 44 = .ok (.ireturn, 1) := by decide +kernel
theorem dX4_agrees_45 : decode cX4_agrees 45 = .ok (.iinc 3 2, 3) := by decide +kernel
theorem dX4_agrees_48 : decode cX4_agrees 48 = .ok (.goto (-46), 3) := by decide +kernel
theorem dX4_agrees_51 : decode cX4_agrees 51 = .ok (.iconst 1, 1) := by decide +kernel
theorem dX4_agrees_52 : decode cX4_agrees 52 = .ok (.ireturn, 1) := by decide +kernel
theorem bX4_agrees_0 {G : Gt} {d bc bs : Nat} {Q : QT} {l : Ls} {z : List Value} {h : Hp} (k : (tPush (.int 1) (tIst 3 ((fun l z h => T G d bc bs mX4_agrees 2 l z h Q)))) l z h) : T G d bc bs mX4_agrees 0 l z h Q := by
  refine R_iconst dX4_agrees_0 (by decide) (fun l z h k => ?_) k
  refine R_istore_n dX4_agrees_1 rfl (by decide) (fun l z h k => ?_) k
  exact k
theorem bX4_agrees_2 {G : Gt} {d bc bs : Nat} {Q : QT} {l : Ls} {z : List Value} {h : Hp} (k : (tIld 3 (tPush (.int 1) (tB (fun x y => x + y) (tAld 2 (tGetf 7 1 (tIf2 (fun x y => y ≤ x) (fun l z h => T G d bc bs mX4_agrees 51 l z h Q) (fun l z h => T G d bc bs mX4_agrees 12 l z h Q))))))) l z h) : T G d bc bs mX4_agrees 2 l z h Q := by
  refine R_iload_n dX4_agrees_2 rfl (fun l z h k => ?_) k
  refine R_iconst dX4_agrees_3 (by decide) (fun l z h k => ?_) k
  refine R_iadd dX4_agrees_4 (fun l z h k => ?_) k
  refine R_aload_n dX4_agrees_5 rfl (fun l z h k => ?_) k
  refine R_getf (ci := 7) (f := 1) (C := RX8) (N := 2) (Tt := TX8) dX4_agrees_6 rfl i_X8 (by decide) w_177 (fun l z h k => ?_) k
  exact R_icmp_ge dX4_agrees_9 (by decide) (fun _ _ _ k => k) (fun _ _ _ k => k) k
theorem bX4_agrees_12 {G : Gt} {d bc bs : Nat} {Q : QT} {l : Ls} {z : List Value} {h : Hp} (k : (tAld 0 (tIld 1 (tAld 2 (tGetf 7 0 (tIld 3 (tXald 0 (tCV2 G d 0 0 3 mX4_letsBy (fun l z h => T G d bc bs mX4_agrees 23 l z h Q)))))))) l z h) : T G d bc bs mX4_agrees 12 l z h Q := by
  refine R_aload_n dX4_agrees_12 rfl (fun l z h k => ?_) k
  refine R_iload_n dX4_agrees_13 rfl (fun l z h k => ?_) k
  refine R_aload_n dX4_agrees_14 rfl (fun l z h k => ?_) k
  refine R_getf (ci := 7) (f := 0) (C := RX8) (N := 2) (Tt := TX8) dX4_agrees_15 rfl i_X8 (by decide) w_172 (fun l z h k => ?_) k
  refine R_iload_n dX4_agrees_18 rfl (fun l z h k => ?_) k
  refine R_iaload dX4_agrees_19 (fun l z h k => ?_) k
  exact R_cv2 (M := mX4_agrees) (pc := 20) (bc := bc) (bs := bs) (cb := 0) (cs := 0) (M' := mX4_letsBy) dX4_agrees_20 rfl (by decide) w_1092 w_143 w_1089 w_1091 w_19 (by decide +kernel) (fun _ _ _ k => k) k
theorem bX4_agrees_23 {G : Gt} {d bc bs : Nat} {Q : QT} {l : Ls} {z : List Value} {h : Hp} (k : (tAld 2 (tGetf 7 0 (tIld 3 (tPush (.int 1) (tB (fun x y => x + y) (tXald 0 (tPush (.int 1) (tIf2 (fun x y => x = y) (fun l z h => T G d bc bs mX4_agrees 35 l z h Q) (fun l z h => T G d bc bs mX4_agrees 39 l z h Q))))))))) l z h) : T G d bc bs mX4_agrees 23 l z h Q := by
  refine R_aload_n dX4_agrees_23 rfl (fun l z h k => ?_) k
  refine R_getf (ci := 7) (f := 0) (C := RX8) (N := 2) (Tt := TX8) dX4_agrees_24 rfl i_X8 (by decide) w_172 (fun l z h k => ?_) k
  refine R_iload_n dX4_agrees_27 rfl (fun l z h k => ?_) k
  refine R_iconst dX4_agrees_28 (by decide) (fun l z h k => ?_) k
  refine R_iadd dX4_agrees_29 (fun l z h k => ?_) k
  refine R_iaload dX4_agrees_30 (fun l z h k => ?_) k
  refine R_iconst dX4_agrees_31 (by decide) (fun l z h k => ?_) k
  exact R_icmp_ne dX4_agrees_32 (by decide) (fun _ _ _ k => k) (fun _ _ _ k => k) k
theorem bX4_agrees_35 {G : Gt} {d bc bs : Nat} {Q : QT} {l : Ls} {z : List Value} {h : Hp} (k : (tPush (.int 1) ((fun l z h => T G d bc bs mX4_agrees 40 l z h Q))) l z h) : T G d bc bs mX4_agrees 35 l z h Q := by
  refine R_iconst dX4_agrees_35 (by decide) (fun l z h k => ?_) k
  exact R_goto dX4_agrees_36 (by decide) (fun _ _ _ k => k) k
theorem bX4_agrees_39 {G : Gt} {d bc bs : Nat} {Q : QT} {l : Ls} {z : List Value} {h : Hp} (k : (tPush (.int 0) ((fun l z h => T G d bc bs mX4_agrees 40 l z h Q))) l z h) : T G d bc bs mX4_agrees 39 l z h Q := by
  refine R_iconst dX4_agrees_39 (by decide) (fun l z h k => ?_) k
  exact k
theorem bX4_agrees_40 {G : Gt} {d bc bs : Nat} {Q : QT} {l : Ls} {z : List Value} {h : Hp} (k : (tIf2 (fun x y => x = y) (fun l z h => T G d bc bs mX4_agrees 45 l z h Q) (fun l z h => T G d bc bs mX4_agrees 43 l z h Q)) l z h) : T G d bc bs mX4_agrees 40 l z h Q := by
  exact R_icmp_eq dX4_agrees_40 (by decide) (fun _ _ _ k => k) (fun _ _ _ k => k) k
theorem bX4_agrees_43 {G : Gt} {d bc bs : Nat} {Q : QT} {l : Ls} {z : List Value} {h : Hp} (k : (tPush (.int 0) (tRetZ Q)) l z h) : T G d bc bs mX4_agrees 43 l z h Q := by
  refine R_iconst dX4_agrees_43 (by decide) (fun l z h k => ?_) k
  exact R_zret dX4_agrees_44 rfl k
theorem bX4_agrees_45 {G : Gt} {d bc bs : Nat} {Q : QT} {l : Ls} {z : List Value} {h : Hp} (k : (tInc 3 2 ((fun l z h => T G d bc bs mX4_agrees 2 l z h Q))) l z h) : T G d bc bs mX4_agrees 45 l z h Q := by
  refine R_iinc dX4_agrees_45 (by decide) (by decide) (fun l z h k => ?_) k
  exact R_goto dX4_agrees_48 (by decide) (fun _ _ _ k => k) k
theorem bX4_agrees_51 {G : Gt} {d bc bs : Nat} {Q : QT} {l : Ls} {z : List Value} {h : Hp} (k : (tPush (.int 1) (tRetZ Q)) l z h) : T G d bc bs mX4_agrees 51 l z h Q := by
  refine R_iconst dX4_agrees_51 (by decide) (fun l z h k => ?_) k
  exact R_zret dX4_agrees_52 rfl k
theorem dX4_letsBy_0 : decode cX4_letsBy 0 = .ok (.iload_n 2, 1) := by decide +kernel
theorem dX4_letsBy_1 : decode cX4_letsBy 1 = .ok (.ifCond .lt 26, 3) := by decide +kernel
theorem dX4_letsBy_4 : decode cX4_letsBy 4 = .ok (.iload_n 2, 1) := by decide +kernel
theorem dX4_letsBy_5 : decode cX4_letsBy 5 = .ok (.bipush 8, 2) := by decide +kernel
theorem dX4_letsBy_7 : decode cX4_letsBy 7 = .ok (.if_icmp .ge 20, 3) := by decide +kernel
theorem dX4_letsBy_10 : decode cX4_letsBy 10 = .ok (.iload_n 1, 1) := by decide +kernel
theorem dX4_letsBy_11 : decode cX4_letsBy 11 = .ok (.aload_n 0, 1) := by decide +kernel
theorem dX4_letsBy_12 : decode cX4_letsBy 12 = .ok (.getfield 15, 3) := by decide +kernel
theorem dX4_letsBy_15 : decode cX4_letsBy 15 = .ok (.iload_n 2, 1) := by decide +kernel
theorem dX4_letsBy_16 : decode cX4_letsBy 16 = .ok (.iaload, 1) := by decide +kernel
theorem dX4_letsBy_17 : decode cX4_letsBy 17 = .ok (.iconst (-1), 1) := by decide +kernel
theorem dX4_letsBy_18 : decode cX4_letsBy 18 = .ok (.ixor, 1) := by decide +kernel
theorem dX4_letsBy_19 : decode cX4_letsBy 19 = .ok (.iand, 1) := by decide +kernel
theorem dX4_letsBy_20 : decode cX4_letsBy 20 = .ok (.ifCond .ne 7, 3) := by decide +kernel
theorem dX4_letsBy_23 : decode cX4_letsBy 23 = .ok (.iconst 1, 1) := by decide +kernel
theorem dX4_letsBy_24 : decode cX4_letsBy 24 = .ok (.goto 4, 3) := by decide +kernel
theorem dX4_letsBy_27 : decode cX4_letsBy 27 = .ok (.iconst 0, 1) := by decide +kernel
theorem dX4_letsBy_28 : decode cX4_letsBy 28 = .ok (.ireturn, 1) := by decide +kernel
theorem bX4_letsBy_0 {G : Gt} {d bc bs : Nat} {Q : QT} {l : Ls} {z : List Value} {h : Hp} (k : (tIld 2 (tIf (fun x => x < 0) (fun l z h => T G d bc bs mX4_letsBy 27 l z h Q) (fun l z h => T G d bc bs mX4_letsBy 4 l z h Q))) l z h) : T G d bc bs mX4_letsBy 0 l z h Q := by
  refine R_iload_n dX4_letsBy_0 rfl (fun l z h k => ?_) k
  exact R_if_lt dX4_letsBy_1 (by decide) (fun _ _ _ k => k) (fun _ _ _ k => k) k
theorem bX4_letsBy_4 {G : Gt} {d bc bs : Nat} {Q : QT} {l : Ls} {z : List Value} {h : Hp} (k : (tIld 2 (tPush (.int 8) (tIf2 (fun x y => y ≤ x) (fun l z h => T G d bc bs mX4_letsBy 27 l z h Q) (fun l z h => T G d bc bs mX4_letsBy 10 l z h Q)))) l z h) : T G d bc bs mX4_letsBy 4 l z h Q := by
  refine R_iload_n dX4_letsBy_4 rfl (fun l z h k => ?_) k
  refine R_bipush dX4_letsBy_5 (by decide) (fun l z h k => ?_) k
  exact R_icmp_ge dX4_letsBy_7 (by decide) (fun _ _ _ k => k) (fun _ _ _ k => k) k
theorem bX4_letsBy_10 {G : Gt} {d bc bs : Nat} {Q : QT} {l : Ls} {z : List Value} {h : Hp} (k : (tIld 1 (tAld 0 (tGetf 3 1 (tIld 2 (tXald 0 (tPush (.int (-1)) (tB (fun x y => x ^^^ y) (tB (fun x y => x &&& y) (tIf (fun x => x = 0) (fun l z h => T G d bc bs mX4_letsBy 23 l z h Q) (fun l z h => T G d bc bs mX4_letsBy 27 l z h Q)))))))))) l z h) : T G d bc bs mX4_letsBy 10 l z h Q := by
  refine R_iload_n dX4_letsBy_10 rfl (fun l z h k => ?_) k
  refine R_aload_n dX4_letsBy_11 rfl (fun l z h k => ?_) k
  refine R_getf (ci := 3) (f := 1) (C := RX4) (N := 4) (Tt := TX4) dX4_letsBy_12 rfl i_X4 (by decide) w_471 (fun l z h k => ?_) k
  refine R_iload_n dX4_letsBy_15 rfl (fun l z h k => ?_) k
  refine R_iaload dX4_letsBy_16 (fun l z h k => ?_) k
  refine R_iconst dX4_letsBy_17 (by decide) (fun l z h k => ?_) k
  refine R_ixor dX4_letsBy_18 (fun l z h k => ?_) k
  refine R_iand dX4_letsBy_19 (fun l z h k => ?_) k
  exact R_if_ne dX4_letsBy_20 (by decide) (fun _ _ _ k => k) (fun _ _ _ k => k) k
theorem bX4_letsBy_23 {G : Gt} {d bc bs : Nat} {Q : QT} {l : Ls} {z : List Value} {h : Hp} (k : (tPush (.int 1) ((fun l z h => T G d bc bs mX4_letsBy 28 l z h Q))) l z h) : T G d bc bs mX4_letsBy 23 l z h Q := by
  refine R_iconst dX4_letsBy_23 (by decide) (fun l z h k => ?_) k
  exact R_goto dX4_letsBy_24 (by decide) (fun _ _ _ k => k) k
theorem bX4_letsBy_27 {G : Gt} {d bc bs : Nat} {Q : QT} {l : Ls} {z : List Value} {h : Hp} (k : (tPush (.int 0) ((fun l z h => T G d bc bs mX4_letsBy 28 l z h Q))) l z h) : T G d bc bs mX4_letsBy 27 l z h Q := by
  refine R_iconst dX4_letsBy_27 (by decide) (fun l z h k => ?_) k
  exact k
theorem bX4_letsBy_28 {G : Gt} {d bc bs : Nat} {Q : QT} {l : Ls} {z : List Value} {h : Hp} (k : (tRetZ Q) l z h) : T G d bc bs mX4_letsBy 28 l z h Q := by
  exact R_zret dX4_letsBy_28 rfl k
theorem dX4_smallestOf_0 : decode cX4_smallestOf 0 = .ok (.aload_n 0, 1) := by decide +kernel
theorem dX4_smallestOf_1 : decode cX4_smallestOf 1 = .ok (.getfield 11, 3) := by decide +kernel
theorem dX4_smallestOf_4 : decode cX4_smallestOf 4 = .ok (.iconst 0, 1) := by decide +kernel
theorem dX4_smallestOf_5 : decode cX4_smallestOf 5 = .ok (.iaload, 1) := by decide +kernel
theorem dX4_smallestOf_6 : decode cX4_smallestOf 6 = .ok (.istore_n 2, 1) := by decide +kernel
theorem dX4_smallestOf_7 : decode cX4_smallestOf 7 = .ok (.iconst 1, 1) := by decide +kernel
theorem dX4_smallestOf_8 : decode cX4_smallestOf 8 = .ok (.istore_n 3, 1) := by decide +kernel
theorem dX4_smallestOf_9 : decode cX4_smallestOf 9 = .ok (.iload_n 3, 1) := by decide +kernel
theorem dX4_smallestOf_10 : decode cX4_smallestOf 10 = .ok (.iload_n 1, 1) := by decide +kernel
theorem dX4_smallestOf_11 : decode cX4_smallestOf 11 = .ok (.if_icmp .ge 32, 3) := by decide +kernel
theorem dX4_smallestOf_14 : decode cX4_smallestOf 14 = .ok (.aload_n 0, 1) := by decide +kernel
theorem dX4_smallestOf_15 : decode cX4_smallestOf 15 = .ok (.getfield 11, 3) := by decide +kernel
theorem dX4_smallestOf_18 : decode cX4_smallestOf 18 = .ok (.iload_n 3, 1) := by decide +kernel
theorem dX4_smallestOf_19 : decode cX4_smallestOf 19 = .ok (.iaload, 1) := by decide +kernel
theorem dX4_smallestOf_20 : decode cX4_smallestOf 20 = .ok (.invokestatic 72, 3) := by decide +kernel
theorem dX4_smallestOf_23 : decode cX4_smallestOf 23 = .ok (.iload_n 2, 1) := by decide +kernel
theorem dX4_smallestOf_24 : decode cX4_smallestOf 24 = .ok (.invokestatic 72, 3) := by decide +kernel
theorem dX4_smallestOf_27 : decode cX4_smallestOf 27 = .ok (.if_icmp .ge 10, 3) := by decide +kernel
theorem dX4_smallestOf_30 : decode cX4_smallestOf 30 = .ok (.aload_n 0, 1) := by decide +kernel
theorem dX4_smallestOf_31 : decode cX4_smallestOf 31 = .ok (.getfield 11, 3) := by decide +kernel
theorem dX4_smallestOf_34 : decode cX4_smallestOf 34 = .ok (.iload_n 3, 1) := by decide +kernel
theorem dX4_smallestOf_35 : decode cX4_smallestOf 35 = .ok (.iaload, 1) := by decide +kernel
theorem dX4_smallestOf_36 : decode cX4_smallestOf 36 = .ok (.istore_n 2, 1) := by decide +kernel
theorem dX4_smallestOf_37 : decode cX4_smallestOf 37 = .ok (.iinc 3 1, 3) := by decide +kernel
theorem dX4_smallestOf_40 : decode cX4_smallestOf 40 = .ok (.goto (-31), 3) := by decide +kernel
theorem dX4_smallestOf_43 : decode cX4_smallestOf 43 = .ok (.iload_n 2, 1) := by decide +kernel
theorem dX4_smallestOf_44 : decode cX4_smallestOf 44 = .ok (.ireturn, 1) := by decide +kernel
theorem bX4_smallestOf_0 {G : Gt} {d bc bs : Nat} {Q : QT} {l : Ls} {z : List Value} {h : Hp} (k : (tAld 0 (tGetf 3 0 (tPush (.int 0) (tXald 0 (tIst 2 (tPush (.int 1) (tIst 3 ((fun l z h => T G d bc bs mX4_smallestOf 9 l z h Q))))))))) l z h) : T G d bc bs mX4_smallestOf 0 l z h Q := by
  refine R_aload_n dX4_smallestOf_0 rfl (fun l z h k => ?_) k
  refine R_getf (ci := 3) (f := 0) (C := RX4) (N := 4) (Tt := TX4) dX4_smallestOf_1 rfl i_X4 (by decide) w_470 (fun l z h k => ?_) k
  refine R_iconst dX4_smallestOf_4 (by decide) (fun l z h k => ?_) k
  refine R_iaload dX4_smallestOf_5 (fun l z h k => ?_) k
  refine R_istore_n dX4_smallestOf_6 rfl (by decide) (fun l z h k => ?_) k
  refine R_iconst dX4_smallestOf_7 (by decide) (fun l z h k => ?_) k
  refine R_istore_n dX4_smallestOf_8 rfl (by decide) (fun l z h k => ?_) k
  exact k
theorem bX4_smallestOf_9 {G : Gt} {d bc bs : Nat} {Q : QT} {l : Ls} {z : List Value} {h : Hp} (k : (tIld 3 (tIld 1 (tIf2 (fun x y => y ≤ x) (fun l z h => T G d bc bs mX4_smallestOf 43 l z h Q) (fun l z h => T G d bc bs mX4_smallestOf 14 l z h Q)))) l z h) : T G d bc bs mX4_smallestOf 9 l z h Q := by
  refine R_iload_n dX4_smallestOf_9 rfl (fun l z h k => ?_) k
  refine R_iload_n dX4_smallestOf_10 rfl (fun l z h k => ?_) k
  exact R_icmp_ge dX4_smallestOf_11 (by decide) (fun _ _ _ k => k) (fun _ _ _ k => k) k
theorem bX4_smallestOf_14 {G : Gt} {d bc bs : Nat} {Q : QT} {l : Ls} {z : List Value} {h : Hp} (k : (tAld 0 (tGetf 3 0 (tIld 3 (tXald 0 (tCS1 G d 0 0 mJ6_bitCount_0f7a4 (fun l z h => T G d bc bs mX4_smallestOf 23 l z h Q)))))) l z h) : T G d bc bs mX4_smallestOf 14 l z h Q := by
  refine R_aload_n dX4_smallestOf_14 rfl (fun l z h k => ?_) k
  refine R_getf (ci := 3) (f := 0) (C := RX4) (N := 4) (Tt := TX4) dX4_smallestOf_15 rfl i_X4 (by decide) w_470 (fun l z h k => ?_) k
  refine R_iload_n dX4_smallestOf_18 rfl (fun l z h k => ?_) k
  refine R_iaload dX4_smallestOf_19 (fun l z h k => ?_) k
  exact R_cs1 (M := mX4_smallestOf) (pc := 20) (bc := bc) (bs := bs) (cb := 0) (cs := 0) (M' := mJ6_bitCount_0f7a4) dX4_smallestOf_20 (by decide) w_1099 w_155 w_1097 w_1098 (by decide +kernel) (fun _ _ _ k => k) k
theorem bX4_smallestOf_23 {G : Gt} {d bc bs : Nat} {Q : QT} {l : Ls} {z : List Value} {h : Hp} (k : (tIld 2 (tCS1 G d 0 0 mJ6_bitCount_0f7a4 (fun l z h => T G d bc bs mX4_smallestOf 27 l z h Q))) l z h) : T G d bc bs mX4_smallestOf 23 l z h Q := by
  refine R_iload_n dX4_smallestOf_23 rfl (fun l z h k => ?_) k
  exact R_cs1 (M := mX4_smallestOf) (pc := 24) (bc := bc) (bs := bs) (cb := 0) (cs := 0) (M' := mJ6_bitCount_0f7a4) dX4_smallestOf_24 (by decide) w_1099 w_155 w_1097 w_1098 (by decide +kernel) (fun _ _ _ k => k) k
theorem bX4_smallestOf_27 {G : Gt} {d bc bs : Nat} {Q : QT} {l : Ls} {z : List Value} {h : Hp} (k : (tIf2 (fun x y => y ≤ x) (fun l z h => T G d bc bs mX4_smallestOf 37 l z h Q) (fun l z h => T G d bc bs mX4_smallestOf 30 l z h Q)) l z h) : T G d bc bs mX4_smallestOf 27 l z h Q := by
  exact R_icmp_ge dX4_smallestOf_27 (by decide) (fun _ _ _ k => k) (fun _ _ _ k => k) k
theorem bX4_smallestOf_30 {G : Gt} {d bc bs : Nat} {Q : QT} {l : Ls} {z : List Value} {h : Hp} (k : (tAld 0 (tGetf 3 0 (tIld 3 (tXald 0 (tIst 2 ((fun l z h => T G d bc bs mX4_smallestOf 37 l z h Q))))))) l z h) : T G d bc bs mX4_smallestOf 30 l z h Q := by
  refine R_aload_n dX4_smallestOf_30 rfl (fun l z h k => ?_) k
  refine R_getf (ci := 3) (f := 0) (C := RX4) (N := 4) (Tt := TX4) dX4_smallestOf_31 rfl i_X4 (by decide) w_470 (fun l z h k => ?_) k
  refine R_iload_n dX4_smallestOf_34 rfl (fun l z h k => ?_) k
  refine R_iaload dX4_smallestOf_35 (fun l z h k => ?_) k
  refine R_istore_n dX4_smallestOf_36 rfl (by decide) (fun l z h k => ?_) k
  exact k
theorem bX4_smallestOf_37 {G : Gt} {d bc bs : Nat} {Q : QT} {l : Ls} {z : List Value} {h : Hp} (k : (tInc 3 1 ((fun l z h => T G d bc bs mX4_smallestOf 9 l z h Q))) l z h) : T G d bc bs mX4_smallestOf 37 l z h Q := by
  refine R_iinc dX4_smallestOf_37 (by decide) (by decide) (fun l z h k => ?_) k
  exact R_goto dX4_smallestOf_40 (by decide) (fun _ _ _ k => k) k
theorem bX4_smallestOf_43 {G : Gt} {d bc bs : Nat} {Q : QT} {l : Ls} {z : List Value} {h : Hp} (k : (tIld 2 (tRetI Q)) l z h) : T G d bc bs mX4_smallestOf 43 l z h Q := by
  refine R_iload_n dX4_smallestOf_43 rfl (fun l z h k => ?_) k
  exact R_iret dX4_smallestOf_44 rfl k
theorem dX4_bestOffer_0 : decode cX4_bestOffer 0 = .ok (.iconst (-1), 1) := by decide +kernel
theorem dX4_bestOffer_1 : decode cX4_bestOffer 1 = .ok (.istore_n 3, 1) := by decide +kernel
theorem dX4_bestOffer_2 : decode cX4_bestOffer 2 = .ok (.iload_n 1, 1) := by decide +kernel
theorem dX4_bestOffer_3 : decode cX4_bestOffer 3 = .ok (.iconst 1, 1) := by decide +kernel
theorem dX4_bestOffer_4 : decode cX4_bestOffer 4 = .ok (.iadd, 1) := by decide +kernel
theorem dX4_bestOffer_5 : decode cX4_bestOffer 5 = .ok (.istore 4, 2) := by decide +kernel
theorem dX4_bestOffer_7 : decode cX4_bestOffer 7 = .ok (.iconst 0, 1) := by decide +kernel
theorem dX4_bestOffer_8 : decode cX4_bestOffer 8 = .ok (.istore 5, 2) := by decide +kernel
theorem dX4_bestOffer_10 : decode cX4_bestOffer 10 = .ok (.iload 5, 2) := by decide +kernel
theorem dX4_bestOffer_12 : decode cX4_bestOffer 12 = .ok (.iload_n 2, 1) := by decide +kernel
theorem dX4_bestOffer_13 : decode cX4_bestOffer 13 = .ok (.if_icmp .ge 71, 3) := by decide +kernel
theorem dX4_bestOffer_16 : decode cX4_bestOffer 16 = .ok (.iconst 0, 1) := by decide +kernel
theorem dX4_bestOffer_17 : decode cX4_bestOffer 17 = .ok (.istore 6, 2) := by decide +kernel
theorem dX4_bestOffer_19 : decode cX4_bestOffer 19 = .ok (.iconst 0, 1) := by decide +kernel
theorem dX4_bestOffer_20 : decode cX4_bestOffer 20 = .ok (.istore 7, 2) := by decide +kernel
theorem dX4_bestOffer_22 : decode cX4_bestOffer 22 = .ok (.iload 7, 2) := by decide +kernel
theorem dX4_bestOffer_24 : decode cX4_bestOffer 24 = .ok (.iload_n 1, 1) := by decide +kernel
theorem dX4_bestOffer_25 : decode cX4_bestOffer 25 = .ok (.if_icmp .ge 28, 3) := by decide +kernel
theorem dX4_bestOffer_28 : decode cX4_bestOffer 28 = .ok (.aload_n 0, 1) := by decide +kernel
theorem dX4_bestOffer_29 : decode cX4_bestOffer 29 = .ok (.aload_n 0, 1) := by decide +kernel
theorem dX4_bestOffer_30 : decode cX4_bestOffer 30 = .ok (.getfield 11, 3) := by decide +kernel
theorem dX4_bestOffer_33 : decode cX4_bestOffer 33 = .ok (.iload 7, 2) := by decide +kernel
theorem dX4_bestOffer_35 : decode cX4_bestOffer 35 = .ok (.iaload, 1) := by decide +kernel
theorem dX4_bestOffer_36 : decode cX4_bestOffer 36 = .ok (.iload 5, 2) := by decide +kernel
theorem dX4_bestOffer_38 : decode cX4_bestOffer 38 = .ok (.invokevirtual 68, 3) := by decide +kernel
theorem dX4_bestOffer_41 : decode cX4_bestOffer 41 = .ok (.ifCond .eq 6, 3) := by decide +kernel
theorem dX4_bestOffer_44 : decode cX4_bestOffer 44 = .ok (.iinc 6 1, 3) := by decide +kernel
theorem dX4_bestOffer_47 : decode cX4_bestOffer 47 = .ok (.iinc 7 1, 3) := by decide +kernel
theorem dX4_bestOffer_50 : decode cX4_bestOffer 50 = .ok (.goto (-28), 3) := by decide +kernel
theorem dX4_bestOffer_53 : decode cX4_bestOffer 53 = .ok (.iload 6, 2) := by decide +kernel
theorem dX4_bestOffer_55 : decode cX4_bestOffer 55 = .ok (.iload_n 1, 1) := by decide +kernel
theorem dX4_bestOffer_56 : decode cX4_bestOffer 56 = .ok (.iload 6, 2) := by decide +kernel
theorem dX4_bestOffer_58 : decode cX4_bestOffer 58 = .ok (.isub, 1) := by decide +kernel
theorem dX4_bestOffer_59 : decode cX4_bestOffer 59 = .ok (.invokestatic 77, 3) := by decide +kernel
theorem dX4_bestOffer_62 : decode cX4_bestOffer 62 = .ok (.istore 7, 2) := by decide +kernel
theorem dX4_bestOffer_64 : decode cX4_bestOffer 64 = .ok (.iload 7, 2) := by decide +kernel
theorem dX4_bestOffer_66 : decode cX4_bestOffer 66 = .ok (.iload 4, 2) := by decide +kernel
theorem dX4_bestOffer_68 : decode cX4_bestOffer 68 = .ok (.if_icmp .ge 10, 3) := by decide +kernel
theorem dX4_bestOffer_71 : decode cX4_bestOffer 71 = .ok (.iload 7, 2) := by decide +kernel
theorem dX4_bestOffer_73 : decode cX4_bestOffer 73 = .ok (.istore 4, 2) := by decide +kernel
theorem dX4_bestOffer_75 : decode cX4_bestOffer 75 = .ok (.iload 5, 2) := by decide +kernel
theorem dX4_bestOffer_77 : decode cX4_bestOffer 77 = .ok (.istore_n 3, 1) := by decide +kernel
theorem dX4_bestOffer_78 : decode cX4_bestOffer 78 = .ok (.iinc 5 1, 3) := by decide +kernel
theorem dX4_bestOffer_81 : decode cX4_bestOffer 81 = .ok (.goto (-71), 3) := by decide +kernel
theorem dX4_bestOffer_84 : decode cX4_bestOffer 84 = .ok (.iload_n 3, 1) := by decide +kernel
theorem dX4_bestOffer_85 : decode cX4_bestOffer 85 = .ok (.ireturn, 1) := by decide +kernel
theorem bX4_bestOffer_0 {G : Gt} {d bc bs : Nat} {Q : QT} {l : Ls} {z : List Value} {h : Hp} (k : (tPush (.int (-1)) (tIst 3 (tIld 1 (tPush (.int 1) (tB (fun x y => x + y) (tIst 4 (tPush (.int 0) (tIst 5 ((fun l z h => T G d bc bs mX4_bestOffer 10 l z h Q)))))))))) l z h) : T G d bc bs mX4_bestOffer 0 l z h Q := by
  refine R_iconst dX4_bestOffer_0 (by decide) (fun l z h k => ?_) k
  refine R_istore_n dX4_bestOffer_1 rfl (by decide) (fun l z h k => ?_) k
  refine R_iload_n dX4_bestOffer_2 rfl (fun l z h k => ?_) k
  refine R_iconst dX4_bestOffer_3 (by decide) (fun l z h k => ?_) k
  refine R_iadd dX4_bestOffer_4 (fun l z h k => ?_) k
  refine R_istore dX4_bestOffer_5 (by decide) (fun l z h k => ?_) k
  refine R_iconst dX4_bestOffer_7 (by decide) (fun l z h k => ?_) k
  refine R_istore dX4_bestOffer_8 (by decide) (fun l z h k => ?_) k
  exact k
theorem bX4_bestOffer_10 {G : Gt} {d bc bs : Nat} {Q : QT} {l : Ls} {z : List Value} {h : Hp} (k : (tIld 5 (tIld 2 (tIf2 (fun x y => y ≤ x) (fun l z h => T G d bc bs mX4_bestOffer 84 l z h Q) (fun l z h => T G d bc bs mX4_bestOffer 16 l z h Q)))) l z h) : T G d bc bs mX4_bestOffer 10 l z h Q := by
  refine R_iload dX4_bestOffer_10 (fun l z h k => ?_) k
  refine R_iload_n dX4_bestOffer_12 rfl (fun l z h k => ?_) k
  exact R_icmp_ge dX4_bestOffer_13 (by decide) (fun _ _ _ k => k) (fun _ _ _ k => k) k
theorem bX4_bestOffer_16 {G : Gt} {d bc bs : Nat} {Q : QT} {l : Ls} {z : List Value} {h : Hp} (k : (tPush (.int 0) (tIst 6 (tPush (.int 0) (tIst 7 ((fun l z h => T G d bc bs mX4_bestOffer 22 l z h Q)))))) l z h) : T G d bc bs mX4_bestOffer 16 l z h Q := by
  refine R_iconst dX4_bestOffer_16 (by decide) (fun l z h k => ?_) k
  refine R_istore dX4_bestOffer_17 (by decide) (fun l z h k => ?_) k
  refine R_iconst dX4_bestOffer_19 (by decide) (fun l z h k => ?_) k
  refine R_istore dX4_bestOffer_20 (by decide) (fun l z h k => ?_) k
  exact k
theorem bX4_bestOffer_22 {G : Gt} {d bc bs : Nat} {Q : QT} {l : Ls} {z : List Value} {h : Hp} (k : (tIld 7 (tIld 1 (tIf2 (fun x y => y ≤ x) (fun l z h => T G d bc bs mX4_bestOffer 53 l z h Q) (fun l z h => T G d bc bs mX4_bestOffer 28 l z h Q)))) l z h) : T G d bc bs mX4_bestOffer 22 l z h Q := by
  refine R_iload dX4_bestOffer_22 (fun l z h k => ?_) k
  refine R_iload_n dX4_bestOffer_24 rfl (fun l z h k => ?_) k
  exact R_icmp_ge dX4_bestOffer_25 (by decide) (fun _ _ _ k => k) (fun _ _ _ k => k) k
theorem bX4_bestOffer_28 {G : Gt} {d bc bs : Nat} {Q : QT} {l : Ls} {z : List Value} {h : Hp} (k : (tAld 0 (tAld 0 (tGetf 3 0 (tIld 7 (tXald 0 (tIld 5 (tCV2 G d 0 0 3 mX4_letsBy (fun l z h => T G d bc bs mX4_bestOffer 41 l z h Q)))))))) l z h) : T G d bc bs mX4_bestOffer 28 l z h Q := by
  refine R_aload_n dX4_bestOffer_28 rfl (fun l z h k => ?_) k
  refine R_aload_n dX4_bestOffer_29 rfl (fun l z h k => ?_) k
  refine R_getf (ci := 3) (f := 0) (C := RX4) (N := 4) (Tt := TX4) dX4_bestOffer_30 rfl i_X4 (by decide) w_470 (fun l z h k => ?_) k
  refine R_iload dX4_bestOffer_33 (fun l z h k => ?_) k
  refine R_iaload dX4_bestOffer_35 (fun l z h k => ?_) k
  refine R_iload dX4_bestOffer_36 (fun l z h k => ?_) k
  exact R_cv2 (M := mX4_bestOffer) (pc := 38) (bc := bc) (bs := bs) (cb := 0) (cs := 0) (M' := mX4_letsBy) dX4_bestOffer_38 rfl (by decide) w_1092 w_143 w_1089 w_1091 w_19 (by decide +kernel) (fun _ _ _ k => k) k
theorem bX4_bestOffer_41 {G : Gt} {d bc bs : Nat} {Q : QT} {l : Ls} {z : List Value} {h : Hp} (k : (tIf (fun x => x = 0) (fun l z h => T G d bc bs mX4_bestOffer 47 l z h Q) (fun l z h => T G d bc bs mX4_bestOffer 44 l z h Q)) l z h) : T G d bc bs mX4_bestOffer 41 l z h Q := by
  exact R_if_eq dX4_bestOffer_41 (by decide) (fun _ _ _ k => k) (fun _ _ _ k => k) k
theorem bX4_bestOffer_44 {G : Gt} {d bc bs : Nat} {Q : QT} {l : Ls} {z : List Value} {h : Hp} (k : (tInc 6 1 ((fun l z h => T G d bc bs mX4_bestOffer 47 l z h Q))) l z h) : T G d bc bs mX4_bestOffer 44 l z h Q := by
  refine R_iinc dX4_bestOffer_44 (by decide) (by decide) (fun l z h k => ?_) k
  exact k
theorem bX4_bestOffer_47 {G : Gt} {d bc bs : Nat} {Q : QT} {l : Ls} {z : List Value} {h : Hp} (k : (tInc 7 1 ((fun l z h => T G d bc bs mX4_bestOffer 22 l z h Q))) l z h) : T G d bc bs mX4_bestOffer 47 l z h Q := by
  refine R_iinc dX4_bestOffer_47 (by decide) (by decide) (fun l z h k => ?_) k
  exact R_goto dX4_bestOffer_50 (by decide) (fun _ _ _ k => k) k
theorem bX4_bestOffer_53 {G : Gt} {d bc bs : Nat} {Q : QT} {l : Ls} {z : List Value} {h : Hp} (hd1 : 1 ≤ d) (k : (tIld 6 (tIld 1 (tIld 6 (tB (fun x y => x - y) (tMax ((fun l z h => T G d bc bs mX4_bestOffer 62 l z h Q))))))) l z h) : T G d bc bs mX4_bestOffer 53 l z h Q := by
  refine R_iload dX4_bestOffer_53 (fun l z h k => ?_) k
  refine R_iload_n dX4_bestOffer_55 rfl (fun l z h k => ?_) k
  refine R_iload dX4_bestOffer_56 (fun l z h k => ?_) k
  refine R_isub dX4_bestOffer_58 (fun l z h k => ?_) k
  refine R_mmax dX4_bestOffer_59 hd1 w_1107 (fun l z h k => ?_) k
  exact k
theorem bX4_bestOffer_62 {G : Gt} {d bc bs : Nat} {Q : QT} {l : Ls} {z : List Value} {h : Hp} (k : (tIst 7 (tIld 7 (tIld 4 (tIf2 (fun x y => y ≤ x) (fun l z h => T G d bc bs mX4_bestOffer 78 l z h Q) (fun l z h => T G d bc bs mX4_bestOffer 71 l z h Q))))) l z h) : T G d bc bs mX4_bestOffer 62 l z h Q := by
  refine R_istore dX4_bestOffer_62 (by decide) (fun l z h k => ?_) k
  refine R_iload dX4_bestOffer_64 (fun l z h k => ?_) k
  refine R_iload dX4_bestOffer_66 (fun l z h k => ?_) k
  exact R_icmp_ge dX4_bestOffer_68 (by decide) (fun _ _ _ k => k) (fun _ _ _ k => k) k
theorem bX4_bestOffer_71 {G : Gt} {d bc bs : Nat} {Q : QT} {l : Ls} {z : List Value} {h : Hp} (k : (tIld 7 (tIst 4 (tIld 5 (tIst 3 ((fun l z h => T G d bc bs mX4_bestOffer 78 l z h Q)))))) l z h) : T G d bc bs mX4_bestOffer 71 l z h Q := by
  refine R_iload dX4_bestOffer_71 (fun l z h k => ?_) k
  refine R_istore dX4_bestOffer_73 (by decide) (fun l z h k => ?_) k
  refine R_iload dX4_bestOffer_75 (fun l z h k => ?_) k
  refine R_istore_n dX4_bestOffer_77 rfl (by decide) (fun l z h k => ?_) k
  exact k
theorem bX4_bestOffer_78 {G : Gt} {d bc bs : Nat} {Q : QT} {l : Ls} {z : List Value} {h : Hp} (k : (tInc 5 1 ((fun l z h => T G d bc bs mX4_bestOffer 10 l z h Q))) l z h) : T G d bc bs mX4_bestOffer 78 l z h Q := by
  refine R_iinc dX4_bestOffer_78 (by decide) (by decide) (fun l z h k => ?_) k
  exact R_goto dX4_bestOffer_81 (by decide) (fun _ _ _ k => k) k
theorem bX4_bestOffer_84 {G : Gt} {d bc bs : Nat} {Q : QT} {l : Ls} {z : List Value} {h : Hp} (k : (tIld 3 (tRetI Q)) l z h) : T G d bc bs mX4_bestOffer 84 l z h Q := by
  refine R_iload_n dX4_bestOffer_84 rfl (fun l z h k => ?_) k
  exact R_iret dX4_bestOffer_85 rfl k
theorem dX5_init_0 : decode cX5_init 0 = .ok (.aload_n 0, 1) := by decide +kernel
theorem dX5_init_1 : decode cX5_init 1 = .ok (.invokespecial 3, 3) := by decide +kernel
theorem dX5_init_4 : decode cX5_init 4 = .ok (.aload_n 0, 1) := by decide +kernel
theorem dX5_init_5 : decode cX5_init 5 = .ok (.new 9, 3) := by decide +kernel
theorem dX5_init_8 : decode cX5_init 8 = .ok (.dup, 1) := by decide +kernel
theorem dX5_init_9 : decode cX5_init 9 = .ok (.invokespecial 11, 3) := by decide +kernel
theorem dX5_init_12 : decode cX5_init 12 = .ok (.putfield 12, 3) := by decide +kernel
theorem dX5_init_15 : decode cX5_init 15 = .ok (.aload_n 0, 1) := by decide +kernel
theorem dX5_init_16 : decode cX5_init 16 = .ok (.iconst (-1), 1) := by decide +kernel
theorem dX5_init_17 : decode cX5_init 17 = .ok (.putfield 18, 3) := by decide +kernel
theorem dX5_init_20 : decode cX5_init 20 = .ok (.aload_n 0, 1) := by decide +kernel
theorem dX5_init_21 : decode cX5_init 21 = .ok (.iconst (-1), 1) := by decide +kernel
theorem dX5_init_22 : decode cX5_init 22 = .ok (.putfield 22, 3) := by decide +kernel
theorem dX5_init_25 : decode cX5_init 25 = .ok (.aload_n 0, 1) := by decide +kernel
theorem dX5_init_26 : decode cX5_init 26 = .ok (.bipush 8, 2) := by decide +kernel
theorem dX5_init_28 : decode cX5_init 28 = .ok (.newarray .int, 2) := by decide +kernel
theorem dX5_init_30 : decode cX5_init 30 = .ok (.putfield 25, 3) := by decide +kernel
theorem dX5_init_33 : decode cX5_init 33 = .ok (.aload_n 0, 1) := by decide +kernel
theorem dX5_init_34 : decode cX5_init 34 = .ok (.bipush 8, 2) := by decide +kernel
theorem dX5_init_36 : decode cX5_init 36 = .ok (.bipush 8, 2) := by decide +kernel
theorem dX5_init_38 : decode cX5_init 38 = .ok (.multianewarray 29 2, 4) := by decide +kernel
theorem dX5_init_42 : decode cX5_init 42 = .ok (.putfield 31, 3) := by decide +kernel
theorem dX5_init_45 : decode cX5_init 45 = .ok (.aload_n 0, 1) := by decide +kernel
theorem dX5_init_46 : decode cX5_init 46 = .ok (.bipush 8, 2) := by decide +kernel
theorem dX5_init_48 : decode cX5_init 48 = .ok (.newarray .int, 2) := by decide +kernel
theorem dX5_init_50 : decode cX5_init 50 = .ok (.putfield 34, 3) := by decide +kernel
theorem dX5_init_53 : decode cX5_init 53 = .ok (.aload_n 0, 1) := by decide +kernel
theorem dX5_init_54 : decode cX5_init 54 = .ok (.aload_n 1, 1) := by decide +kernel
theorem dX5_init_55 : decode cX5_init 55 = .ok (.putfield 37, 3) := by decide +kernel
theorem dX5_init_58 : decode cX5_init 58 = .ok (.aload_n 0, 1) := by decide +kernel
theorem dX5_init_59 : decode cX5_init 59 = .ok (.getfield 25, 3) := by decide +kernel
theorem dX5_init_62 : decode cX5_init 62 = .ok (.iconst (-1), 1) := by decide +kernel
theorem dX5_init_63 : decode cX5_init 63 = .ok (.invokestatic 41, 3) := by decide +kernel
theorem dX5_init_66 : decode cX5_init 66 = .ok (.return_, 1) := by decide +kernel
theorem bX5_init_0 {G : Gt} {d bc bs : Nat} {Q : QT} {l : Ls} {z : List Value} {h : Hp} (hd1 : 1 ≤ d) (k : (tAld 0 (tObj ((fun l z h => T G d bc bs mX5_init 4 l z h Q)))) l z h) : T G d bc bs mX5_init 0 l z h Q := by
  refine R_aload_n dX5_init_0 rfl (fun l z h k => ?_) k
  refine R_obj dX5_init_1 hd1 w_432 w_163 w_164 (fun l z h k => ?_) k
  exact k
theorem bX5_init_4 {G : Gt} {d bc bs : Nat} {Q : QT} {l : Ls} {z : List Value} {h : Hp} (k : (tAld 0 (tNew 9 [.int 0, .int 0, .int 0, .null, .null, .null, .null, .null, .null, .null, .null, .null, .null, .null] (tDup (tCI0 G d 11 126 mX11_init (fun l z h => T G d bc bs mX5_init 12 l z h Q))))) l z h) : T G d (bc + 11 + 1) (bs + 126 + 14) mX5_init 4 l z h Q := by
  refine R_aload_n dX5_init_4 rfl (fun l z h k => ?_) k
  refine R_new (ci := 9) (C := RX11) (N := 14) (Tt := TX11) (fs := [.int 0, .int 0, .int 0, .null, .null, .null, .null, .null, .null, .null, .null, .null, .null, .null]) tyX11 tyX11_ok dX5_init_5 rfl i_X11 w_433 w_243 w_136 rfl (fun j hj => by rcases (show j = 0 ∨ j = 1 ∨ j = 2 ∨ j = 3 ∨ j = 4 ∨ j = 5 ∨ j = 6 ∨ j = 7 ∨ j = 8 ∨ j = 9 ∨ j = 10 ∨ j = 11 ∨ j = 12 ∨ j = 13 by omega) with rfl | rfl | rfl | rfl | rfl | rfl | rfl | rfl | rfl | rfl | rfl | rfl | rfl | rfl <;> rfl) (fun l z h k => ?_) k
  refine R_dup dX5_init_8 (fun l z h k => ?_) k
  exact R_ciN0 (M := mX5_init) (pc := 9) (bc := bc) (bs := bs) (cb := 11) (cs := 126) (M' := mX11_init) dX5_init_9 (by decide) rfl w_246 w_136 n_434 w_245 rfl (by decide +kernel) (fun _ _ _ k => k) k
theorem bX5_init_66 {G : Gt} {d bc bs : Nat} {Q : QT} {l : Ls} {z : List Value} {h : Hp} (k : (tRetV Q) l z h) : T G d bc bs mX5_init 66 l z h Q := by
  exact R_vret dX5_init_66 rfl k
theorem dX5_daysTillPaying_0 : decode cX5_daysTillPaying 0 = .ok (.aload_n 0, 1) := by decide +kernel
theorem dX5_daysTillPaying_1 : decode cX5_daysTillPaying 1 = .ok (.getfield 12, 3) := by decide +kernel
theorem dX5_daysTillPaying_4 : decode cX5_daysTillPaying 4 = .ok (.aload_n 1, 1) := by decide +kernel
theorem dX5_daysTillPaying_5 : decode cX5_daysTillPaying 5 = .ok (.invokevirtual 47, 3) := by decide +kernel
theorem dX5_daysTillPaying_8 : decode cX5_daysTillPaying 8 = .ok (.iload 5, 2) := by decide +kernel
theorem dX5_daysTillPaying_10 : decode cX5_daysTillPaying 10 = .ok (.aload_n 1, 1) := by decide +kernel
theorem dX5_daysTillPaying_11 : decode cX5_daysTillPaying 11 = .ok (.invokevirtual 51, 3) := by decide +kernel
theorem dX5_daysTillPaying_14 : decode cX5_daysTillPaying 14 = .ok (.invokestatic 55, 3) := by decide +kernel
theorem dX5_daysTillPaying_17 : decode cX5_daysTillPaying 17 = .ok (.istore 6, 2) := by decide +kernel
theorem dX5_daysTillPaying_19 : decode cX5_daysTillPaying 19 = .ok (.iconst 0, 1) := by decide +kernel
theorem dX5_daysTillPaying_20 : decode cX5_daysTillPaying 20 = .ok (.istore 7, 2) := by decide +kernel
theorem dX5_daysTillPaying_22 : decode cX5_daysTillPaying 22 = .ok (.iload 7, 2) := by decide +kernel
theorem dX5_daysTillPaying_24 : decode cX5_daysTillPaying 24 = .ok (.iload 6, 2) := by decide +kernel
theorem dX5_daysTillPaying_26 : decode cX5_daysTillPaying 26 = .ok (.if_icmp .gt 79, 3) := by decide +kernel
theorem dX5_daysTillPaying_29 : decode cX5_daysTillPaying 29 = .ok (.aload_n 0, 1) := by decide +kernel
theorem dX5_daysTillPaying_30 : decode cX5_daysTillPaying 30 = .ok (.getfield 12, 3) := by decide +kernel
theorem dX5_daysTillPaying_33 : decode cX5_daysTillPaying 33 = .ok (.iload_n 2, 1) := by decide +kernel
theorem dX5_daysTillPaying_34 : decode cX5_daysTillPaying 34 = .ok (.iload 4, 2) := by decide +kernel
theorem dX5_daysTillPaying_36 : decode cX5_daysTillPaying 36 = .ok (.invokevirtual 61, 3) := by decide +kernel
theorem dX5_daysTillPaying_39 : decode cX5_daysTillPaying 39 = .ok (.ifCond .eq 6, 3) := by decide +kernel
theorem dX5_daysTillPaying_42 : decode cX5_daysTillPaying 42 = .ok (.iload 7, 2) := by decide +kernel
theorem dX5_daysTillPaying_44 : decode cX5_daysTillPaying 44 = .ok (.ireturn, 1) := by decide +kernel
theorem dX5_daysTillPaying_45 : decode cX5_daysTillPaying 45 = .ok (.aload_n 0, 1) := by decide +kernel
theorem dX5_daysTillPaying_46 : decode cX5_daysTillPaying 46 = .ok (.getfield 12, 3) := by decide +kernel
theorem dX5_daysTillPaying_49 : decode cX5_daysTillPaying 49 = .ok (.iload_n 2, 1) := by decide +kernel
theorem dX5_daysTillPaying_50 : decode cX5_daysTillPaying 50 = .ok (.invokevirtual 65, 3) := by decide +kernel
theorem dX5_daysTillPaying_53 : decode cX5_daysTillPaying 53 = .ok (.aload_n 0, 1) := by decide +kernel
theorem dX5_daysTillPaying_54 : decode cX5_daysTillPaying 54 = .ok (.getfield 12, 3) := by decide +kernel
theorem dX5_daysTillPaying_57 : decode cX5_daysTillPaying 57 = .ok (.iload_n 3, 1) := by decide +kernel
theorem dX5_daysTillPaying_58 : decode cX5_daysTillPaying 58 = .ok (.invokevirtual 69, 3) := by decide +kernel
theorem dX5_daysTillPaying_61 : decode cX5_daysTillPaying 61 = .ok (.ifCond .eq 11, 3) := by decide +kernel
theorem dX5_daysTillPaying_64 : decode cX5_daysTillPaying 64 = .ok (.aload_n 0, 1) := by decide +kernel
theorem dX5_daysTillPaying_65 : decode cX5_daysTillPaying 65 = .ok (.getfield 12, 3) := by decide +kernel
theorem dX5_daysTillPaying_68 : decode cX5_daysTillPaying 68 = .ok (.iload_n 3, 1) := by decide +kernel
theorem dX5_daysTillPaying_69 : decode cX5_daysTillPaying 69 = .ok (.invokevirtual 65, 3) := by decide +kernel
theorem dX5_daysTillPaying_72 : decode cX5_daysTillPaying 72 = .ok (.aload_n 0, 1) := by decide +kernel
theorem dX5_daysTillPaying_73 : decode cX5_daysTillPaying 73 = .ok (.getfield 12, 3) := by decide +kernel
theorem dX5_daysTillPaying_76 : decode cX5_daysTillPaying 76 = .ok (.iload_n 2, 1) := by decide +kernel
theorem dX5_daysTillPaying_77 : decode cX5_daysTillPaying 77 = .ok (.iload_n 3, 1) := by decide +kernel
theorem dX5_daysTillPaying_78 : decode cX5_daysTillPaying 78 = .ok (.invokevirtual 73, 3) := by decide +kernel
theorem dX5_daysTillPaying_81 : decode cX5_daysTillPaying 81 = .ok (.ifCond .ne 18, 3) := by decide +kernel
theorem dX5_daysTillPaying_84 : decode cX5_daysTillPaying 84 = .ok (.aload_n 0, 1) := by decide +kernel
theorem dX5_daysTillPaying_85 : decode cX5_daysTillPaying 85 = .ok (.getfield 12, 3) := by decide +kernel
theorem dX5_daysTillPaying_88 : decode cX5_daysTillPaying 88 = .ok (.getfield 76, 3) := by decide +kernel
theorem dX5_daysTillPaying_91 : decode cX5_daysTillPaying 91 = .ok (.iload_n 2, 1) := by decide +kernel
theorem dX5_daysTillPaying_92 : decode cX5_daysTillPaying 92 = .ok (.iaload, 1) := by decide +kernel
theorem dX5_daysTillPaying_93 : decode cX5_daysTillPaying 93 = .ok (.iconst 1, 1) := by decide +kernel
theorem dX5_daysTillPaying_94 : decode cX5_daysTillPaying 94 = .ok (.if_icmp .ne 5, 3) := by decide +kernel
theorem dX5_daysTillPaying_97 : decode cX5_daysTillPaying 97 = .ok (.iconst (-1), 1) := by decide +kernel
theorem dX5_daysTillPaying_98 : decode cX5_daysTillPaying 98 = .ok (.ireturn, 1) := by decide +kernel
theorem dX5_daysTillPaying_99 : decode cX5_daysTillPaying 99 = .ok (.iinc 7 1, 3) := by decide +kernel
theorem dX5_daysTillPaying_102 : decode cX5_daysTillPaying 102 = .ok (.goto (-80), 3) := by decide +kernel
theorem dX5_daysTillPaying_105 : decode cX5_daysTillPaying 105 = .ok (.iconst (-1), 1) := by decide +kernel
theorem dX5_daysTillPaying_106 : decode cX5_daysTillPaying 106 = .ok (.ireturn, 1) := by decide +kernel
theorem bX5_daysTillPaying_0 {G : Gt} {d bc bs : Nat} {Q : QT} {l : Ls} {z : List Value} {h : Hp} (k : (tAld 0 (tGetf 4 1 (tAld 1 (tCV1 G d 0 0 9 mX11_copyFrom (fun l z h => T G d bc bs mX5_daysTillPaying 8 l z h Q))))) l z h) : T G d bc bs mX5_daysTillPaying 0 l z h Q := by
  refine R_aload_n dX5_daysTillPaying_0 rfl (fun l z h k => ?_) k
  refine R_getf (ci := 4) (f := 1) (C := RX5) (N := 8) (Tt := TX5) dX5_daysTillPaying_1 rfl i_X5 (by decide) w_438 (fun l z h k => ?_) k
  refine R_aload_n dX5_daysTillPaying_4 rfl (fun l z h k => ?_) k
  exact R_cv1 (M := mX5_daysTillPaying) (pc := 5) (bc := bc) (bs := bs) (cb := 0) (cs := 0) (M' := mX11_copyFrom) dX5_daysTillPaying_5 rfl (by decide) w_787 w_136 w_1022 w_785 w_786 (by decide +kernel) (fun _ _ _ k => k) k
theorem bX5_daysTillPaying_8 {G : Gt} {d bc bs : Nat} {Q : QT} {l : Ls} {z : List Value} {h : Hp} (k : (tIld 5 (tAld 1 (tCV0 G d 0 0 9 mX11_daysLeft (fun l z h => T G d bc bs mX5_daysTillPaying 14 l z h Q)))) l z h) : T G d bc bs mX5_daysTillPaying 8 l z h Q := by
  refine R_iload dX5_daysTillPaying_8 (fun l z h k => ?_) k
  refine R_aload_n dX5_daysTillPaying_10 rfl (fun l z h k => ?_) k
  exact R_cv0 (M := mX5_daysTillPaying) (pc := 11) (bc := bc) (bs := bs) (cb := 0) (cs := 0) (M' := mX11_daysLeft) dX5_daysTillPaying_11 rfl (by decide) w_946 w_136 w_1023 w_944 w_945 (by decide +kernel) (fun _ _ _ k => k) k
theorem bX5_daysTillPaying_14 {G : Gt} {d bc bs : Nat} {Q : QT} {l : Ls} {z : List Value} {h : Hp} (hd1 : 1 ≤ d) (k : (tMin ((fun l z h => T G d bc bs mX5_daysTillPaying 17 l z h Q))) l z h) : T G d bc bs mX5_daysTillPaying 14 l z h Q := by
  refine R_mmin dX5_daysTillPaying_14 hd1 w_1024 (fun l z h k => ?_) k
  exact k
theorem bX5_daysTillPaying_17 {G : Gt} {d bc bs : Nat} {Q : QT} {l : Ls} {z : List Value} {h : Hp} (k : (tIst 6 (tPush (.int 0) (tIst 7 ((fun l z h => T G d bc bs mX5_daysTillPaying 22 l z h Q))))) l z h) : T G d bc bs mX5_daysTillPaying 17 l z h Q := by
  refine R_istore dX5_daysTillPaying_17 (by decide) (fun l z h k => ?_) k
  refine R_iconst dX5_daysTillPaying_19 (by decide) (fun l z h k => ?_) k
  refine R_istore dX5_daysTillPaying_20 (by decide) (fun l z h k => ?_) k
  exact k
theorem bX5_daysTillPaying_22 {G : Gt} {d bc bs : Nat} {Q : QT} {l : Ls} {z : List Value} {h : Hp} (k : (tIld 7 (tIld 6 (tIf2 (fun x y => y < x) (fun l z h => T G d bc bs mX5_daysTillPaying 105 l z h Q) (fun l z h => T G d bc bs mX5_daysTillPaying 29 l z h Q)))) l z h) : T G d bc bs mX5_daysTillPaying 22 l z h Q := by
  refine R_iload dX5_daysTillPaying_22 (fun l z h k => ?_) k
  refine R_iload dX5_daysTillPaying_24 (fun l z h k => ?_) k
  exact R_icmp_gt dX5_daysTillPaying_26 (by decide) (fun _ _ _ k => k) (fun _ _ _ k => k) k
theorem bX5_daysTillPaying_29 {G : Gt} {d bc bs : Nat} {Q : QT} {l : Ls} {z : List Value} {h : Hp} (k : (tAld 0 (tGetf 4 1 (tIld 2 (tIld 4 (tCV2 G d 0 0 9 mX11_couldPay (fun l z h => T G d bc bs mX5_daysTillPaying 39 l z h Q)))))) l z h) : T G d bc bs mX5_daysTillPaying 29 l z h Q := by
  refine R_aload_n dX5_daysTillPaying_29 rfl (fun l z h k => ?_) k
  refine R_getf (ci := 4) (f := 1) (C := RX5) (N := 8) (Tt := TX5) dX5_daysTillPaying_30 rfl i_X5 (by decide) w_438 (fun l z h k => ?_) k
  refine R_iload_n dX5_daysTillPaying_33 rfl (fun l z h k => ?_) k
  refine R_iload dX5_daysTillPaying_34 (fun l z h k => ?_) k
  exact R_cv2 (M := mX5_daysTillPaying) (pc := 36) (bc := bc) (bs := bs) (cb := 0) (cs := 0) (M' := mX11_couldPay) dX5_daysTillPaying_36 rfl (by decide) w_848 w_136 w_1025 w_846 w_847 (by decide +kernel) (fun _ _ _ k => k) k
theorem bX5_daysTillPaying_39 {G : Gt} {d bc bs : Nat} {Q : QT} {l : Ls} {z : List Value} {h : Hp} (k : (tIf (fun x => x = 0) (fun l z h => T G d bc bs mX5_daysTillPaying 45 l z h Q) (fun l z h => T G d bc bs mX5_daysTillPaying 42 l z h Q)) l z h) : T G d bc bs mX5_daysTillPaying 39 l z h Q := by
  exact R_if_eq dX5_daysTillPaying_39 (by decide) (fun _ _ _ k => k) (fun _ _ _ k => k) k
theorem bX5_daysTillPaying_42 {G : Gt} {d bc bs : Nat} {Q : QT} {l : Ls} {z : List Value} {h : Hp} (k : (tIld 7 (tRetI Q)) l z h) : T G d bc bs mX5_daysTillPaying 42 l z h Q := by
  refine R_iload dX5_daysTillPaying_42 (fun l z h k => ?_) k
  exact R_iret dX5_daysTillPaying_44 rfl k
theorem bX5_daysTillPaying_45 {G : Gt} {d bc bs : Nat} {Q : QT} {l : Ls} {z : List Value} {h : Hp} (k : (tAld 0 (tGetf 4 1 (tIld 2 (tCV1 G d 0 0 9 mX11_learnByLiving (fun l z h => T G d bc bs mX5_daysTillPaying 53 l z h Q))))) l z h) : T G d bc bs mX5_daysTillPaying 45 l z h Q := by
  refine R_aload_n dX5_daysTillPaying_45 rfl (fun l z h k => ?_) k
  refine R_getf (ci := 4) (f := 1) (C := RX5) (N := 8) (Tt := TX5) dX5_daysTillPaying_46 rfl i_X5 (by decide) w_438 (fun l z h k => ?_) k
  refine R_iload_n dX5_daysTillPaying_49 rfl (fun l z h k => ?_) k
  exact R_cv1 (M := mX5_daysTillPaying) (pc := 50) (bc := bc) (bs := bs) (cb := 0) (cs := 0) (M' := mX11_learnByLiving) dX5_daysTillPaying_50 rfl (by decide) w_955 w_136 w_1026 w_953 w_954 (by decide +kernel) (fun _ _ _ k => k) k
theorem bX5_daysTillPaying_53 {G : Gt} {d bc bs : Nat} {Q : QT} {l : Ls} {z : List Value} {h : Hp} (k : (tAld 0 (tGetf 4 1 (tIld 3 (tCV1 G d 0 0 9 mX11_isPerson (fun l z h => T G d bc bs mX5_daysTillPaying 61 l z h Q))))) l z h) : T G d bc bs mX5_daysTillPaying 53 l z h Q := by
  refine R_aload_n dX5_daysTillPaying_53 rfl (fun l z h k => ?_) k
  refine R_getf (ci := 4) (f := 1) (C := RX5) (N := 8) (Tt := TX5) dX5_daysTillPaying_54 rfl i_X5 (by decide) w_438 (fun l z h k => ?_) k
  refine R_iload_n dX5_daysTillPaying_57 rfl (fun l z h k => ?_) k
  exact R_cv1 (M := mX5_daysTillPaying) (pc := 58) (bc := bc) (bs := bs) (cb := 0) (cs := 0) (M' := mX11_isPerson) dX5_daysTillPaying_58 rfl (by decide) w_810 w_136 w_1027 w_808 w_809 (by decide +kernel) (fun _ _ _ k => k) k
theorem bX5_daysTillPaying_61 {G : Gt} {d bc bs : Nat} {Q : QT} {l : Ls} {z : List Value} {h : Hp} (k : (tIf (fun x => x = 0) (fun l z h => T G d bc bs mX5_daysTillPaying 72 l z h Q) (fun l z h => T G d bc bs mX5_daysTillPaying 64 l z h Q)) l z h) : T G d bc bs mX5_daysTillPaying 61 l z h Q := by
  exact R_if_eq dX5_daysTillPaying_61 (by decide) (fun _ _ _ k => k) (fun _ _ _ k => k) k
theorem bX5_daysTillPaying_64 {G : Gt} {d bc bs : Nat} {Q : QT} {l : Ls} {z : List Value} {h : Hp} (k : (tAld 0 (tGetf 4 1 (tIld 3 (tCV1 G d 0 0 9 mX11_learnByLiving (fun l z h => T G d bc bs mX5_daysTillPaying 72 l z h Q))))) l z h) : T G d bc bs mX5_daysTillPaying 64 l z h Q := by
  refine R_aload_n dX5_daysTillPaying_64 rfl (fun l z h k => ?_) k
  refine R_getf (ci := 4) (f := 1) (C := RX5) (N := 8) (Tt := TX5) dX5_daysTillPaying_65 rfl i_X5 (by decide) w_438 (fun l z h k => ?_) k
  refine R_iload_n dX5_daysTillPaying_68 rfl (fun l z h k => ?_) k
  exact R_cv1 (M := mX5_daysTillPaying) (pc := 69) (bc := bc) (bs := bs) (cb := 0) (cs := 0) (M' := mX11_learnByLiving) dX5_daysTillPaying_69 rfl (by decide) w_955 w_136 w_1026 w_953 w_954 (by decide +kernel) (fun _ _ _ k => k) k
theorem bX5_daysTillPaying_72 {G : Gt} {d bc bs : Nat} {Q : QT} {l : Ls} {z : List Value} {h : Hp} (k : (tAld 0 (tGetf 4 1 (tIld 2 (tIld 3 (tCV2 G d 0 0 9 mX11_learnByMeeting (fun l z h => T G d bc bs mX5_daysTillPaying 81 l z h Q)))))) l z h) : T G d bc bs mX5_daysTillPaying 72 l z h Q := by
  refine R_aload_n dX5_daysTillPaying_72 rfl (fun l z h k => ?_) k
  refine R_getf (ci := 4) (f := 1) (C := RX5) (N := 8) (Tt := TX5) dX5_daysTillPaying_73 rfl i_X5 (by decide) w_438 (fun l z h k => ?_) k
  refine R_iload_n dX5_daysTillPaying_76 rfl (fun l z h k => ?_) k
  refine R_iload_n dX5_daysTillPaying_77 rfl (fun l z h k => ?_) k
  exact R_cv2 (M := mX5_daysTillPaying) (pc := 78) (bc := bc) (bs := bs) (cb := 0) (cs := 0) (M' := mX11_learnByMeeting) dX5_daysTillPaying_78 rfl (by decide) w_959 w_136 w_1028 w_957 w_958 (by decide +kernel) (fun _ _ _ k => k) k
theorem bX5_daysTillPaying_81 {G : Gt} {d bc bs : Nat} {Q : QT} {l : Ls} {z : List Value} {h : Hp} (k : (tIf (fun x => x = 0) (fun l z h => T G d bc bs mX5_daysTillPaying 84 l z h Q) (fun l z h => T G d bc bs mX5_daysTillPaying 99 l z h Q)) l z h) : T G d bc bs mX5_daysTillPaying 81 l z h Q := by
  exact R_if_ne dX5_daysTillPaying_81 (by decide) (fun _ _ _ k => k) (fun _ _ _ k => k) k
theorem bX5_daysTillPaying_84 {G : Gt} {d bc bs : Nat} {Q : QT} {l : Ls} {z : List Value} {h : Hp} (k : (tAld 0 (tGetf 4 1 (tGetf 9 8 (tIld 2 (tXald 0 (tPush (.int 1) (tIf2 (fun x y => x = y) (fun l z h => T G d bc bs mX5_daysTillPaying 97 l z h Q) (fun l z h => T G d bc bs mX5_daysTillPaying 99 l z h Q)))))))) l z h) : T G d bc bs mX5_daysTillPaying 84 l z h Q := by
  refine R_aload_n dX5_daysTillPaying_84 rfl (fun l z h k => ?_) k
  refine R_getf (ci := 4) (f := 1) (C := RX5) (N := 8) (Tt := TX5) dX5_daysTillPaying_85 rfl i_X5 (by decide) w_438 (fun l z h k => ?_) k
  refine R_getf (ci := 9) (f := 8) (C := RX11) (N := 14) (Tt := TX11) dX5_daysTillPaying_88 rfl i_X11 (by decide) w_276 (fun l z h k => ?_) k
  refine R_iload_n dX5_daysTillPaying_91 rfl (fun l z h k => ?_) k
  refine R_iaload dX5_daysTillPaying_92 (fun l z h k => ?_) k
  refine R_iconst dX5_daysTillPaying_93 (by decide) (fun l z h k => ?_) k
  exact R_icmp_ne dX5_daysTillPaying_94 (by decide) (fun _ _ _ k => k) (fun _ _ _ k => k) k
theorem bX5_daysTillPaying_97 {G : Gt} {d bc bs : Nat} {Q : QT} {l : Ls} {z : List Value} {h : Hp} (k : (tPush (.int (-1)) (tRetI Q)) l z h) : T G d bc bs mX5_daysTillPaying 97 l z h Q := by
  refine R_iconst dX5_daysTillPaying_97 (by decide) (fun l z h k => ?_) k
  exact R_iret dX5_daysTillPaying_98 rfl k
theorem bX5_daysTillPaying_99 {G : Gt} {d bc bs : Nat} {Q : QT} {l : Ls} {z : List Value} {h : Hp} (k : (tInc 7 1 ((fun l z h => T G d bc bs mX5_daysTillPaying 22 l z h Q))) l z h) : T G d bc bs mX5_daysTillPaying 99 l z h Q := by
  refine R_iinc dX5_daysTillPaying_99 (by decide) (by decide) (fun l z h k => ?_) k
  exact R_goto dX5_daysTillPaying_102 (by decide) (fun _ _ _ k => k) k
theorem bX5_daysTillPaying_105 {G : Gt} {d bc bs : Nat} {Q : QT} {l : Ls} {z : List Value} {h : Hp} (k : (tPush (.int (-1)) (tRetI Q)) l z h) : T G d bc bs mX5_daysTillPaying 105 l z h Q := by
  refine R_iconst dX5_daysTillPaying_105 (by decide) (fun l z h k => ?_) k
  exact R_iret dX5_daysTillPaying_106 rfl k
theorem dX5_findTeacher_0 : decode cX5_findTeacher 0 = .ok (.iconst (-1), 1) := by decide +kernel
theorem dX5_findTeacher_1 : decode cX5_findTeacher 1 = .ok (.istore_n 3, 1) := by decide +kernel
theorem dX5_findTeacher_2 : decode cX5_findTeacher 2 = .ok (.aload_n 0, 1) := by decide +kernel
theorem dX5_findTeacher_3 : decode cX5_findTeacher 3 = .ok (.aload_n 1, 1) := by decide +kernel
theorem dX5_findTeacher_4 : decode cX5_findTeacher 4 = .ok (.iload_n 2, 1) := by decide +kernel
theorem dX5_findTeacher_5 : decode cX5_findTeacher 5 = .ok (.iconst (-1), 1) := by decide +kernel
theorem dX5_findTeacher_6 : decode cX5_findTeacher 6 = .ok (.aload_n 1, 1) := by decide +kernel
theorem dX5_findTeacher_7 : decode cX5_findTeacher 7 = .ok (.getfield 79, 3) := by decide +kernel
theorem dX5_findTeacher_10 : decode cX5_findTeacher 10 = .ok (.iload_n 2, 1) := by decide +kernel
theorem dX5_findTeacher_11 : decode cX5_findTeacher 11 = .ok (.iaload, 1) := by decide +kernel
theorem dX5_findTeacher_12 : decode cX5_findTeacher 12 = .ok (.bipush 100, 2) := by decide +kernel
theorem dX5_findTeacher_14 : decode cX5_findTeacher 14 = .ok (.invokevirtual 82, 3) := by decide +kernel
theorem dX5_findTeacher_17 : decode cX5_findTeacher 17 = .ok (.istore 4, 2) := by decide +kernel
theorem dX5_findTeacher_19 : decode cX5_findTeacher 19 = .ok (.iconst 0, 1) := by decide +kernel
theorem dX5_findTeacher_20 : decode cX5_findTeacher 20 = .ok (.istore 5, 2) := by decide +kernel
theorem dX5_findTeacher_22 : decode cX5_findTeacher 22 = .ok (.iload 5, 2) := by decide +kernel
theorem dX5_findTeacher_24 : decode cX5_findTeacher 24 = .ok (.aload_n 1, 1) := by decide +kernel
theorem dX5_findTeacher_25 : decode cX5_findTeacher 25 = .ok (.getfield 86, 3) := by decide +kernel
theorem dX5_findTeacher_28 : decode cX5_findTeacher 28 = .ok (.if_icmp .ge 59, 3) := by decide +kernel
theorem dX5_findTeacher_31 : decode cX5_findTeacher 31 = .ok (.iload 5, 2) := by decide +kernel
theorem dX5_findTeacher_33 : decode cX5_findTeacher 33 = .ok (.iload_n 2, 1) := by decide +kernel
theorem dX5_findTeacher_34 : decode cX5_findTeacher 34 = .ok (.if_icmp .eq 47, 3) := by decide +kernel
theorem dX5_findTeacher_37 : decode cX5_findTeacher 37 = .ok (.aload_n 0, 1) := by decide +kernel
theorem dX5_findTeacher_38 : decode cX5_findTeacher 38 = .ok (.aload_n 1, 1) := by decide +kernel
theorem dX5_findTeacher_39 : decode cX5_findTeacher 39 = .ok (.iload_n 2, 1) := by decide +kernel
theorem dX5_findTeacher_40 : decode cX5_findTeacher 40 = .ok (.iload 5, 2) := by decide +kernel
theorem dX5_findTeacher_42 : decode cX5_findTeacher 42 = .ok (.aload_n 1, 1) := by decide +kernel
theorem dX5_findTeacher_43 : decode cX5_findTeacher 43 = .ok (.getfield 79, 3) := by decide +kernel
theorem dX5_findTeacher_46 : decode cX5_findTeacher 46 = .ok (.iload_n 2, 1) := by decide +kernel
theorem dX5_findTeacher_47 : decode cX5_findTeacher 47 = .ok (.iaload, 1) := by decide +kernel
theorem dX5_findTeacher_48 : decode cX5_findTeacher 48 = .ok (.bipush 100, 2) := by decide +kernel
theorem dX5_findTeacher_50 : decode cX5_findTeacher 50 = .ok (.invokevirtual 82, 3) := by decide +kernel
theorem dX5_findTeacher_53 : decode cX5_findTeacher 53 = .ok (.istore 6, 2) := by decide +kernel
theorem dX5_findTeacher_55 : decode cX5_findTeacher 55 = .ok (.iload 6, 2) := by decide +kernel
theorem dX5_findTeacher_57 : decode cX5_findTeacher 57 = .ok (.iconst (-1), 1) := by decide +kernel
theorem dX5_findTeacher_58 : decode cX5_findTeacher 58 = .ok (.if_icmp .eq 23, 3) := by decide +kernel
theorem dX5_findTeacher_61 : decode cX5_findTeacher 61 = .ok (.iload 4, 2) := by decide +kernel
theorem dX5_findTeacher_63 : decode cX5_findTeacher 63 = .ok (.iconst (-1), 1) := by decide +kernel
theorem dX5_findTeacher_64 : decode cX5_findTeacher 64 = .ok (.if_icmp .eq 10, 3) := by decide +kernel
theorem dX5_findTeacher_67 : decode cX5_findTeacher 67 = .ok (.iload 6, 2) := by decide +kernel
theorem dX5_findTeacher_69 : decode cX5_findTeacher 69 = .ok (.iload 4, 2) := by decide +kernel
theorem dX5_findTeacher_71 : decode cX5_findTeacher 71 = .ok (.if_icmp .ge 10, 3) := by decide +kernel
theorem dX5_findTeacher_74 : decode cX5_findTeacher 74 = .ok (.iload 6, 2) := by decide +kernel
theorem dX5_findTeacher_76 : decode cX5_findTeacher 76 = .ok (.istore 4, 2) := by decide +kernel
theorem dX5_findTeacher_78 : decode cX5_findTeacher 78 = .ok (.iload 5, 2) := by decide +kernel
theorem dX5_findTeacher_80 : decode cX5_findTeacher 80 = .ok (.istore_n 3, 1) := by decide +kernel
theorem dX5_findTeacher_81 : decode cX5_findTeacher 81 = .ok (.iinc 5 1, 3) := by decide +kernel
theorem dX5_findTeacher_84 : decode cX5_findTeacher 84 = .ok (.goto (-62), 3) := by decide +kernel
theorem dX5_findTeacher_87 : decode cX5_findTeacher 87 = .ok (.iload 4, 2) := by decide +kernel
theorem dX5_findTeacher_89 : decode cX5_findTeacher 89 = .ok (.iconst (-1), 1) := by decide +kernel
theorem dX5_findTeacher_90 : decode cX5_findTeacher 90 = .ok (.if_icmp .eq 8, 3) := by decide +kernel
theorem dX5_findTeacher_93 : decode cX5_findTeacher 93 = .ok (.aload_n 0, 1) := by decide +kernel
theorem dX5_findTeacher_94 : decode cX5_findTeacher 94 = .ok (.iload_n 3, 1) := by decide +kernel
theorem dX5_findTeacher_95 : decode cX5_findTeacher 95 = .ok (.putfield 18, 3) := by decide +kernel
theorem dX5_findTeacher_98 : decode cX5_findTeacher 98 = .ok (.iload 4, 2) := by decide +kernel
theorem dX5_findTeacher_100 : decode cX5_findTeacher 100 = .ok (.ireturn, 1) := by decide +kernel
theorem bX5_findTeacher_0 {G : Gt} {d bc bs : Nat} {Q : QT} {l : Ls} {z : List Value} {h : Hp} (k : (tPush (.int (-1)) (tIst 3 (tAld 0 (tAld 1 (tIld 2 (tPush (.int (-1)) (tAld 1 (tGetf 9 7 (tIld 2 (tXald 0 (tPush (.int 100) (tCV5 G d 0 0 4 mX5_daysTillPaying (fun l z h => T G d bc bs mX5_findTeacher 17 l z h Q))))))))))))) l z h) : T G d bc bs mX5_findTeacher 0 l z h Q := by
  refine R_iconst dX5_findTeacher_0 (by decide) (fun l z h k => ?_) k
  refine R_istore_n dX5_findTeacher_1 rfl (by decide) (fun l z h k => ?_) k
  refine R_aload_n dX5_findTeacher_2 rfl (fun l z h k => ?_) k
  refine R_aload_n dX5_findTeacher_3 rfl (fun l z h k => ?_) k
  refine R_iload_n dX5_findTeacher_4 rfl (fun l z h k => ?_) k
  refine R_iconst dX5_findTeacher_5 (by decide) (fun l z h k => ?_) k
  refine R_aload_n dX5_findTeacher_6 rfl (fun l z h k => ?_) k
  refine R_getf (ci := 9) (f := 7) (C := RX11) (N := 14) (Tt := TX11) dX5_findTeacher_7 rfl i_X11 (by decide) w_272 (fun l z h k => ?_) k
  refine R_iload_n dX5_findTeacher_10 rfl (fun l z h k => ?_) k
  refine R_iaload dX5_findTeacher_11 (fun l z h k => ?_) k
  refine R_bipush dX5_findTeacher_12 (by decide) (fun l z h k => ?_) k
  exact R_cv5 (M := mX5_findTeacher) (pc := 14) (bc := bc) (bs := bs) (cb := 0) (cs := 0) (M' := mX5_daysTillPaying) dX5_findTeacher_14 rfl (by decide) w_1021 w_142 w_1037 w_1019 w_1020 (by decide +kernel) (fun _ _ _ k => k) k
theorem bX5_findTeacher_17 {G : Gt} {d bc bs : Nat} {Q : QT} {l : Ls} {z : List Value} {h : Hp} (k : (tIst 4 (tPush (.int 0) (tIst 5 ((fun l z h => T G d bc bs mX5_findTeacher 22 l z h Q))))) l z h) : T G d bc bs mX5_findTeacher 17 l z h Q := by
  refine R_istore dX5_findTeacher_17 (by decide) (fun l z h k => ?_) k
  refine R_iconst dX5_findTeacher_19 (by decide) (fun l z h k => ?_) k
  refine R_istore dX5_findTeacher_20 (by decide) (fun l z h k => ?_) k
  exact k
theorem bX5_findTeacher_22 {G : Gt} {d bc bs : Nat} {Q : QT} {l : Ls} {z : List Value} {h : Hp} (k : (tIld 5 (tAld 1 (tGetf 9 1 (tIf2 (fun x y => y ≤ x) (fun l z h => T G d bc bs mX5_findTeacher 87 l z h Q) (fun l z h => T G d bc bs mX5_findTeacher 31 l z h Q))))) l z h) : T G d bc bs mX5_findTeacher 22 l z h Q := by
  refine R_iload dX5_findTeacher_22 (fun l z h k => ?_) k
  refine R_aload_n dX5_findTeacher_24 rfl (fun l z h k => ?_) k
  refine R_getf (ci := 9) (f := 1) (C := RX11) (N := 14) (Tt := TX11) dX5_findTeacher_25 rfl i_X11 (by decide) w_254 (fun l z h k => ?_) k
  exact R_icmp_ge dX5_findTeacher_28 (by decide) (fun _ _ _ k => k) (fun _ _ _ k => k) k
theorem bX5_findTeacher_31 {G : Gt} {d bc bs : Nat} {Q : QT} {l : Ls} {z : List Value} {h : Hp} (k : (tIld 5 (tIld 2 (tIf2 (fun x y => x = y) (fun l z h => T G d bc bs mX5_findTeacher 81 l z h Q) (fun l z h => T G d bc bs mX5_findTeacher 37 l z h Q)))) l z h) : T G d bc bs mX5_findTeacher 31 l z h Q := by
  refine R_iload dX5_findTeacher_31 (fun l z h k => ?_) k
  refine R_iload_n dX5_findTeacher_33 rfl (fun l z h k => ?_) k
  exact R_icmp_eq dX5_findTeacher_34 (by decide) (fun _ _ _ k => k) (fun _ _ _ k => k) k
theorem bX5_findTeacher_37 {G : Gt} {d bc bs : Nat} {Q : QT} {l : Ls} {z : List Value} {h : Hp} (k : (tAld 0 (tAld 1 (tIld 2 (tIld 5 (tAld 1 (tGetf 9 7 (tIld 2 (tXald 0 (tPush (.int 100) (tCV5 G d 0 0 4 mX5_daysTillPaying (fun l z h => T G d bc bs mX5_findTeacher 53 l z h Q))))))))))) l z h) : T G d bc bs mX5_findTeacher 37 l z h Q := by
  refine R_aload_n dX5_findTeacher_37 rfl (fun l z h k => ?_) k
  refine R_aload_n dX5_findTeacher_38 rfl (fun l z h k => ?_) k
  refine R_iload_n dX5_findTeacher_39 rfl (fun l z h k => ?_) k
  refine R_iload dX5_findTeacher_40 (fun l z h k => ?_) k
  refine R_aload_n dX5_findTeacher_42 rfl (fun l z h k => ?_) k
  refine R_getf (ci := 9) (f := 7) (C := RX11) (N := 14) (Tt := TX11) dX5_findTeacher_43 rfl i_X11 (by decide) w_272 (fun l z h k => ?_) k
  refine R_iload_n dX5_findTeacher_46 rfl (fun l z h k => ?_) k
  refine R_iaload dX5_findTeacher_47 (fun l z h k => ?_) k
  refine R_bipush dX5_findTeacher_48 (by decide) (fun l z h k => ?_) k
  exact R_cv5 (M := mX5_findTeacher) (pc := 50) (bc := bc) (bs := bs) (cb := 0) (cs := 0) (M' := mX5_daysTillPaying) dX5_findTeacher_50 rfl (by decide) w_1021 w_142 w_1037 w_1019 w_1020 (by decide +kernel) (fun _ _ _ k => k) k
theorem bX5_findTeacher_53 {G : Gt} {d bc bs : Nat} {Q : QT} {l : Ls} {z : List Value} {h : Hp} (k : (tIst 6 (tIld 6 (tPush (.int (-1)) (tIf2 (fun x y => x = y) (fun l z h => T G d bc bs mX5_findTeacher 81 l z h Q) (fun l z h => T G d bc bs mX5_findTeacher 61 l z h Q))))) l z h) : T G d bc bs mX5_findTeacher 53 l z h Q := by
  refine R_istore dX5_findTeacher_53 (by decide) (fun l z h k => ?_) k
  refine R_iload dX5_findTeacher_55 (fun l z h k => ?_) k
  refine R_iconst dX5_findTeacher_57 (by decide) (fun l z h k => ?_) k
  exact R_icmp_eq dX5_findTeacher_58 (by decide) (fun _ _ _ k => k) (fun _ _ _ k => k) k
theorem bX5_findTeacher_61 {G : Gt} {d bc bs : Nat} {Q : QT} {l : Ls} {z : List Value} {h : Hp} (k : (tIld 4 (tPush (.int (-1)) (tIf2 (fun x y => x = y) (fun l z h => T G d bc bs mX5_findTeacher 74 l z h Q) (fun l z h => T G d bc bs mX5_findTeacher 67 l z h Q)))) l z h) : T G d bc bs mX5_findTeacher 61 l z h Q := by
  refine R_iload dX5_findTeacher_61 (fun l z h k => ?_) k
  refine R_iconst dX5_findTeacher_63 (by decide) (fun l z h k => ?_) k
  exact R_icmp_eq dX5_findTeacher_64 (by decide) (fun _ _ _ k => k) (fun _ _ _ k => k) k
theorem bX5_findTeacher_67 {G : Gt} {d bc bs : Nat} {Q : QT} {l : Ls} {z : List Value} {h : Hp} (k : (tIld 6 (tIld 4 (tIf2 (fun x y => y ≤ x) (fun l z h => T G d bc bs mX5_findTeacher 81 l z h Q) (fun l z h => T G d bc bs mX5_findTeacher 74 l z h Q)))) l z h) : T G d bc bs mX5_findTeacher 67 l z h Q := by
  refine R_iload dX5_findTeacher_67 (fun l z h k => ?_) k
  refine R_iload dX5_findTeacher_69 (fun l z h k => ?_) k
  exact R_icmp_ge dX5_findTeacher_71 (by decide) (fun _ _ _ k => k) (fun _ _ _ k => k) k
theorem bX5_findTeacher_74 {G : Gt} {d bc bs : Nat} {Q : QT} {l : Ls} {z : List Value} {h : Hp} (k : (tIld 6 (tIst 4 (tIld 5 (tIst 3 ((fun l z h => T G d bc bs mX5_findTeacher 81 l z h Q)))))) l z h) : T G d bc bs mX5_findTeacher 74 l z h Q := by
  refine R_iload dX5_findTeacher_74 (fun l z h k => ?_) k
  refine R_istore dX5_findTeacher_76 (by decide) (fun l z h k => ?_) k
  refine R_iload dX5_findTeacher_78 (fun l z h k => ?_) k
  refine R_istore_n dX5_findTeacher_80 rfl (by decide) (fun l z h k => ?_) k
  exact k
theorem bX5_findTeacher_81 {G : Gt} {d bc bs : Nat} {Q : QT} {l : Ls} {z : List Value} {h : Hp} (k : (tInc 5 1 ((fun l z h => T G d bc bs mX5_findTeacher 22 l z h Q))) l z h) : T G d bc bs mX5_findTeacher 81 l z h Q := by
  refine R_iinc dX5_findTeacher_81 (by decide) (by decide) (fun l z h k => ?_) k
  exact R_goto dX5_findTeacher_84 (by decide) (fun _ _ _ k => k) k
theorem bX5_findTeacher_87 {G : Gt} {d bc bs : Nat} {Q : QT} {l : Ls} {z : List Value} {h : Hp} (k : (tIld 4 (tPush (.int (-1)) (tIf2 (fun x y => x = y) (fun l z h => T G d bc bs mX5_findTeacher 98 l z h Q) (fun l z h => T G d bc bs mX5_findTeacher 93 l z h Q)))) l z h) : T G d bc bs mX5_findTeacher 87 l z h Q := by
  refine R_iload dX5_findTeacher_87 (fun l z h k => ?_) k
  refine R_iconst dX5_findTeacher_89 (by decide) (fun l z h k => ?_) k
  exact R_icmp_eq dX5_findTeacher_90 (by decide) (fun _ _ _ k => k) (fun _ _ _ k => k) k
theorem bX5_findTeacher_93 {G : Gt} {d bc bs : Nat} {Q : QT} {l : Ls} {z : List Value} {h : Hp} (k : (tAld 0 (tIld 3 (tPutf isI 4 2 ((fun l z h => T G d bc bs mX5_findTeacher 98 l z h Q))))) l z h) : T G d bc bs mX5_findTeacher 93 l z h Q := by
  refine R_aload_n dX5_findTeacher_93 rfl (fun l z h k => ?_) k
  refine R_iload_n dX5_findTeacher_94 rfl (fun l z h k => ?_) k
  refine R_putf (ci := 4) (f := 2) (C := RX5) (N := 8) (Tt := TX5) tyX5 tyX5_ok nmX5 dX5_findTeacher_95 rfl i_X5 (by decide) w_439 rfl (tyX5_ok 2 (by decide)) p_int (fun l z h k => ?_) k
  exact k
theorem bX5_findTeacher_98 {G : Gt} {d bc bs : Nat} {Q : QT} {l : Ls} {z : List Value} {h : Hp} (k : (tIld 4 (tRetI Q)) l z h) : T G d bc bs mX5_findTeacher 98 l z h Q := by
  refine R_iload dX5_findTeacher_98 (fun l z h k => ?_) k
  exact R_iret dX5_findTeacher_100 rfl k
theorem dX5_findSchool_0 : decode cX5_findSchool 0 = .ok (.aload_n 0, 1) := by decide +kernel
theorem dX5_findSchool_1 : decode cX5_findSchool 1 = .ok (.getfield 34, 3) := by decide +kernel
theorem dX5_findSchool_4 : decode cX5_findSchool 4 = .ok (.iconst (-1), 1) := by decide +kernel
theorem dX5_findSchool_5 : decode cX5_findSchool 5 = .ok (.invokestatic 41, 3) := by decide +kernel
theorem dX5_findSchool_8 : decode cX5_findSchool 8 = .ok (.iconst 0, 1) := by decide +kernel
theorem dX5_findSchool_9 : decode cX5_findSchool 9 = .ok (.istore_n 2, 1) := by decide +kernel
theorem dX5_findSchool_10 : decode cX5_findSchool 10 = .ok (.iload_n 2, 1) := by decide +kernel
theorem dX5_findSchool_11 : decode cX5_findSchool 11 = .ok (.aload_n 1, 1) := by decide +kernel
theorem dX5_findSchool_12 : decode cX5_findSchool 12 = .ok (.getfield 86, 3) := by decide +kernel
theorem dX5_findSchool_15 : decode cX5_findSchool 15 = .ok (.if_icmp .ge 40, 3) := by decide +kernel
theorem dX5_findSchool_18 : decode cX5_findSchool 18 = .ok (.iload_n 2, 1) := by decide +kernel
theorem dX5_findSchool_19 : decode cX5_findSchool 19 = .ok (.istore_n 3, 1) := by decide +kernel
theorem dX5_findSchool_20 : decode cX5_findSchool 20 = .ok (.iload_n 3, 1) := by decide +kernel
theorem dX5_findSchool_21 : decode cX5_findSchool 21 = .ok (.aload_n 1, 1) := by decide +kernel
theorem dX5_findSchool_22 : decode cX5_findSchool 22 = .ok (.getfield 86, 3) := by decide +kernel
theorem dX5_findSchool_25 : decode cX5_findSchool 25 = .ok (.if_icmp .ge 24, 3) := by decide +kernel
theorem dX5_findSchool_28 : decode cX5_findSchool 28 = .ok (.aload_n 0, 1) := by decide +kernel
theorem dX5_findSchool_29 : decode cX5_findSchool 29 = .ok (.getfield 31, 3) := by decide +kernel
theorem dX5_findSchool_32 : decode cX5_findSchool 32 = .ok (.iload_n 2, 1) := by decide +kernel
theorem dX5_findSchool_33 : decode cX5_findSchool 33 = .ok (.aaload, 1) := by decide +kernel
theorem dX5_findSchool_34 : decode cX5_findSchool 34 = .ok (.iload_n 3, 1) := by decide +kernel
theorem dX5_findSchool_35 : decode cX5_findSchool 35 = .ok (.aload_n 0, 1) := by decide +kernel
theorem dX5_findSchool_36 : decode cX5_findSchool 36 = .ok (.aload_n 1, 1) := by decide +kernel
theorem dX5_findSchool_37 : decode cX5_findSchool 37 = .ok (.iload_n 2, 1) := by decide +kernel
theorem dX5_findSchool_38 : decode cX5_findSchool 38 = .ok (.iload_n 3, 1) := by decide +kernel
theorem dX5_findSchool_39 : decode cX5_findSchool 39 = .ok (.invokevirtual 89, 3) := by decide +kernel
theorem dX5_findSchool_42 : decode cX5_findSchool 42 = .ok (.iastore, 1) := by decide +kernel
theorem dX5_findSchool_43 : decode cX5_findSchool 43 = .ok (.iinc 3 1, 3) := by decide +kernel
theorem dX5_findSchool_46 : decode cX5_findSchool 46 = .ok (.goto (-26), 3) := by decide +kernel
theorem dX5_findSchool_49 : decode cX5_findSchool 49 = .ok (.iinc 2 1, 3) := by decide +kernel
theorem dX5_findSchool_52 : decode cX5_findSchool 52 = .ok (.goto (-42), 3) := by decide +kernel
theorem dX5_findSchool_55 : decode cX5_findSchool 55 = .ok (.aload_n 0, 1) := by decide +kernel
theorem dX5_findSchool_56 : decode cX5_findSchool 56 = .ok (.bipush 61, 2) := by decide +kernel
theorem dX5_findSchool_58 : decode cX5_findSchool 58 = .ok (.putfield 93, 3) := by decide +kernel
theorem dX5_findSchool_61 : decode cX5_findSchool 61 = .ok (.aload_n 0, 1) := by decide +kernel
theorem dX5_findSchool_62 : decode cX5_findSchool 62 = .ok (.aload_n 1, 1) := by decide +kernel
theorem dX5_findSchool_63 : decode cX5_findSchool 63 = .ok (.getfield 86, 3) := by decide +kernel
theorem dX5_findSchool_66 : decode cX5_findSchool 66 = .ok (.iconst 0, 1) := by decide +kernel
theorem dX5_findSchool_67 : decode cX5_findSchool 67 = .ok (.aload_n 1, 1) := by decide +kernel
theorem dX5_findSchool_68 : decode cX5_findSchool 68 = .ok (.iconst 1, 1) := by decide +kernel
theorem dX5_findSchool_69 : decode cX5_findSchool 69 = .ok (.invokevirtual 96, 3) := by decide +kernel
theorem dX5_findSchool_72 : decode cX5_findSchool 72 = .ok (.iconst 0, 1) := by decide +kernel
theorem dX5_findSchool_73 : decode cX5_findSchool 73 = .ok (.invokevirtual 100, 3) := by decide +kernel
theorem dX5_findSchool_76 : decode cX5_findSchool 76 = .ok (.aload_n 0, 1) := by decide +kernel
theorem dX5_findSchool_77 : decode cX5_findSchool 77 = .ok (.getfield 93, 3) := by decide +kernel
theorem dX5_findSchool_80 : decode cX5_findSchool 80 = .ok (.bipush 60, 2) := by decide +kernel
theorem dX5_findSchool_82 : decode cX5_findSchool 82 = .ok (.if_icmp .gt 10, 3) := by decide +kernel
theorem dX5_findSchool_85 : decode cX5_findSchool 85 = .ok (.aload_n 0, 1) := by decide +kernel
theorem dX5_findSchool_86 : decode cX5_findSchool 86 = .ok (.getfield 93, 3) := by decide +kernel
theorem dX5_findSchool_89 : decode cX5_findSchool 89 = .ok (.goto 4, 3) := by decide +kernel
theorem dX5_findSchool_92 : decode cX5_findSchool 92 = .ok (.iconst (-1), 1) := by decide +kernel
theorem dX5_findSchool_93 : decode cX5_findSchool 93 = .ok (.ireturn, 1) := by decide +kernel
theorem bX5_findSchool_0 {G : Gt} {d bc bs : Nat} {Q : QT} {l : Ls} {z : List Value} {h : Hp} (k : (tAld 0 (tGetf 4 6 (tPush (.int (-1)) (tCS2 G d 0 0 mJ7_fill_53178 (fun l z h => T G d bc bs mX5_findSchool 8 l z h Q))))) l z h) : T G d bc bs mX5_findSchool 0 l z h Q := by
  refine R_aload_n dX5_findSchool_0 rfl (fun l z h k => ?_) k
  refine R_getf (ci := 4) (f := 6) (C := RX5) (N := 8) (Tt := TX5) dX5_findSchool_1 rfl i_X5 (by decide) w_445 (fun l z h k => ?_) k
  refine R_iconst dX5_findSchool_4 (by decide) (fun l z h k => ?_) k
  exact R_cs2 (M := mX5_findSchool) (pc := 5) (bc := bc) (bs := bs) (cb := 0) (cs := 0) (M' := mJ7_fill_53178) dX5_findSchool_5 (by decide) w_341 w_138 w_436 w_340 (by decide +kernel) (fun _ _ _ k => k) k
theorem bX5_findSchool_8 {G : Gt} {d bc bs : Nat} {Q : QT} {l : Ls} {z : List Value} {h : Hp} (k : (tPush (.int 0) (tIst 2 ((fun l z h => T G d bc bs mX5_findSchool 10 l z h Q)))) l z h) : T G d bc bs mX5_findSchool 8 l z h Q := by
  refine R_iconst dX5_findSchool_8 (by decide) (fun l z h k => ?_) k
  refine R_istore_n dX5_findSchool_9 rfl (by decide) (fun l z h k => ?_) k
  exact k
theorem bX5_findSchool_10 {G : Gt} {d bc bs : Nat} {Q : QT} {l : Ls} {z : List Value} {h : Hp} (k : (tIld 2 (tAld 1 (tGetf 9 1 (tIf2 (fun x y => y ≤ x) (fun l z h => T G d bc bs mX5_findSchool 55 l z h Q) (fun l z h => T G d bc bs mX5_findSchool 18 l z h Q))))) l z h) : T G d bc bs mX5_findSchool 10 l z h Q := by
  refine R_iload_n dX5_findSchool_10 rfl (fun l z h k => ?_) k
  refine R_aload_n dX5_findSchool_11 rfl (fun l z h k => ?_) k
  refine R_getf (ci := 9) (f := 1) (C := RX11) (N := 14) (Tt := TX11) dX5_findSchool_12 rfl i_X11 (by decide) w_254 (fun l z h k => ?_) k
  exact R_icmp_ge dX5_findSchool_15 (by decide) (fun _ _ _ k => k) (fun _ _ _ k => k) k
theorem bX5_findSchool_18 {G : Gt} {d bc bs : Nat} {Q : QT} {l : Ls} {z : List Value} {h : Hp} (k : (tIld 2 (tIst 3 ((fun l z h => T G d bc bs mX5_findSchool 20 l z h Q)))) l z h) : T G d bc bs mX5_findSchool 18 l z h Q := by
  refine R_iload_n dX5_findSchool_18 rfl (fun l z h k => ?_) k
  refine R_istore_n dX5_findSchool_19 rfl (by decide) (fun l z h k => ?_) k
  exact k
theorem bX5_findSchool_20 {G : Gt} {d bc bs : Nat} {Q : QT} {l : Ls} {z : List Value} {h : Hp} (k : (tIld 3 (tAld 1 (tGetf 9 1 (tIf2 (fun x y => y ≤ x) (fun l z h => T G d bc bs mX5_findSchool 49 l z h Q) (fun l z h => T G d bc bs mX5_findSchool 28 l z h Q))))) l z h) : T G d bc bs mX5_findSchool 20 l z h Q := by
  refine R_iload_n dX5_findSchool_20 rfl (fun l z h k => ?_) k
  refine R_aload_n dX5_findSchool_21 rfl (fun l z h k => ?_) k
  refine R_getf (ci := 9) (f := 1) (C := RX11) (N := 14) (Tt := TX11) dX5_findSchool_22 rfl i_X11 (by decide) w_254 (fun l z h k => ?_) k
  exact R_icmp_ge dX5_findSchool_25 (by decide) (fun _ _ _ k => k) (fun _ _ _ k => k) k
theorem bX5_findSchool_28 {G : Gt} {d bc bs : Nat} {Q : QT} {l : Ls} {z : List Value} {h : Hp} (k : (tAld 0 (tGetf 4 5 (tIld 2 (tRald (tIld 3 (tAld 0 (tAld 1 (tIld 2 (tIld 3 (tCV3 G d 0 0 4 mX5_daysTogether (fun l z h => T G d bc bs mX5_findSchool 42 l z h Q))))))))))) l z h) : T G d bc bs mX5_findSchool 28 l z h Q := by
  refine R_aload_n dX5_findSchool_28 rfl (fun l z h k => ?_) k
  refine R_getf (ci := 4) (f := 5) (C := RX5) (N := 8) (Tt := TX5) dX5_findSchool_29 rfl i_X5 (by decide) w_444 (fun l z h k => ?_) k
  refine R_iload_n dX5_findSchool_32 rfl (fun l z h k => ?_) k
  refine R_aaload dX5_findSchool_33 (fun l z h k => ?_) k
  refine R_iload_n dX5_findSchool_34 rfl (fun l z h k => ?_) k
  refine R_aload_n dX5_findSchool_35 rfl (fun l z h k => ?_) k
  refine R_aload_n dX5_findSchool_36 rfl (fun l z h k => ?_) k
  refine R_iload_n dX5_findSchool_37 rfl (fun l z h k => ?_) k
  refine R_iload_n dX5_findSchool_38 rfl (fun l z h k => ?_) k
  exact R_cv3 (M := mX5_findSchool) (pc := 39) (bc := bc) (bs := bs) (cb := 0) (cs := 0) (M' := mX5_daysTogether) dX5_findSchool_39 rfl (by decide) w_1053 w_142 w_1050 w_1052 w_16 (by decide +kernel) (fun _ _ _ k => k) k
theorem bX5_findSchool_42 {G : Gt} {d bc bs : Nat} {Q : QT} {l : Ls} {z : List Value} {h : Hp} (k : (tXast 0 (tInc 3 1 ((fun l z h => T G d bc bs mX5_findSchool 20 l z h Q)))) l z h) : T G d bc bs mX5_findSchool 42 l z h Q := by
  refine R_iastore dX5_findSchool_42 (fun l z h k => ?_) k
  refine R_iinc dX5_findSchool_43 (by decide) (by decide) (fun l z h k => ?_) k
  exact R_goto dX5_findSchool_46 (by decide) (fun _ _ _ k => k) k
theorem bX5_findSchool_49 {G : Gt} {d bc bs : Nat} {Q : QT} {l : Ls} {z : List Value} {h : Hp} (k : (tInc 2 1 ((fun l z h => T G d bc bs mX5_findSchool 10 l z h Q))) l z h) : T G d bc bs mX5_findSchool 49 l z h Q := by
  refine R_iinc dX5_findSchool_49 (by decide) (by decide) (fun l z h k => ?_) k
  exact R_goto dX5_findSchool_52 (by decide) (fun _ _ _ k => k) k
theorem bX5_findSchool_55 {G : Gt} {d bc bs : Nat} {Q : QT} {l : Ls} {z : List Value} {h : Hp} (k : (tAld 0 (tPush (.int 61) (tPutf isI 4 7 (tAld 0 (tAld 1 (tGetf 9 1 (tPush (.int 0) (tAld 1 (tPush (.int 1) (tCV1 G d 0 0 9 mX11_whoIsAt (fun l z h => T G d bc bs mX5_findSchool 72 l z h Q))))))))))) l z h) : T G d bc bs mX5_findSchool 55 l z h Q := by
  refine R_aload_n dX5_findSchool_55 rfl (fun l z h k => ?_) k
  refine R_bipush dX5_findSchool_56 (by decide) (fun l z h k => ?_) k
  refine R_putf (ci := 4) (f := 7) (C := RX5) (N := 8) (Tt := TX5) tyX5 tyX5_ok nmX5 dX5_findSchool_58 rfl i_X5 (by decide) w_446 rfl (tyX5_ok 7 (by decide)) p_int (fun l z h k => ?_) k
  refine R_aload_n dX5_findSchool_61 rfl (fun l z h k => ?_) k
  refine R_aload_n dX5_findSchool_62 rfl (fun l z h k => ?_) k
  refine R_getf (ci := 9) (f := 1) (C := RX11) (N := 14) (Tt := TX11) dX5_findSchool_63 rfl i_X11 (by decide) w_254 (fun l z h k => ?_) k
  refine R_iconst dX5_findSchool_66 (by decide) (fun l z h k => ?_) k
  refine R_aload_n dX5_findSchool_67 rfl (fun l z h k => ?_) k
  refine R_iconst dX5_findSchool_68 (by decide) (fun l z h k => ?_) k
  exact R_cv1 (M := mX5_findSchool) (pc := 69) (bc := bc) (bs := bs) (cb := 0) (cs := 0) (M' := mX11_whoIsAt) dX5_findSchool_69 rfl (by decide) w_840 w_136 w_1055 w_838 w_839 (by decide +kernel) (fun _ _ _ k => k) k
theorem bX5_findSchool_72 {G : Gt} {d bc bs : Nat} {Q : QT} {l : Ls} {z : List Value} {h : Hp} (k : (tPush (.int 0) (tCV4 G d 0 0 4 mX5_tryPairs (fun l z h => T G d bc bs mX5_findSchool 76 l z h Q))) l z h) : T G d bc bs mX5_findSchool 72 l z h Q := by
  refine R_iconst dX5_findSchool_72 (by decide) (fun l z h k => ?_) k
  exact R_cv4 (M := mX5_findSchool) (pc := 73) (bc := bc) (bs := bs) (cb := 0) (cs := 0) (M' := mX5_tryPairs) dX5_findSchool_73 rfl (by decide) w_1059 w_142 w_1056 w_1058 w_17 (by decide +kernel) (fun _ _ _ k => k) k
theorem bX5_findSchool_76 {G : Gt} {d bc bs : Nat} {Q : QT} {l : Ls} {z : List Value} {h : Hp} (k : (tAld 0 (tGetf 4 7 (tPush (.int 60) (tIf2 (fun x y => y < x) (fun l z h => T G d bc bs mX5_findSchool 92 l z h Q) (fun l z h => T G d bc bs mX5_findSchool 85 l z h Q))))) l z h) : T G d bc bs mX5_findSchool 76 l z h Q := by
  refine R_aload_n dX5_findSchool_76 rfl (fun l z h k => ?_) k
  refine R_getf (ci := 4) (f := 7) (C := RX5) (N := 8) (Tt := TX5) dX5_findSchool_77 rfl i_X5 (by decide) w_446 (fun l z h k => ?_) k
  refine R_bipush dX5_findSchool_80 (by decide) (fun l z h k => ?_) k
  exact R_icmp_gt dX5_findSchool_82 (by decide) (fun _ _ _ k => k) (fun _ _ _ k => k) k
theorem bX5_findSchool_85 {G : Gt} {d bc bs : Nat} {Q : QT} {l : Ls} {z : List Value} {h : Hp} (k : (tAld 0 (tGetf 4 7 ((fun l z h => T G d bc bs mX5_findSchool 93 l z h Q)))) l z h) : T G d bc bs mX5_findSchool 85 l z h Q := by
  refine R_aload_n dX5_findSchool_85 rfl (fun l z h k => ?_) k
  refine R_getf (ci := 4) (f := 7) (C := RX5) (N := 8) (Tt := TX5) dX5_findSchool_86 rfl i_X5 (by decide) w_446 (fun l z h k => ?_) k
  exact R_goto dX5_findSchool_89 (by decide) (fun _ _ _ k => k) k
theorem bX5_findSchool_92 {G : Gt} {d bc bs : Nat} {Q : QT} {l : Ls} {z : List Value} {h : Hp} (k : (tPush (.int (-1)) ((fun l z h => T G d bc bs mX5_findSchool 93 l z h Q))) l z h) : T G d bc bs mX5_findSchool 92 l z h Q := by
  refine R_iconst dX5_findSchool_92 (by decide) (fun l z h k => ?_) k
  exact k
theorem bX5_findSchool_93 {G : Gt} {d bc bs : Nat} {Q : QT} {l : Ls} {z : List Value} {h : Hp} (k : (tRetI Q) l z h) : T G d bc bs mX5_findSchool 93 l z h Q := by
  exact R_iret dX5_findSchool_93 rfl k
theorem dX5_schoolmateOf_0 : decode cX5_schoolmateOf 0 = .ok (.iload_n 1, 1) := by decide +kernel
theorem dX5_schoolmateOf_1 : decode cX5_schoolmateOf 1 = .ok (.ifCond .lt 18, 3) := by decide +kernel
theorem dX5_schoolmateOf_4 : decode cX5_schoolmateOf 4 = .ok (.iload_n 1, 1) := by decide +kernel
theorem dX5_schoolmateOf_5 : decode cX5_schoolmateOf 5 = .ok (.bipush 8, 2) := by decide +kernel
theorem dX5_schoolmateOf_7 : decode cX5_schoolmateOf 7 = .ok (.if_icmp .ge 12, 3) := by decide +kernel
theorem dX5_schoolmateOf_10 : decode cX5_schoolmateOf 10 = .ok (.aload_n 0, 1) := by decide +kernel
theorem dX5_schoolmateOf_11 : decode cX5_schoolmateOf 11 = .ok (.getfield 25, 3) := by decide +kernel
theorem dX5_schoolmateOf_14 : decode cX5_schoolmateOf 14 = .ok (.iload_n 1, 1) := by decide +kernel
theorem dX5_schoolmateOf_15 : decode cX5_schoolmateOf 15 = .ok (.iaload, 1) := by decide +kernel
theorem dX5_schoolmateOf_16 : decode cX5_schoolmateOf 16 = .ok (.goto 4, 3) := by decide +kernel
theorem dX5_schoolmateOf_19 : decode cX5_schoolmateOf 19 = .ok (.iconst (-1), 1) := by decide +kernel
theorem dX5_schoolmateOf_20 : decode cX5_schoolmateOf 20 = .ok (.ireturn, 1) := by decide +kernel
theorem bX5_schoolmateOf_0 {G : Gt} {d bc bs : Nat} {Q : QT} {l : Ls} {z : List Value} {h : Hp} (k : (tIld 1 (tIf (fun x => x < 0) (fun l z h => T G d bc bs mX5_schoolmateOf 19 l z h Q) (fun l z h => T G d bc bs mX5_schoolmateOf 4 l z h Q))) l z h) : T G d bc bs mX5_schoolmateOf 0 l z h Q := by
  refine R_iload_n dX5_schoolmateOf_0 rfl (fun l z h k => ?_) k
  exact R_if_lt dX5_schoolmateOf_1 (by decide) (fun _ _ _ k => k) (fun _ _ _ k => k) k
theorem bX5_schoolmateOf_4 {G : Gt} {d bc bs : Nat} {Q : QT} {l : Ls} {z : List Value} {h : Hp} (k : (tIld 1 (tPush (.int 8) (tIf2 (fun x y => y ≤ x) (fun l z h => T G d bc bs mX5_schoolmateOf 19 l z h Q) (fun l z h => T G d bc bs mX5_schoolmateOf 10 l z h Q)))) l z h) : T G d bc bs mX5_schoolmateOf 4 l z h Q := by
  refine R_iload_n dX5_schoolmateOf_4 rfl (fun l z h k => ?_) k
  refine R_bipush dX5_schoolmateOf_5 (by decide) (fun l z h k => ?_) k
  exact R_icmp_ge dX5_schoolmateOf_7 (by decide) (fun _ _ _ k => k) (fun _ _ _ k => k) k
theorem bX5_schoolmateOf_10 {G : Gt} {d bc bs : Nat} {Q : QT} {l : Ls} {z : List Value} {h : Hp} (k : (tAld 0 (tGetf 4 4 (tIld 1 (tXald 0 ((fun l z h => T G d bc bs mX5_schoolmateOf 20 l z h Q)))))) l z h) : T G d bc bs mX5_schoolmateOf 10 l z h Q := by
  refine R_aload_n dX5_schoolmateOf_10 rfl (fun l z h k => ?_) k
  refine R_getf (ci := 4) (f := 4) (C := RX5) (N := 8) (Tt := TX5) dX5_schoolmateOf_11 rfl i_X5 (by decide) w_443 (fun l z h k => ?_) k
  refine R_iload_n dX5_schoolmateOf_14 rfl (fun l z h k => ?_) k
  refine R_iaload dX5_schoolmateOf_15 (fun l z h k => ?_) k
  exact R_goto dX5_schoolmateOf_16 (by decide) (fun _ _ _ k => k) k
theorem bX5_schoolmateOf_19 {G : Gt} {d bc bs : Nat} {Q : QT} {l : Ls} {z : List Value} {h : Hp} (k : (tPush (.int (-1)) ((fun l z h => T G d bc bs mX5_schoolmateOf 20 l z h Q))) l z h) : T G d bc bs mX5_schoolmateOf 19 l z h Q := by
  refine R_iconst dX5_schoolmateOf_19 (by decide) (fun l z h k => ?_) k
  exact k
theorem bX5_schoolmateOf_20 {G : Gt} {d bc bs : Nat} {Q : QT} {l : Ls} {z : List Value} {h : Hp} (k : (tRetI Q) l z h) : T G d bc bs mX5_schoolmateOf 20 l z h Q := by
  exact R_iret dX5_schoolmateOf_20 rfl k
theorem dX5_daysTogether_0 : decode cX5_daysTogether 0 = .ok (.aload_n 1, 1) := by decide +kernel
theorem dX5_daysTogether_1 : decode cX5_daysTogether 1 = .ok (.getfield 76, 3) := by decide +kernel
theorem dX5_daysTogether_4 : decode cX5_daysTogether 4 = .ok (.iload_n 2, 1) := by decide +kernel
theorem dX5_daysTogether_5 : decode cX5_daysTogether 5 = .ok (.iaload, 1) := by decide +kernel
theorem dX5_daysTogether_6 : decode cX5_daysTogether 6 = .ok (.iconst 1, 1) := by decide +kernel
theorem dX5_daysTogether_7 : decode cX5_daysTogether 7 = .ok (.if_icmp .ne 13, 3) := by decide +kernel
theorem dX5_daysTogether_10 : decode cX5_daysTogether 10 = .ok (.aload_n 1, 1) := by decide +kernel
theorem dX5_daysTogether_11 : decode cX5_daysTogether 11 = .ok (.getfield 76, 3) := by decide +kernel
theorem dX5_daysTogether_14 : decode cX5_daysTogether 14 = .ok (.iload_n 3, 1) := by decide +kernel
theorem dX5_daysTogether_15 : decode cX5_daysTogether 15 = .ok (.iaload, 1) := by decide +kernel
theorem dX5_daysTogether_16 : decode cX5_daysTogether 16 = .ok (.iconst 1, 1) := by decide +kernel
theorem dX5_daysTogether_17 : decode cX5_daysTogether 17 = .ok (.if_icmp .eq 7, 3) := by decide +kernel
theorem dX5_daysTogether_20 : decode cX5_daysTogether 20 = .ok (.sipush 1000, 3) := by decide +kernel
theorem dX5_daysTogether_23 : decode cX5_daysTogether 23 = .ok (.ireturn, 1) := by decide +kernel
theorem dX5_daysTogether_24 : decode cX5_daysTogether 24 = .ok (.aload_n 0, 1) := by decide +kernel
theorem dX5_daysTogether_25 : decode cX5_daysTogether 25 = .ok (.aload_n 1, 1) := by decide +kernel
theorem dX5_daysTogether_26 : decode cX5_daysTogether 26 = .ok (.iload_n 2, 1) := by decide +kernel
theorem dX5_daysTogether_27 : decode cX5_daysTogether 27 = .ok (.iload_n 2, 1) := by decide +kernel
theorem dX5_daysTogether_28 : decode cX5_daysTogether 28 = .ok (.iload_n 3, 1) := by decide +kernel
theorem dX5_daysTogether_29 : decode cX5_daysTogether 29 = .ok (.if_icmp .ne 7, 3) := by decide +kernel
theorem dX5_daysTogether_32 : decode cX5_daysTogether 32 = .ok (.iconst (-1), 1) := by decide +kernel
theorem dX5_daysTogether_33 : decode cX5_daysTogether 33 = .ok (.goto 4, 3) := by decide +kernel
theorem dX5_daysTogether_36 : decode cX5_daysTogether 36 = .ok (.iload_n 3, 1) := by decide +kernel
theorem dX5_daysTogether_37 : decode cX5_daysTogether 37 = .ok (.aload_n 1, 1) := by decide +kernel
theorem dX5_daysTogether_38 : decode cX5_daysTogether 38 = .ok (.getfield 79, 3) := by decide +kernel
theorem dX5_daysTogether_41 : decode cX5_daysTogether 41 = .ok (.iload_n 2, 1) := by decide +kernel
theorem dX5_daysTogether_42 : decode cX5_daysTogether 42 = .ok (.iaload, 1) := by decide +kernel
theorem dX5_daysTogether_43 : decode cX5_daysTogether 43 = .ok (.bipush 60, 2) := by decide +kernel
theorem dX5_daysTogether_45 : decode cX5_daysTogether 45 = .ok (.invokevirtual 82, 3) := by decide +kernel
theorem dX5_daysTogether_48 : decode cX5_daysTogether 48 = .ok (.istore 4, 2) := by decide +kernel
theorem dX5_daysTogether_50 : decode cX5_daysTogether 50 = .ok (.iload_n 2, 1) := by decide +kernel
theorem dX5_daysTogether_51 : decode cX5_daysTogether 51 = .ok (.iload_n 3, 1) := by decide +kernel
theorem dX5_daysTogether_52 : decode cX5_daysTogether 52 = .ok (.if_icmp .ne 8, 3) := by decide +kernel
theorem dX5_daysTogether_55 : decode cX5_daysTogether 55 = .ok (.iload 4, 2) := by decide +kernel
theorem dX5_daysTogether_57 : decode cX5_daysTogether 57 = .ok (.goto 18, 3) := by decide +kernel
theorem dX5_daysTogether_60 : decode cX5_daysTogether 60 = .ok (.aload_n 0, 1) := by decide +kernel
theorem dX5_daysTogether_61 : decode cX5_daysTogether 61 = .ok (.aload_n 1, 1) := by decide +kernel
theorem dX5_daysTogether_62 : decode cX5_daysTogether 62 = .ok (.iload_n 3, 1) := by decide +kernel
theorem dX5_daysTogether_63 : decode cX5_daysTogether 63 = .ok (.iload_n 2, 1) := by decide +kernel
theorem dX5_daysTogether_64 : decode cX5_daysTogether 64 = .ok (.aload_n 1, 1) := by decide +kernel
theorem dX5_daysTogether_65 : decode cX5_daysTogether 65 = .ok (.getfield 79, 3) := by decide +kernel
theorem dX5_daysTogether_68 : decode cX5_daysTogether 68 = .ok (.iload_n 3, 1) := by decide +kernel
theorem dX5_daysTogether_69 : decode cX5_daysTogether 69 = .ok (.iaload, 1) := by decide +kernel
theorem dX5_daysTogether_70 : decode cX5_daysTogether 70 = .ok (.bipush 60, 2) := by decide +kernel
theorem dX5_daysTogether_72 : decode cX5_daysTogether 72 = .ok (.invokevirtual 82, 3) := by decide +kernel
theorem dX5_daysTogether_75 : decode cX5_daysTogether 75 = .ok (.istore 5, 2) := by decide +kernel
theorem dX5_daysTogether_77 : decode cX5_daysTogether 77 = .ok (.iload 4, 2) := by decide +kernel
theorem dX5_daysTogether_79 : decode cX5_daysTogether 79 = .ok (.iconst (-1), 1) := by decide +kernel
theorem dX5_daysTogether_80 : decode cX5_daysTogether 80 = .ok (.if_icmp .eq 9, 3) := by decide +kernel
theorem dX5_daysTogether_83 : decode cX5_daysTogether 83 = .ok (.iload 5, 2) := by decide +kernel
theorem dX5_daysTogether_85 : decode cX5_daysTogether 85 = .ok (.iconst (-1), 1) := by decide +kernel
theorem dX5_daysTogether_86 : decode cX5_daysTogether 86 = .ok (.if_icmp .ne 9, 3) := by decide +kernel
theorem dX5_daysTogether_89 : decode cX5_daysTogether 89 = .ok (.sipush 1000, 3) := by decide +kernel
theorem dX5_daysTogether_92 : decode cX5_daysTogether 92 = .ok (.goto 10, 3) := by decide +kernel
theorem dX5_daysTogether_95 : decode cX5_daysTogether 95 = .ok (.iload 4, 2) := by decide +kernel
theorem dX5_daysTogether_97 : decode cX5_daysTogether 97 = .ok (.iload 5, 2) := by decide +kernel
theorem dX5_daysTogether_99 : decode cX5_daysTogether 99 = .ok (.invokestatic 104, 3) := by decide +kernel
theorem dX5_daysTogether_102 : decode cX5_daysTogether 102 = .ok (.ireturn, 1) := by decide +kernel
theorem bX5_daysTogether_0 {G : Gt} {d bc bs : Nat} {Q : QT} {l : Ls} {z : List Value} {h : Hp} (k : (tAld 1 (tGetf 9 8 (tIld 2 (tXald 0 (tPush (.int 1) (tIf2 (fun x y => x = y) (fun l z h => T G d bc bs mX5_daysTogether 10 l z h Q) (fun l z h => T G d bc bs mX5_daysTogether 20 l z h Q))))))) l z h) : T G d bc bs mX5_daysTogether 0 l z h Q := by
  refine R_aload_n dX5_daysTogether_0 rfl (fun l z h k => ?_) k
  refine R_getf (ci := 9) (f := 8) (C := RX11) (N := 14) (Tt := TX11) dX5_daysTogether_1 rfl i_X11 (by decide) w_276 (fun l z h k => ?_) k
  refine R_iload_n dX5_daysTogether_4 rfl (fun l z h k => ?_) k
  refine R_iaload dX5_daysTogether_5 (fun l z h k => ?_) k
  refine R_iconst dX5_daysTogether_6 (by decide) (fun l z h k => ?_) k
  exact R_icmp_ne dX5_daysTogether_7 (by decide) (fun _ _ _ k => k) (fun _ _ _ k => k) k
theorem bX5_daysTogether_10 {G : Gt} {d bc bs : Nat} {Q : QT} {l : Ls} {z : List Value} {h : Hp} (k : (tAld 1 (tGetf 9 8 (tIld 3 (tXald 0 (tPush (.int 1) (tIf2 (fun x y => x = y) (fun l z h => T G d bc bs mX5_daysTogether 24 l z h Q) (fun l z h => T G d bc bs mX5_daysTogether 20 l z h Q))))))) l z h) : T G d bc bs mX5_daysTogether 10 l z h Q := by
  refine R_aload_n dX5_daysTogether_10 rfl (fun l z h k => ?_) k
  refine R_getf (ci := 9) (f := 8) (C := RX11) (N := 14) (Tt := TX11) dX5_daysTogether_11 rfl i_X11 (by decide) w_276 (fun l z h k => ?_) k
  refine R_iload_n dX5_daysTogether_14 rfl (fun l z h k => ?_) k
  refine R_iaload dX5_daysTogether_15 (fun l z h k => ?_) k
  refine R_iconst dX5_daysTogether_16 (by decide) (fun l z h k => ?_) k
  exact R_icmp_eq dX5_daysTogether_17 (by decide) (fun _ _ _ k => k) (fun _ _ _ k => k) k
theorem bX5_daysTogether_20 {G : Gt} {d bc bs : Nat} {Q : QT} {l : Ls} {z : List Value} {h : Hp} (k : (tPush (.int 1000) (tRetI Q)) l z h) : T G d bc bs mX5_daysTogether 20 l z h Q := by
  refine R_sipush dX5_daysTogether_20 (by decide) (fun l z h k => ?_) k
  exact R_iret dX5_daysTogether_23 rfl k
theorem bX5_daysTogether_24 {G : Gt} {d bc bs : Nat} {Q : QT} {l : Ls} {z : List Value} {h : Hp} (k : (tAld 0 (tAld 1 (tIld 2 (tIld 2 (tIld 3 (tIf2 (fun x y => x = y) (fun l z h => T G d bc bs mX5_daysTogether 32 l z h Q) (fun l z h => T G d bc bs mX5_daysTogether 36 l z h Q))))))) l z h) : T G d bc bs mX5_daysTogether 24 l z h Q := by
  refine R_aload_n dX5_daysTogether_24 rfl (fun l z h k => ?_) k
  refine R_aload_n dX5_daysTogether_25 rfl (fun l z h k => ?_) k
  refine R_iload_n dX5_daysTogether_26 rfl (fun l z h k => ?_) k
  refine R_iload_n dX5_daysTogether_27 rfl (fun l z h k => ?_) k
  refine R_iload_n dX5_daysTogether_28 rfl (fun l z h k => ?_) k
  exact R_icmp_ne dX5_daysTogether_29 (by decide) (fun _ _ _ k => k) (fun _ _ _ k => k) k
theorem bX5_daysTogether_32 {G : Gt} {d bc bs : Nat} {Q : QT} {l : Ls} {z : List Value} {h : Hp} (k : (tPush (.int (-1)) ((fun l z h => T G d bc bs mX5_daysTogether 37 l z h Q))) l z h) : T G d bc bs mX5_daysTogether 32 l z h Q := by
  refine R_iconst dX5_daysTogether_32 (by decide) (fun l z h k => ?_) k
  exact R_goto dX5_daysTogether_33 (by decide) (fun _ _ _ k => k) k
theorem bX5_daysTogether_36 {G : Gt} {d bc bs : Nat} {Q : QT} {l : Ls} {z : List Value} {h : Hp} (k : (tIld 3 ((fun l z h => T G d bc bs mX5_daysTogether 37 l z h Q))) l z h) : T G d bc bs mX5_daysTogether 36 l z h Q := by
  refine R_iload_n dX5_daysTogether_36 rfl (fun l z h k => ?_) k
  exact k
theorem bX5_daysTogether_37 {G : Gt} {d bc bs : Nat} {Q : QT} {l : Ls} {z : List Value} {h : Hp} (k : (tAld 1 (tGetf 9 7 (tIld 2 (tXald 0 (tPush (.int 60) (tCV5 G d 0 0 4 mX5_daysTillPaying (fun l z h => T G d bc bs mX5_daysTogether 48 l z h Q))))))) l z h) : T G d bc bs mX5_daysTogether 37 l z h Q := by
  refine R_aload_n dX5_daysTogether_37 rfl (fun l z h k => ?_) k
  refine R_getf (ci := 9) (f := 7) (C := RX11) (N := 14) (Tt := TX11) dX5_daysTogether_38 rfl i_X11 (by decide) w_272 (fun l z h k => ?_) k
  refine R_iload_n dX5_daysTogether_41 rfl (fun l z h k => ?_) k
  refine R_iaload dX5_daysTogether_42 (fun l z h k => ?_) k
  refine R_bipush dX5_daysTogether_43 (by decide) (fun l z h k => ?_) k
  exact R_cv5 (M := mX5_daysTogether) (pc := 45) (bc := bc) (bs := bs) (cb := 0) (cs := 0) (M' := mX5_daysTillPaying) dX5_daysTogether_45 rfl (by decide) w_1021 w_142 w_1037 w_1019 w_1020 (by decide +kernel) (fun _ _ _ k => k) k
theorem bX5_daysTogether_48 {G : Gt} {d bc bs : Nat} {Q : QT} {l : Ls} {z : List Value} {h : Hp} (k : (tIst 4 (tIld 2 (tIld 3 (tIf2 (fun x y => x = y) (fun l z h => T G d bc bs mX5_daysTogether 55 l z h Q) (fun l z h => T G d bc bs mX5_daysTogether 60 l z h Q))))) l z h) : T G d bc bs mX5_daysTogether 48 l z h Q := by
  refine R_istore dX5_daysTogether_48 (by decide) (fun l z h k => ?_) k
  refine R_iload_n dX5_daysTogether_50 rfl (fun l z h k => ?_) k
  refine R_iload_n dX5_daysTogether_51 rfl (fun l z h k => ?_) k
  exact R_icmp_ne dX5_daysTogether_52 (by decide) (fun _ _ _ k => k) (fun _ _ _ k => k) k
theorem bX5_daysTogether_55 {G : Gt} {d bc bs : Nat} {Q : QT} {l : Ls} {z : List Value} {h : Hp} (k : (tIld 4 ((fun l z h => T G d bc bs mX5_daysTogether 75 l z h Q))) l z h) : T G d bc bs mX5_daysTogether 55 l z h Q := by
  refine R_iload dX5_daysTogether_55 (fun l z h k => ?_) k
  exact R_goto dX5_daysTogether_57 (by decide) (fun _ _ _ k => k) k
theorem bX5_daysTogether_60 {G : Gt} {d bc bs : Nat} {Q : QT} {l : Ls} {z : List Value} {h : Hp} (k : (tAld 0 (tAld 1 (tIld 3 (tIld 2 (tAld 1 (tGetf 9 7 (tIld 3 (tXald 0 (tPush (.int 60) (tCV5 G d 0 0 4 mX5_daysTillPaying (fun l z h => T G d bc bs mX5_daysTogether 75 l z h Q))))))))))) l z h) : T G d bc bs mX5_daysTogether 60 l z h Q := by
  refine R_aload_n dX5_daysTogether_60 rfl (fun l z h k => ?_) k
  refine R_aload_n dX5_daysTogether_61 rfl (fun l z h k => ?_) k
  refine R_iload_n dX5_daysTogether_62 rfl (fun l z h k => ?_) k
  refine R_iload_n dX5_daysTogether_63 rfl (fun l z h k => ?_) k
  refine R_aload_n dX5_daysTogether_64 rfl (fun l z h k => ?_) k
  refine R_getf (ci := 9) (f := 7) (C := RX11) (N := 14) (Tt := TX11) dX5_daysTogether_65 rfl i_X11 (by decide) w_272 (fun l z h k => ?_) k
  refine R_iload_n dX5_daysTogether_68 rfl (fun l z h k => ?_) k
  refine R_iaload dX5_daysTogether_69 (fun l z h k => ?_) k
  refine R_bipush dX5_daysTogether_70 (by decide) (fun l z h k => ?_) k
  exact R_cv5 (M := mX5_daysTogether) (pc := 72) (bc := bc) (bs := bs) (cb := 0) (cs := 0) (M' := mX5_daysTillPaying) dX5_daysTogether_72 rfl (by decide) w_1021 w_142 w_1037 w_1019 w_1020 (by decide +kernel) (fun _ _ _ k => k) k
theorem bX5_daysTogether_75 {G : Gt} {d bc bs : Nat} {Q : QT} {l : Ls} {z : List Value} {h : Hp} (k : (tIst 5 (tIld 4 (tPush (.int (-1)) (tIf2 (fun x y => x = y) (fun l z h => T G d bc bs mX5_daysTogether 89 l z h Q) (fun l z h => T G d bc bs mX5_daysTogether 83 l z h Q))))) l z h) : T G d bc bs mX5_daysTogether 75 l z h Q := by
  refine R_istore dX5_daysTogether_75 (by decide) (fun l z h k => ?_) k
  refine R_iload dX5_daysTogether_77 (fun l z h k => ?_) k
  refine R_iconst dX5_daysTogether_79 (by decide) (fun l z h k => ?_) k
  exact R_icmp_eq dX5_daysTogether_80 (by decide) (fun _ _ _ k => k) (fun _ _ _ k => k) k
theorem bX5_daysTogether_83 {G : Gt} {d bc bs : Nat} {Q : QT} {l : Ls} {z : List Value} {h : Hp} (k : (tIld 5 (tPush (.int (-1)) (tIf2 (fun x y => x = y) (fun l z h => T G d bc bs mX5_daysTogether 89 l z h Q) (fun l z h => T G d bc bs mX5_daysTogether 95 l z h Q)))) l z h) : T G d bc bs mX5_daysTogether 83 l z h Q := by
  refine R_iload dX5_daysTogether_83 (fun l z h k => ?_) k
  refine R_iconst dX5_daysTogether_85 (by decide) (fun l z h k => ?_) k
  exact R_icmp_ne dX5_daysTogether_86 (by decide) (fun _ _ _ k => k) (fun _ _ _ k => k) k
theorem bX5_daysTogether_89 {G : Gt} {d bc bs : Nat} {Q : QT} {l : Ls} {z : List Value} {h : Hp} (k : (tPush (.int 1000) ((fun l z h => T G d bc bs mX5_daysTogether 102 l z h Q))) l z h) : T G d bc bs mX5_daysTogether 89 l z h Q := by
  refine R_sipush dX5_daysTogether_89 (by decide) (fun l z h k => ?_) k
  exact R_goto dX5_daysTogether_92 (by decide) (fun _ _ _ k => k) k
theorem bX5_daysTogether_95 {G : Gt} {d bc bs : Nat} {Q : QT} {l : Ls} {z : List Value} {h : Hp} (hd1 : 1 ≤ d) (k : (tIld 4 (tIld 5 (tMax ((fun l z h => T G d bc bs mX5_daysTogether 102 l z h Q))))) l z h) : T G d bc bs mX5_daysTogether 95 l z h Q := by
  refine R_iload dX5_daysTogether_95 (fun l z h k => ?_) k
  refine R_iload dX5_daysTogether_97 (fun l z h k => ?_) k
  refine R_mmax dX5_daysTogether_99 hd1 w_1054 (fun l z h k => ?_) k
  exact k
theorem bX5_daysTogether_102 {G : Gt} {d bc bs : Nat} {Q : QT} {l : Ls} {z : List Value} {h : Hp} (k : (tRetI Q) l z h) : T G d bc bs mX5_daysTogether 102 l z h Q := by
  exact R_iret dX5_daysTogether_102 rfl k
theorem dX5_tryPairs_0 : decode cX5_tryPairs 0 = .ok (.iload 4, 2) := by decide +kernel
theorem dX5_tryPairs_2 : decode cX5_tryPairs 2 = .ok (.aload_n 0, 1) := by decide +kernel
theorem dX5_tryPairs_3 : decode cX5_tryPairs 3 = .ok (.getfield 93, 3) := by decide +kernel
theorem dX5_tryPairs_6 : decode cX5_tryPairs 6 = .ok (.if_icmp .lt 4, 3) := by decide +kernel
theorem dX5_tryPairs_9 : decode cX5_tryPairs 9 = .ok (.return_, 1) := by decide +kernel
theorem dX5_tryPairs_10 : decode cX5_tryPairs 10 = .ok (.iload_n 2, 1) := by decide +kernel
theorem dX5_tryPairs_11 : decode cX5_tryPairs 11 = .ok (.iload_n 1, 1) := by decide +kernel
theorem dX5_tryPairs_12 : decode cX5_tryPairs 12 = .ok (.if_icmp .ge 9, 3) := by decide +kernel
theorem dX5_tryPairs_15 : decode cX5_tryPairs 15 = .ok (.iload_n 2, 1) := by decide +kernel
theorem dX5_tryPairs_16 : decode cX5_tryPairs 16 = .ok (.bipush 8, 2) := by decide +kernel
theorem dX5_tryPairs_18 : decode cX5_tryPairs 18 = .ok (.if_icmp .lt 25, 3) := by decide +kernel
theorem dX5_tryPairs_21 : decode cX5_tryPairs 21 = .ok (.aload_n 0, 1) := by decide +kernel
theorem dX5_tryPairs_22 : decode cX5_tryPairs 22 = .ok (.iload 4, 2) := by decide +kernel
theorem dX5_tryPairs_24 : decode cX5_tryPairs 24 = .ok (.putfield 93, 3) := by decide +kernel
theorem dX5_tryPairs_27 : decode cX5_tryPairs 27 = .ok (.aload_n 0, 1) := by decide +kernel
theorem dX5_tryPairs_28 : decode cX5_tryPairs 28 = .ok (.getfield 34, 3) := by decide +kernel
theorem dX5_tryPairs_31 : decode cX5_tryPairs 31 = .ok (.iconst 0, 1) := by decide +kernel
theorem dX5_tryPairs_32 : decode cX5_tryPairs 32 = .ok (.aload_n 0, 1) := by decide +kernel
theorem dX5_tryPairs_33 : decode cX5_tryPairs 33 = .ok (.getfield 25, 3) := by decide +kernel
theorem dX5_tryPairs_36 : decode cX5_tryPairs 36 = .ok (.iconst 0, 1) := by decide +kernel
theorem dX5_tryPairs_37 : decode cX5_tryPairs 37 = .ok (.bipush 8, 2) := by decide +kernel
theorem dX5_tryPairs_39 : decode cX5_tryPairs 39 = .ok (.invokestatic 107, 3) := by decide +kernel
theorem dX5_tryPairs_42 : decode cX5_tryPairs 42 = .ok (.return_, 1) := by decide +kernel
theorem dX5_tryPairs_43 : decode cX5_tryPairs 43 = .ok (.iload_n 3, 1) := by decide +kernel
theorem dX5_tryPairs_44 : decode cX5_tryPairs 44 = .ok (.iload_n 2, 1) := by decide +kernel
theorem dX5_tryPairs_45 : decode cX5_tryPairs 45 = .ok (.ishr, 1) := by decide +kernel
theorem dX5_tryPairs_46 : decode cX5_tryPairs 46 = .ok (.iconst 1, 1) := by decide +kernel
theorem dX5_tryPairs_47 : decode cX5_tryPairs 47 = .ok (.iand, 1) := by decide +kernel
theorem dX5_tryPairs_48 : decode cX5_tryPairs 48 = .ok (.ifCond .ne 15, 3) := by decide +kernel
theorem dX5_tryPairs_51 : decode cX5_tryPairs 51 = .ok (.aload_n 0, 1) := by decide +kernel
theorem dX5_tryPairs_52 : decode cX5_tryPairs 52 = .ok (.iload_n 1, 1) := by decide +kernel
theorem dX5_tryPairs_53 : decode cX5_tryPairs 53 = .ok (.iload_n 2, 1) := by decide +kernel
theorem dX5_tryPairs_54 : decode cX5_tryPairs 54 = .ok (.iconst 1, 1) := by decide +kernel
theorem dX5_tryPairs_55 : decode cX5_tryPairs 55 = .ok (.iadd, 1) := by decide +kernel
theorem dX5_tryPairs_56 : decode cX5_tryPairs 56 = .ok (.iload_n 3, 1) := by decide +kernel
theorem dX5_tryPairs_57 : decode cX5_tryPairs 57 = .ok (.iload 4, 2) := by decide +kernel
theorem dX5_tryPairs_59 : decode cX5_tryPairs 59 = .ok (.invokevirtual 100, 3) := by decide +kernel
theorem dX5_tryPairs_62 : decode cX5_tryPairs 62 = .ok (.return_, 1) := by decide +kernel
theorem dX5_tryPairs_63 : decode cX5_tryPairs 63 = .ok (.iload_n 3, 1) := by decide +kernel
theorem dX5_tryPairs_64 : decode cX5_tryPairs 64 = .ok (.iconst 1, 1) := by decide +kernel
theorem dX5_tryPairs_65 : decode cX5_tryPairs 65 = .ok (.iload_n 2, 1) := by decide +kernel
theorem dX5_tryPairs_66 : decode cX5_tryPairs 66 = .ok (.ishl, 1) := by decide +kernel
theorem dX5_tryPairs_67 : decode cX5_tryPairs 67 = .ok (.iconst (-1), 1) := by decide +kernel
theorem dX5_tryPairs_68 : decode cX5_tryPairs 68 = .ok (.ixor, 1) := by decide +kernel
theorem dX5_tryPairs_69 : decode cX5_tryPairs 69 = .ok (.iand, 1) := by decide +kernel
theorem dX5_tryPairs_70 : decode cX5_tryPairs 70 = .ok (.istore 5, 2) := by decide +kernel
theorem dX5_tryPairs_72 : decode cX5_tryPairs 72 = .ok (.iload_n 2, 1) := by decide +kernel
theorem dX5_tryPairs_73 : decode cX5_tryPairs 73 = .ok (.iconst 1, 1) := by decide +kernel
theorem dX5_tryPairs_74 : decode cX5_tryPairs 74 = .ok (.iadd, 1) := by decide +kernel
theorem dX5_tryPairs_75 : decode cX5_tryPairs 75 = .ok (.istore 6, 2) := by decide +kernel
theorem dX5_tryPairs_77 : decode cX5_tryPairs 77 = .ok (.iload 6, 2) := by decide +kernel
theorem dX5_tryPairs_79 : decode cX5_tryPairs 79 = .ok (.iload_n 1, 1) := by decide +kernel
theorem dX5_tryPairs_80 : decode cX5_tryPairs 80 = .ok (.if_icmp .ge 74, 3) := by decide +kernel
theorem dX5_tryPairs_83 : decode cX5_tryPairs 83 = .ok (.iload 5, 2) := by decide +kernel
theorem dX5_tryPairs_85 : decode cX5_tryPairs 85 = .ok (.iload 6, 2) := by decide +kernel
theorem dX5_tryPairs_87 : decode cX5_tryPairs 87 = .ok (.ishr, 1) := by decide +kernel
theorem dX5_tryPairs_88 : decode cX5_tryPairs 88 = .ok (.iconst 1, 1) := by decide +kernel
theorem dX5_tryPairs_89 : decode cX5_tryPairs 89 = .ok (.iand, 1) := by decide +kernel
theorem dX5_tryPairs_90 : decode cX5_tryPairs 90 = .ok (.ifCond .eq 58, 3) := by decide +kernel
theorem dX5_tryPairs_93 : decode cX5_tryPairs 93 = .ok (.aload_n 0, 1) := by decide +kernel
theorem dX5_tryPairs_94 : decode cX5_tryPairs 94 = .ok (.getfield 34, 3) := by decide +kernel
theorem dX5_tryPairs_97 : decode cX5_tryPairs 97 = .ok (.iload_n 2, 1) := by decide +kernel
theorem dX5_tryPairs_98 : decode cX5_tryPairs 98 = .ok (.iload 6, 2) := by decide +kernel
theorem dX5_tryPairs_100 : decode cX5_tryPairs 100 = .ok (.iastore, 1) := by decide +kernel
theorem dX5_tryPairs_101 : decode cX5_tryPairs 101 = .ok (.aload_n 0, 1) := by decide +kernel
theorem dX5_tryPairs_102 : decode cX5_tryPairs 102 = .ok (.getfield 34, 3) := by decide +kernel
theorem dX5_tryPairs_105 : decode cX5_tryPairs 105 = .ok (.iload 6, 2) := by decide +kernel
theorem dX5_tryPairs_107 : decode cX5_tryPairs 107 = .ok (.iload_n 2, 1) := by decide +kernel
theorem dX5_tryPairs_108 : decode cX5_tryPairs 108 = .ok (.iastore, 1) := by decide +kernel
theorem dX5_tryPairs_109 : decode cX5_tryPairs 109 = .ok (.aload_n 0, 1) := by decide +kernel
theorem dX5_tryPairs_110 : decode cX5_tryPairs 110 = .ok (.iload_n 1, 1) := by decide +kernel
theorem dX5_tryPairs_111 : decode cX5_tryPairs 111 = .ok (.iload_n 2, 1) := by decide +kernel
theorem dX5_tryPairs_112 : decode cX5_tryPairs 112 = .ok (.iconst 1, 1) := by decide +kernel
theorem dX5_tryPairs_113 : decode cX5_tryPairs 113 = .ok (.iadd, 1) := by decide +kernel
theorem dX5_tryPairs_114 : decode cX5_tryPairs 114 = .ok (.iload 5, 2) := by decide +kernel
theorem dX5_tryPairs_116 : decode cX5_tryPairs 116 = .ok (.iconst 1, 1) := by decide +kernel
theorem dX5_tryPairs_117 : decode cX5_tryPairs 117 = .ok (.iload 6, 2) := by decide +kernel
theorem dX5_tryPairs_119 : decode cX5_tryPairs 119 = .ok (.ishl, 1) := by decide +kernel
theorem dX5_tryPairs_120 : decode cX5_tryPairs 120 = .ok (.iconst (-1), 1) := by decide +kernel
theorem dX5_tryPairs_121 : decode cX5_tryPairs 121 = .ok (.ixor, 1) := by decide +kernel
theorem dX5_tryPairs_122 : decode cX5_tryPairs 122 = .ok (.iand, 1) := by decide +kernel
theorem dX5_tryPairs_123 : decode cX5_tryPairs 123 = .ok (.iload 4, 2) := by decide +kernel
theorem dX5_tryPairs_125 : decode cX5_tryPairs 125 = .ok (.aload_n 0, 1) := by decide +kernel
theorem dX5_tryPairs_126 : decode cX5_tryPairs 126 = .ok (.getfield 31, 3) := by decide +kernel
theorem dX5_tryPairs_129 : decode cX5_tryPairs 129 = .ok (.iload_n 2, 1) := by decide +kernel
theorem dX5_tryPairs_130 : decode cX5_tryPairs 130 = .ok (.aaload, 1) := by decide +kernel
theorem dX5_tryPairs_131 : decode cX5_tryPairs 131 = .ok (.iload 6, 2) := by decide +kernel
theorem dX5_tryPairs_133 : decode cX5_tryPairs 133 = .ok (.iaload, 1) := by decide +kernel
theorem dX5_tryPairs_134 : decode cX5_tryPairs 134 = .ok (.invokestatic 104, 3) := by decide +kernel
theorem dX5_tryPairs_137 : decode cX5_tryPairs 137 = .ok (.invokevirtual 100, 3) := by decide +kernel
theorem dX5_tryPairs_140 : decode cX5_tryPairs 140 = .ok (.aload_n 0, 1) := by decide +kernel
theorem dX5_tryPairs_141 : decode cX5_tryPairs 141 = .ok (.getfield 34, 3) := by decide +kernel
theorem dX5_tryPairs_144 : decode cX5_tryPairs 144 = .ok (.iload 6, 2) := by decide +kernel
theorem dX5_tryPairs_146 : decode cX5_tryPairs 146 = .ok (.iconst (-1), 1) := by decide +kernel
theorem dX5_tryPairs_147 : decode cX5_tryPairs 147 = .ok (.iastore, 1) := by decide +kernel
theorem dX5_tryPairs_148 : decode cX5_tryPairs 148 = .ok (.iinc 6 1, 3) := by decide +kernel
theorem dX5_tryPairs_151 : decode cX5_tryPairs 151 = .ok (.goto (-74), 3) := by decide +kernel
theorem dX5_tryPairs_154 : decode cX5_tryPairs 154 = .ok (.aload_n 0, 1) := by decide +kernel
theorem dX5_tryPairs_155 : decode cX5_tryPairs 155 = .ok (.getfield 34, 3) := by decide +kernel
theorem dX5_tryPairs_158 : decode cX5_tryPairs 158 = .ok (.iload_n 2, 1) := by decide +kernel
theorem dX5_tryPairs_159 : decode cX5_tryPairs 159 = .ok (.iconst (-1), 1) := by decide +kernel
theorem dX5_tryPairs_160 : decode cX5_tryPairs 160 = .ok (.iastore, 1) := by decide +kernel
theorem dX5_tryPairs_161 : decode cX5_tryPairs 161 = .ok (.aload_n 0, 1) := by decide +kernel
theorem dX5_tryPairs_162 : decode cX5_tryPairs 162 = .ok (.iload_n 1, 1) := by decide +kernel
theorem dX5_tryPairs_163 : decode cX5_tryPairs 163 = .ok (.iload_n 2, 1) := by decide +kernel
theorem dX5_tryPairs_164 : decode cX5_tryPairs 164 = .ok (.iconst 1, 1) := by decide +kernel
theorem dX5_tryPairs_165 : decode cX5_tryPairs 165 = .ok (.iadd, 1) := by decide +kernel
theorem dX5_tryPairs_166 : decode cX5_tryPairs 166 = .ok (.iload 5, 2) := by decide +kernel
theorem dX5_tryPairs_168 : decode cX5_tryPairs 168 = .ok (.iload 4, 2) := by decide +kernel
theorem dX5_tryPairs_170 : decode cX5_tryPairs 170 = .ok (.aload_n 0, 1) := by decide +kernel
theorem dX5_tryPairs_171 : decode cX5_tryPairs 171 = .ok (.getfield 31, 3) := by decide +kernel
theorem dX5_tryPairs_174 : decode cX5_tryPairs 174 = .ok (.iload_n 2, 1) := by decide +kernel
theorem dX5_tryPairs_175 : decode cX5_tryPairs 175 = .ok (.aaload, 1) := by decide +kernel
theorem dX5_tryPairs_176 : decode cX5_tryPairs 176 = .ok (.iload_n 2, 1) := by decide +kernel
theorem dX5_tryPairs_177 : decode cX5_tryPairs 177 = .ok (.iaload, 1) := by decide +kernel
theorem dX5_tryPairs_178 : decode cX5_tryPairs 178 = .ok (.invokestatic 104, 3) := by decide +kernel
theorem dX5_tryPairs_181 : decode cX5_tryPairs 181 = .ok (.invokevirtual 100, 3) := by decide +kernel
theorem dX5_tryPairs_184 : decode cX5_tryPairs 184 = .ok (.return_, 1) := by decide +kernel
theorem bX5_tryPairs_0 {G : Gt} {d bc bs : Nat} {Q : QT} {l : Ls} {z : List Value} {h : Hp} (k : (tIld 4 (tAld 0 (tGetf 4 7 (tIf2 (fun x y => x < y) (fun l z h => T G d bc bs mX5_tryPairs 10 l z h Q) (fun l z h => T G d bc bs mX5_tryPairs 9 l z h Q))))) l z h) : T G d bc bs mX5_tryPairs 0 l z h Q := by
  refine R_iload dX5_tryPairs_0 (fun l z h k => ?_) k
  refine R_aload_n dX5_tryPairs_2 rfl (fun l z h k => ?_) k
  refine R_getf (ci := 4) (f := 7) (C := RX5) (N := 8) (Tt := TX5) dX5_tryPairs_3 rfl i_X5 (by decide) w_446 (fun l z h k => ?_) k
  exact R_icmp_lt dX5_tryPairs_6 (by decide) (fun _ _ _ k => k) (fun _ _ _ k => k) k
theorem bX5_tryPairs_9 {G : Gt} {d bc bs : Nat} {Q : QT} {l : Ls} {z : List Value} {h : Hp} (k : (tRetV Q) l z h) : T G d bc bs mX5_tryPairs 9 l z h Q := by
  exact R_vret dX5_tryPairs_9 rfl k
theorem bX5_tryPairs_10 {G : Gt} {d bc bs : Nat} {Q : QT} {l : Ls} {z : List Value} {h : Hp} (k : (tIld 2 (tIld 1 (tIf2 (fun x y => y ≤ x) (fun l z h => T G d bc bs mX5_tryPairs 21 l z h Q) (fun l z h => T G d bc bs mX5_tryPairs 15 l z h Q)))) l z h) : T G d bc bs mX5_tryPairs 10 l z h Q := by
  refine R_iload_n dX5_tryPairs_10 rfl (fun l z h k => ?_) k
  refine R_iload_n dX5_tryPairs_11 rfl (fun l z h k => ?_) k
  exact R_icmp_ge dX5_tryPairs_12 (by decide) (fun _ _ _ k => k) (fun _ _ _ k => k) k
theorem bX5_tryPairs_15 {G : Gt} {d bc bs : Nat} {Q : QT} {l : Ls} {z : List Value} {h : Hp} (k : (tIld 2 (tPush (.int 8) (tIf2 (fun x y => x < y) (fun l z h => T G d bc bs mX5_tryPairs 43 l z h Q) (fun l z h => T G d bc bs mX5_tryPairs 21 l z h Q)))) l z h) : T G d bc bs mX5_tryPairs 15 l z h Q := by
  refine R_iload_n dX5_tryPairs_15 rfl (fun l z h k => ?_) k
  refine R_bipush dX5_tryPairs_16 (by decide) (fun l z h k => ?_) k
  exact R_icmp_lt dX5_tryPairs_18 (by decide) (fun _ _ _ k => k) (fun _ _ _ k => k) k
theorem bX5_tryPairs_21 {G : Gt} {d bc bs : Nat} {Q : QT} {l : Ls} {z : List Value} {h : Hp} (hd1 : 1 ≤ d) (k : (tAld 0 (tIld 4 (tPutf isI 4 7 (tAld 0 (tGetf 4 6 (tPush (.int 0) (tAld 0 (tGetf 4 4 (tPush (.int 0) (tPush (.int 8) (tCpyI ((fun l z h => T G d bc bs mX5_tryPairs 42 l z h Q))))))))))))) l z h) : T G d bc bs mX5_tryPairs 21 l z h Q := by
  refine R_aload_n dX5_tryPairs_21 rfl (fun l z h k => ?_) k
  refine R_iload dX5_tryPairs_22 (fun l z h k => ?_) k
  refine R_putf (ci := 4) (f := 7) (C := RX5) (N := 8) (Tt := TX5) tyX5 tyX5_ok nmX5 dX5_tryPairs_24 rfl i_X5 (by decide) w_446 rfl (tyX5_ok 7 (by decide)) p_int (fun l z h k => ?_) k
  refine R_aload_n dX5_tryPairs_27 rfl (fun l z h k => ?_) k
  refine R_getf (ci := 4) (f := 6) (C := RX5) (N := 8) (Tt := TX5) dX5_tryPairs_28 rfl i_X5 (by decide) w_445 (fun l z h k => ?_) k
  refine R_iconst dX5_tryPairs_31 (by decide) (fun l z h k => ?_) k
  refine R_aload_n dX5_tryPairs_32 rfl (fun l z h k => ?_) k
  refine R_getf (ci := 4) (f := 4) (C := RX5) (N := 8) (Tt := TX5) dX5_tryPairs_33 rfl i_X5 (by decide) w_443 (fun l z h k => ?_) k
  refine R_iconst dX5_tryPairs_36 (by decide) (fun l z h k => ?_) k
  refine R_bipush dX5_tryPairs_37 (by decide) (fun l z h k => ?_) k
  refine R_copyI dX5_tryPairs_39 hd1 w_1060 w_790 w_789 w_150 (fun l z h k => ?_) k
  exact k
theorem bX5_tryPairs_42 {G : Gt} {d bc bs : Nat} {Q : QT} {l : Ls} {z : List Value} {h : Hp} (k : (tRetV Q) l z h) : T G d bc bs mX5_tryPairs 42 l z h Q := by
  exact R_vret dX5_tryPairs_42 rfl k
theorem bX5_tryPairs_43 {G : Gt} {d bc bs : Nat} {Q : QT} {l : Ls} {z : List Value} {h : Hp} (k : (tIld 3 (tIld 2 (tB (fun x y => x >>> (y &&& 31)) (tPush (.int 1) (tB (fun x y => x &&& y) (tIf (fun x => x = 0) (fun l z h => T G d bc bs mX5_tryPairs 51 l z h Q) (fun l z h => T G d bc bs mX5_tryPairs 63 l z h Q))))))) l z h) : T G d bc bs mX5_tryPairs 43 l z h Q := by
  refine R_iload_n dX5_tryPairs_43 rfl (fun l z h k => ?_) k
  refine R_iload_n dX5_tryPairs_44 rfl (fun l z h k => ?_) k
  refine R_ishr dX5_tryPairs_45 (fun l z h k => ?_) k
  refine R_iconst dX5_tryPairs_46 (by decide) (fun l z h k => ?_) k
  refine R_iand dX5_tryPairs_47 (fun l z h k => ?_) k
  exact R_if_ne dX5_tryPairs_48 (by decide) (fun _ _ _ k => k) (fun _ _ _ k => k) k
theorem bX5_tryPairs_51 {G : Gt} {d bc bs : Nat} {Q : QT} {l : Ls} {z : List Value} {h : Hp} (k : (tAld 0 (tIld 1 (tIld 2 (tPush (.int 1) (tB (fun x y => x + y) (tIld 3 (tIld 4 (tCV4 G d 0 0 4 mX5_tryPairs (fun l z h => T G d bc bs mX5_tryPairs 62 l z h Q))))))))) l z h) : T G d bc bs mX5_tryPairs 51 l z h Q := by
  refine R_aload_n dX5_tryPairs_51 rfl (fun l z h k => ?_) k
  refine R_iload_n dX5_tryPairs_52 rfl (fun l z h k => ?_) k
  refine R_iload_n dX5_tryPairs_53 rfl (fun l z h k => ?_) k
  refine R_iconst dX5_tryPairs_54 (by decide) (fun l z h k => ?_) k
  refine R_iadd dX5_tryPairs_55 (fun l z h k => ?_) k
  refine R_iload_n dX5_tryPairs_56 rfl (fun l z h k => ?_) k
  refine R_iload dX5_tryPairs_57 (fun l z h k => ?_) k
  exact R_cv4 (M := mX5_tryPairs) (pc := 59) (bc := bc) (bs := bs) (cb := 0) (cs := 0) (M' := mX5_tryPairs) dX5_tryPairs_59 rfl (by decide) w_1059 w_142 w_1056 w_1058 w_17 (by decide +kernel) (fun _ _ _ k => k) k
theorem bX5_tryPairs_62 {G : Gt} {d bc bs : Nat} {Q : QT} {l : Ls} {z : List Value} {h : Hp} (k : (tRetV Q) l z h) : T G d bc bs mX5_tryPairs 62 l z h Q := by
  exact R_vret dX5_tryPairs_62 rfl k
theorem bX5_tryPairs_63 {G : Gt} {d bc bs : Nat} {Q : QT} {l : Ls} {z : List Value} {h : Hp} (k : (tIld 3 (tPush (.int 1) (tIld 2 (tB (fun x y => x <<< (y &&& 31)) (tPush (.int (-1)) (tB (fun x y => x ^^^ y) (tB (fun x y => x &&& y) (tIst 5 (tIld 2 (tPush (.int 1) (tB (fun x y => x + y) (tIst 6 ((fun l z h => T G d bc bs mX5_tryPairs 77 l z h Q)))))))))))))) l z h) : T G d bc bs mX5_tryPairs 63 l z h Q := by
  refine R_iload_n dX5_tryPairs_63 rfl (fun l z h k => ?_) k
  refine R_iconst dX5_tryPairs_64 (by decide) (fun l z h k => ?_) k
  refine R_iload_n dX5_tryPairs_65 rfl (fun l z h k => ?_) k
  refine R_ishl dX5_tryPairs_66 (fun l z h k => ?_) k
  refine R_iconst dX5_tryPairs_67 (by decide) (fun l z h k => ?_) k
  refine R_ixor dX5_tryPairs_68 (fun l z h k => ?_) k
  refine R_iand dX5_tryPairs_69 (fun l z h k => ?_) k
  refine R_istore dX5_tryPairs_70 (by decide) (fun l z h k => ?_) k
  refine R_iload_n dX5_tryPairs_72 rfl (fun l z h k => ?_) k
  refine R_iconst dX5_tryPairs_73 (by decide) (fun l z h k => ?_) k
  refine R_iadd dX5_tryPairs_74 (fun l z h k => ?_) k
  refine R_istore dX5_tryPairs_75 (by decide) (fun l z h k => ?_) k
  exact k
theorem bX5_tryPairs_77 {G : Gt} {d bc bs : Nat} {Q : QT} {l : Ls} {z : List Value} {h : Hp} (k : (tIld 6 (tIld 1 (tIf2 (fun x y => y ≤ x) (fun l z h => T G d bc bs mX5_tryPairs 154 l z h Q) (fun l z h => T G d bc bs mX5_tryPairs 83 l z h Q)))) l z h) : T G d bc bs mX5_tryPairs 77 l z h Q := by
  refine R_iload dX5_tryPairs_77 (fun l z h k => ?_) k
  refine R_iload_n dX5_tryPairs_79 rfl (fun l z h k => ?_) k
  exact R_icmp_ge dX5_tryPairs_80 (by decide) (fun _ _ _ k => k) (fun _ _ _ k => k) k
theorem bX5_tryPairs_83 {G : Gt} {d bc bs : Nat} {Q : QT} {l : Ls} {z : List Value} {h : Hp} (k : (tIld 5 (tIld 6 (tB (fun x y => x >>> (y &&& 31)) (tPush (.int 1) (tB (fun x y => x &&& y) (tIf (fun x => x = 0) (fun l z h => T G d bc bs mX5_tryPairs 148 l z h Q) (fun l z h => T G d bc bs mX5_tryPairs 93 l z h Q))))))) l z h) : T G d bc bs mX5_tryPairs 83 l z h Q := by
  refine R_iload dX5_tryPairs_83 (fun l z h k => ?_) k
  refine R_iload dX5_tryPairs_85 (fun l z h k => ?_) k
  refine R_ishr dX5_tryPairs_87 (fun l z h k => ?_) k
  refine R_iconst dX5_tryPairs_88 (by decide) (fun l z h k => ?_) k
  refine R_iand dX5_tryPairs_89 (fun l z h k => ?_) k
  exact R_if_eq dX5_tryPairs_90 (by decide) (fun _ _ _ k => k) (fun _ _ _ k => k) k
theorem bX5_tryPairs_93 {G : Gt} {d bc bs : Nat} {Q : QT} {l : Ls} {z : List Value} {h : Hp} (hd1 : 1 ≤ d) (k : (tAld 0 (tGetf 4 6 (tIld 2 (tIld 6 (tXast 0 (tAld 0 (tGetf 4 6 (tIld 6 (tIld 2 (tXast 0 (tAld 0 (tIld 1 (tIld 2 (tPush (.int 1) (tB (fun x y => x + y) (tIld 5 (tPush (.int 1) (tIld 6 (tB (fun x y => x <<< (y &&& 31)) (tPush (.int (-1)) (tB (fun x y => x ^^^ y) (tB (fun x y => x &&& y) (tIld 4 (tAld 0 (tGetf 4 5 (tIld 2 (tRald (tIld 6 (tXald 0 (tMax ((fun l z h => T G d bc bs mX5_tryPairs 137 l z h Q)))))))))))))))))))))))))))))))) l z h) : T G d bc bs mX5_tryPairs 93 l z h Q := by
  refine R_aload_n dX5_tryPairs_93 rfl (fun l z h k => ?_) k
  refine R_getf (ci := 4) (f := 6) (C := RX5) (N := 8) (Tt := TX5) dX5_tryPairs_94 rfl i_X5 (by decide) w_445 (fun l z h k => ?_) k
  refine R_iload_n dX5_tryPairs_97 rfl (fun l z h k => ?_) k
  refine R_iload dX5_tryPairs_98 (fun l z h k => ?_) k
  refine R_iastore dX5_tryPairs_100 (fun l z h k => ?_) k
  refine R_aload_n dX5_tryPairs_101 rfl (fun l z h k => ?_) k
  refine R_getf (ci := 4) (f := 6) (C := RX5) (N := 8) (Tt := TX5) dX5_tryPairs_102 rfl i_X5 (by decide) w_445 (fun l z h k => ?_) k
  refine R_iload dX5_tryPairs_105 (fun l z h k => ?_) k
  refine R_iload_n dX5_tryPairs_107 rfl (fun l z h k => ?_) k
  refine R_iastore dX5_tryPairs_108 (fun l z h k => ?_) k
  refine R_aload_n dX5_tryPairs_109 rfl (fun l z h k => ?_) k
  refine R_iload_n dX5_tryPairs_110 rfl (fun l z h k => ?_) k
  refine R_iload_n dX5_tryPairs_111 rfl (fun l z h k => ?_) k
  refine R_iconst dX5_tryPairs_112 (by decide) (fun l z h k => ?_) k
  refine R_iadd dX5_tryPairs_113 (fun l z h k => ?_) k
  refine R_iload dX5_tryPairs_114 (fun l z h k => ?_) k
  refine R_iconst dX5_tryPairs_116 (by decide) (fun l z h k => ?_) k
  refine R_iload dX5_tryPairs_117 (fun l z h k => ?_) k
  refine R_ishl dX5_tryPairs_119 (fun l z h k => ?_) k
  refine R_iconst dX5_tryPairs_120 (by decide) (fun l z h k => ?_) k
  refine R_ixor dX5_tryPairs_121 (fun l z h k => ?_) k
  refine R_iand dX5_tryPairs_122 (fun l z h k => ?_) k
  refine R_iload dX5_tryPairs_123 (fun l z h k => ?_) k
  refine R_aload_n dX5_tryPairs_125 rfl (fun l z h k => ?_) k
  refine R_getf (ci := 4) (f := 5) (C := RX5) (N := 8) (Tt := TX5) dX5_tryPairs_126 rfl i_X5 (by decide) w_444 (fun l z h k => ?_) k
  refine R_iload_n dX5_tryPairs_129 rfl (fun l z h k => ?_) k
  refine R_aaload dX5_tryPairs_130 (fun l z h k => ?_) k
  refine R_iload dX5_tryPairs_131 (fun l z h k => ?_) k
  refine R_iaload dX5_tryPairs_133 (fun l z h k => ?_) k
  refine R_mmax dX5_tryPairs_134 hd1 w_1054 (fun l z h k => ?_) k
  exact k
theorem bX5_tryPairs_137 {G : Gt} {d bc bs : Nat} {Q : QT} {l : Ls} {z : List Value} {h : Hp} (k : (tCV4 G d 0 0 4 mX5_tryPairs (fun l z h => T G d bc bs mX5_tryPairs 140 l z h Q)) l z h) : T G d bc bs mX5_tryPairs 137 l z h Q := by
  exact R_cv4 (M := mX5_tryPairs) (pc := 137) (bc := bc) (bs := bs) (cb := 0) (cs := 0) (M' := mX5_tryPairs) dX5_tryPairs_137 rfl (by decide) w_1059 w_142 w_1056 w_1058 w_17 (by decide +kernel) (fun _ _ _ k => k) k
theorem bX5_tryPairs_140 {G : Gt} {d bc bs : Nat} {Q : QT} {l : Ls} {z : List Value} {h : Hp} (k : (tAld 0 (tGetf 4 6 (tIld 6 (tPush (.int (-1)) (tXast 0 ((fun l z h => T G d bc bs mX5_tryPairs 148 l z h Q))))))) l z h) : T G d bc bs mX5_tryPairs 140 l z h Q := by
  refine R_aload_n dX5_tryPairs_140 rfl (fun l z h k => ?_) k
  refine R_getf (ci := 4) (f := 6) (C := RX5) (N := 8) (Tt := TX5) dX5_tryPairs_141 rfl i_X5 (by decide) w_445 (fun l z h k => ?_) k
  refine R_iload dX5_tryPairs_144 (fun l z h k => ?_) k
  refine R_iconst dX5_tryPairs_146 (by decide) (fun l z h k => ?_) k
  refine R_iastore dX5_tryPairs_147 (fun l z h k => ?_) k
  exact k
theorem bX5_tryPairs_148 {G : Gt} {d bc bs : Nat} {Q : QT} {l : Ls} {z : List Value} {h : Hp} (k : (tInc 6 1 ((fun l z h => T G d bc bs mX5_tryPairs 77 l z h Q))) l z h) : T G d bc bs mX5_tryPairs 148 l z h Q := by
  refine R_iinc dX5_tryPairs_148 (by decide) (by decide) (fun l z h k => ?_) k
  exact R_goto dX5_tryPairs_151 (by decide) (fun _ _ _ k => k) k
theorem bX5_tryPairs_154 {G : Gt} {d bc bs : Nat} {Q : QT} {l : Ls} {z : List Value} {h : Hp} (hd1 : 1 ≤ d) (k : (tAld 0 (tGetf 4 6 (tIld 2 (tPush (.int (-1)) (tXast 0 (tAld 0 (tIld 1 (tIld 2 (tPush (.int 1) (tB (fun x y => x + y) (tIld 5 (tIld 4 (tAld 0 (tGetf 4 5 (tIld 2 (tRald (tIld 2 (tXald 0 (tMax ((fun l z h => T G d bc bs mX5_tryPairs 181 l z h Q))))))))))))))))))))) l z h) : T G d bc bs mX5_tryPairs 154 l z h Q := by
  refine R_aload_n dX5_tryPairs_154 rfl (fun l z h k => ?_) k
  refine R_getf (ci := 4) (f := 6) (C := RX5) (N := 8) (Tt := TX5) dX5_tryPairs_155 rfl i_X5 (by decide) w_445 (fun l z h k => ?_) k
  refine R_iload_n dX5_tryPairs_158 rfl (fun l z h k => ?_) k
  refine R_iconst dX5_tryPairs_159 (by decide) (fun l z h k => ?_) k
  refine R_iastore dX5_tryPairs_160 (fun l z h k => ?_) k
  refine R_aload_n dX5_tryPairs_161 rfl (fun l z h k => ?_) k
  refine R_iload_n dX5_tryPairs_162 rfl (fun l z h k => ?_) k
  refine R_iload_n dX5_tryPairs_163 rfl (fun l z h k => ?_) k
  refine R_iconst dX5_tryPairs_164 (by decide) (fun l z h k => ?_) k
  refine R_iadd dX5_tryPairs_165 (fun l z h k => ?_) k
  refine R_iload dX5_tryPairs_166 (fun l z h k => ?_) k
  refine R_iload dX5_tryPairs_168 (fun l z h k => ?_) k
  refine R_aload_n dX5_tryPairs_170 rfl (fun l z h k => ?_) k
  refine R_getf (ci := 4) (f := 5) (C := RX5) (N := 8) (Tt := TX5) dX5_tryPairs_171 rfl i_X5 (by decide) w_444 (fun l z h k => ?_) k
  refine R_iload_n dX5_tryPairs_174 rfl (fun l z h k => ?_) k
  refine R_aaload dX5_tryPairs_175 (fun l z h k => ?_) k
  refine R_iload_n dX5_tryPairs_176 rfl (fun l z h k => ?_) k
  refine R_iaload dX5_tryPairs_177 (fun l z h k => ?_) k
  refine R_mmax dX5_tryPairs_178 hd1 w_1054 (fun l z h k => ?_) k
  exact k
theorem bX5_tryPairs_181 {G : Gt} {d bc bs : Nat} {Q : QT} {l : Ls} {z : List Value} {h : Hp} (k : (tCV4 G d 0 0 4 mX5_tryPairs (fun l z h => T G d bc bs mX5_tryPairs 184 l z h Q)) l z h) : T G d bc bs mX5_tryPairs 181 l z h Q := by
  exact R_cv4 (M := mX5_tryPairs) (pc := 181) (bc := bc) (bs := bs) (cb := 0) (cs := 0) (M' := mX5_tryPairs) dX5_tryPairs_181 rfl (by decide) w_1059 w_142 w_1056 w_1058 w_17 (by decide +kernel) (fun _ _ _ k => k) k
theorem bX5_tryPairs_184 {G : Gt} {d bc bs : Nat} {Q : QT} {l : Ls} {z : List Value} {h : Hp} (k : (tRetV Q) l z h) : T G d bc bs mX5_tryPairs 184 l z h Q := by
  exact R_vret dX5_tryPairs_184 rfl k
theorem dX5_findRush_0 : decode cX5_findRush 0 = .ok (.aload_n 0, 1) := by decide +kernel
theorem dX5_findRush_1 : decode cX5_findRush 1 = .ok (.getfield 12, 3) := by decide +kernel
theorem dX5_findRush_4 : decode cX5_findRush 4 = .ok (.aload_n 1, 1) := by decide +kernel
theorem dX5_findRush_5 : decode cX5_findRush 5 = .ok (.invokevirtual 47, 3) := by decide +kernel
theorem dX5_findRush_8 : decode cX5_findRush 8 = .ok (.aload_n 0, 1) := by decide +kernel
theorem dX5_findRush_9 : decode cX5_findRush 9 = .ok (.iconst 0, 1) := by decide +kernel
theorem dX5_findRush_10 : decode cX5_findRush 10 = .ok (.putfield 22, 3) := by decide +kernel
theorem dX5_findRush_13 : decode cX5_findRush 13 = .ok (.iconst 0, 1) := by decide +kernel
theorem dX5_findRush_14 : decode cX5_findRush 14 = .ok (.istore_n 2, 1) := by decide +kernel
theorem dX5_findRush_15 : decode cX5_findRush 15 = .ok (.iload_n 2, 1) := by decide +kernel
theorem dX5_findRush_16 : decode cX5_findRush 16 = .ok (.bipush 100, 2) := by decide +kernel
theorem dX5_findRush_18 : decode cX5_findRush 18 = .ok (.if_icmp .gt 133, 3) := by decide +kernel
theorem dX5_findRush_21 : decode cX5_findRush 21 = .ok (.aload_n 0, 1) := by decide +kernel
theorem dX5_findRush_22 : decode cX5_findRush 22 = .ok (.getfield 12, 3) := by decide +kernel
theorem dX5_findRush_25 : decode cX5_findRush 25 = .ok (.getfield 113, 3) := by decide +kernel
theorem dX5_findRush_28 : decode cX5_findRush 28 = .ok (.sipush 400, 3) := by decide +kernel
theorem dX5_findRush_31 : decode cX5_findRush 31 = .ok (.if_icmp .ge 120, 3) := by decide +kernel
theorem dX5_findRush_34 : decode cX5_findRush 34 = .ok (.iconst 1, 1) := by decide +kernel
theorem dX5_findRush_35 : decode cX5_findRush 35 = .ok (.istore_n 3, 1) := by decide +kernel
theorem dX5_findRush_36 : decode cX5_findRush 36 = .ok (.iconst 0, 1) := by decide +kernel
theorem dX5_findRush_37 : decode cX5_findRush 37 = .ok (.istore 4, 2) := by decide +kernel
theorem dX5_findRush_39 : decode cX5_findRush 39 = .ok (.iload 4, 2) := by decide +kernel
theorem dX5_findRush_41 : decode cX5_findRush 41 = .ok (.aload_n 0, 1) := by decide +kernel
theorem dX5_findRush_42 : decode cX5_findRush 42 = .ok (.getfield 12, 3) := by decide +kernel
theorem dX5_findRush_45 : decode cX5_findRush 45 = .ok (.getfield 86, 3) := by decide +kernel
theorem dX5_findRush_48 : decode cX5_findRush 48 = .ok (.if_icmp .ge 62, 3) := by decide +kernel
theorem dX5_findRush_51 : decode cX5_findRush 51 = .ok (.aload_n 0, 1) := by decide +kernel
theorem dX5_findRush_52 : decode cX5_findRush 52 = .ok (.getfield 12, 3) := by decide +kernel
theorem dX5_findRush_55 : decode cX5_findRush 55 = .ok (.iload 4, 2) := by decide +kernel
theorem dX5_findRush_57 : decode cX5_findRush 57 = .ok (.invokevirtual 116, 3) := by decide +kernel
theorem dX5_findRush_60 : decode cX5_findRush 60 = .ok (.ifCond .ne 22, 3) := by decide +kernel
theorem dX5_findRush_63 : decode cX5_findRush 63 = .ok (.aload_n 0, 1) := by decide +kernel
theorem dX5_findRush_64 : decode cX5_findRush 64 = .ok (.getfield 12, 3) := by decide +kernel
theorem dX5_findRush_67 : decode cX5_findRush 67 = .ok (.iload 4, 2) := by decide +kernel
theorem dX5_findRush_69 : decode cX5_findRush 69 = .ok (.aload_n 0, 1) := by decide +kernel
theorem dX5_findRush_70 : decode cX5_findRush 70 = .ok (.getfield 12, 3) := by decide +kernel
theorem dX5_findRush_73 : decode cX5_findRush 73 = .ok (.iload 4, 2) := by decide +kernel
theorem dX5_findRush_75 : decode cX5_findRush 75 = .ok (.invokevirtual 119, 3) := by decide +kernel
theorem dX5_findRush_78 : decode cX5_findRush 78 = .ok (.invokevirtual 122, 3) := by decide +kernel
theorem dX5_findRush_81 : decode cX5_findRush 81 = .ok (.pop, 1) := by decide +kernel
theorem dX5_findRush_82 : decode cX5_findRush 82 = .ok (.iload_n 3, 1) := by decide +kernel
theorem dX5_findRush_83 : decode cX5_findRush 83 = .ok (.ifCond .eq 19, 3) := by decide +kernel
theorem dX5_findRush_86 : decode cX5_findRush 86 = .ok (.aload_n 0, 1) := by decide +kernel
theorem dX5_findRush_87 : decode cX5_findRush 87 = .ok (.getfield 12, 3) := by decide +kernel
theorem dX5_findRush_90 : decode cX5_findRush 90 = .ok (.iload 4, 2) := by decide +kernel
theorem dX5_findRush_92 : decode cX5_findRush 92 = .ok (.invokevirtual 116, 3) := by decide +kernel
theorem dX5_findRush_95 : decode cX5_findRush 95 = .ok (.ifCond .eq 7, 3) := by decide +kernel
theorem dX5_findRush_98 : decode cX5_findRush 98 = .ok (.iconst 1, 1) := by decide +kernel
theorem dX5_findRush_99 : decode cX5_findRush 99 = .ok (.goto 4, 3) := by decide +kernel
theorem dX5_findRush_102 : decode cX5_findRush 102 = .ok (.iconst 0, 1) := by decide +kernel
theorem dX5_findRush_103 : decode cX5_findRush 103 = .ok (.istore_n 3, 1) := by decide +kernel
theorem dX5_findRush_104 : decode cX5_findRush 104 = .ok (.iinc 4 1, 3) := by decide +kernel
theorem dX5_findRush_107 : decode cX5_findRush 107 = .ok (.goto (-68), 3) := by decide +kernel
theorem dX5_findRush_110 : decode cX5_findRush 110 = .ok (.aload_n 0, 1) := by decide +kernel
theorem dX5_findRush_111 : decode cX5_findRush 111 = .ok (.aload_n 0, 1) := by decide +kernel
theorem dX5_findRush_112 : decode cX5_findRush 112 = .ok (.getfield 22, 3) := by decide +kernel
theorem dX5_findRush_115 : decode cX5_findRush 115 = .ok (.aload_n 0, 1) := by decide +kernel
theorem dX5_findRush_116 : decode cX5_findRush 116 = .ok (.getfield 12, 3) := by decide +kernel
theorem dX5_findRush_119 : decode cX5_findRush 119 = .ok (.iconst 1, 1) := by decide +kernel
theorem dX5_findRush_120 : decode cX5_findRush 120 = .ok (.invokevirtual 96, 3) := by decide +kernel
theorem dX5_findRush_123 : decode cX5_findRush 123 = .ok (.invokestatic 125, 3) := by decide +kernel
theorem dX5_findRush_126 : decode cX5_findRush 126 = .ok (.invokestatic 104, 3) := by decide +kernel
theorem dX5_findRush_129 : decode cX5_findRush 129 = .ok (.putfield 22, 3) := by decide +kernel
theorem dX5_findRush_132 : decode cX5_findRush 132 = .ok (.iload_n 3, 1) := by decide +kernel
theorem dX5_findRush_133 : decode cX5_findRush 133 = .ok (.ifCond .eq 5, 3) := by decide +kernel
theorem dX5_findRush_136 : decode cX5_findRush 136 = .ok (.iload_n 2, 1) := by decide +kernel
theorem dX5_findRush_137 : decode cX5_findRush 137 = .ok (.ireturn, 1) := by decide +kernel
theorem dX5_findRush_138 : decode cX5_findRush 138 = .ok (.aload_n 0, 1) := by decide +kernel
theorem dX5_findRush_139 : decode cX5_findRush 139 = .ok (.getfield 12, 3) := by decide +kernel
theorem dX5_findRush_142 : decode cX5_findRush 142 = .ok (.invokevirtual 130, 3) := by decide +kernel
theorem dX5_findRush_145 : decode cX5_findRush 145 = .ok (.iinc 2 1, 3) := by decide +kernel
theorem dX5_findRush_148 : decode cX5_findRush 148 = .ok (.goto (-133), 3) := by decide +kernel
theorem dX5_findRush_151 : decode cX5_findRush 151 = .ok (.iconst (-1), 1) := by decide +kernel
theorem dX5_findRush_152 : decode cX5_findRush 152 = .ok (.ireturn, 1) := by decide +kernel
theorem bX5_findRush_0 {G : Gt} {d bc bs : Nat} {Q : QT} {l : Ls} {z : List Value} {h : Hp} (k : (tAld 0 (tGetf 4 1 (tAld 1 (tCV1 G d 0 0 9 mX11_copyFrom (fun l z h => T G d bc bs mX5_findRush 8 l z h Q))))) l z h) : T G d bc bs mX5_findRush 0 l z h Q := by
  refine R_aload_n dX5_findRush_0 rfl (fun l z h k => ?_) k
  refine R_getf (ci := 4) (f := 1) (C := RX5) (N := 8) (Tt := TX5) dX5_findRush_1 rfl i_X5 (by decide) w_438 (fun l z h k => ?_) k
  refine R_aload_n dX5_findRush_4 rfl (fun l z h k => ?_) k
  exact R_cv1 (M := mX5_findRush) (pc := 5) (bc := bc) (bs := bs) (cb := 0) (cs := 0) (M' := mX11_copyFrom) dX5_findRush_5 rfl (by decide) w_787 w_136 w_1022 w_785 w_786 (by decide +kernel) (fun _ _ _ k => k) k
theorem bX5_findRush_8 {G : Gt} {d bc bs : Nat} {Q : QT} {l : Ls} {z : List Value} {h : Hp} (k : (tAld 0 (tPush (.int 0) (tPutf isI 4 3 (tPush (.int 0) (tIst 2 ((fun l z h => T G d bc bs mX5_findRush 15 l z h Q))))))) l z h) : T G d bc bs mX5_findRush 8 l z h Q := by
  refine R_aload_n dX5_findRush_8 rfl (fun l z h k => ?_) k
  refine R_iconst dX5_findRush_9 (by decide) (fun l z h k => ?_) k
  refine R_putf (ci := 4) (f := 3) (C := RX5) (N := 8) (Tt := TX5) tyX5 tyX5_ok nmX5 dX5_findRush_10 rfl i_X5 (by decide) w_441 rfl (tyX5_ok 3 (by decide)) p_int (fun l z h k => ?_) k
  refine R_iconst dX5_findRush_13 (by decide) (fun l z h k => ?_) k
  refine R_istore_n dX5_findRush_14 rfl (by decide) (fun l z h k => ?_) k
  exact k
theorem bX5_findRush_15 {G : Gt} {d bc bs : Nat} {Q : QT} {l : Ls} {z : List Value} {h : Hp} (k : (tIld 2 (tPush (.int 100) (tIf2 (fun x y => y < x) (fun l z h => T G d bc bs mX5_findRush 151 l z h Q) (fun l z h => T G d bc bs mX5_findRush 21 l z h Q)))) l z h) : T G d bc bs mX5_findRush 15 l z h Q := by
  refine R_iload_n dX5_findRush_15 rfl (fun l z h k => ?_) k
  refine R_bipush dX5_findRush_16 (by decide) (fun l z h k => ?_) k
  exact R_icmp_gt dX5_findRush_18 (by decide) (fun _ _ _ k => k) (fun _ _ _ k => k) k
theorem bX5_findRush_21 {G : Gt} {d bc bs : Nat} {Q : QT} {l : Ls} {z : List Value} {h : Hp} (k : (tAld 0 (tGetf 4 1 (tGetf 9 2 (tPush (.int 400) (tIf2 (fun x y => y ≤ x) (fun l z h => T G d bc bs mX5_findRush 151 l z h Q) (fun l z h => T G d bc bs mX5_findRush 34 l z h Q)))))) l z h) : T G d bc bs mX5_findRush 21 l z h Q := by
  refine R_aload_n dX5_findRush_21 rfl (fun l z h k => ?_) k
  refine R_getf (ci := 4) (f := 1) (C := RX5) (N := 8) (Tt := TX5) dX5_findRush_22 rfl i_X5 (by decide) w_438 (fun l z h k => ?_) k
  refine R_getf (ci := 9) (f := 2) (C := RX11) (N := 14) (Tt := TX11) dX5_findRush_25 rfl i_X11 (by decide) w_260 (fun l z h k => ?_) k
  refine R_sipush dX5_findRush_28 (by decide) (fun l z h k => ?_) k
  exact R_icmp_ge dX5_findRush_31 (by decide) (fun _ _ _ k => k) (fun _ _ _ k => k) k
theorem bX5_findRush_34 {G : Gt} {d bc bs : Nat} {Q : QT} {l : Ls} {z : List Value} {h : Hp} (k : (tPush (.int 1) (tIst 3 (tPush (.int 0) (tIst 4 ((fun l z h => T G d bc bs mX5_findRush 39 l z h Q)))))) l z h) : T G d bc bs mX5_findRush 34 l z h Q := by
  refine R_iconst dX5_findRush_34 (by decide) (fun l z h k => ?_) k
  refine R_istore_n dX5_findRush_35 rfl (by decide) (fun l z h k => ?_) k
  refine R_iconst dX5_findRush_36 (by decide) (fun l z h k => ?_) k
  refine R_istore dX5_findRush_37 (by decide) (fun l z h k => ?_) k
  exact k
theorem bX5_findRush_39 {G : Gt} {d bc bs : Nat} {Q : QT} {l : Ls} {z : List Value} {h : Hp} (k : (tIld 4 (tAld 0 (tGetf 4 1 (tGetf 9 1 (tIf2 (fun x y => y ≤ x) (fun l z h => T G d bc bs mX5_findRush 110 l z h Q) (fun l z h => T G d bc bs mX5_findRush 51 l z h Q)))))) l z h) : T G d bc bs mX5_findRush 39 l z h Q := by
  refine R_iload dX5_findRush_39 (fun l z h k => ?_) k
  refine R_aload_n dX5_findRush_41 rfl (fun l z h k => ?_) k
  refine R_getf (ci := 4) (f := 1) (C := RX5) (N := 8) (Tt := TX5) dX5_findRush_42 rfl i_X5 (by decide) w_438 (fun l z h k => ?_) k
  refine R_getf (ci := 9) (f := 1) (C := RX11) (N := 14) (Tt := TX11) dX5_findRush_45 rfl i_X11 (by decide) w_254 (fun l z h k => ?_) k
  exact R_icmp_ge dX5_findRush_48 (by decide) (fun _ _ _ k => k) (fun _ _ _ k => k) k
theorem bX5_findRush_51 {G : Gt} {d bc bs : Nat} {Q : QT} {l : Ls} {z : List Value} {h : Hp} (k : (tAld 0 (tGetf 4 1 (tIld 4 (tCV1 G d 0 0 9 mX11_isAtWanted (fun l z h => T G d bc bs mX5_findRush 60 l z h Q))))) l z h) : T G d bc bs mX5_findRush 51 l z h Q := by
  refine R_aload_n dX5_findRush_51 rfl (fun l z h k => ?_) k
  refine R_getf (ci := 4) (f := 1) (C := RX5) (N := 8) (Tt := TX5) dX5_findRush_52 rfl i_X5 (by decide) w_438 (fun l z h k => ?_) k
  refine R_iload dX5_findRush_55 (fun l z h k => ?_) k
  exact R_cv1 (M := mX5_findRush) (pc := 57) (bc := bc) (bs := bs) (cb := 0) (cs := 0) (M' := mX11_isAtWanted) dX5_findRush_57 rfl (by decide) w_1139 w_136 w_1136 w_1137 w_1138 (by decide +kernel) (fun _ _ _ k => k) k
theorem bX5_findRush_60 {G : Gt} {d bc bs : Nat} {Q : QT} {l : Ls} {z : List Value} {h : Hp} (k : (tIf (fun x => x = 0) (fun l z h => T G d bc bs mX5_findRush 63 l z h Q) (fun l z h => T G d bc bs mX5_findRush 82 l z h Q)) l z h) : T G d bc bs mX5_findRush 60 l z h Q := by
  exact R_if_ne dX5_findRush_60 (by decide) (fun _ _ _ k => k) (fun _ _ _ k => k) k
theorem bX5_findRush_63 {G : Gt} {d bc bs : Nat} {Q : QT} {l : Ls} {z : List Value} {h : Hp} (k : (tAld 0 (tGetf 4 1 (tIld 4 (tAld 0 (tGetf 4 1 (tIld 4 (tCV1 G d 0 0 9 mX11_placeTowardsWanted (fun l z h => T G d bc bs mX5_findRush 78 l z h Q)))))))) l z h) : T G d bc bs mX5_findRush 63 l z h Q := by
  refine R_aload_n dX5_findRush_63 rfl (fun l z h k => ?_) k
  refine R_getf (ci := 4) (f := 1) (C := RX5) (N := 8) (Tt := TX5) dX5_findRush_64 rfl i_X5 (by decide) w_438 (fun l z h k => ?_) k
  refine R_iload dX5_findRush_67 (fun l z h k => ?_) k
  refine R_aload_n dX5_findRush_69 rfl (fun l z h k => ?_) k
  refine R_getf (ci := 4) (f := 1) (C := RX5) (N := 8) (Tt := TX5) dX5_findRush_70 rfl i_X5 (by decide) w_438 (fun l z h k => ?_) k
  refine R_iload dX5_findRush_73 (fun l z h k => ?_) k
  exact R_cv1 (M := mX5_findRush) (pc := 75) (bc := bc) (bs := bs) (cb := 0) (cs := 0) (M' := mX11_placeTowardsWanted) dX5_findRush_75 rfl (by decide) w_991 w_136 w_1143 w_989 w_990 (by decide +kernel) (fun _ _ _ k => k) k
theorem bX5_findRush_78 {G : Gt} {d bc bs : Nat} {Q : QT} {l : Ls} {z : List Value} {h : Hp} (k : (tCV2 G d 0 0 9 mX11_walk (fun l z h => T G d bc bs mX5_findRush 81 l z h Q)) l z h) : T G d bc bs mX5_findRush 78 l z h Q := by
  exact R_cv2 (M := mX5_findRush) (pc := 78) (bc := bc) (bs := bs) (cb := 0) (cs := 0) (M' := mX11_walk) dX5_findRush_78 rfl (by decide) w_882 w_136 w_1144 w_880 w_881 (by decide +kernel) (fun _ _ _ k => k) k
theorem bX5_findRush_81 {G : Gt} {d bc bs : Nat} {Q : QT} {l : Ls} {z : List Value} {h : Hp} (k : (tPop ((fun l z h => T G d bc bs mX5_findRush 82 l z h Q))) l z h) : T G d bc bs mX5_findRush 81 l z h Q := by
  refine R_pop dX5_findRush_81 (fun l z h k => ?_) k
  exact k
theorem bX5_findRush_82 {G : Gt} {d bc bs : Nat} {Q : QT} {l : Ls} {z : List Value} {h : Hp} (k : (tIld 3 (tIf (fun x => x = 0) (fun l z h => T G d bc bs mX5_findRush 102 l z h Q) (fun l z h => T G d bc bs mX5_findRush 86 l z h Q))) l z h) : T G d bc bs mX5_findRush 82 l z h Q := by
  refine R_iload_n dX5_findRush_82 rfl (fun l z h k => ?_) k
  exact R_if_eq dX5_findRush_83 (by decide) (fun _ _ _ k => k) (fun _ _ _ k => k) k
theorem bX5_findRush_86 {G : Gt} {d bc bs : Nat} {Q : QT} {l : Ls} {z : List Value} {h : Hp} (k : (tAld 0 (tGetf 4 1 (tIld 4 (tCV1 G d 0 0 9 mX11_isAtWanted (fun l z h => T G d bc bs mX5_findRush 95 l z h Q))))) l z h) : T G d bc bs mX5_findRush 86 l z h Q := by
  refine R_aload_n dX5_findRush_86 rfl (fun l z h k => ?_) k
  refine R_getf (ci := 4) (f := 1) (C := RX5) (N := 8) (Tt := TX5) dX5_findRush_87 rfl i_X5 (by decide) w_438 (fun l z h k => ?_) k
  refine R_iload dX5_findRush_90 (fun l z h k => ?_) k
  exact R_cv1 (M := mX5_findRush) (pc := 92) (bc := bc) (bs := bs) (cb := 0) (cs := 0) (M' := mX11_isAtWanted) dX5_findRush_92 rfl (by decide) w_1139 w_136 w_1136 w_1137 w_1138 (by decide +kernel) (fun _ _ _ k => k) k
theorem bX5_findRush_95 {G : Gt} {d bc bs : Nat} {Q : QT} {l : Ls} {z : List Value} {h : Hp} (k : (tIf (fun x => x = 0) (fun l z h => T G d bc bs mX5_findRush 102 l z h Q) (fun l z h => T G d bc bs mX5_findRush 98 l z h Q)) l z h) : T G d bc bs mX5_findRush 95 l z h Q := by
  exact R_if_eq dX5_findRush_95 (by decide) (fun _ _ _ k => k) (fun _ _ _ k => k) k
theorem bX5_findRush_98 {G : Gt} {d bc bs : Nat} {Q : QT} {l : Ls} {z : List Value} {h : Hp} (k : (tPush (.int 1) ((fun l z h => T G d bc bs mX5_findRush 103 l z h Q))) l z h) : T G d bc bs mX5_findRush 98 l z h Q := by
  refine R_iconst dX5_findRush_98 (by decide) (fun l z h k => ?_) k
  exact R_goto dX5_findRush_99 (by decide) (fun _ _ _ k => k) k
theorem bX5_findRush_102 {G : Gt} {d bc bs : Nat} {Q : QT} {l : Ls} {z : List Value} {h : Hp} (k : (tPush (.int 0) ((fun l z h => T G d bc bs mX5_findRush 103 l z h Q))) l z h) : T G d bc bs mX5_findRush 102 l z h Q := by
  refine R_iconst dX5_findRush_102 (by decide) (fun l z h k => ?_) k
  exact k
theorem bX5_findRush_103 {G : Gt} {d bc bs : Nat} {Q : QT} {l : Ls} {z : List Value} {h : Hp} (k : (tIst 3 (tInc 4 1 ((fun l z h => T G d bc bs mX5_findRush 39 l z h Q)))) l z h) : T G d bc bs mX5_findRush 103 l z h Q := by
  refine R_istore_n dX5_findRush_103 rfl (by decide) (fun l z h k => ?_) k
  refine R_iinc dX5_findRush_104 (by decide) (by decide) (fun l z h k => ?_) k
  exact R_goto dX5_findRush_107 (by decide) (fun _ _ _ k => k) k
theorem bX5_findRush_110 {G : Gt} {d bc bs : Nat} {Q : QT} {l : Ls} {z : List Value} {h : Hp} (k : (tAld 0 (tAld 0 (tGetf 4 3 (tAld 0 (tGetf 4 1 (tPush (.int 1) (tCV1 G d 0 0 9 mX11_whoIsAt (fun l z h => T G d bc bs mX5_findRush 123 l z h Q)))))))) l z h) : T G d bc bs mX5_findRush 110 l z h Q := by
  refine R_aload_n dX5_findRush_110 rfl (fun l z h k => ?_) k
  refine R_aload_n dX5_findRush_111 rfl (fun l z h k => ?_) k
  refine R_getf (ci := 4) (f := 3) (C := RX5) (N := 8) (Tt := TX5) dX5_findRush_112 rfl i_X5 (by decide) w_441 (fun l z h k => ?_) k
  refine R_aload_n dX5_findRush_115 rfl (fun l z h k => ?_) k
  refine R_getf (ci := 4) (f := 1) (C := RX5) (N := 8) (Tt := TX5) dX5_findRush_116 rfl i_X5 (by decide) w_438 (fun l z h k => ?_) k
  refine R_iconst dX5_findRush_119 (by decide) (fun l z h k => ?_) k
  exact R_cv1 (M := mX5_findRush) (pc := 120) (bc := bc) (bs := bs) (cb := 0) (cs := 0) (M' := mX11_whoIsAt) dX5_findRush_120 rfl (by decide) w_840 w_136 w_1055 w_838 w_839 (by decide +kernel) (fun _ _ _ k => k) k
theorem bX5_findRush_123 {G : Gt} {d bc bs : Nat} {Q : QT} {l : Ls} {z : List Value} {h : Hp} (k : (tCS1 G d 0 0 mJ6_bitCount_0f7a4 (fun l z h => T G d bc bs mX5_findRush 126 l z h Q)) l z h) : T G d bc bs mX5_findRush 123 l z h Q := by
  exact R_cs1 (M := mX5_findRush) (pc := 123) (bc := bc) (bs := bs) (cb := 0) (cs := 0) (M' := mJ6_bitCount_0f7a4) dX5_findRush_123 (by decide) w_1099 w_155 w_1145 w_1098 (by decide +kernel) (fun _ _ _ k => k) k
theorem bX5_findRush_126 {G : Gt} {d bc bs : Nat} {Q : QT} {l : Ls} {z : List Value} {h : Hp} (hd1 : 1 ≤ d) (k : (tMax ((fun l z h => T G d bc bs mX5_findRush 129 l z h Q))) l z h) : T G d bc bs mX5_findRush 126 l z h Q := by
  refine R_mmax dX5_findRush_126 hd1 w_1054 (fun l z h k => ?_) k
  exact k
theorem bX5_findRush_129 {G : Gt} {d bc bs : Nat} {Q : QT} {l : Ls} {z : List Value} {h : Hp} (k : (tPutf isI 4 3 (tIld 3 (tIf (fun x => x = 0) (fun l z h => T G d bc bs mX5_findRush 138 l z h Q) (fun l z h => T G d bc bs mX5_findRush 136 l z h Q)))) l z h) : T G d bc bs mX5_findRush 129 l z h Q := by
  refine R_putf (ci := 4) (f := 3) (C := RX5) (N := 8) (Tt := TX5) tyX5 tyX5_ok nmX5 dX5_findRush_129 rfl i_X5 (by decide) w_441 rfl (tyX5_ok 3 (by decide)) p_int (fun l z h k => ?_) k
  refine R_iload_n dX5_findRush_132 rfl (fun l z h k => ?_) k
  exact R_if_eq dX5_findRush_133 (by decide) (fun _ _ _ k => k) (fun _ _ _ k => k) k
theorem bX5_findRush_136 {G : Gt} {d bc bs : Nat} {Q : QT} {l : Ls} {z : List Value} {h : Hp} (k : (tIld 2 (tRetI Q)) l z h) : T G d bc bs mX5_findRush 136 l z h Q := by
  refine R_iload_n dX5_findRush_136 rfl (fun l z h k => ?_) k
  exact R_iret dX5_findRush_137 rfl k
theorem bX5_findRush_138 {G : Gt} {d bc bs : Nat} {Q : QT} {l : Ls} {z : List Value} {h : Hp} (k : (tAld 0 (tGetf 4 1 (tCV0 G d 0 0 9 mX11_liveDay (fun l z h => T G d bc bs mX5_findRush 145 l z h Q)))) l z h) : T G d bc bs mX5_findRush 138 l z h Q := by
  refine R_aload_n dX5_findRush_138 rfl (fun l z h k => ?_) k
  refine R_getf (ci := 4) (f := 1) (C := RX5) (N := 8) (Tt := TX5) dX5_findRush_139 rfl i_X5 (by decide) w_438 (fun l z h k => ?_) k
  exact R_cv0 (M := mX5_findRush) (pc := 142) (bc := bc) (bs := bs) (cb := 0) (cs := 0) (M' := mX11_liveDay) dX5_findRush_142 rfl (by decide) w_951 w_136 w_1146 w_949 w_950 (by decide +kernel) (fun _ _ _ k => k) k
theorem bX5_findRush_145 {G : Gt} {d bc bs : Nat} {Q : QT} {l : Ls} {z : List Value} {h : Hp} (k : (tInc 2 1 ((fun l z h => T G d bc bs mX5_findRush 15 l z h Q))) l z h) : T G d bc bs mX5_findRush 145 l z h Q := by
  refine R_iinc dX5_findRush_145 (by decide) (by decide) (fun l z h k => ?_) k
  exact R_goto dX5_findRush_148 (by decide) (fun _ _ _ k => k) k
theorem bX5_findRush_151 {G : Gt} {d bc bs : Nat} {Q : QT} {l : Ls} {z : List Value} {h : Hp} (k : (tPush (.int (-1)) (tRetI Q)) l z h) : T G d bc bs mX5_findRush 151 l z h Q := by
  refine R_iconst dX5_findRush_151 (by decide) (fun l z h k => ?_) k
  exact R_iret dX5_findRush_152 rfl k
theorem dX5_timesAtWanted_0 : decode cX5_timesAtWanted 0 = .ok (.iconst 0, 1) := by decide +kernel
theorem dX5_timesAtWanted_1 : decode cX5_timesAtWanted 1 = .ok (.istore 5, 2) := by decide +kernel
theorem dX5_timesAtWanted_3 : decode cX5_timesAtWanted 3 = .ok (.iconst 0, 1) := by decide +kernel
theorem dX5_timesAtWanted_4 : decode cX5_timesAtWanted 4 = .ok (.istore 6, 2) := by decide +kernel
theorem dX5_timesAtWanted_6 : decode cX5_timesAtWanted 6 = .ok (.iload 6, 2) := by decide +kernel
theorem dX5_timesAtWanted_8 : decode cX5_timesAtWanted 8 = .ok (.iload_n 3, 1) := by decide +kernel
theorem dX5_timesAtWanted_9 : decode cX5_timesAtWanted 9 = .ok (.if_icmp .ge 57, 3) := by decide +kernel
theorem dX5_timesAtWanted_12 : decode cX5_timesAtWanted 12 = .ok (.aload_n 0, 1) := by decide +kernel
theorem dX5_timesAtWanted_13 : decode cX5_timesAtWanted 13 = .ok (.getfield 12, 3) := by decide +kernel
theorem dX5_timesAtWanted_16 : decode cX5_timesAtWanted 16 = .ok (.aload_n 1, 1) := by decide +kernel
theorem dX5_timesAtWanted_17 : decode cX5_timesAtWanted 17 = .ok (.invokevirtual 47, 3) := by decide +kernel
theorem dX5_timesAtWanted_20 : decode cX5_timesAtWanted 20 = .ok (.aload_n 0, 1) := by decide +kernel
theorem dX5_timesAtWanted_21 : decode cX5_timesAtWanted 21 = .ok (.getfield 37, 3) := by decide +kernel
theorem dX5_timesAtWanted_24 : decode cX5_timesAtWanted 24 = .ok (.iload 4, 2) := by decide +kernel
theorem dX5_timesAtWanted_26 : decode cX5_timesAtWanted 26 = .ok (.iload 6, 2) := by decide +kernel
theorem dX5_timesAtWanted_28 : decode cX5_timesAtWanted 28 = .ok (.iadd, 1) := by decide +kernel
theorem dX5_timesAtWanted_29 : decode cX5_timesAtWanted 29 = .ok (.invokevirtual 133, 3) := by decide +kernel
theorem dX5_timesAtWanted_32 : decode cX5_timesAtWanted 32 = .ok (.aload_n 0, 1) := by decide +kernel
theorem dX5_timesAtWanted_33 : decode cX5_timesAtWanted 33 = .ok (.getfield 37, 3) := by decide +kernel
theorem dX5_timesAtWanted_36 : decode cX5_timesAtWanted 36 = .ok (.aload_n 0, 1) := by decide +kernel
theorem dX5_timesAtWanted_37 : decode cX5_timesAtWanted 37 = .ok (.getfield 12, 3) := by decide +kernel
theorem dX5_timesAtWanted_40 : decode cX5_timesAtWanted 40 = .ok (.bipush 20, 2) := by decide +kernel
theorem dX5_timesAtWanted_42 : decode cX5_timesAtWanted 42 = .ok (.invokevirtual 138, 3) := by decide +kernel
theorem dX5_timesAtWanted_45 : decode cX5_timesAtWanted 45 = .ok (.pop, 1) := by decide +kernel
theorem dX5_timesAtWanted_46 : decode cX5_timesAtWanted 46 = .ok (.aload_n 0, 1) := by decide +kernel
theorem dX5_timesAtWanted_47 : decode cX5_timesAtWanted 47 = .ok (.getfield 12, 3) := by decide +kernel
theorem dX5_timesAtWanted_50 : decode cX5_timesAtWanted 50 = .ok (.iload_n 2, 1) := by decide +kernel
theorem dX5_timesAtWanted_51 : decode cX5_timesAtWanted 51 = .ok (.invokevirtual 116, 3) := by decide +kernel
theorem dX5_timesAtWanted_54 : decode cX5_timesAtWanted 54 = .ok (.ifCond .eq 6, 3) := by decide +kernel
theorem dX5_timesAtWanted_57 : decode cX5_timesAtWanted 57 = .ok (.iinc 5 1, 3) := by decide +kernel
theorem dX5_timesAtWanted_60 : decode cX5_timesAtWanted 60 = .ok (.iinc 6 1, 3) := by decide +kernel
theorem dX5_timesAtWanted_63 : decode cX5_timesAtWanted 63 = .ok (.goto (-57), 3) := by decide +kernel
theorem dX5_timesAtWanted_66 : decode cX5_timesAtWanted 66 = .ok (.iload 5, 2) := by decide +kernel
theorem dX5_timesAtWanted_68 : decode cX5_timesAtWanted 68 = .ok (.ireturn, 1) := by decide +kernel
theorem bX5_timesAtWanted_0 {G : Gt} {d bc bs : Nat} {Q : QT} {l : Ls} {z : List Value} {h : Hp} (k : (tPush (.int 0) (tIst 5 (tPush (.int 0) (tIst 6 ((fun l z h => T G d bc bs mX5_timesAtWanted 6 l z h Q)))))) l z h) : T G d bc bs mX5_timesAtWanted 0 l z h Q := by
  refine R_iconst dX5_timesAtWanted_0 (by decide) (fun l z h k => ?_) k
  refine R_istore dX5_timesAtWanted_1 (by decide) (fun l z h k => ?_) k
  refine R_iconst dX5_timesAtWanted_3 (by decide) (fun l z h k => ?_) k
  refine R_istore dX5_timesAtWanted_4 (by decide) (fun l z h k => ?_) k
  exact k
theorem bX5_timesAtWanted_6 {G : Gt} {d bc bs : Nat} {Q : QT} {l : Ls} {z : List Value} {h : Hp} (k : (tIld 6 (tIld 3 (tIf2 (fun x y => y ≤ x) (fun l z h => T G d bc bs mX5_timesAtWanted 66 l z h Q) (fun l z h => T G d bc bs mX5_timesAtWanted 12 l z h Q)))) l z h) : T G d bc bs mX5_timesAtWanted 6 l z h Q := by
  refine R_iload dX5_timesAtWanted_6 (fun l z h k => ?_) k
  refine R_iload_n dX5_timesAtWanted_8 rfl (fun l z h k => ?_) k
  exact R_icmp_ge dX5_timesAtWanted_9 (by decide) (fun _ _ _ k => k) (fun _ _ _ k => k) k
theorem bX5_timesAtWanted_12 {G : Gt} {d bc bs : Nat} {Q : QT} {l : Ls} {z : List Value} {h : Hp} (k : (tAld 0 (tGetf 4 1 (tAld 1 (tCV1 G d 0 0 9 mX11_copyFrom (fun l z h => T G d bc bs mX5_timesAtWanted 20 l z h Q))))) l z h) : T G d bc bs mX5_timesAtWanted 12 l z h Q := by
  refine R_aload_n dX5_timesAtWanted_12 rfl (fun l z h k => ?_) k
  refine R_getf (ci := 4) (f := 1) (C := RX5) (N := 8) (Tt := TX5) dX5_timesAtWanted_13 rfl i_X5 (by decide) w_438 (fun l z h k => ?_) k
  refine R_aload_n dX5_timesAtWanted_16 rfl (fun l z h k => ?_) k
  exact R_cv1 (M := mX5_timesAtWanted) (pc := 17) (bc := bc) (bs := bs) (cb := 0) (cs := 0) (M' := mX11_copyFrom) dX5_timesAtWanted_17 rfl (by decide) w_787 w_136 w_1022 w_785 w_786 (by decide +kernel) (fun _ _ _ k => k) k
theorem bX5_timesAtWanted_20 {G : Gt} {d bc bs : Nat} {Q : QT} {l : Ls} {z : List Value} {h : Hp} (k : (tAld 0 (tGetf 4 0 (tIld 4 (tIld 6 (tB (fun x y => x + y) (tCV1 G d 0 0 2 mX3_begin (fun l z h => T G d bc bs mX5_timesAtWanted 32 l z h Q))))))) l z h) : T G d bc bs mX5_timesAtWanted 20 l z h Q := by
  refine R_aload_n dX5_timesAtWanted_20 rfl (fun l z h k => ?_) k
  refine R_getf (ci := 4) (f := 0) (C := RX5) (N := 8) (Tt := TX5) dX5_timesAtWanted_21 rfl i_X5 (by decide) w_437 (fun l z h k => ?_) k
  refine R_iload dX5_timesAtWanted_24 (fun l z h k => ?_) k
  refine R_iload dX5_timesAtWanted_26 (fun l z h k => ?_) k
  refine R_iadd dX5_timesAtWanted_28 (fun l z h k => ?_) k
  exact R_cv1 (M := mX5_timesAtWanted) (pc := 29) (bc := bc) (bs := bs) (cb := 0) (cs := 0) (M' := mX3_begin) dX5_timesAtWanted_29 rfl (by decide) w_972 w_141 w_1167 w_970 w_971 (by decide +kernel) (fun _ _ _ k => k) k
theorem bX5_timesAtWanted_32 {G : Gt} {d bc bs : Nat} {Q : QT} {l : Ls} {z : List Value} {h : Hp} (k : (tAld 0 (tGetf 4 0 (tAld 0 (tGetf 4 1 (tPush (.int 20) (tCV2 G d 0 0 2 mX3_liveDays (fun l z h => T G d bc bs mX5_timesAtWanted 45 l z h Q))))))) l z h) : T G d bc bs mX5_timesAtWanted 32 l z h Q := by
  refine R_aload_n dX5_timesAtWanted_32 rfl (fun l z h k => ?_) k
  refine R_getf (ci := 4) (f := 0) (C := RX5) (N := 8) (Tt := TX5) dX5_timesAtWanted_33 rfl i_X5 (by decide) w_437 (fun l z h k => ?_) k
  refine R_aload_n dX5_timesAtWanted_36 rfl (fun l z h k => ?_) k
  refine R_getf (ci := 4) (f := 1) (C := RX5) (N := 8) (Tt := TX5) dX5_timesAtWanted_37 rfl i_X5 (by decide) w_438 (fun l z h k => ?_) k
  refine R_bipush dX5_timesAtWanted_40 (by decide) (fun l z h k => ?_) k
  exact R_cv2 (M := mX5_timesAtWanted) (pc := 42) (bc := bc) (bs := bs) (cb := 0) (cs := 0) (M' := mX3_liveDays) dX5_timesAtWanted_42 rfl (by decide) w_976 w_141 w_1168 w_974 w_975 (by decide +kernel) (fun _ _ _ k => k) k
theorem bX5_timesAtWanted_45 {G : Gt} {d bc bs : Nat} {Q : QT} {l : Ls} {z : List Value} {h : Hp} (k : (tPop (tAld 0 (tGetf 4 1 (tIld 2 (tCV1 G d 0 0 9 mX11_isAtWanted (fun l z h => T G d bc bs mX5_timesAtWanted 54 l z h Q)))))) l z h) : T G d bc bs mX5_timesAtWanted 45 l z h Q := by
  refine R_pop dX5_timesAtWanted_45 (fun l z h k => ?_) k
  refine R_aload_n dX5_timesAtWanted_46 rfl (fun l z h k => ?_) k
  refine R_getf (ci := 4) (f := 1) (C := RX5) (N := 8) (Tt := TX5) dX5_timesAtWanted_47 rfl i_X5 (by decide) w_438 (fun l z h k => ?_) k
  refine R_iload_n dX5_timesAtWanted_50 rfl (fun l z h k => ?_) k
  exact R_cv1 (M := mX5_timesAtWanted) (pc := 51) (bc := bc) (bs := bs) (cb := 0) (cs := 0) (M' := mX11_isAtWanted) dX5_timesAtWanted_51 rfl (by decide) w_1139 w_136 w_1136 w_1137 w_1138 (by decide +kernel) (fun _ _ _ k => k) k
theorem bX5_timesAtWanted_54 {G : Gt} {d bc bs : Nat} {Q : QT} {l : Ls} {z : List Value} {h : Hp} (k : (tIf (fun x => x = 0) (fun l z h => T G d bc bs mX5_timesAtWanted 60 l z h Q) (fun l z h => T G d bc bs mX5_timesAtWanted 57 l z h Q)) l z h) : T G d bc bs mX5_timesAtWanted 54 l z h Q := by
  exact R_if_eq dX5_timesAtWanted_54 (by decide) (fun _ _ _ k => k) (fun _ _ _ k => k) k
theorem bX5_timesAtWanted_57 {G : Gt} {d bc bs : Nat} {Q : QT} {l : Ls} {z : List Value} {h : Hp} (k : (tInc 5 1 ((fun l z h => T G d bc bs mX5_timesAtWanted 60 l z h Q))) l z h) : T G d bc bs mX5_timesAtWanted 57 l z h Q := by
  refine R_iinc dX5_timesAtWanted_57 (by decide) (by decide) (fun l z h k => ?_) k
  exact k
theorem bX5_timesAtWanted_60 {G : Gt} {d bc bs : Nat} {Q : QT} {l : Ls} {z : List Value} {h : Hp} (k : (tInc 6 1 ((fun l z h => T G d bc bs mX5_timesAtWanted 6 l z h Q))) l z h) : T G d bc bs mX5_timesAtWanted 60 l z h Q := by
  refine R_iinc dX5_timesAtWanted_60 (by decide) (by decide) (fun l z h k => ?_) k
  exact R_goto dX5_timesAtWanted_63 (by decide) (fun _ _ _ k => k) k
theorem bX5_timesAtWanted_66 {G : Gt} {d bc bs : Nat} {Q : QT} {l : Ls} {z : List Value} {h : Hp} (k : (tIld 5 (tRetI Q)) l z h) : T G d bc bs mX5_timesAtWanted 66 l z h Q := by
  refine R_iload dX5_timesAtWanted_66 (fun l z h k => ?_) k
  exact R_iret dX5_timesAtWanted_68 rfl k
