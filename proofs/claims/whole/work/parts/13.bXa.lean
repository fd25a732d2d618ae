theorem dX2_init_0 : decode cX2_init 0 = .ok (.aload_n 0, 1) := by decide +kernel
theorem dX2_init_1 : decode cX2_init 1 = .ok (.invokespecial 3, 3) := by decide +kernel
theorem dX2_init_4 : decode cX2_init 4 = .ok (.aload_n 0, 1) := by decide +kernel
theorem dX2_init_5 : decode cX2_init 5 = .ok (.new 9, 3) := by decide +kernel
theorem dX2_init_8 : decode cX2_init 8 = .ok (.dup, 1) := by decide +kernel
theorem dX2_init_9 : decode cX2_init 9 = .ok (.invokespecial 11, 3) := by decide +kernel
theorem dX2_init_12 : decode cX2_init 12 = .ok (.putfield 12, 3) := by decide +kernel
theorem dX2_init_15 : decode cX2_init 15 = .ok (.aload_n 0, 1) := by decide +kernel
theorem dX2_init_16 : decode cX2_init 16 = .ok (.aload_n 1, 1) := by decide +kernel
theorem dX2_init_17 : decode cX2_init 17 = .ok (.putfield 18, 3) := by decide +kernel
theorem dX2_init_20 : decode cX2_init 20 = .ok (.return_, 1) := by decide +kernel
theorem bX2_init_0 {G : Gt} {d bc bs : Nat} {Q : QT} {l : Ls} {z : List Value} {h : Hp} (hd1 : 1 ≤ d) (k : (tAld 0 (tObj ((fun l z h => T G d bc bs mX2_init 4 l z h Q)))) l z h) : T G d bc bs mX2_init 0 l z h Q := by
  refine R_aload_n dX2_init_0 rfl (fun l z h k => ?_) k
  refine R_obj dX2_init_1 hd1 w_241 w_163 w_164 (fun l z h k => ?_) k
  exact k
theorem bX2_init_4 {G : Gt} {d bc bs : Nat} {Q : QT} {l : Ls} {z : List Value} {h : Hp} (k : (tAld 0 (tNew 9 [.int 0, .int 0, .int 0, .null, .null, .null, .null, .null, .null, .null, .null, .null, .null, .null] (tDup (tCI0 G d 11 126 mX11_init (fun l z h => T G d bc bs mX2_init 12 l z h Q))))) l z h) : T G d (bc + 11 + 1) (bs + 126 + 14) mX2_init 4 l z h Q := by
  refine R_aload_n dX2_init_4 rfl (fun l z h k => ?_) k
  refine R_new (ci := 9) (C := RX11) (N := 14) (Tt := TX11) (fs := [.int 0, .int 0, .int 0, .null, .null, .null, .null, .null, .null, .null, .null, .null, .null, .null]) tyX11 tyX11_ok dX2_init_5 rfl i_X11 w_242 w_243 w_136 rfl (fun j hj => by rcases (show j = 0 ∨ j = 1 ∨ j = 2 ∨ j = 3 ∨ j = 4 ∨ j = 5 ∨ j = 6 ∨ j = 7 ∨ j = 8 ∨ j = 9 ∨ j = 10 ∨ j = 11 ∨ j = 12 ∨ j = 13 by omega) with rfl | rfl | rfl | rfl | rfl | rfl | rfl | rfl | rfl | rfl | rfl | rfl | rfl | rfl <;> rfl) (fun l z h k => ?_) k
  refine R_dup dX2_init_8 (fun l z h k => ?_) k
  exact R_ciN0 (M := mX2_init) (pc := 9) (bc := bc) (bs := bs) (cb := 11) (cs := 126) (M' := mX11_init) dX2_init_9 (by decide) rfl w_246 w_136 n_244 w_245 rfl (by decide +kernel) (fun _ _ _ k => k) k
theorem bX2_init_12 {G : Gt} {d bc bs : Nat} {Q : QT} {l : Ls} {z : List Value} {h : Hp} (k : (tPutf isA 1 1 (tAld 0 (tAld 1 (tPutf isA 1 0 (tRetV Q))))) l z h) : T G d bc bs mX2_init 12 l z h Q := by
  refine R_putF (ci := 1) (f := 1) (C := RX2) (N := 2) (Tt := TX2) tyX2 tyX2_ok nmX2 dX2_init_12 rfl i_X2 (by decide) w_321 rfl rfl rfl (tyX2_ok 1 (by decide)) (p_ref rfl) (fun l z h k => ?_) k
  refine R_aload_n dX2_init_15 rfl (fun l z h k => ?_) k
  refine R_aload_n dX2_init_16 rfl (fun l z h k => ?_) k
  refine R_putF (ci := 1) (f := 0) (C := RX2) (N := 2) (Tt := TX2) tyX2 tyX2_ok nmX2 dX2_init_17 rfl i_X2 (by decide) w_320 rfl rfl rfl (tyX2_ok 0 (by decide)) (p_ref rfl) (fun l z h k => ?_) k
  exact R_vret dX2_init_20 rfl k
theorem dX2_readLines_0 : decode cX2_readLines 0 = .ok (.aload_n 0, 1) := by decide +kernel
theorem dX2_readLines_1 : decode cX2_readLines 1 = .ok (.getfield 12, 3) := by decide +kernel
theorem dX2_readLines_4 : decode cX2_readLines 4 = .ok (.invokevirtual 22, 3) := by decide +kernel
theorem dX2_readLines_7 : decode cX2_readLines 7 = .ok (.aload_n 0, 1) := by decide +kernel
theorem dX2_readLines_8 : decode cX2_readLines 8 = .ok (.getfield 18, 3) := by decide +kernel
theorem dX2_readLines_11 : decode cX2_readLines 11 = .ok (.sipush 900, 3) := by decide +kernel
theorem dX2_readLines_14 : decode cX2_readLines 14 = .ok (.invokevirtual 25, 3) := by decide +kernel
theorem dX2_readLines_17 : decode cX2_readLines 17 = .ok (.iconst 0, 1) := by decide +kernel
theorem dX2_readLines_18 : decode cX2_readLines 18 = .ok (.istore_n 1, 1) := by decide +kernel
theorem dX2_readLines_19 : decode cX2_readLines 19 = .ok (.iload_n 1, 1) := by decide +kernel
theorem dX2_readLines_20 : decode cX2_readLines 20 = .ok (.sipush 940, 3) := by decide +kernel
theorem dX2_readLines_23 : decode cX2_readLines 23 = .ok (.if_icmp .ge 43, 3) := by decide +kernel
theorem dX2_readLines_26 : decode cX2_readLines 26 = .ok (.aload_n 0, 1) := by decide +kernel
theorem dX2_readLines_27 : decode cX2_readLines 27 = .ok (.getfield 18, 3) := by decide +kernel
theorem dX2_readLines_30 : decode cX2_readLines 30 = .ok (.invokevirtual 33, 3) := by decide +kernel
theorem dX2_readLines_33 : decode cX2_readLines 33 = .ok (.ifCond .eq 33, 3) := by decide +kernel
theorem dX2_readLines_36 : decode cX2_readLines 36 = .ok (.aload_n 0, 1) := by decide +kernel
theorem dX2_readLines_37 : decode cX2_readLines 37 = .ok (.getfield 18, 3) := by decide +kernel
theorem dX2_readLines_40 : decode cX2_readLines 40 = .ok (.getfield 37, 3) := by decide +kernel
theorem dX2_readLines_43 : decode cX2_readLines 43 = .ok (.iconst 1, 1) := by decide +kernel
theorem dX2_readLines_44 : decode cX2_readLines 44 = .ok (.if_icmp .eq 22, 3) := by decide +kernel
theorem dX2_readLines_47 : decode cX2_readLines 47 = .ok (.aload_n 0, 1) := by decide +kernel
theorem dX2_readLines_48 : decode cX2_readLines 48 = .ok (.invokevirtual 41, 3) := by decide +kernel
theorem dX2_readLines_51 : decode cX2_readLines 51 = .ok (.aload_n 0, 1) := by decide +kernel
theorem dX2_readLines_52 : decode cX2_readLines 52 = .ok (.getfield 18, 3) := by decide +kernel
theorem dX2_readLines_55 : decode cX2_readLines 55 = .ok (.bipush 59, 2) := by decide +kernel
theorem dX2_readLines_57 : decode cX2_readLines 57 = .ok (.invokevirtual 44, 3) := by decide +kernel
theorem dX2_readLines_60 : decode cX2_readLines 60 = .ok (.iinc 1 1, 3) := by decide +kernel
theorem dX2_readLines_63 : decode cX2_readLines 63 = .ok (.goto (-44), 3) := by decide +kernel
theorem dX2_readLines_66 : decode cX2_readLines 66 = .ok (.iload_n 1, 1) := by decide +kernel
theorem dX2_readLines_67 : decode cX2_readLines 67 = .ok (.ireturn, 1) := by decide +kernel
theorem bX2_readLines_0 {G : Gt} {d bc bs : Nat} {Q : QT} {l : Ls} {z : List Value} {h : Hp} (k : (tAld 0 (tGetf 1 1 (tCV0 G d 0 0 9 mX11_clear (fun l z h => T G d bc bs mX2_readLines 7 l z h Q)))) l z h) : T G d bc bs mX2_readLines 0 l z h Q := by
  refine R_aload_n dX2_readLines_0 rfl (fun l z h k => ?_) k
  refine R_getf (ci := 1) (f := 1) (C := RX2) (N := 2) (Tt := TX2) dX2_readLines_1 rfl i_X2 (by decide) w_321 (fun l z h k => ?_) k
  exact R_cv0 (M := mX2_readLines) (pc := 4) (bc := bc) (bs := bs) (cb := 0) (cs := 0) (M' := mX11_clear) dX2_readLines_4 rfl (by decide) w_561 w_136 w_558 w_559 w_560 (by decide +kernel) (fun _ _ _ k => k) k
theorem bX2_readLines_7 {G : Gt} {d bc bs : Nat} {Q : QT} {l : Ls} {z : List Value} {h : Hp} (k : (tAld 0 (tGetf 1 0 (tPush (.int 900) (tCV1 G d 0 0 8 mX9_begin (fun l z h => T G d bc bs mX2_readLines 17 l z h Q))))) l z h) : T G d bc bs mX2_readLines 7 l z h Q := by
  refine R_aload_n dX2_readLines_7 rfl (fun l z h k => ?_) k
  refine R_getf (ci := 1) (f := 0) (C := RX2) (N := 2) (Tt := TX2) dX2_readLines_8 rfl i_X2 (by decide) w_320 (fun l z h k => ?_) k
  refine R_sipush dX2_readLines_11 (by decide) (fun l z h k => ?_) k
  exact R_cv1 (M := mX2_readLines) (pc := 14) (bc := bc) (bs := bs) (cb := 0) (cs := 0) (M' := mX9_begin) dX2_readLines_14 rfl (by decide) w_566 w_132 w_563 w_564 w_565 (by decide +kernel) (fun _ _ _ k => k) k
theorem bX2_readLines_17 {G : Gt} {d bc bs : Nat} {Q : QT} {l : Ls} {z : List Value} {h : Hp} (k : (tPush (.int 0) (tIst 1 ((fun l z h => T G d bc bs mX2_readLines 19 l z h Q)))) l z h) : T G d bc bs mX2_readLines 17 l z h Q := by
  refine R_iconst dX2_readLines_17 (by decide) (fun l z h k => ?_) k
  refine R_istore_n dX2_readLines_18 rfl (by decide) (fun l z h k => ?_) k
  exact k
theorem bX2_readLines_19 {G : Gt} {d bc bs : Nat} {Q : QT} {l : Ls} {z : List Value} {h : Hp} (k : (tIld 1 (tPush (.int 940) (tIf2 (fun x y => y ≤ x) (fun l z h => T G d bc bs mX2_readLines 66 l z h Q) (fun l z h => T G d bc bs mX2_readLines 26 l z h Q)))) l z h) : T G d bc bs mX2_readLines 19 l z h Q := by
  refine R_iload_n dX2_readLines_19 rfl (fun l z h k => ?_) k
  refine R_sipush dX2_readLines_20 (by decide) (fun l z h k => ?_) k
  exact R_icmp_ge dX2_readLines_23 (by decide) (fun _ _ _ k => k) (fun _ _ _ k => k) k
theorem bX2_readLines_26 {G : Gt} {d bc bs : Nat} {Q : QT} {l : Ls} {z : List Value} {h : Hp} (k : (tAld 0 (tGetf 1 0 (tCV0 G d 0 0 8 mX9_isSound (fun l z h => T G d bc bs mX2_readLines 33 l z h Q)))) l z h) : T G d bc bs mX2_readLines 26 l z h Q := by
  refine R_aload_n dX2_readLines_26 rfl (fun l z h k => ?_) k
  refine R_getf (ci := 1) (f := 0) (C := RX2) (N := 2) (Tt := TX2) dX2_readLines_27 rfl i_X2 (by decide) w_320 (fun l z h k => ?_) k
  exact R_cv0 (M := mX2_readLines) (pc := 30) (bc := bc) (bs := bs) (cb := 0) (cs := 0) (M' := mX9_isSound) dX2_readLines_30 rfl (by decide) w_656 w_132 w_653 w_654 w_655 (by decide +kernel) (fun _ _ _ k => k) k
theorem bX2_readLines_33 {G : Gt} {d bc bs : Nat} {Q : QT} {l : Ls} {z : List Value} {h : Hp} (k : (tIf (fun x => x = 0) (fun l z h => T G d bc bs mX2_readLines 66 l z h Q) (fun l z h => T G d bc bs mX2_readLines 36 l z h Q)) l z h) : T G d bc bs mX2_readLines 33 l z h Q := by
  exact R_if_eq dX2_readLines_33 (by decide) (fun _ _ _ k => k) (fun _ _ _ k => k) k
theorem bX2_readLines_36 {G : Gt} {d bc bs : Nat} {Q : QT} {l : Ls} {z : List Value} {h : Hp} (k : (tAld 0 (tGetf 1 0 (tGetf 8 7 (tPush (.int 1) (tIf2 (fun x y => x = y) (fun l z h => T G d bc bs mX2_readLines 66 l z h Q) (fun l z h => T G d bc bs mX2_readLines 47 l z h Q)))))) l z h) : T G d bc bs mX2_readLines 36 l z h Q := by
  refine R_aload_n dX2_readLines_36 rfl (fun l z h k => ?_) k
  refine R_getf (ci := 1) (f := 0) (C := RX2) (N := 2) (Tt := TX2) dX2_readLines_37 rfl i_X2 (by decide) w_320 (fun l z h k => ?_) k
  refine R_getf (ci := 8) (f := 7) (C := RX9) (N := 11) (Tt := TX9) dX2_readLines_40 rfl i_X9 (by decide) w_202 (fun l z h k => ?_) k
  refine R_iconst dX2_readLines_43 (by decide) (fun l z h k => ?_) k
  exact R_icmp_eq dX2_readLines_44 (by decide) (fun _ _ _ k => k) (fun _ _ _ k => k) k
theorem bX2_readLines_47 {G : Gt} {d bc bs : Nat} {Q : QT} {l : Ls} {z : List Value} {h : Hp} (k : (tAld 0 (tCV0 G d 0 0 1 mX2_readLine (fun l z h => T G d bc bs mX2_readLines 51 l z h Q))) l z h) : T G d bc bs mX2_readLines 47 l z h Q := by
  refine R_aload_n dX2_readLines_47 rfl (fun l z h k => ?_) k
  exact R_cv0 (M := mX2_readLines) (pc := 48) (bc := bc) (bs := bs) (cb := 0) (cs := 0) (M' := mX2_readLine) dX2_readLines_48 rfl (by decide) w_660 w_135 w_657 w_659 w_4 (by decide +kernel) (fun _ _ _ k => k) k
theorem bX2_readLines_51 {G : Gt} {d bc bs : Nat} {Q : QT} {l : Ls} {z : List Value} {h : Hp} (k : (tAld 0 (tGetf 1 0 (tPush (.int 59) (tCV1 G d 0 0 8 mX9_takeSign (fun l z h => T G d bc bs mX2_readLines 60 l z h Q))))) l z h) : T G d bc bs mX2_readLines 51 l z h Q := by
  refine R_aload_n dX2_readLines_51 rfl (fun l z h k => ?_) k
  refine R_getf (ci := 1) (f := 0) (C := RX2) (N := 2) (Tt := TX2) dX2_readLines_52 rfl i_X2 (by decide) w_320 (fun l z h k => ?_) k
  refine R_bipush dX2_readLines_55 (by decide) (fun l z h k => ?_) k
  exact R_cv1 (M := mX2_readLines) (pc := 57) (bc := bc) (bs := bs) (cb := 0) (cs := 0) (M' := mX9_takeSign) dX2_readLines_57 rfl (by decide) w_775 w_132 w_772 w_773 w_774 (by decide +kernel) (fun _ _ _ k => k) k
theorem bX2_readLines_60 {G : Gt} {d bc bs : Nat} {Q : QT} {l : Ls} {z : List Value} {h : Hp} (k : (tInc 1 1 ((fun l z h => T G d bc bs mX2_readLines 19 l z h Q))) l z h) : T G d bc bs mX2_readLines 60 l z h Q := by
  refine R_iinc dX2_readLines_60 (by decide) (by decide) (fun l z h k => ?_) k
  exact R_goto dX2_readLines_63 (by decide) (fun _ _ _ k => k) k
theorem bX2_readLines_66 {G : Gt} {d bc bs : Nat} {Q : QT} {l : Ls} {z : List Value} {h : Hp} (k : (tIld 1 (tRetI Q)) l z h) : T G d bc bs mX2_readLines 66 l z h Q := by
  refine R_iload_n dX2_readLines_66 rfl (fun l z h k => ?_) k
  exact R_iret dX2_readLines_67 rfl k
theorem dX2_readLine_0 : decode cX2_readLine 0 = .ok (.aload_n 0, 1) := by decide +kernel
theorem dX2_readLine_1 : decode cX2_readLine 1 = .ok (.getfield 18, 3) := by decide +kernel
theorem dX2_readLine_4 : decode cX2_readLine 4 = .ok (.getstatic 47, 3) := by decide +kernel
theorem dX2_readLine_7 : decode cX2_readLine 7 = .ok (.invokevirtual 53, 3) := by decide +kernel
theorem dX2_readLine_10 : decode cX2_readLine 10 = .ok (.ifCond .eq 10, 3) := by decide +kernel
theorem dX2_readLine_13 : decode cX2_readLine 13 = .ok (.aload_n 0, 1) := by decide +kernel
theorem dX2_readLine_14 : decode cX2_readLine 14 = .ok (.invokevirtual 57, 3) := by decide +kernel
theorem dX2_readLine_17 : decode cX2_readLine 17 = .ok (.goto 91, 3) := by decide +kernel
theorem dX2_readLine_20 : decode cX2_readLine 20 = .ok (.aload_n 0, 1) := by decide +kernel
theorem dX2_readLine_21 : decode cX2_readLine 21 = .ok (.getfield 18, 3) := by decide +kernel
theorem dX2_readLine_24 : decode cX2_readLine 24 = .ok (.getstatic 60, 3) := by decide +kernel
theorem dX2_readLine_27 : decode cX2_readLine 27 = .ok (.invokevirtual 53, 3) := by decide +kernel
theorem dX2_readLine_30 : decode cX2_readLine 30 = .ok (.ifCond .eq 10, 3) := by decide +kernel
theorem dX2_readLine_33 : decode cX2_readLine 33 = .ok (.aload_n 0, 1) := by decide +kernel
theorem dX2_readLine_34 : decode cX2_readLine 34 = .ok (.invokevirtual 63, 3) := by decide +kernel
theorem dX2_readLine_37 : decode cX2_readLine 37 = .ok (.goto 71, 3) := by decide +kernel
theorem dX2_readLine_40 : decode cX2_readLine 40 = .ok (.aload_n 0, 1) := by decide +kernel
theorem dX2_readLine_41 : decode cX2_readLine 41 = .ok (.getfield 18, 3) := by decide +kernel
theorem dX2_readLine_44 : decode cX2_readLine 44 = .ok (.getstatic 66, 3) := by decide +kernel
theorem dX2_readLine_47 : decode cX2_readLine 47 = .ok (.invokevirtual 53, 3) := by decide +kernel
theorem dX2_readLine_50 : decode cX2_readLine 50 = .ok (.ifCond .eq 10, 3) := by decide +kernel
theorem dX2_readLine_53 : decode cX2_readLine 53 = .ok (.aload_n 0, 1) := by decide +kernel
theorem dX2_readLine_54 : decode cX2_readLine 54 = .ok (.invokevirtual 69, 3) := by decide +kernel
theorem dX2_readLine_57 : decode cX2_readLine 57 = .ok (.goto 51, 3) := by decide +kernel
theorem dX2_readLine_60 : decode cX2_readLine 60 = .ok (.aload_n 0, 1) := by decide +kernel
theorem dX2_readLine_61 : decode cX2_readLine 61 = .ok (.getfield 18, 3) := by decide +kernel
theorem dX2_readLine_64 : decode cX2_readLine 64 = .ok (.getstatic 72, 3) := by decide +kernel
theorem dX2_readLine_67 : decode cX2_readLine 67 = .ok (.invokevirtual 53, 3) := by decide +kernel
theorem dX2_readLine_70 : decode cX2_readLine 70 = .ok (.ifCond .eq 10, 3) := by decide +kernel
theorem dX2_readLine_73 : decode cX2_readLine 73 = .ok (.aload_n 0, 1) := by decide +kernel
theorem dX2_readLine_74 : decode cX2_readLine 74 = .ok (.invokevirtual 75, 3) := by decide +kernel
theorem dX2_readLine_77 : decode cX2_readLine 77 = .ok (.goto 31, 3) := by decide +kernel
theorem dX2_readLine_80 : decode cX2_readLine 80 = .ok (.aload_n 0, 1) := by decide +kernel
theorem dX2_readLine_81 : decode cX2_readLine 81 = .ok (.getfield 18, 3) := by decide +kernel
theorem dX2_readLine_84 : decode cX2_readLine 84 = .ok (.getstatic 78, 3) := by decide +kernel
theorem dX2_readLine_87 : decode cX2_readLine 87 = .ok (.invokevirtual 53, 3) := by decide +kernel
theorem dX2_readLine_90 : decode cX2_readLine 90 = .ok (.ifCond .eq 10, 3) := by decide +kernel
theorem dX2_readLine_93 : decode cX2_readLine 93 = .ok (.aload_n 0, 1) := by decide +kernel
theorem dX2_readLine_94 : decode cX2_readLine 94 = .ok (.invokevirtual 81, 3) := by decide +kernel
theorem dX2_readLine_97 : decode cX2_readLine 97 = .ok (.goto 11, 3) := by decide +kernel
theorem dX2_readLine_100 : decode cX2_readLine 100 = .ok (.aload_n 0, 1) := by decide +kernel
theorem dX2_readLine_101 : decode cX2_readLine 101 = .ok (.getfield 18, 3) := by decide +kernel
theorem dX2_readLine_104 : decode cX2_readLine 104 = .ok (.iconst 1, 1) := by decide +kernel
theorem dX2_readLine_105 : decode cX2_readLine 105 = .ok (.invokevirtual 84, 3) := by decide +kernel
theorem dX2_readLine_108 : decode cX2_readLine 108 = .ok (.return_, 1) := by decide +kernel
theorem bX2_readLine_0 {G : Gt} {d bc bs : Nat} {Q : QT} {l : Ls} {z : List Value} {h : Hp} (k : (tAld 0 (tGetf 1 0 (tPush (.ref (adW G 1)) (tCV1 G d 0 0 8 mX9_isAt (fun l z h => T G d bc bs mX2_readLine 10 l z h Q))))) l z h) : T G d bc bs mX2_readLine 0 l z h Q := by
  refine R_aload_n dX2_readLine_0 rfl (fun l z h k => ?_) k
  refine R_getf (ci := 1) (f := 0) (C := RX2) (N := 2) (Tt := TX2) dX2_readLine_1 rfl i_X2 (by decide) w_320 (fun l z h k => ?_) k
  refine R_word (k := 1) dX2_readLine_4 (by decide) rfl w_661 (fun l z h k => ?_) k
  exact R_cv1 (M := mX2_readLine) (pc := 7) (bc := bc) (bs := bs) (cb := 0) (cs := 0) (M' := mX9_isAt) dX2_readLine_7 rfl (by decide) w_666 w_132 w_663 w_664 w_665 (by decide +kernel) (fun _ _ _ k => k) k
theorem bX2_readLine_10 {G : Gt} {d bc bs : Nat} {Q : QT} {l : Ls} {z : List Value} {h : Hp} (k : (tIf (fun x => x = 0) (fun l z h => T G d bc bs mX2_readLine 20 l z h Q) (fun l z h => T G d bc bs mX2_readLine 13 l z h Q)) l z h) : T G d bc bs mX2_readLine 10 l z h Q := by
  exact R_if_eq dX2_readLine_10 (by decide) (fun _ _ _ k => k) (fun _ _ _ k => k) k
theorem bX2_readLine_13 {G : Gt} {d bc bs : Nat} {Q : QT} {l : Ls} {z : List Value} {h : Hp} (k : (tAld 0 (tCV0 G d 0 0 1 mX2_readThing (fun l z h => T G d bc bs mX2_readLine 17 l z h Q))) l z h) : T G d bc bs mX2_readLine 13 l z h Q := by
  refine R_aload_n dX2_readLine_13 rfl (fun l z h k => ?_) k
  exact R_cv0 (M := mX2_readLine) (pc := 14) (bc := bc) (bs := bs) (cb := 0) (cs := 0) (M' := mX2_readThing) dX2_readLine_14 rfl (by decide) w_670 w_135 w_667 w_669 w_5 (by decide +kernel) (fun _ _ _ k => k) k
theorem bX2_readLine_17 {G : Gt} {d bc bs : Nat} {Q : QT} {l : Ls} {z : List Value} {h : Hp} (k : (fun l z h => T G d bc bs mX2_readLine 108 l z h Q) l z h) : T G d bc bs mX2_readLine 17 l z h Q := by
  exact R_goto dX2_readLine_17 (by decide) (fun _ _ _ k => k) k
theorem bX2_readLine_20 {G : Gt} {d bc bs : Nat} {Q : QT} {l : Ls} {z : List Value} {h : Hp} (k : (tAld 0 (tGetf 1 0 (tPush (.ref (adW G 2)) (tCV1 G d 0 0 8 mX9_isAt (fun l z h => T G d bc bs mX2_readLine 30 l z h Q))))) l z h) : T G d bc bs mX2_readLine 20 l z h Q := by
  refine R_aload_n dX2_readLine_20 rfl (fun l z h k => ?_) k
  refine R_getf (ci := 1) (f := 0) (C := RX2) (N := 2) (Tt := TX2) dX2_readLine_21 rfl i_X2 (by decide) w_320 (fun l z h k => ?_) k
  refine R_word (k := 2) dX2_readLine_24 (by decide) rfl w_706 (fun l z h k => ?_) k
  exact R_cv1 (M := mX2_readLine) (pc := 27) (bc := bc) (bs := bs) (cb := 0) (cs := 0) (M' := mX9_isAt) dX2_readLine_27 rfl (by decide) w_666 w_132 w_663 w_664 w_665 (by decide +kernel) (fun _ _ _ k => k) k
theorem bX2_readLine_30 {G : Gt} {d bc bs : Nat} {Q : QT} {l : Ls} {z : List Value} {h : Hp} (k : (tIf (fun x => x = 0) (fun l z h => T G d bc bs mX2_readLine 40 l z h Q) (fun l z h => T G d bc bs mX2_readLine 33 l z h Q)) l z h) : T G d bc bs mX2_readLine 30 l z h Q := by
  exact R_if_eq dX2_readLine_30 (by decide) (fun _ _ _ k => k) (fun _ _ _ k => k) k
theorem bX2_readLine_33 {G : Gt} {d bc bs : Nat} {Q : QT} {l : Ls} {z : List Value} {h : Hp} (k : (tAld 0 (tCV0 G d 0 0 1 mX2_readPerson (fun l z h => T G d bc bs mX2_readLine 37 l z h Q))) l z h) : T G d bc bs mX2_readLine 33 l z h Q := by
  refine R_aload_n dX2_readLine_33 rfl (fun l z h k => ?_) k
  exact R_cv0 (M := mX2_readLine) (pc := 34) (bc := bc) (bs := bs) (cb := 0) (cs := 0) (M' := mX2_readPerson) dX2_readLine_34 rfl (by decide) w_711 w_135 w_708 w_710 w_6 (by decide +kernel) (fun _ _ _ k => k) k
theorem bX2_readLine_37 {G : Gt} {d bc bs : Nat} {Q : QT} {l : Ls} {z : List Value} {h : Hp} (k : (fun l z h => T G d bc bs mX2_readLine 108 l z h Q) l z h) : T G d bc bs mX2_readLine 37 l z h Q := by
  exact R_goto dX2_readLine_37 (by decide) (fun _ _ _ k => k) k
theorem bX2_readLine_40 {G : Gt} {d bc bs : Nat} {Q : QT} {l : Ls} {z : List Value} {h : Hp} (k : (tAld 0 (tGetf 1 0 (tPush (.ref (adW G 3)) (tCV1 G d 0 0 8 mX9_isAt (fun l z h => T G d bc bs mX2_readLine 50 l z h Q))))) l z h) : T G d bc bs mX2_readLine 40 l z h Q := by
  refine R_aload_n dX2_readLine_40 rfl (fun l z h k => ?_) k
  refine R_getf (ci := 1) (f := 0) (C := RX2) (N := 2) (Tt := TX2) dX2_readLine_41 rfl i_X2 (by decide) w_320 (fun l z h k => ?_) k
  refine R_word (k := 3) dX2_readLine_44 (by decide) rfl w_722 (fun l z h k => ?_) k
  exact R_cv1 (M := mX2_readLine) (pc := 47) (bc := bc) (bs := bs) (cb := 0) (cs := 0) (M' := mX9_isAt) dX2_readLine_47 rfl (by decide) w_666 w_132 w_663 w_664 w_665 (by decide +kernel) (fun _ _ _ k => k) k
theorem bX2_readLine_50 {G : Gt} {d bc bs : Nat} {Q : QT} {l : Ls} {z : List Value} {h : Hp} (k : (tIf (fun x => x = 0) (fun l z h => T G d bc bs mX2_readLine 60 l z h Q) (fun l z h => T G d bc bs mX2_readLine 53 l z h Q)) l z h) : T G d bc bs mX2_readLine 50 l z h Q := by
  exact R_if_eq dX2_readLine_50 (by decide) (fun _ _ _ k => k) (fun _ _ _ k => k) k
theorem bX2_readLine_53 {G : Gt} {d bc bs : Nat} {Q : QT} {l : Ls} {z : List Value} {h : Hp} (k : (tAld 0 (tCV0 G d 0 0 1 mX2_readHas (fun l z h => T G d bc bs mX2_readLine 57 l z h Q))) l z h) : T G d bc bs mX2_readLine 53 l z h Q := by
  refine R_aload_n dX2_readLine_53 rfl (fun l z h k => ?_) k
  exact R_cv0 (M := mX2_readLine) (pc := 54) (bc := bc) (bs := bs) (cb := 0) (cs := 0) (M' := mX2_readHas) dX2_readLine_54 rfl (by decide) w_727 w_135 w_724 w_726 w_7 (by decide +kernel) (fun _ _ _ k => k) k
theorem bX2_readLine_57 {G : Gt} {d bc bs : Nat} {Q : QT} {l : Ls} {z : List Value} {h : Hp} (k : (fun l z h => T G d bc bs mX2_readLine 108 l z h Q) l z h) : T G d bc bs mX2_readLine 57 l z h Q := by
  exact R_goto dX2_readLine_57 (by decide) (fun _ _ _ k => k) k
theorem bX2_readLine_60 {G : Gt} {d bc bs : Nat} {Q : QT} {l : Ls} {z : List Value} {h : Hp} (k : (tAld 0 (tGetf 1 0 (tPush (.ref (adW G 4)) (tCV1 G d 0 0 8 mX9_isAt (fun l z h => T G d bc bs mX2_readLine 70 l z h Q))))) l z h) : T G d bc bs mX2_readLine 60 l z h Q := by
  refine R_aload_n dX2_readLine_60 rfl (fun l z h k => ?_) k
  refine R_getf (ci := 1) (f := 0) (C := RX2) (N := 2) (Tt := TX2) dX2_readLine_61 rfl i_X2 (by decide) w_320 (fun l z h k => ?_) k
  refine R_word (k := 4) dX2_readLine_64 (by decide) rfl w_744 (fun l z h k => ?_) k
  exact R_cv1 (M := mX2_readLine) (pc := 67) (bc := bc) (bs := bs) (cb := 0) (cs := 0) (M' := mX9_isAt) dX2_readLine_67 rfl (by decide) w_666 w_132 w_663 w_664 w_665 (by decide +kernel) (fun _ _ _ k => k) k
theorem bX2_readLine_70 {G : Gt} {d bc bs : Nat} {Q : QT} {l : Ls} {z : List Value} {h : Hp} (k : (tIf (fun x => x = 0) (fun l z h => T G d bc bs mX2_readLine 80 l z h Q) (fun l z h => T G d bc bs mX2_readLine 73 l z h Q)) l z h) : T G d bc bs mX2_readLine 70 l z h Q := by
  exact R_if_eq dX2_readLine_70 (by decide) (fun _ _ _ k => k) (fun _ _ _ k => k) k
theorem bX2_readLine_73 {G : Gt} {d bc bs : Nat} {Q : QT} {l : Ls} {z : List Value} {h : Hp} (k : (tAld 0 (tCV0 G d 0 0 1 mX2_readAsks (fun l z h => T G d bc bs mX2_readLine 77 l z h Q))) l z h) : T G d bc bs mX2_readLine 73 l z h Q := by
  refine R_aload_n dX2_readLine_73 rfl (fun l z h k => ?_) k
  exact R_cv0 (M := mX2_readLine) (pc := 74) (bc := bc) (bs := bs) (cb := 0) (cs := 0) (M' := mX2_readAsks) dX2_readLine_74 rfl (by decide) w_749 w_135 w_746 w_748 w_8 (by decide +kernel) (fun _ _ _ k => k) k
theorem bX2_readLine_77 {G : Gt} {d bc bs : Nat} {Q : QT} {l : Ls} {z : List Value} {h : Hp} (k : (fun l z h => T G d bc bs mX2_readLine 108 l z h Q) l z h) : T G d bc bs mX2_readLine 77 l z h Q := by
  exact R_goto dX2_readLine_77 (by decide) (fun _ _ _ k => k) k
theorem bX2_readLine_80 {G : Gt} {d bc bs : Nat} {Q : QT} {l : Ls} {z : List Value} {h : Hp} (k : (tAld 0 (tGetf 1 0 (tPush (.ref (adW G 5)) (tCV1 G d 0 0 8 mX9_isAt (fun l z h => T G d bc bs mX2_readLine 90 l z h Q))))) l z h) : T G d bc bs mX2_readLine 80 l z h Q := by
  refine R_aload_n dX2_readLine_80 rfl (fun l z h k => ?_) k
  refine R_getf (ci := 1) (f := 0) (C := RX2) (N := 2) (Tt := TX2) dX2_readLine_81 rfl i_X2 (by decide) w_320 (fun l z h k => ?_) k
  refine R_word (k := 5) dX2_readLine_84 (by decide) rfl w_758 (fun l z h k => ?_) k
  exact R_cv1 (M := mX2_readLine) (pc := 87) (bc := bc) (bs := bs) (cb := 0) (cs := 0) (M' := mX9_isAt) dX2_readLine_87 rfl (by decide) w_666 w_132 w_663 w_664 w_665 (by decide +kernel) (fun _ _ _ k => k) k
theorem bX2_readLine_90 {G : Gt} {d bc bs : Nat} {Q : QT} {l : Ls} {z : List Value} {h : Hp} (k : (tIf (fun x => x = 0) (fun l z h => T G d bc bs mX2_readLine 100 l z h Q) (fun l z h => T G d bc bs mX2_readLine 93 l z h Q)) l z h) : T G d bc bs mX2_readLine 90 l z h Q := by
  exact R_if_eq dX2_readLine_90 (by decide) (fun _ _ _ k => k) (fun _ _ _ k => k) k
theorem bX2_readLine_93 {G : Gt} {d bc bs : Nat} {Q : QT} {l : Ls} {z : List Value} {h : Hp} (k : (tAld 0 (tCV0 G d 0 0 1 mX2_readMeets (fun l z h => T G d bc bs mX2_readLine 97 l z h Q))) l z h) : T G d bc bs mX2_readLine 93 l z h Q := by
  refine R_aload_n dX2_readLine_93 rfl (fun l z h k => ?_) k
  exact R_cv0 (M := mX2_readLine) (pc := 94) (bc := bc) (bs := bs) (cb := 0) (cs := 0) (M' := mX2_readMeets) dX2_readLine_94 rfl (by decide) w_763 w_135 w_760 w_762 w_9 (by decide +kernel) (fun _ _ _ k => k) k
theorem bX2_readLine_97 {G : Gt} {d bc bs : Nat} {Q : QT} {l : Ls} {z : List Value} {h : Hp} (k : (fun l z h => T G d bc bs mX2_readLine 108 l z h Q) l z h) : T G d bc bs mX2_readLine 97 l z h Q := by
  exact R_goto dX2_readLine_97 (by decide) (fun _ _ _ k => k) k
theorem bX2_readLine_100 {G : Gt} {d bc bs : Nat} {Q : QT} {l : Ls} {z : List Value} {h : Hp} (k : (tAld 0 (tGetf 1 0 (tPush (.int 1) (tCV1 G d 0 0 8 mX9_fail (fun l z h => T G d bc bs mX2_readLine 108 l z h Q))))) l z h) : T G d bc bs mX2_readLine 100 l z h Q := by
  refine R_aload_n dX2_readLine_100 rfl (fun l z h k => ?_) k
  refine R_getf (ci := 1) (f := 0) (C := RX2) (N := 2) (Tt := TX2) dX2_readLine_101 rfl i_X2 (by decide) w_320 (fun l z h k => ?_) k
  refine R_iconst dX2_readLine_104 (by decide) (fun l z h k => ?_) k
  exact R_cv1 (M := mX2_readLine) (pc := 105) (bc := bc) (bs := bs) (cb := 0) (cs := 0) (M' := mX9_fail) dX2_readLine_105 rfl (by decide) w_674 w_132 w_671 w_672 w_673 (by decide +kernel) (fun _ _ _ k => k) k
theorem bX2_readLine_108 {G : Gt} {d bc bs : Nat} {Q : QT} {l : Ls} {z : List Value} {h : Hp} (k : (tRetV Q) l z h) : T G d bc bs mX2_readLine 108 l z h Q := by
  exact R_vret dX2_readLine_108 rfl k
theorem dX2_readThing_0 : decode cX2_readThing 0 = .ok (.aload_n 0, 1) := by decide +kernel
theorem dX2_readThing_1 : decode cX2_readThing 1 = .ok (.getfield 12, 3) := by decide +kernel
theorem dX2_readThing_4 : decode cX2_readThing 4 = .ok (.getfield 87, 3) := by decide +kernel
theorem dX2_readThing_7 : decode cX2_readThing 7 = .ok (.bipush 6, 2) := by decide +kernel
theorem dX2_readThing_9 : decode cX2_readThing 9 = .ok (.if_icmp .lt 11, 3) := by decide +kernel
theorem dX2_readThing_12 : decode cX2_readThing 12 = .ok (.aload_n 0, 1) := by decide +kernel
theorem dX2_readThing_13 : decode cX2_readThing 13 = .ok (.getfield 18, 3) := by decide +kernel
theorem dX2_readThing_16 : decode cX2_readThing 16 = .ok (.iconst 4, 1) := by decide +kernel
theorem dX2_readThing_17 : decode cX2_readThing 17 = .ok (.invokevirtual 84, 3) := by decide +kernel
theorem dX2_readThing_20 : decode cX2_readThing 20 = .ok (.aload_n 0, 1) := by decide +kernel
theorem dX2_readThing_21 : decode cX2_readThing 21 = .ok (.getfield 18, 3) := by decide +kernel
theorem dX2_readThing_24 : decode cX2_readThing 24 = .ok (.invokevirtual 90, 3) := by decide +kernel
theorem dX2_readThing_27 : decode cX2_readThing 27 = .ok (.aload_n 0, 1) := by decide +kernel
theorem dX2_readThing_28 : decode cX2_readThing 28 = .ok (.getfield 18, 3) := by decide +kernel
theorem dX2_readThing_31 : decode cX2_readThing 31 = .ok (.aload_n 0, 1) := by decide +kernel
theorem dX2_readThing_32 : decode cX2_readThing 32 = .ok (.getfield 12, 3) := by decide +kernel
theorem dX2_readThing_35 : decode cX2_readThing 35 = .ok (.invokevirtual 93, 3) := by decide +kernel
theorem dX2_readThing_38 : decode cX2_readThing 38 = .ok (.lstore_n 1, 1) := by decide +kernel
theorem dX2_readThing_39 : decode cX2_readThing 39 = .ok (.aload_n 0, 1) := by decide +kernel
theorem dX2_readThing_40 : decode cX2_readThing 40 = .ok (.getfield 18, 3) := by decide +kernel
theorem dX2_readThing_43 : decode cX2_readThing 43 = .ok (.invokevirtual 90, 3) := by decide +kernel
theorem dX2_readThing_46 : decode cX2_readThing 46 = .ok (.aload_n 0, 1) := by decide +kernel
theorem dX2_readThing_47 : decode cX2_readThing 47 = .ok (.getfield 18, 3) := by decide +kernel
theorem dX2_readThing_50 : decode cX2_readThing 50 = .ok (.invokevirtual 97, 3) := by decide +kernel
theorem dX2_readThing_53 : decode cX2_readThing 53 = .ok (.istore_n 3, 1) := by decide +kernel
theorem dX2_readThing_54 : decode cX2_readThing 54 = .ok (.aload_n 0, 1) := by decide +kernel
theorem dX2_readThing_55 : decode cX2_readThing 55 = .ok (.getfield 18, 3) := by decide +kernel
theorem dX2_readThing_58 : decode cX2_readThing 58 = .ok (.iconst 1, 1) := by decide +kernel
theorem dX2_readThing_59 : decode cX2_readThing 59 = .ok (.bipush 9, 2) := by decide +kernel
theorem dX2_readThing_61 : decode cX2_readThing 61 = .ok (.invokevirtual 101, 3) := by decide +kernel
theorem dX2_readThing_64 : decode cX2_readThing 64 = .ok (.istore 4, 2) := by decide +kernel
theorem dX2_readThing_66 : decode cX2_readThing 66 = .ok (.aload_n 0, 1) := by decide +kernel
theorem dX2_readThing_67 : decode cX2_readThing 67 = .ok (.getfield 18, 3) := by decide +kernel
theorem dX2_readThing_70 : decode cX2_readThing 70 = .ok (.invokevirtual 33, 3) := by decide +kernel
theorem dX2_readThing_73 : decode cX2_readThing 73 = .ok (.ifCond .eq 14, 3) := by decide +kernel
theorem dX2_readThing_76 : decode cX2_readThing 76 = .ok (.aload_n 0, 1) := by decide +kernel
theorem dX2_readThing_77 : decode cX2_readThing 77 = .ok (.getfield 12, 3) := by decide +kernel
theorem dX2_readThing_80 : decode cX2_readThing 80 = .ok (.lload_n 1, 1) := by decide +kernel
theorem dX2_readThing_81 : decode cX2_readThing 81 = .ok (.iload_n 3, 1) := by decide +kernel
theorem dX2_readThing_82 : decode cX2_readThing 82 = .ok (.iload 4, 2) := by decide +kernel
theorem dX2_readThing_84 : decode cX2_readThing 84 = .ok (.invokevirtual 105, 3) := by decide +kernel
theorem dX2_readThing_87 : decode cX2_readThing 87 = .ok (.return_, 1) := by decide +kernel
theorem bX2_readThing_0 {G : Gt} {d bc bs : Nat} {Q : QT} {l : Ls} {z : List Value} {h : Hp} (k : (tAld 0 (tGetf 1 1 (tGetf 9 0 (tPush (.int 6) (tIf2 (fun x y => x < y) (fun l z h => T G d bc bs mX2_readThing 20 l z h Q) (fun l z h => T G d bc bs mX2_readThing 12 l z h Q)))))) l z h) : T G d bc bs mX2_readThing 0 l z h Q := by
  refine R_aload_n dX2_readThing_0 rfl (fun l z h k => ?_) k
  refine R_getf (ci := 1) (f := 1) (C := RX2) (N := 2) (Tt := TX2) dX2_readThing_1 rfl i_X2 (by decide) w_321 (fun l z h k => ?_) k
  refine R_getf (ci := 9) (f := 0) (C := RX11) (N := 14) (Tt := TX11) dX2_readThing_4 rfl i_X11 (by decide) w_250 (fun l z h k => ?_) k
  refine R_bipush dX2_readThing_7 (by decide) (fun l z h k => ?_) k
  exact R_icmp_lt dX2_readThing_9 (by decide) (fun _ _ _ k => k) (fun _ _ _ k => k) k
theorem bX2_readThing_12 {G : Gt} {d bc bs : Nat} {Q : QT} {l : Ls} {z : List Value} {h : Hp} (k : (tAld 0 (tGetf 1 0 (tPush (.int 4) (tCV1 G d 0 0 8 mX9_fail (fun l z h => T G d bc bs mX2_readThing 20 l z h Q))))) l z h) : T G d bc bs mX2_readThing 12 l z h Q := by
  refine R_aload_n dX2_readThing_12 rfl (fun l z h k => ?_) k
  refine R_getf (ci := 1) (f := 0) (C := RX2) (N := 2) (Tt := TX2) dX2_readThing_13 rfl i_X2 (by decide) w_320 (fun l z h k => ?_) k
  refine R_iconst dX2_readThing_16 (by decide) (fun l z h k => ?_) k
  exact R_cv1 (M := mX2_readThing) (pc := 17) (bc := bc) (bs := bs) (cb := 0) (cs := 0) (M' := mX9_fail) dX2_readThing_17 rfl (by decide) w_674 w_132 w_671 w_672 w_673 (by decide +kernel) (fun _ _ _ k => k) k
theorem bX2_readThing_20 {G : Gt} {d bc bs : Nat} {Q : QT} {l : Ls} {z : List Value} {h : Hp} (k : (tAld 0 (tGetf 1 0 (tCV0 G d 0 0 8 mX9_step (fun l z h => T G d bc bs mX2_readThing 27 l z h Q)))) l z h) : T G d bc bs mX2_readThing 20 l z h Q := by
  refine R_aload_n dX2_readThing_20 rfl (fun l z h k => ?_) k
  refine R_getf (ci := 1) (f := 0) (C := RX2) (N := 2) (Tt := TX2) dX2_readThing_21 rfl i_X2 (by decide) w_320 (fun l z h k => ?_) k
  exact R_cv0 (M := mX2_readThing) (pc := 24) (bc := bc) (bs := bs) (cb := 0) (cs := 0) (M' := mX9_step) dX2_readThing_24 rfl (by decide) w_652 w_132 w_675 w_650 w_651 (by decide +kernel) (fun _ _ _ k => k) k
theorem bX2_readThing_27 {G : Gt} {d bc bs : Nat} {Q : QT} {l : Ls} {z : List Value} {h : Hp} (k : (tAld 0 (tGetf 1 0 (tAld 0 (tGetf 1 1 (tCV1 G d 0 0 8 mX9_newNameHere (fun l z h => T G d bc bs mX2_readThing 38 l z h Q)))))) l z h) : T G d bc bs mX2_readThing 27 l z h Q := by
  refine R_aload_n dX2_readThing_27 rfl (fun l z h k => ?_) k
  refine R_getf (ci := 1) (f := 0) (C := RX2) (N := 2) (Tt := TX2) dX2_readThing_28 rfl i_X2 (by decide) w_320 (fun l z h k => ?_) k
  refine R_aload_n dX2_readThing_31 rfl (fun l z h k => ?_) k
  refine R_getf (ci := 1) (f := 1) (C := RX2) (N := 2) (Tt := TX2) dX2_readThing_32 rfl i_X2 (by decide) w_321 (fun l z h k => ?_) k
  exact R_cv1 (M := mX2_readThing) (pc := 35) (bc := bc) (bs := bs) (cb := 0) (cs := 0) (M' := mX9_newNameHere) dX2_readThing_35 rfl (by decide) w_679 w_132 w_676 w_677 w_678 (by decide +kernel) (fun _ _ _ k => k) k
theorem bX2_readThing_38 {G : Gt} {d bc bs : Nat} {Q : QT} {l : Ls} {z : List Value} {h : Hp} (k : (tLst 1 (tAld 0 (tGetf 1 0 (tCV0 G d 0 0 8 mX9_step (fun l z h => T G d bc bs mX2_readThing 46 l z h Q))))) l z h) : T G d bc bs mX2_readThing 38 l z h Q := by
  refine R_lstore_n dX2_readThing_38 rfl (by decide) (fun l z h k => ?_) k
  refine R_aload_n dX2_readThing_39 rfl (fun l z h k => ?_) k
  refine R_getf (ci := 1) (f := 0) (C := RX2) (N := 2) (Tt := TX2) dX2_readThing_40 rfl i_X2 (by decide) w_320 (fun l z h k => ?_) k
  exact R_cv0 (M := mX2_readThing) (pc := 43) (bc := bc) (bs := bs) (cb := 0) (cs := 0) (M' := mX9_step) dX2_readThing_43 rfl (by decide) w_652 w_132 w_675 w_650 w_651 (by decide +kernel) (fun _ _ _ k => k) k
theorem bX2_readThing_46 {G : Gt} {d bc bs : Nat} {Q : QT} {l : Ls} {z : List Value} {h : Hp} (k : (tAld 0 (tGetf 1 0 (tCV0 G d 0 0 8 mX9_takeEnd (fun l z h => T G d bc bs mX2_readThing 53 l z h Q)))) l z h) : T G d bc bs mX2_readThing 46 l z h Q := by
  refine R_aload_n dX2_readThing_46 rfl (fun l z h k => ?_) k
  refine R_getf (ci := 1) (f := 0) (C := RX2) (N := 2) (Tt := TX2) dX2_readThing_47 rfl i_X2 (by decide) w_320 (fun l z h k => ?_) k
  exact R_cv0 (M := mX2_readThing) (pc := 50) (bc := bc) (bs := bs) (cb := 0) (cs := 0) (M' := mX9_takeEnd) dX2_readThing_50 rfl (by decide) w_693 w_132 w_690 w_691 w_692 (by decide +kernel) (fun _ _ _ k => k) k
theorem bX2_readThing_53 {G : Gt} {d bc bs : Nat} {Q : QT} {l : Ls} {z : List Value} {h : Hp} (k : (tIst 3 (tAld 0 (tGetf 1 0 (tPush (.int 1) (tPush (.int 9) (tCV2 G d 0 0 8 mX9_takeNumber (fun l z h => T G d bc bs mX2_readThing 64 l z h Q))))))) l z h) : T G d bc bs mX2_readThing 53 l z h Q := by
  refine R_istore_n dX2_readThing_53 rfl (by decide) (fun l z h k => ?_) k
  refine R_aload_n dX2_readThing_54 rfl (fun l z h k => ?_) k
  refine R_getf (ci := 1) (f := 0) (C := RX2) (N := 2) (Tt := TX2) dX2_readThing_55 rfl i_X2 (by decide) w_320 (fun l z h k => ?_) k
  refine R_iconst dX2_readThing_58 (by decide) (fun l z h k => ?_) k
  refine R_bipush dX2_readThing_59 (by decide) (fun l z h k => ?_) k
  exact R_cv2 (M := mX2_readThing) (pc := 61) (bc := bc) (bs := bs) (cb := 0) (cs := 0) (M' := mX9_takeNumber) dX2_readThing_61 rfl (by decide) w_701 w_132 w_698 w_699 w_700 (by decide +kernel) (fun _ _ _ k => k) k
theorem bX2_readThing_64 {G : Gt} {d bc bs : Nat} {Q : QT} {l : Ls} {z : List Value} {h : Hp} (k : (tIst 4 (tAld 0 (tGetf 1 0 (tCV0 G d 0 0 8 mX9_isSound (fun l z h => T G d bc bs mX2_readThing 73 l z h Q))))) l z h) : T G d bc bs mX2_readThing 64 l z h Q := by
  refine R_istore dX2_readThing_64 (by decide) (fun l z h k => ?_) k
  refine R_aload_n dX2_readThing_66 rfl (fun l z h k => ?_) k
  refine R_getf (ci := 1) (f := 0) (C := RX2) (N := 2) (Tt := TX2) dX2_readThing_67 rfl i_X2 (by decide) w_320 (fun l z h k => ?_) k
  exact R_cv0 (M := mX2_readThing) (pc := 70) (bc := bc) (bs := bs) (cb := 0) (cs := 0) (M' := mX9_isSound) dX2_readThing_70 rfl (by decide) w_656 w_132 w_653 w_654 w_655 (by decide +kernel) (fun _ _ _ k => k) k
theorem bX2_readThing_73 {G : Gt} {d bc bs : Nat} {Q : QT} {l : Ls} {z : List Value} {h : Hp} (k : (tIf (fun x => x = 0) (fun l z h => T G d bc bs mX2_readThing 87 l z h Q) (fun l z h => T G d bc bs mX2_readThing 76 l z h Q)) l z h) : T G d bc bs mX2_readThing 73 l z h Q := by
  exact R_if_eq dX2_readThing_73 (by decide) (fun _ _ _ k => k) (fun _ _ _ k => k) k
theorem bX2_readThing_76 {G : Gt} {d bc bs : Nat} {Q : QT} {l : Ls} {z : List Value} {h : Hp} (k : (tAld 0 (tGetf 1 1 (tLld 1 (tIld 3 (tIld 4 (tCV3 G d 0 0 9 mX11_addThing (fun l z h => T G d bc bs mX2_readThing 87 l z h Q))))))) l z h) : T G d bc bs mX2_readThing 76 l z h Q := by
  refine R_aload_n dX2_readThing_76 rfl (fun l z h k => ?_) k
  refine R_getf (ci := 1) (f := 1) (C := RX2) (N := 2) (Tt := TX2) dX2_readThing_77 rfl i_X2 (by decide) w_321 (fun l z h k => ?_) k
  refine R_lload_n dX2_readThing_80 rfl (fun l z h k => ?_) k
  refine R_iload_n dX2_readThing_81 rfl (fun l z h k => ?_) k
  refine R_iload dX2_readThing_82 (fun l z h k => ?_) k
  exact R_cv3 (M := mX2_readThing) (pc := 84) (bc := bc) (bs := bs) (cb := 0) (cs := 0) (M' := mX11_addThing) dX2_readThing_84 rfl (by decide) w_705 w_136 w_702 w_703 w_704 (by decide +kernel) (fun _ _ _ k => k) k
theorem bX2_readThing_87 {G : Gt} {d bc bs : Nat} {Q : QT} {l : Ls} {z : List Value} {h : Hp} (k : (tRetV Q) l z h) : T G d bc bs mX2_readThing 87 l z h Q := by
  exact R_vret dX2_readThing_87 rfl k
theorem dX2_readPerson_0 : decode cX2_readPerson 0 = .ok (.aload_n 0, 1) := by decide +kernel
theorem dX2_readPerson_1 : decode cX2_readPerson 1 = .ok (.getfield 12, 3) := by decide +kernel
theorem dX2_readPerson_4 : decode cX2_readPerson 4 = .ok (.getfield 109, 3) := by decide +kernel
theorem dX2_readPerson_7 : decode cX2_readPerson 7 = .ok (.bipush 8, 2) := by decide +kernel
theorem dX2_readPerson_9 : decode cX2_readPerson 9 = .ok (.if_icmp .lt 11, 3) := by decide +kernel
theorem dX2_readPerson_12 : decode cX2_readPerson 12 = .ok (.aload_n 0, 1) := by decide +kernel
theorem dX2_readPerson_13 : decode cX2_readPerson 13 = .ok (.getfield 18, 3) := by decide +kernel
theorem dX2_readPerson_16 : decode cX2_readPerson 16 = .ok (.iconst 4, 1) := by decide +kernel
theorem dX2_readPerson_17 : decode cX2_readPerson 17 = .ok (.invokevirtual 84, 3) := by decide +kernel
theorem dX2_readPerson_20 : decode cX2_readPerson 20 = .ok (.aload_n 0, 1) := by decide +kernel
theorem dX2_readPerson_21 : decode cX2_readPerson 21 = .ok (.getfield 18, 3) := by decide +kernel
theorem dX2_readPerson_24 : decode cX2_readPerson 24 = .ok (.invokevirtual 90, 3) := by decide +kernel
theorem dX2_readPerson_27 : decode cX2_readPerson 27 = .ok (.aload_n 0, 1) := by decide +kernel
theorem dX2_readPerson_28 : decode cX2_readPerson 28 = .ok (.getfield 18, 3) := by decide +kernel
theorem dX2_readPerson_31 : decode cX2_readPerson 31 = .ok (.aload_n 0, 1) := by decide +kernel
theorem dX2_readPerson_32 : decode cX2_readPerson 32 = .ok (.getfield 12, 3) := by decide +kernel
theorem dX2_readPerson_35 : decode cX2_readPerson 35 = .ok (.invokevirtual 93, 3) := by decide +kernel
theorem dX2_readPerson_38 : decode cX2_readPerson 38 = .ok (.lstore_n 1, 1) := by decide +kernel
theorem dX2_readPerson_39 : decode cX2_readPerson 39 = .ok (.aload_n 0, 1) := by decide +kernel
theorem dX2_readPerson_40 : decode cX2_readPerson 40 = .ok (.getfield 18, 3) := by decide +kernel
theorem dX2_readPerson_43 : decode cX2_readPerson 43 = .ok (.invokevirtual 90, 3) := by decide +kernel
theorem dX2_readPerson_46 : decode cX2_readPerson 46 = .ok (.aload_n 0, 1) := by decide +kernel
theorem dX2_readPerson_47 : decode cX2_readPerson 47 = .ok (.getfield 18, 3) := by decide +kernel
theorem dX2_readPerson_50 : decode cX2_readPerson 50 = .ok (.invokevirtual 112, 3) := by decide +kernel
theorem dX2_readPerson_53 : decode cX2_readPerson 53 = .ok (.istore_n 3, 1) := by decide +kernel
theorem dX2_readPerson_54 : decode cX2_readPerson 54 = .ok (.aload_n 0, 1) := by decide +kernel
theorem dX2_readPerson_55 : decode cX2_readPerson 55 = .ok (.getfield 18, 3) := by decide +kernel
theorem dX2_readPerson_58 : decode cX2_readPerson 58 = .ok (.invokevirtual 97, 3) := by decide +kernel
theorem dX2_readPerson_61 : decode cX2_readPerson 61 = .ok (.istore 4, 2) := by decide +kernel
theorem dX2_readPerson_63 : decode cX2_readPerson 63 = .ok (.aload_n 0, 1) := by decide +kernel
theorem dX2_readPerson_64 : decode cX2_readPerson 64 = .ok (.getfield 18, 3) := by decide +kernel
theorem dX2_readPerson_67 : decode cX2_readPerson 67 = .ok (.invokevirtual 33, 3) := by decide +kernel
theorem dX2_readPerson_70 : decode cX2_readPerson 70 = .ok (.ifCond .eq 14, 3) := by decide +kernel
theorem dX2_readPerson_73 : decode cX2_readPerson 73 = .ok (.aload_n 0, 1) := by decide +kernel
theorem dX2_readPerson_74 : decode cX2_readPerson 74 = .ok (.getfield 12, 3) := by decide +kernel
theorem dX2_readPerson_77 : decode cX2_readPerson 77 = .ok (.lload_n 1, 1) := by decide +kernel
theorem dX2_readPerson_78 : decode cX2_readPerson 78 = .ok (.iload_n 3, 1) := by decide +kernel
theorem dX2_readPerson_79 : decode cX2_readPerson 79 = .ok (.iload 4, 2) := by decide +kernel
theorem dX2_readPerson_81 : decode cX2_readPerson 81 = .ok (.invokevirtual 115, 3) := by decide +kernel
theorem dX2_readPerson_84 : decode cX2_readPerson 84 = .ok (.return_, 1) := by decide +kernel
theorem bX2_readPerson_0 {G : Gt} {d bc bs : Nat} {Q : QT} {l : Ls} {z : List Value} {h : Hp} (k : (tAld 0 (tGetf 1 1 (tGetf 9 1 (tPush (.int 8) (tIf2 (fun x y => x < y) (fun l z h => T G d bc bs mX2_readPerson 20 l z h Q) (fun l z h => T G d bc bs mX2_readPerson 12 l z h Q)))))) l z h) : T G d bc bs mX2_readPerson 0 l z h Q := by
  refine R_aload_n dX2_readPerson_0 rfl (fun l z h k => ?_) k
  refine R_getf (ci := 1) (f := 1) (C := RX2) (N := 2) (Tt := TX2) dX2_readPerson_1 rfl i_X2 (by decide) w_321 (fun l z h k => ?_) k
  refine R_getf (ci := 9) (f := 1) (C := RX11) (N := 14) (Tt := TX11) dX2_readPerson_4 rfl i_X11 (by decide) w_256 (fun l z h k => ?_) k
  refine R_bipush dX2_readPerson_7 (by decide) (fun l z h k => ?_) k
  exact R_icmp_lt dX2_readPerson_9 (by decide) (fun _ _ _ k => k) (fun _ _ _ k => k) k
theorem bX2_readPerson_12 {G : Gt} {d bc bs : Nat} {Q : QT} {l : Ls} {z : List Value} {h : Hp} (k : (tAld 0 (tGetf 1 0 (tPush (.int 4) (tCV1 G d 0 0 8 mX9_fail (fun l z h => T G d bc bs mX2_readPerson 20 l z h Q))))) l z h) : T G d bc bs mX2_readPerson 12 l z h Q := by
  refine R_aload_n dX2_readPerson_12 rfl (fun l z h k => ?_) k
  refine R_getf (ci := 1) (f := 0) (C := RX2) (N := 2) (Tt := TX2) dX2_readPerson_13 rfl i_X2 (by decide) w_320 (fun l z h k => ?_) k
  refine R_iconst dX2_readPerson_16 (by decide) (fun l z h k => ?_) k
  exact R_cv1 (M := mX2_readPerson) (pc := 17) (bc := bc) (bs := bs) (cb := 0) (cs := 0) (M' := mX9_fail) dX2_readPerson_17 rfl (by decide) w_674 w_132 w_671 w_672 w_673 (by decide +kernel) (fun _ _ _ k => k) k
theorem bX2_readPerson_20 {G : Gt} {d bc bs : Nat} {Q : QT} {l : Ls} {z : List Value} {h : Hp} (k : (tAld 0 (tGetf 1 0 (tCV0 G d 0 0 8 mX9_step (fun l z h => T G d bc bs mX2_readPerson 27 l z h Q)))) l z h) : T G d bc bs mX2_readPerson 20 l z h Q := by
  refine R_aload_n dX2_readPerson_20 rfl (fun l z h k => ?_) k
  refine R_getf (ci := 1) (f := 0) (C := RX2) (N := 2) (Tt := TX2) dX2_readPerson_21 rfl i_X2 (by decide) w_320 (fun l z h k => ?_) k
  exact R_cv0 (M := mX2_readPerson) (pc := 24) (bc := bc) (bs := bs) (cb := 0) (cs := 0) (M' := mX9_step) dX2_readPerson_24 rfl (by decide) w_652 w_132 w_675 w_650 w_651 (by decide +kernel) (fun _ _ _ k => k) k
theorem bX2_readPerson_27 {G : Gt} {d bc bs : Nat} {Q : QT} {l : Ls} {z : List Value} {h : Hp} (k : (tAld 0 (tGetf 1 0 (tAld 0 (tGetf 1 1 (tCV1 G d 0 0 8 mX9_newNameHere (fun l z h => T G d bc bs mX2_readPerson 38 l z h Q)))))) l z h) : T G d bc bs mX2_readPerson 27 l z h Q := by
  refine R_aload_n dX2_readPerson_27 rfl (fun l z h k => ?_) k
  refine R_getf (ci := 1) (f := 0) (C := RX2) (N := 2) (Tt := TX2) dX2_readPerson_28 rfl i_X2 (by decide) w_320 (fun l z h k => ?_) k
  refine R_aload_n dX2_readPerson_31 rfl (fun l z h k => ?_) k
  refine R_getf (ci := 1) (f := 1) (C := RX2) (N := 2) (Tt := TX2) dX2_readPerson_32 rfl i_X2 (by decide) w_321 (fun l z h k => ?_) k
  exact R_cv1 (M := mX2_readPerson) (pc := 35) (bc := bc) (bs := bs) (cb := 0) (cs := 0) (M' := mX9_newNameHere) dX2_readPerson_35 rfl (by decide) w_679 w_132 w_676 w_677 w_678 (by decide +kernel) (fun _ _ _ k => k) k
theorem bX2_readPerson_38 {G : Gt} {d bc bs : Nat} {Q : QT} {l : Ls} {z : List Value} {h : Hp} (k : (tLst 1 (tAld 0 (tGetf 1 0 (tCV0 G d 0 0 8 mX9_step (fun l z h => T G d bc bs mX2_readPerson 46 l z h Q))))) l z h) : T G d bc bs mX2_readPerson 38 l z h Q := by
  refine R_lstore_n dX2_readPerson_38 rfl (by decide) (fun l z h k => ?_) k
  refine R_aload_n dX2_readPerson_39 rfl (fun l z h k => ?_) k
  refine R_getf (ci := 1) (f := 0) (C := RX2) (N := 2) (Tt := TX2) dX2_readPerson_40 rfl i_X2 (by decide) w_320 (fun l z h k => ?_) k
  exact R_cv0 (M := mX2_readPerson) (pc := 43) (bc := bc) (bs := bs) (cb := 0) (cs := 0) (M' := mX9_step) dX2_readPerson_43 rfl (by decide) w_652 w_132 w_675 w_650 w_651 (by decide +kernel) (fun _ _ _ k => k) k
theorem bX2_readPerson_46 {G : Gt} {d bc bs : Nat} {Q : QT} {l : Ls} {z : List Value} {h : Hp} (k : (tAld 0 (tGetf 1 0 (tCV0 G d 0 0 8 mX9_takePlace (fun l z h => T G d bc bs mX2_readPerson 53 l z h Q)))) l z h) : T G d bc bs mX2_readPerson 46 l z h Q := by
  refine R_aload_n dX2_readPerson_46 rfl (fun l z h k => ?_) k
  refine R_getf (ci := 1) (f := 0) (C := RX2) (N := 2) (Tt := TX2) dX2_readPerson_47 rfl i_X2 (by decide) w_320 (fun l z h k => ?_) k
  exact R_cv0 (M := mX2_readPerson) (pc := 50) (bc := bc) (bs := bs) (cb := 0) (cs := 0) (M' := mX9_takePlace) dX2_readPerson_50 rfl (by decide) w_715 w_132 w_712 w_713 w_714 (by decide +kernel) (fun _ _ _ k => k) k
theorem bX2_readPerson_53 {G : Gt} {d bc bs : Nat} {Q : QT} {l : Ls} {z : List Value} {h : Hp} (k : (tIst 3 (tAld 0 (tGetf 1 0 (tCV0 G d 0 0 8 mX9_takeEnd (fun l z h => T G d bc bs mX2_readPerson 61 l z h Q))))) l z h) : T G d bc bs mX2_readPerson 53 l z h Q := by
  refine R_istore_n dX2_readPerson_53 rfl (by decide) (fun l z h k => ?_) k
  refine R_aload_n dX2_readPerson_54 rfl (fun l z h k => ?_) k
  refine R_getf (ci := 1) (f := 0) (C := RX2) (N := 2) (Tt := TX2) dX2_readPerson_55 rfl i_X2 (by decide) w_320 (fun l z h k => ?_) k
  exact R_cv0 (M := mX2_readPerson) (pc := 58) (bc := bc) (bs := bs) (cb := 0) (cs := 0) (M' := mX9_takeEnd) dX2_readPerson_58 rfl (by decide) w_693 w_132 w_690 w_691 w_692 (by decide +kernel) (fun _ _ _ k => k) k
theorem bX2_readPerson_61 {G : Gt} {d bc bs : Nat} {Q : QT} {l : Ls} {z : List Value} {h : Hp} (k : (tIst 4 (tAld 0 (tGetf 1 0 (tCV0 G d 0 0 8 mX9_isSound (fun l z h => T G d bc bs mX2_readPerson 70 l z h Q))))) l z h) : T G d bc bs mX2_readPerson 61 l z h Q := by
  refine R_istore dX2_readPerson_61 (by decide) (fun l z h k => ?_) k
  refine R_aload_n dX2_readPerson_63 rfl (fun l z h k => ?_) k
  refine R_getf (ci := 1) (f := 0) (C := RX2) (N := 2) (Tt := TX2) dX2_readPerson_64 rfl i_X2 (by decide) w_320 (fun l z h k => ?_) k
  exact R_cv0 (M := mX2_readPerson) (pc := 67) (bc := bc) (bs := bs) (cb := 0) (cs := 0) (M' := mX9_isSound) dX2_readPerson_67 rfl (by decide) w_656 w_132 w_653 w_654 w_655 (by decide +kernel) (fun _ _ _ k => k) k
theorem bX2_readPerson_70 {G : Gt} {d bc bs : Nat} {Q : QT} {l : Ls} {z : List Value} {h : Hp} (k : (tIf (fun x => x = 0) (fun l z h => T G d bc bs mX2_readPerson 84 l z h Q) (fun l z h => T G d bc bs mX2_readPerson 73 l z h Q)) l z h) : T G d bc bs mX2_readPerson 70 l z h Q := by
  exact R_if_eq dX2_readPerson_70 (by decide) (fun _ _ _ k => k) (fun _ _ _ k => k) k
theorem bX2_readPerson_73 {G : Gt} {d bc bs : Nat} {Q : QT} {l : Ls} {z : List Value} {h : Hp} (k : (tAld 0 (tGetf 1 1 (tLld 1 (tIld 3 (tIld 4 (tCV3 G d 0 0 9 mX11_addPerson (fun l z h => T G d bc bs mX2_readPerson 84 l z h Q))))))) l z h) : T G d bc bs mX2_readPerson 73 l z h Q := by
  refine R_aload_n dX2_readPerson_73 rfl (fun l z h k => ?_) k
  refine R_getf (ci := 1) (f := 1) (C := RX2) (N := 2) (Tt := TX2) dX2_readPerson_74 rfl i_X2 (by decide) w_321 (fun l z h k => ?_) k
  refine R_lload_n dX2_readPerson_77 rfl (fun l z h k => ?_) k
  refine R_iload_n dX2_readPerson_78 rfl (fun l z h k => ?_) k
  refine R_iload dX2_readPerson_79 (fun l z h k => ?_) k
  exact R_cv3 (M := mX2_readPerson) (pc := 81) (bc := bc) (bs := bs) (cb := 0) (cs := 0) (M' := mX11_addPerson) dX2_readPerson_81 rfl (by decide) w_721 w_136 w_718 w_719 w_720 (by decide +kernel) (fun _ _ _ k => k) k
theorem bX2_readPerson_84 {G : Gt} {d bc bs : Nat} {Q : QT} {l : Ls} {z : List Value} {h : Hp} (k : (tRetV Q) l z h) : T G d bc bs mX2_readPerson 84 l z h Q := by
  exact R_vret dX2_readPerson_84 rfl k
theorem dX2_readHas_0 : decode cX2_readHas 0 = .ok (.aload_n 0, 1) := by decide +kernel
theorem dX2_readHas_1 : decode cX2_readHas 1 = .ok (.getfield 18, 3) := by decide +kernel
theorem dX2_readHas_4 : decode cX2_readHas 4 = .ok (.invokevirtual 90, 3) := by decide +kernel
theorem dX2_readHas_7 : decode cX2_readHas 7 = .ok (.aload_n 0, 1) := by decide +kernel
theorem dX2_readHas_8 : decode cX2_readHas 8 = .ok (.getfield 18, 3) := by decide +kernel
theorem dX2_readHas_11 : decode cX2_readHas 11 = .ok (.aload_n 0, 1) := by decide +kernel
theorem dX2_readHas_12 : decode cX2_readHas 12 = .ok (.getfield 12, 3) := by decide +kernel
theorem dX2_readHas_15 : decode cX2_readHas 15 = .ok (.invokevirtual 118, 3) := by decide +kernel
theorem dX2_readHas_18 : decode cX2_readHas 18 = .ok (.istore_n 1, 1) := by decide +kernel
theorem dX2_readHas_19 : decode cX2_readHas 19 = .ok (.aload_n 0, 1) := by decide +kernel
theorem dX2_readHas_20 : decode cX2_readHas 20 = .ok (.getfield 18, 3) := by decide +kernel
theorem dX2_readHas_23 : decode cX2_readHas 23 = .ok (.invokevirtual 90, 3) := by decide +kernel
theorem dX2_readHas_26 : decode cX2_readHas 26 = .ok (.aload_n 0, 1) := by decide +kernel
theorem dX2_readHas_27 : decode cX2_readHas 27 = .ok (.getfield 18, 3) := by decide +kernel
theorem dX2_readHas_30 : decode cX2_readHas 30 = .ok (.aload_n 0, 1) := by decide +kernel
theorem dX2_readHas_31 : decode cX2_readHas 31 = .ok (.getfield 12, 3) := by decide +kernel
theorem dX2_readHas_34 : decode cX2_readHas 34 = .ok (.invokevirtual 122, 3) := by decide +kernel
theorem dX2_readHas_37 : decode cX2_readHas 37 = .ok (.istore_n 2, 1) := by decide +kernel
theorem dX2_readHas_38 : decode cX2_readHas 38 = .ok (.aload_n 0, 1) := by decide +kernel
theorem dX2_readHas_39 : decode cX2_readHas 39 = .ok (.getfield 18, 3) := by decide +kernel
theorem dX2_readHas_42 : decode cX2_readHas 42 = .ok (.invokevirtual 33, 3) := by decide +kernel
theorem dX2_readHas_45 : decode cX2_readHas 45 = .ok (.ifCond .eq 23, 3) := by decide +kernel
theorem dX2_readHas_48 : decode cX2_readHas 48 = .ok (.aload_n 0, 1) := by decide +kernel
theorem dX2_readHas_49 : decode cX2_readHas 49 = .ok (.getfield 12, 3) := by decide +kernel
theorem dX2_readHas_52 : decode cX2_readHas 52 = .ok (.iload_n 1, 1) := by decide +kernel
theorem dX2_readHas_53 : decode cX2_readHas 53 = .ok (.iload_n 2, 1) := by decide +kernel
theorem dX2_readHas_54 : decode cX2_readHas 54 = .ok (.invokevirtual 125, 3) := by decide +kernel
theorem dX2_readHas_57 : decode cX2_readHas 57 = .ok (.ifCond .eq 11, 3) := by decide +kernel
theorem dX2_readHas_60 : decode cX2_readHas 60 = .ok (.aload_n 0, 1) := by decide +kernel
theorem dX2_readHas_61 : decode cX2_readHas 61 = .ok (.getfield 18, 3) := by decide +kernel
theorem dX2_readHas_64 : decode cX2_readHas 64 = .ok (.iconst 3, 1) := by decide +kernel
theorem dX2_readHas_65 : decode cX2_readHas 65 = .ok (.invokevirtual 84, 3) := by decide +kernel
theorem dX2_readHas_68 : decode cX2_readHas 68 = .ok (.aload_n 0, 1) := by decide +kernel
theorem dX2_readHas_69 : decode cX2_readHas 69 = .ok (.getfield 18, 3) := by decide +kernel
theorem dX2_readHas_72 : decode cX2_readHas 72 = .ok (.invokevirtual 90, 3) := by decide +kernel
theorem dX2_readHas_75 : decode cX2_readHas 75 = .ok (.aload_n 0, 1) := by decide +kernel
theorem dX2_readHas_76 : decode cX2_readHas 76 = .ok (.getfield 18, 3) := by decide +kernel
theorem dX2_readHas_79 : decode cX2_readHas 79 = .ok (.iconst 1, 1) := by decide +kernel
theorem dX2_readHas_80 : decode cX2_readHas 80 = .ok (.bipush 12, 2) := by decide +kernel
theorem dX2_readHas_82 : decode cX2_readHas 82 = .ok (.invokevirtual 101, 3) := by decide +kernel
theorem dX2_readHas_85 : decode cX2_readHas 85 = .ok (.istore_n 3, 1) := by decide +kernel
theorem dX2_readHas_86 : decode cX2_readHas 86 = .ok (.aload_n 0, 1) := by decide +kernel
theorem dX2_readHas_87 : decode cX2_readHas 87 = .ok (.getfield 18, 3) := by decide +kernel
theorem dX2_readHas_90 : decode cX2_readHas 90 = .ok (.invokevirtual 33, 3) := by decide +kernel
theorem dX2_readHas_93 : decode cX2_readHas 93 = .ok (.ifCond .eq 13, 3) := by decide +kernel
theorem dX2_readHas_96 : decode cX2_readHas 96 = .ok (.aload_n 0, 1) := by decide +kernel
theorem dX2_readHas_97 : decode cX2_readHas 97 = .ok (.getfield 12, 3) := by decide +kernel
theorem dX2_readHas_100 : decode cX2_readHas 100 = .ok (.iload_n 1, 1) := by decide +kernel
theorem dX2_readHas_101 : decode cX2_readHas 101 = .ok (.iload_n 2, 1) := by decide +kernel
theorem dX2_readHas_102 : decode cX2_readHas 102 = .ok (.iload_n 3, 1) := by decide +kernel
theorem dX2_readHas_103 : decode cX2_readHas 103 = .ok (.invokevirtual 128, 3) := by decide +kernel
theorem dX2_readHas_106 : decode cX2_readHas 106 = .ok (.return_, 1) := by decide +kernel
theorem bX2_readHas_0 {G : Gt} {d bc bs : Nat} {Q : QT} {l : Ls} {z : List Value} {h : Hp} (k : (tAld 0 (tGetf 1 0 (tCV0 G d 0 0 8 mX9_step (fun l z h => T G d bc bs mX2_readHas 7 l z h Q)))) l z h) : T G d bc bs mX2_readHas 0 l z h Q := by
  refine R_aload_n dX2_readHas_0 rfl (fun l z h k => ?_) k
  refine R_getf (ci := 1) (f := 0) (C := RX2) (N := 2) (Tt := TX2) dX2_readHas_1 rfl i_X2 (by decide) w_320 (fun l z h k => ?_) k
  exact R_cv0 (M := mX2_readHas) (pc := 4) (bc := bc) (bs := bs) (cb := 0) (cs := 0) (M' := mX9_step) dX2_readHas_4 rfl (by decide) w_652 w_132 w_675 w_650 w_651 (by decide +kernel) (fun _ _ _ k => k) k
theorem bX2_readHas_7 {G : Gt} {d bc bs : Nat} {Q : QT} {l : Ls} {z : List Value} {h : Hp} (k : (tAld 0 (tGetf 1 0 (tAld 0 (tGetf 1 1 (tCV1 G d 0 0 8 mX9_personHere (fun l z h => T G d bc bs mX2_readHas 18 l z h Q)))))) l z h) : T G d bc bs mX2_readHas 7 l z h Q := by
  refine R_aload_n dX2_readHas_7 rfl (fun l z h k => ?_) k
  refine R_getf (ci := 1) (f := 0) (C := RX2) (N := 2) (Tt := TX2) dX2_readHas_8 rfl i_X2 (by decide) w_320 (fun l z h k => ?_) k
  refine R_aload_n dX2_readHas_11 rfl (fun l z h k => ?_) k
  refine R_getf (ci := 1) (f := 1) (C := RX2) (N := 2) (Tt := TX2) dX2_readHas_12 rfl i_X2 (by decide) w_321 (fun l z h k => ?_) k
  exact R_cv1 (M := mX2_readHas) (pc := 15) (bc := bc) (bs := bs) (cb := 0) (cs := 0) (M' := mX9_personHere) dX2_readHas_15 rfl (by decide) w_731 w_132 w_728 w_729 w_730 (by decide +kernel) (fun _ _ _ k => k) k
theorem bX2_readHas_18 {G : Gt} {d bc bs : Nat} {Q : QT} {l : Ls} {z : List Value} {h : Hp} (k : (tIst 1 (tAld 0 (tGetf 1 0 (tCV0 G d 0 0 8 mX9_step (fun l z h => T G d bc bs mX2_readHas 26 l z h Q))))) l z h) : T G d bc bs mX2_readHas 18 l z h Q := by
  refine R_istore_n dX2_readHas_18 rfl (by decide) (fun l z h k => ?_) k
  refine R_aload_n dX2_readHas_19 rfl (fun l z h k => ?_) k
  refine R_getf (ci := 1) (f := 0) (C := RX2) (N := 2) (Tt := TX2) dX2_readHas_20 rfl i_X2 (by decide) w_320 (fun l z h k => ?_) k
  exact R_cv0 (M := mX2_readHas) (pc := 23) (bc := bc) (bs := bs) (cb := 0) (cs := 0) (M' := mX9_step) dX2_readHas_23 rfl (by decide) w_652 w_132 w_675 w_650 w_651 (by decide +kernel) (fun _ _ _ k => k) k
theorem bX2_readHas_26 {G : Gt} {d bc bs : Nat} {Q : QT} {l : Ls} {z : List Value} {h : Hp} (k : (tAld 0 (tGetf 1 0 (tAld 0 (tGetf 1 1 (tCV1 G d 0 0 8 mX9_thingHere (fun l z h => T G d bc bs mX2_readHas 37 l z h Q)))))) l z h) : T G d bc bs mX2_readHas 26 l z h Q := by
  refine R_aload_n dX2_readHas_26 rfl (fun l z h k => ?_) k
  refine R_getf (ci := 1) (f := 0) (C := RX2) (N := 2) (Tt := TX2) dX2_readHas_27 rfl i_X2 (by decide) w_320 (fun l z h k => ?_) k
  refine R_aload_n dX2_readHas_30 rfl (fun l z h k => ?_) k
  refine R_getf (ci := 1) (f := 1) (C := RX2) (N := 2) (Tt := TX2) dX2_readHas_31 rfl i_X2 (by decide) w_321 (fun l z h k => ?_) k
  exact R_cv1 (M := mX2_readHas) (pc := 34) (bc := bc) (bs := bs) (cb := 0) (cs := 0) (M' := mX9_thingHere) dX2_readHas_34 rfl (by decide) w_735 w_132 w_732 w_733 w_734 (by decide +kernel) (fun _ _ _ k => k) k
theorem bX2_readHas_37 {G : Gt} {d bc bs : Nat} {Q : QT} {l : Ls} {z : List Value} {h : Hp} (k : (tIst 2 (tAld 0 (tGetf 1 0 (tCV0 G d 0 0 8 mX9_isSound (fun l z h => T G d bc bs mX2_readHas 45 l z h Q))))) l z h) : T G d bc bs mX2_readHas 37 l z h Q := by
  refine R_istore_n dX2_readHas_37 rfl (by decide) (fun l z h k => ?_) k
  refine R_aload_n dX2_readHas_38 rfl (fun l z h k => ?_) k
  refine R_getf (ci := 1) (f := 0) (C := RX2) (N := 2) (Tt := TX2) dX2_readHas_39 rfl i_X2 (by decide) w_320 (fun l z h k => ?_) k
  exact R_cv0 (M := mX2_readHas) (pc := 42) (bc := bc) (bs := bs) (cb := 0) (cs := 0) (M' := mX9_isSound) dX2_readHas_42 rfl (by decide) w_656 w_132 w_653 w_654 w_655 (by decide +kernel) (fun _ _ _ k => k) k
theorem bX2_readHas_45 {G : Gt} {d bc bs : Nat} {Q : QT} {l : Ls} {z : List Value} {h : Hp} (k : (tIf (fun x => x = 0) (fun l z h => T G d bc bs mX2_readHas 68 l z h Q) (fun l z h => T G d bc bs mX2_readHas 48 l z h Q)) l z h) : T G d bc bs mX2_readHas 45 l z h Q := by
  exact R_if_eq dX2_readHas_45 (by decide) (fun _ _ _ k => k) (fun _ _ _ k => k) k
theorem bX2_readHas_48 {G : Gt} {d bc bs : Nat} {Q : QT} {l : Ls} {z : List Value} {h : Hp} (k : (tAld 0 (tGetf 1 1 (tIld 1 (tIld 2 (tCV2 G d 0 0 9 mX11_held (fun l z h => T G d bc bs mX2_readHas 57 l z h Q)))))) l z h) : T G d bc bs mX2_readHas 48 l z h Q := by
  refine R_aload_n dX2_readHas_48 rfl (fun l z h k => ?_) k
  refine R_getf (ci := 1) (f := 1) (C := RX2) (N := 2) (Tt := TX2) dX2_readHas_49 rfl i_X2 (by decide) w_321 (fun l z h k => ?_) k
  refine R_iload_n dX2_readHas_52 rfl (fun l z h k => ?_) k
  refine R_iload_n dX2_readHas_53 rfl (fun l z h k => ?_) k
  exact R_cv2 (M := mX2_readHas) (pc := 54) (bc := bc) (bs := bs) (cb := 0) (cs := 0) (M' := mX11_held) dX2_readHas_54 rfl (by decide) w_739 w_136 w_736 w_737 w_738 (by decide +kernel) (fun _ _ _ k => k) k
theorem bX2_readHas_57 {G : Gt} {d bc bs : Nat} {Q : QT} {l : Ls} {z : List Value} {h : Hp} (k : (tIf (fun x => x = 0) (fun l z h => T G d bc bs mX2_readHas 68 l z h Q) (fun l z h => T G d bc bs mX2_readHas 60 l z h Q)) l z h) : T G d bc bs mX2_readHas 57 l z h Q := by
  exact R_if_eq dX2_readHas_57 (by decide) (fun _ _ _ k => k) (fun _ _ _ k => k) k
theorem bX2_readHas_60 {G : Gt} {d bc bs : Nat} {Q : QT} {l : Ls} {z : List Value} {h : Hp} (k : (tAld 0 (tGetf 1 0 (tPush (.int 3) (tCV1 G d 0 0 8 mX9_fail (fun l z h => T G d bc bs mX2_readHas 68 l z h Q))))) l z h) : T G d bc bs mX2_readHas 60 l z h Q := by
  refine R_aload_n dX2_readHas_60 rfl (fun l z h k => ?_) k
  refine R_getf (ci := 1) (f := 0) (C := RX2) (N := 2) (Tt := TX2) dX2_readHas_61 rfl i_X2 (by decide) w_320 (fun l z h k => ?_) k
  refine R_iconst dX2_readHas_64 (by decide) (fun l z h k => ?_) k
  exact R_cv1 (M := mX2_readHas) (pc := 65) (bc := bc) (bs := bs) (cb := 0) (cs := 0) (M' := mX9_fail) dX2_readHas_65 rfl (by decide) w_674 w_132 w_671 w_672 w_673 (by decide +kernel) (fun _ _ _ k => k) k
theorem bX2_readHas_68 {G : Gt} {d bc bs : Nat} {Q : QT} {l : Ls} {z : List Value} {h : Hp} (k : (tAld 0 (tGetf 1 0 (tCV0 G d 0 0 8 mX9_step (fun l z h => T G d bc bs mX2_readHas 75 l z h Q)))) l z h) : T G d bc bs mX2_readHas 68 l z h Q := by
  refine R_aload_n dX2_readHas_68 rfl (fun l z h k => ?_) k
  refine R_getf (ci := 1) (f := 0) (C := RX2) (N := 2) (Tt := TX2) dX2_readHas_69 rfl i_X2 (by decide) w_320 (fun l z h k => ?_) k
  exact R_cv0 (M := mX2_readHas) (pc := 72) (bc := bc) (bs := bs) (cb := 0) (cs := 0) (M' := mX9_step) dX2_readHas_72 rfl (by decide) w_652 w_132 w_675 w_650 w_651 (by decide +kernel) (fun _ _ _ k => k) k
theorem bX2_readHas_75 {G : Gt} {d bc bs : Nat} {Q : QT} {l : Ls} {z : List Value} {h : Hp} (k : (tAld 0 (tGetf 1 0 (tPush (.int 1) (tPush (.int 12) (tCV2 G d 0 0 8 mX9_takeNumber (fun l z h => T G d bc bs mX2_readHas 85 l z h Q)))))) l z h) : T G d bc bs mX2_readHas 75 l z h Q := by
  refine R_aload_n dX2_readHas_75 rfl (fun l z h k => ?_) k
  refine R_getf (ci := 1) (f := 0) (C := RX2) (N := 2) (Tt := TX2) dX2_readHas_76 rfl i_X2 (by decide) w_320 (fun l z h k => ?_) k
  refine R_iconst dX2_readHas_79 (by decide) (fun l z h k => ?_) k
  refine R_bipush dX2_readHas_80 (by decide) (fun l z h k => ?_) k
  exact R_cv2 (M := mX2_readHas) (pc := 82) (bc := bc) (bs := bs) (cb := 0) (cs := 0) (M' := mX9_takeNumber) dX2_readHas_82 rfl (by decide) w_701 w_132 w_698 w_699 w_700 (by decide +kernel) (fun _ _ _ k => k) k
theorem bX2_readHas_85 {G : Gt} {d bc bs : Nat} {Q : QT} {l : Ls} {z : List Value} {h : Hp} (k : (tIst 3 (tAld 0 (tGetf 1 0 (tCV0 G d 0 0 8 mX9_isSound (fun l z h => T G d bc bs mX2_readHas 93 l z h Q))))) l z h) : T G d bc bs mX2_readHas 85 l z h Q := by
  refine R_istore_n dX2_readHas_85 rfl (by decide) (fun l z h k => ?_) k
  refine R_aload_n dX2_readHas_86 rfl (fun l z h k => ?_) k
  refine R_getf (ci := 1) (f := 0) (C := RX2) (N := 2) (Tt := TX2) dX2_readHas_87 rfl i_X2 (by decide) w_320 (fun l z h k => ?_) k
  exact R_cv0 (M := mX2_readHas) (pc := 90) (bc := bc) (bs := bs) (cb := 0) (cs := 0) (M' := mX9_isSound) dX2_readHas_90 rfl (by decide) w_656 w_132 w_653 w_654 w_655 (by decide +kernel) (fun _ _ _ k => k) k
theorem bX2_readHas_93 {G : Gt} {d bc bs : Nat} {Q : QT} {l : Ls} {z : List Value} {h : Hp} (k : (tIf (fun x => x = 0) (fun l z h => T G d bc bs mX2_readHas 106 l z h Q) (fun l z h => T G d bc bs mX2_readHas 96 l z h Q)) l z h) : T G d bc bs mX2_readHas 93 l z h Q := by
  exact R_if_eq dX2_readHas_93 (by decide) (fun _ _ _ k => k) (fun _ _ _ k => k) k
theorem bX2_readHas_96 {G : Gt} {d bc bs : Nat} {Q : QT} {l : Ls} {z : List Value} {h : Hp} (k : (tAld 0 (tGetf 1 1 (tIld 1 (tIld 2 (tIld 3 (tCV3 G d 0 0 9 mX11_setHeld (fun l z h => T G d bc bs mX2_readHas 106 l z h Q))))))) l z h) : T G d bc bs mX2_readHas 96 l z h Q := by
  refine R_aload_n dX2_readHas_96 rfl (fun l z h k => ?_) k
  refine R_getf (ci := 1) (f := 1) (C := RX2) (N := 2) (Tt := TX2) dX2_readHas_97 rfl i_X2 (by decide) w_321 (fun l z h k => ?_) k
  refine R_iload_n dX2_readHas_100 rfl (fun l z h k => ?_) k
  refine R_iload_n dX2_readHas_101 rfl (fun l z h k => ?_) k
  refine R_iload_n dX2_readHas_102 rfl (fun l z h k => ?_) k
  exact R_cv3 (M := mX2_readHas) (pc := 103) (bc := bc) (bs := bs) (cb := 0) (cs := 0) (M' := mX11_setHeld) dX2_readHas_103 rfl (by decide) w_743 w_136 w_740 w_741 w_742 (by decide +kernel) (fun _ _ _ k => k) k
theorem bX2_readHas_106 {G : Gt} {d bc bs : Nat} {Q : QT} {l : Ls} {z : List Value} {h : Hp} (k : (tRetV Q) l z h) : T G d bc bs mX2_readHas 106 l z h Q := by
  exact R_vret dX2_readHas_106 rfl k
theorem dX2_readAsks_0 : decode cX2_readAsks 0 = .ok (.aload_n 0, 1) := by decide +kernel
theorem dX2_readAsks_1 : decode cX2_readAsks 1 = .ok (.getfield 18, 3) := by decide +kernel
theorem dX2_readAsks_4 : decode cX2_readAsks 4 = .ok (.invokevirtual 90, 3) := by decide +kernel
theorem dX2_readAsks_7 : decode cX2_readAsks 7 = .ok (.aload_n 0, 1) := by decide +kernel
theorem dX2_readAsks_8 : decode cX2_readAsks 8 = .ok (.getfield 18, 3) := by decide +kernel
theorem dX2_readAsks_11 : decode cX2_readAsks 11 = .ok (.invokevirtual 97, 3) := by decide +kernel
theorem dX2_readAsks_14 : decode cX2_readAsks 14 = .ok (.istore_n 1, 1) := by decide +kernel
theorem dX2_readAsks_15 : decode cX2_readAsks 15 = .ok (.aload_n 0, 1) := by decide +kernel
theorem dX2_readAsks_16 : decode cX2_readAsks 16 = .ok (.getfield 18, 3) := by decide +kernel
theorem dX2_readAsks_19 : decode cX2_readAsks 19 = .ok (.aload_n 0, 1) := by decide +kernel
theorem dX2_readAsks_20 : decode cX2_readAsks 20 = .ok (.getfield 12, 3) := by decide +kernel
theorem dX2_readAsks_23 : decode cX2_readAsks 23 = .ok (.invokevirtual 122, 3) := by decide +kernel
theorem dX2_readAsks_26 : decode cX2_readAsks 26 = .ok (.istore_n 2, 1) := by decide +kernel
theorem dX2_readAsks_27 : decode cX2_readAsks 27 = .ok (.aload_n 0, 1) := by decide +kernel
theorem dX2_readAsks_28 : decode cX2_readAsks 28 = .ok (.getfield 18, 3) := by decide +kernel
theorem dX2_readAsks_31 : decode cX2_readAsks 31 = .ok (.invokevirtual 33, 3) := by decide +kernel
theorem dX2_readAsks_34 : decode cX2_readAsks 34 = .ok (.ifCond .eq 23, 3) := by decide +kernel
theorem dX2_readAsks_37 : decode cX2_readAsks 37 = .ok (.aload_n 0, 1) := by decide +kernel
theorem dX2_readAsks_38 : decode cX2_readAsks 38 = .ok (.getfield 12, 3) := by decide +kernel
theorem dX2_readAsks_41 : decode cX2_readAsks 41 = .ok (.iload_n 1, 1) := by decide +kernel
theorem dX2_readAsks_42 : decode cX2_readAsks 42 = .ok (.iload_n 2, 1) := by decide +kernel
theorem dX2_readAsks_43 : decode cX2_readAsks 43 = .ok (.invokevirtual 132, 3) := by decide +kernel
theorem dX2_readAsks_46 : decode cX2_readAsks 46 = .ok (.ifCond .eq 11, 3) := by decide +kernel
theorem dX2_readAsks_49 : decode cX2_readAsks 49 = .ok (.aload_n 0, 1) := by decide +kernel
theorem dX2_readAsks_50 : decode cX2_readAsks 50 = .ok (.getfield 18, 3) := by decide +kernel
theorem dX2_readAsks_53 : decode cX2_readAsks 53 = .ok (.iconst 3, 1) := by decide +kernel
theorem dX2_readAsks_54 : decode cX2_readAsks 54 = .ok (.invokevirtual 84, 3) := by decide +kernel
theorem dX2_readAsks_57 : decode cX2_readAsks 57 = .ok (.aload_n 0, 1) := by decide +kernel
theorem dX2_readAsks_58 : decode cX2_readAsks 58 = .ok (.getfield 18, 3) := by decide +kernel
theorem dX2_readAsks_61 : decode cX2_readAsks 61 = .ok (.invokevirtual 90, 3) := by decide +kernel
theorem dX2_readAsks_64 : decode cX2_readAsks 64 = .ok (.aload_n 0, 1) := by decide +kernel
theorem dX2_readAsks_65 : decode cX2_readAsks 65 = .ok (.getfield 18, 3) := by decide +kernel
theorem dX2_readAsks_68 : decode cX2_readAsks 68 = .ok (.iconst 1, 1) := by decide +kernel
theorem dX2_readAsks_69 : decode cX2_readAsks 69 = .ok (.bipush 12, 2) := by decide +kernel
theorem dX2_readAsks_71 : decode cX2_readAsks 71 = .ok (.invokevirtual 101, 3) := by decide +kernel
theorem dX2_readAsks_74 : decode cX2_readAsks 74 = .ok (.istore_n 3, 1) := by decide +kernel
theorem dX2_readAsks_75 : decode cX2_readAsks 75 = .ok (.aload_n 0, 1) := by decide +kernel
theorem dX2_readAsks_76 : decode cX2_readAsks 76 = .ok (.getfield 18, 3) := by decide +kernel
theorem dX2_readAsks_79 : decode cX2_readAsks 79 = .ok (.invokevirtual 33, 3) := by decide +kernel
theorem dX2_readAsks_82 : decode cX2_readAsks 82 = .ok (.ifCond .eq 13, 3) := by decide +kernel
theorem dX2_readAsks_85 : decode cX2_readAsks 85 = .ok (.aload_n 0, 1) := by decide +kernel
theorem dX2_readAsks_86 : decode cX2_readAsks 86 = .ok (.getfield 12, 3) := by decide +kernel
theorem dX2_readAsks_89 : decode cX2_readAsks 89 = .ok (.iload_n 1, 1) := by decide +kernel
theorem dX2_readAsks_90 : decode cX2_readAsks 90 = .ok (.iload_n 2, 1) := by decide +kernel
theorem dX2_readAsks_91 : decode cX2_readAsks 91 = .ok (.iload_n 3, 1) := by decide +kernel
theorem dX2_readAsks_92 : decode cX2_readAsks 92 = .ok (.invokevirtual 135, 3) := by decide +kernel
theorem dX2_readAsks_95 : decode cX2_readAsks 95 = .ok (.return_, 1) := by decide +kernel
theorem bX2_readAsks_0 {G : Gt} {d bc bs : Nat} {Q : QT} {l : Ls} {z : List Value} {h : Hp} (k : (tAld 0 (tGetf 1 0 (tCV0 G d 0 0 8 mX9_step (fun l z h => T G d bc bs mX2_readAsks 7 l z h Q)))) l z h) : T G d bc bs mX2_readAsks 0 l z h Q := by
  refine R_aload_n dX2_readAsks_0 rfl (fun l z h k => ?_) k
  refine R_getf (ci := 1) (f := 0) (C := RX2) (N := 2) (Tt := TX2) dX2_readAsks_1 rfl i_X2 (by decide) w_320 (fun l z h k => ?_) k
  exact R_cv0 (M := mX2_readAsks) (pc := 4) (bc := bc) (bs := bs) (cb := 0) (cs := 0) (M' := mX9_step) dX2_readAsks_4 rfl (by decide) w_652 w_132 w_675 w_650 w_651 (by decide +kernel) (fun _ _ _ k => k) k
theorem bX2_readAsks_7 {G : Gt} {d bc bs : Nat} {Q : QT} {l : Ls} {z : List Value} {h : Hp} (k : (tAld 0 (tGetf 1 0 (tCV0 G d 0 0 8 mX9_takeEnd (fun l z h => T G d bc bs mX2_readAsks 14 l z h Q)))) l z h) : T G d bc bs mX2_readAsks 7 l z h Q := by
  refine R_aload_n dX2_readAsks_7 rfl (fun l z h k => ?_) k
  refine R_getf (ci := 1) (f := 0) (C := RX2) (N := 2) (Tt := TX2) dX2_readAsks_8 rfl i_X2 (by decide) w_320 (fun l z h k => ?_) k
  exact R_cv0 (M := mX2_readAsks) (pc := 11) (bc := bc) (bs := bs) (cb := 0) (cs := 0) (M' := mX9_takeEnd) dX2_readAsks_11 rfl (by decide) w_693 w_132 w_690 w_691 w_692 (by decide +kernel) (fun _ _ _ k => k) k
theorem bX2_readAsks_14 {G : Gt} {d bc bs : Nat} {Q : QT} {l : Ls} {z : List Value} {h : Hp} (k : (tIst 1 (tAld 0 (tGetf 1 0 (tAld 0 (tGetf 1 1 (tCV1 G d 0 0 8 mX9_thingHere (fun l z h => T G d bc bs mX2_readAsks 26 l z h Q))))))) l z h) : T G d bc bs mX2_readAsks 14 l z h Q := by
  refine R_istore_n dX2_readAsks_14 rfl (by decide) (fun l z h k => ?_) k
  refine R_aload_n dX2_readAsks_15 rfl (fun l z h k => ?_) k
  refine R_getf (ci := 1) (f := 0) (C := RX2) (N := 2) (Tt := TX2) dX2_readAsks_16 rfl i_X2 (by decide) w_320 (fun l z h k => ?_) k
  refine R_aload_n dX2_readAsks_19 rfl (fun l z h k => ?_) k
  refine R_getf (ci := 1) (f := 1) (C := RX2) (N := 2) (Tt := TX2) dX2_readAsks_20 rfl i_X2 (by decide) w_321 (fun l z h k => ?_) k
  exact R_cv1 (M := mX2_readAsks) (pc := 23) (bc := bc) (bs := bs) (cb := 0) (cs := 0) (M' := mX9_thingHere) dX2_readAsks_23 rfl (by decide) w_735 w_132 w_732 w_733 w_734 (by decide +kernel) (fun _ _ _ k => k) k
theorem bX2_readAsks_26 {G : Gt} {d bc bs : Nat} {Q : QT} {l : Ls} {z : List Value} {h : Hp} (k : (tIst 2 (tAld 0 (tGetf 1 0 (tCV0 G d 0 0 8 mX9_isSound (fun l z h => T G d bc bs mX2_readAsks 34 l z h Q))))) l z h) : T G d bc bs mX2_readAsks 26 l z h Q := by
  refine R_istore_n dX2_readAsks_26 rfl (by decide) (fun l z h k => ?_) k
  refine R_aload_n dX2_readAsks_27 rfl (fun l z h k => ?_) k
  refine R_getf (ci := 1) (f := 0) (C := RX2) (N := 2) (Tt := TX2) dX2_readAsks_28 rfl i_X2 (by decide) w_320 (fun l z h k => ?_) k
  exact R_cv0 (M := mX2_readAsks) (pc := 31) (bc := bc) (bs := bs) (cb := 0) (cs := 0) (M' := mX9_isSound) dX2_readAsks_31 rfl (by decide) w_656 w_132 w_653 w_654 w_655 (by decide +kernel) (fun _ _ _ k => k) k
theorem bX2_readAsks_34 {G : Gt} {d bc bs : Nat} {Q : QT} {l : Ls} {z : List Value} {h : Hp} (k : (tIf (fun x => x = 0) (fun l z h => T G d bc bs mX2_readAsks 57 l z h Q) (fun l z h => T G d bc bs mX2_readAsks 37 l z h Q)) l z h) : T G d bc bs mX2_readAsks 34 l z h Q := by
  exact R_if_eq dX2_readAsks_34 (by decide) (fun _ _ _ k => k) (fun _ _ _ k => k) k
theorem bX2_readAsks_37 {G : Gt} {d bc bs : Nat} {Q : QT} {l : Ls} {z : List Value} {h : Hp} (k : (tAld 0 (tGetf 1 1 (tIld 1 (tIld 2 (tCV2 G d 0 0 9 mX11_askedAt (fun l z h => T G d bc bs mX2_readAsks 46 l z h Q)))))) l z h) : T G d bc bs mX2_readAsks 37 l z h Q := by
  refine R_aload_n dX2_readAsks_37 rfl (fun l z h k => ?_) k
  refine R_getf (ci := 1) (f := 1) (C := RX2) (N := 2) (Tt := TX2) dX2_readAsks_38 rfl i_X2 (by decide) w_321 (fun l z h k => ?_) k
  refine R_iload_n dX2_readAsks_41 rfl (fun l z h k => ?_) k
  refine R_iload_n dX2_readAsks_42 rfl (fun l z h k => ?_) k
  exact R_cv2 (M := mX2_readAsks) (pc := 43) (bc := bc) (bs := bs) (cb := 0) (cs := 0) (M' := mX11_askedAt) dX2_readAsks_43 rfl (by decide) w_753 w_136 w_750 w_751 w_752 (by decide +kernel) (fun _ _ _ k => k) k
theorem bX2_readAsks_46 {G : Gt} {d bc bs : Nat} {Q : QT} {l : Ls} {z : List Value} {h : Hp} (k : (tIf (fun x => x = 0) (fun l z h => T G d bc bs mX2_readAsks 57 l z h Q) (fun l z h => T G d bc bs mX2_readAsks 49 l z h Q)) l z h) : T G d bc bs mX2_readAsks 46 l z h Q := by
  exact R_if_eq dX2_readAsks_46 (by decide) (fun _ _ _ k => k) (fun _ _ _ k => k) k
theorem bX2_readAsks_49 {G : Gt} {d bc bs : Nat} {Q : QT} {l : Ls} {z : List Value} {h : Hp} (k : (tAld 0 (tGetf 1 0 (tPush (.int 3) (tCV1 G d 0 0 8 mX9_fail (fun l z h => T G d bc bs mX2_readAsks 57 l z h Q))))) l z h) : T G d bc bs mX2_readAsks 49 l z h Q := by
  refine R_aload_n dX2_readAsks_49 rfl (fun l z h k => ?_) k
  refine R_getf (ci := 1) (f := 0) (C := RX2) (N := 2) (Tt := TX2) dX2_readAsks_50 rfl i_X2 (by decide) w_320 (fun l z h k => ?_) k
  refine R_iconst dX2_readAsks_53 (by decide) (fun l z h k => ?_) k
  exact R_cv1 (M := mX2_readAsks) (pc := 54) (bc := bc) (bs := bs) (cb := 0) (cs := 0) (M' := mX9_fail) dX2_readAsks_54 rfl (by decide) w_674 w_132 w_671 w_672 w_673 (by decide +kernel) (fun _ _ _ k => k) k
theorem bX2_readAsks_57 {G : Gt} {d bc bs : Nat} {Q : QT} {l : Ls} {z : List Value} {h : Hp} (k : (tAld 0 (tGetf 1 0 (tCV0 G d 0 0 8 mX9_step (fun l z h => T G d bc bs mX2_readAsks 64 l z h Q)))) l z h) : T G d bc bs mX2_readAsks 57 l z h Q := by
  refine R_aload_n dX2_readAsks_57 rfl (fun l z h k => ?_) k
  refine R_getf (ci := 1) (f := 0) (C := RX2) (N := 2) (Tt := TX2) dX2_readAsks_58 rfl i_X2 (by decide) w_320 (fun l z h k => ?_) k
  exact R_cv0 (M := mX2_readAsks) (pc := 61) (bc := bc) (bs := bs) (cb := 0) (cs := 0) (M' := mX9_step) dX2_readAsks_61 rfl (by decide) w_652 w_132 w_675 w_650 w_651 (by decide +kernel) (fun _ _ _ k => k) k
theorem bX2_readAsks_64 {G : Gt} {d bc bs : Nat} {Q : QT} {l : Ls} {z : List Value} {h : Hp} (k : (tAld 0 (tGetf 1 0 (tPush (.int 1) (tPush (.int 12) (tCV2 G d 0 0 8 mX9_takeNumber (fun l z h => T G d bc bs mX2_readAsks 74 l z h Q)))))) l z h) : T G d bc bs mX2_readAsks 64 l z h Q := by
  refine R_aload_n dX2_readAsks_64 rfl (fun l z h k => ?_) k
  refine R_getf (ci := 1) (f := 0) (C := RX2) (N := 2) (Tt := TX2) dX2_readAsks_65 rfl i_X2 (by decide) w_320 (fun l z h k => ?_) k
  refine R_iconst dX2_readAsks_68 (by decide) (fun l z h k => ?_) k
  refine R_bipush dX2_readAsks_69 (by decide) (fun l z h k => ?_) k
  exact R_cv2 (M := mX2_readAsks) (pc := 71) (bc := bc) (bs := bs) (cb := 0) (cs := 0) (M' := mX9_takeNumber) dX2_readAsks_71 rfl (by decide) w_701 w_132 w_698 w_699 w_700 (by decide +kernel) (fun _ _ _ k => k) k
theorem bX2_readAsks_74 {G : Gt} {d bc bs : Nat} {Q : QT} {l : Ls} {z : List Value} {h : Hp} (k : (tIst 3 (tAld 0 (tGetf 1 0 (tCV0 G d 0 0 8 mX9_isSound (fun l z h => T G d bc bs mX2_readAsks 82 l z h Q))))) l z h) : T G d bc bs mX2_readAsks 74 l z h Q := by
  refine R_istore_n dX2_readAsks_74 rfl (by decide) (fun l z h k => ?_) k
  refine R_aload_n dX2_readAsks_75 rfl (fun l z h k => ?_) k
  refine R_getf (ci := 1) (f := 0) (C := RX2) (N := 2) (Tt := TX2) dX2_readAsks_76 rfl i_X2 (by decide) w_320 (fun l z h k => ?_) k
  exact R_cv0 (M := mX2_readAsks) (pc := 79) (bc := bc) (bs := bs) (cb := 0) (cs := 0) (M' := mX9_isSound) dX2_readAsks_79 rfl (by decide) w_656 w_132 w_653 w_654 w_655 (by decide +kernel) (fun _ _ _ k => k) k
theorem bX2_readAsks_82 {G : Gt} {d bc bs : Nat} {Q : QT} {l : Ls} {z : List Value} {h : Hp} (k : (tIf (fun x => x = 0) (fun l z h => T G d bc bs mX2_readAsks 95 l z h Q) (fun l z h => T G d bc bs mX2_readAsks 85 l z h Q)) l z h) : T G d bc bs mX2_readAsks 82 l z h Q := by
  exact R_if_eq dX2_readAsks_82 (by decide) (fun _ _ _ k => k) (fun _ _ _ k => k) k
theorem bX2_readAsks_85 {G : Gt} {d bc bs : Nat} {Q : QT} {l : Ls} {z : List Value} {h : Hp} (k : (tAld 0 (tGetf 1 1 (tIld 1 (tIld 2 (tIld 3 (tCV3 G d 0 0 9 mX11_setAsked (fun l z h => T G d bc bs mX2_readAsks 95 l z h Q))))))) l z h) : T G d bc bs mX2_readAsks 85 l z h Q := by
  refine R_aload_n dX2_readAsks_85 rfl (fun l z h k => ?_) k
  refine R_getf (ci := 1) (f := 1) (C := RX2) (N := 2) (Tt := TX2) dX2_readAsks_86 rfl i_X2 (by decide) w_321 (fun l z h k => ?_) k
  refine R_iload_n dX2_readAsks_89 rfl (fun l z h k => ?_) k
  refine R_iload_n dX2_readAsks_90 rfl (fun l z h k => ?_) k
  refine R_iload_n dX2_readAsks_91 rfl (fun l z h k => ?_) k
  exact R_cv3 (M := mX2_readAsks) (pc := 92) (bc := bc) (bs := bs) (cb := 0) (cs := 0) (M' := mX11_setAsked) dX2_readAsks_92 rfl (by decide) w_757 w_136 w_754 w_755 w_756 (by decide +kernel) (fun _ _ _ k => k) k
theorem bX2_readAsks_95 {G : Gt} {d bc bs : Nat} {Q : QT} {l : Ls} {z : List Value} {h : Hp} (k : (tRetV Q) l z h) : T G d bc bs mX2_readAsks 95 l z h Q := by
  exact R_vret dX2_readAsks_95 rfl k
theorem dX2_readMeets_0 : decode cX2_readMeets 0 = .ok (.aload_n 0, 1) := by decide +kernel
theorem dX2_readMeets_1 : decode cX2_readMeets 1 = .ok (.getfield 18, 3) := by decide +kernel
theorem dX2_readMeets_4 : decode cX2_readMeets 4 = .ok (.invokevirtual 90, 3) := by decide +kernel
theorem dX2_readMeets_7 : decode cX2_readMeets 7 = .ok (.aload_n 0, 1) := by decide +kernel
theorem dX2_readMeets_8 : decode cX2_readMeets 8 = .ok (.invokevirtual 138, 3) := by decide +kernel
theorem dX2_readMeets_11 : decode cX2_readMeets 11 = .ok (.istore_n 1, 1) := by decide +kernel
theorem dX2_readMeets_12 : decode cX2_readMeets 12 = .ok (.aload_n 0, 1) := by decide +kernel
theorem dX2_readMeets_13 : decode cX2_readMeets 13 = .ok (.getfield 18, 3) := by decide +kernel
theorem dX2_readMeets_16 : decode cX2_readMeets 16 = .ok (.invokevirtual 90, 3) := by decide +kernel
theorem dX2_readMeets_19 : decode cX2_readMeets 19 = .ok (.aload_n 0, 1) := by decide +kernel
theorem dX2_readMeets_20 : decode cX2_readMeets 20 = .ok (.invokevirtual 138, 3) := by decide +kernel
theorem dX2_readMeets_23 : decode cX2_readMeets 23 = .ok (.istore_n 2, 1) := by decide +kernel
theorem dX2_readMeets_24 : decode cX2_readMeets 24 = .ok (.aload_n 0, 1) := by decide +kernel
theorem dX2_readMeets_25 : decode cX2_readMeets 25 = .ok (.getfield 18, 3) := by decide +kernel
theorem dX2_readMeets_28 : decode cX2_readMeets 28 = .ok (.invokevirtual 33, 3) := by decide +kernel
theorem dX2_readMeets_31 : decode cX2_readMeets 31 = .ok (.ifCond .eq 16, 3) := by decide +kernel
theorem dX2_readMeets_34 : decode cX2_readMeets 34 = .ok (.iload_n 1, 1) := by decide +kernel
theorem dX2_readMeets_35 : decode cX2_readMeets 35 = .ok (.iload_n 2, 1) := by decide +kernel
theorem dX2_readMeets_36 : decode cX2_readMeets 36 = .ok (.if_icmp .ne 11, 3) := by decide +kernel
theorem dX2_readMeets_39 : decode cX2_readMeets 39 = .ok (.aload_n 0, 1) := by decide +kernel
theorem dX2_readMeets_40 : decode cX2_readMeets 40 = .ok (.getfield 18, 3) := by decide +kernel
theorem dX2_readMeets_43 : decode cX2_readMeets 43 = .ok (.iconst 3, 1) := by decide +kernel
theorem dX2_readMeets_44 : decode cX2_readMeets 44 = .ok (.invokevirtual 84, 3) := by decide +kernel
theorem dX2_readMeets_47 : decode cX2_readMeets 47 = .ok (.aload_n 0, 1) := by decide +kernel
theorem dX2_readMeets_48 : decode cX2_readMeets 48 = .ok (.getfield 18, 3) := by decide +kernel
theorem dX2_readMeets_51 : decode cX2_readMeets 51 = .ok (.invokevirtual 90, 3) := by decide +kernel
theorem dX2_readMeets_54 : decode cX2_readMeets 54 = .ok (.aload_n 0, 1) := by decide +kernel
theorem dX2_readMeets_55 : decode cX2_readMeets 55 = .ok (.getfield 18, 3) := by decide +kernel
theorem dX2_readMeets_58 : decode cX2_readMeets 58 = .ok (.invokevirtual 33, 3) := by decide +kernel
theorem dX2_readMeets_61 : decode cX2_readMeets 61 = .ok (.ifCond .eq 13, 3) := by decide +kernel
theorem dX2_readMeets_64 : decode cX2_readMeets 64 = .ok (.aload_n 0, 1) := by decide +kernel
theorem dX2_readMeets_65 : decode cX2_readMeets 65 = .ok (.getfield 12, 3) := by decide +kernel
theorem dX2_readMeets_68 : decode cX2_readMeets 68 = .ok (.iload_n 1, 1) := by decide +kernel
theorem dX2_readMeets_69 : decode cX2_readMeets 69 = .ok (.iload_n 2, 1) := by decide +kernel
theorem dX2_readMeets_70 : decode cX2_readMeets 70 = .ok (.invokevirtual 141, 3) := by decide +kernel
theorem dX2_readMeets_73 : decode cX2_readMeets 73 = .ok (.pop, 1) := by decide +kernel
theorem dX2_readMeets_74 : decode cX2_readMeets 74 = .ok (.return_, 1) := by decide +kernel
theorem bX2_readMeets_0 {G : Gt} {d bc bs : Nat} {Q : QT} {l : Ls} {z : List Value} {h : Hp} (k : (tAld 0 (tGetf 1 0 (tCV0 G d 0 0 8 mX9_step (fun l z h => T G d bc bs mX2_readMeets 7 l z h Q)))) l z h) : T G d bc bs mX2_readMeets 0 l z h Q := by
  refine R_aload_n dX2_readMeets_0 rfl (fun l z h k => ?_) k
  refine R_getf (ci := 1) (f := 0) (C := RX2) (N := 2) (Tt := TX2) dX2_readMeets_1 rfl i_X2 (by decide) w_320 (fun l z h k => ?_) k
  exact R_cv0 (M := mX2_readMeets) (pc := 4) (bc := bc) (bs := bs) (cb := 0) (cs := 0) (M' := mX9_step) dX2_readMeets_4 rfl (by decide) w_652 w_132 w_675 w_650 w_651 (by decide +kernel) (fun _ _ _ k => k) k
theorem bX2_readMeets_7 {G : Gt} {d bc bs : Nat} {Q : QT} {l : Ls} {z : List Value} {h : Hp} (k : (tAld 0 (tCV0 G d 0 0 1 mX2_personToMeet (fun l z h => T G d bc bs mX2_readMeets 11 l z h Q))) l z h) : T G d bc bs mX2_readMeets 7 l z h Q := by
  refine R_aload_n dX2_readMeets_7 rfl (fun l z h k => ?_) k
  exact R_cv0 (M := mX2_readMeets) (pc := 8) (bc := bc) (bs := bs) (cb := 0) (cs := 0) (M' := mX2_personToMeet) dX2_readMeets_8 rfl (by decide) w_767 w_135 w_764 w_766 w_10 (by decide +kernel) (fun _ _ _ k => k) k
theorem bX2_readMeets_11 {G : Gt} {d bc bs : Nat} {Q : QT} {l : Ls} {z : List Value} {h : Hp} (k : (tIst 1 (tAld 0 (tGetf 1 0 (tCV0 G d 0 0 8 mX9_step (fun l z h => T G d bc bs mX2_readMeets 19 l z h Q))))) l z h) : T G d bc bs mX2_readMeets 11 l z h Q := by
  refine R_istore_n dX2_readMeets_11 rfl (by decide) (fun l z h k => ?_) k
  refine R_aload_n dX2_readMeets_12 rfl (fun l z h k => ?_) k
  refine R_getf (ci := 1) (f := 0) (C := RX2) (N := 2) (Tt := TX2) dX2_readMeets_13 rfl i_X2 (by decide) w_320 (fun l z h k => ?_) k
  exact R_cv0 (M := mX2_readMeets) (pc := 16) (bc := bc) (bs := bs) (cb := 0) (cs := 0) (M' := mX9_step) dX2_readMeets_16 rfl (by decide) w_652 w_132 w_675 w_650 w_651 (by decide +kernel) (fun _ _ _ k => k) k
theorem bX2_readMeets_19 {G : Gt} {d bc bs : Nat} {Q : QT} {l : Ls} {z : List Value} {h : Hp} (k : (tAld 0 (tCV0 G d 0 0 1 mX2_personToMeet (fun l z h => T G d bc bs mX2_readMeets 23 l z h Q))) l z h) : T G d bc bs mX2_readMeets 19 l z h Q := by
  refine R_aload_n dX2_readMeets_19 rfl (fun l z h k => ?_) k
  exact R_cv0 (M := mX2_readMeets) (pc := 20) (bc := bc) (bs := bs) (cb := 0) (cs := 0) (M' := mX2_personToMeet) dX2_readMeets_20 rfl (by decide) w_767 w_135 w_764 w_766 w_10 (by decide +kernel) (fun _ _ _ k => k) k
theorem bX2_readMeets_23 {G : Gt} {d bc bs : Nat} {Q : QT} {l : Ls} {z : List Value} {h : Hp} (k : (tIst 2 (tAld 0 (tGetf 1 0 (tCV0 G d 0 0 8 mX9_isSound (fun l z h => T G d bc bs mX2_readMeets 31 l z h Q))))) l z h) : T G d bc bs mX2_readMeets 23 l z h Q := by
  refine R_istore_n dX2_readMeets_23 rfl (by decide) (fun l z h k => ?_) k
  refine R_aload_n dX2_readMeets_24 rfl (fun l z h k => ?_) k
  refine R_getf (ci := 1) (f := 0) (C := RX2) (N := 2) (Tt := TX2) dX2_readMeets_25 rfl i_X2 (by decide) w_320 (fun l z h k => ?_) k
  exact R_cv0 (M := mX2_readMeets) (pc := 28) (bc := bc) (bs := bs) (cb := 0) (cs := 0) (M' := mX9_isSound) dX2_readMeets_28 rfl (by decide) w_656 w_132 w_653 w_654 w_655 (by decide +kernel) (fun _ _ _ k => k) k
theorem bX2_readMeets_31 {G : Gt} {d bc bs : Nat} {Q : QT} {l : Ls} {z : List Value} {h : Hp} (k : (tIf (fun x => x = 0) (fun l z h => T G d bc bs mX2_readMeets 47 l z h Q) (fun l z h => T G d bc bs mX2_readMeets 34 l z h Q)) l z h) : T G d bc bs mX2_readMeets 31 l z h Q := by
  exact R_if_eq dX2_readMeets_31 (by decide) (fun _ _ _ k => k) (fun _ _ _ k => k) k
theorem bX2_readMeets_34 {G : Gt} {d bc bs : Nat} {Q : QT} {l : Ls} {z : List Value} {h : Hp} (k : (tIld 1 (tIld 2 (tIf2 (fun x y => x = y) (fun l z h => T G d bc bs mX2_readMeets 39 l z h Q) (fun l z h => T G d bc bs mX2_readMeets 47 l z h Q)))) l z h) : T G d bc bs mX2_readMeets 34 l z h Q := by
  refine R_iload_n dX2_readMeets_34 rfl (fun l z h k => ?_) k
  refine R_iload_n dX2_readMeets_35 rfl (fun l z h k => ?_) k
  exact R_icmp_ne dX2_readMeets_36 (by decide) (fun _ _ _ k => k) (fun _ _ _ k => k) k
theorem bX2_readMeets_39 {G : Gt} {d bc bs : Nat} {Q : QT} {l : Ls} {z : List Value} {h : Hp} (k : (tAld 0 (tGetf 1 0 (tPush (.int 3) (tCV1 G d 0 0 8 mX9_fail (fun l z h => T G d bc bs mX2_readMeets 47 l z h Q))))) l z h) : T G d bc bs mX2_readMeets 39 l z h Q := by
  refine R_aload_n dX2_readMeets_39 rfl (fun l z h k => ?_) k
  refine R_getf (ci := 1) (f := 0) (C := RX2) (N := 2) (Tt := TX2) dX2_readMeets_40 rfl i_X2 (by decide) w_320 (fun l z h k => ?_) k
  refine R_iconst dX2_readMeets_43 (by decide) (fun l z h k => ?_) k
  exact R_cv1 (M := mX2_readMeets) (pc := 44) (bc := bc) (bs := bs) (cb := 0) (cs := 0) (M' := mX9_fail) dX2_readMeets_44 rfl (by decide) w_674 w_132 w_671 w_672 w_673 (by decide +kernel) (fun _ _ _ k => k) k
theorem bX2_readMeets_47 {G : Gt} {d bc bs : Nat} {Q : QT} {l : Ls} {z : List Value} {h : Hp} (k : (tAld 0 (tGetf 1 0 (tCV0 G d 0 0 8 mX9_step (fun l z h => T G d bc bs mX2_readMeets 54 l z h Q)))) l z h) : T G d bc bs mX2_readMeets 47 l z h Q := by
  refine R_aload_n dX2_readMeets_47 rfl (fun l z h k => ?_) k
  refine R_getf (ci := 1) (f := 0) (C := RX2) (N := 2) (Tt := TX2) dX2_readMeets_48 rfl i_X2 (by decide) w_320 (fun l z h k => ?_) k
  exact R_cv0 (M := mX2_readMeets) (pc := 51) (bc := bc) (bs := bs) (cb := 0) (cs := 0) (M' := mX9_step) dX2_readMeets_51 rfl (by decide) w_652 w_132 w_675 w_650 w_651 (by decide +kernel) (fun _ _ _ k => k) k
theorem bX2_readMeets_54 {G : Gt} {d bc bs : Nat} {Q : QT} {l : Ls} {z : List Value} {h : Hp} (k : (tAld 0 (tGetf 1 0 (tCV0 G d 0 0 8 mX9_isSound (fun l z h => T G d bc bs mX2_readMeets 61 l z h Q)))) l z h) : T G d bc bs mX2_readMeets 54 l z h Q := by
  refine R_aload_n dX2_readMeets_54 rfl (fun l z h k => ?_) k
  refine R_getf (ci := 1) (f := 0) (C := RX2) (N := 2) (Tt := TX2) dX2_readMeets_55 rfl i_X2 (by decide) w_320 (fun l z h k => ?_) k
  exact R_cv0 (M := mX2_readMeets) (pc := 58) (bc := bc) (bs := bs) (cb := 0) (cs := 0) (M' := mX9_isSound) dX2_readMeets_58 rfl (by decide) w_656 w_132 w_653 w_654 w_655 (by decide +kernel) (fun _ _ _ k => k) k
theorem bX2_readMeets_61 {G : Gt} {d bc bs : Nat} {Q : QT} {l : Ls} {z : List Value} {h : Hp} (k : (tIf (fun x => x = 0) (fun l z h => T G d bc bs mX2_readMeets 74 l z h Q) (fun l z h => T G d bc bs mX2_readMeets 64 l z h Q)) l z h) : T G d bc bs mX2_readMeets 61 l z h Q := by
  exact R_if_eq dX2_readMeets_61 (by decide) (fun _ _ _ k => k) (fun _ _ _ k => k) k
theorem bX2_readMeets_64 {G : Gt} {d bc bs : Nat} {Q : QT} {l : Ls} {z : List Value} {h : Hp} (k : (tAld 0 (tGetf 1 1 (tIld 1 (tIld 2 (tCV2 G d 0 0 9 mX11_pair (fun l z h => T G d bc bs mX2_readMeets 73 l z h Q)))))) l z h) : T G d bc bs mX2_readMeets 64 l z h Q := by
  refine R_aload_n dX2_readMeets_64 rfl (fun l z h k => ?_) k
  refine R_getf (ci := 1) (f := 1) (C := RX2) (N := 2) (Tt := TX2) dX2_readMeets_65 rfl i_X2 (by decide) w_321 (fun l z h k => ?_) k
  refine R_iload_n dX2_readMeets_68 rfl (fun l z h k => ?_) k
  refine R_iload_n dX2_readMeets_69 rfl (fun l z h k => ?_) k
  exact R_cv2 (M := mX2_readMeets) (pc := 70) (bc := bc) (bs := bs) (cb := 0) (cs := 0) (M' := mX11_pair) dX2_readMeets_70 rfl (by decide) w_771 w_136 w_768 w_769 w_770 (by decide +kernel) (fun _ _ _ k => k) k
theorem bX2_readMeets_73 {G : Gt} {d bc bs : Nat} {Q : QT} {l : Ls} {z : List Value} {h : Hp} (k : (tPop ((fun l z h => T G d bc bs mX2_readMeets 74 l z h Q))) l z h) : T G d bc bs mX2_readMeets 73 l z h Q := by
  refine R_pop dX2_readMeets_73 (fun l z h k => ?_) k
  exact k
theorem bX2_readMeets_74 {G : Gt} {d bc bs : Nat} {Q : QT} {l : Ls} {z : List Value} {h : Hp} (k : (tRetV Q) l z h) : T G d bc bs mX2_readMeets 74 l z h Q := by
  exact R_vret dX2_readMeets_74 rfl k
theorem dX2_personToMeet_0 : decode cX2_personToMeet 0 = .ok (.aload_n 0, 1) := by decide +kernel
theorem dX2_personToMeet_1 : decode cX2_personToMeet 1 = .ok (.getfield 18, 3) := by decide +kernel
theorem dX2_personToMeet_4 : decode cX2_personToMeet 4 = .ok (.aload_n 0, 1) := by decide +kernel
theorem dX2_personToMeet_5 : decode cX2_personToMeet 5 = .ok (.getfield 12, 3) := by decide +kernel
theorem dX2_personToMeet_8 : decode cX2_personToMeet 8 = .ok (.invokevirtual 118, 3) := by decide +kernel
theorem dX2_personToMeet_11 : decode cX2_personToMeet 11 = .ok (.istore_n 1, 1) := by decide +kernel
theorem dX2_personToMeet_12 : decode cX2_personToMeet 12 = .ok (.aload_n 0, 1) := by decide +kernel
theorem dX2_personToMeet_13 : decode cX2_personToMeet 13 = .ok (.getfield 18, 3) := by decide +kernel
theorem dX2_personToMeet_16 : decode cX2_personToMeet 16 = .ok (.invokevirtual 33, 3) := by decide +kernel
theorem dX2_personToMeet_19 : decode cX2_personToMeet 19 = .ok (.ifCond .eq 24, 3) := by decide +kernel
theorem dX2_personToMeet_22 : decode cX2_personToMeet 22 = .ok (.aload_n 0, 1) := by decide +kernel
theorem dX2_personToMeet_23 : decode cX2_personToMeet 23 = .ok (.getfield 12, 3) := by decide +kernel
theorem dX2_personToMeet_26 : decode cX2_personToMeet 26 = .ok (.getfield 144, 3) := by decide +kernel
theorem dX2_personToMeet_29 : decode cX2_personToMeet 29 = .ok (.iload_n 1, 1) := by decide +kernel
theorem dX2_personToMeet_30 : decode cX2_personToMeet 30 = .ok (.iaload, 1) := by decide +kernel
theorem dX2_personToMeet_31 : decode cX2_personToMeet 31 = .ok (.iconst (-1), 1) := by decide +kernel
theorem dX2_personToMeet_32 : decode cX2_personToMeet 32 = .ok (.if_icmp .eq 11, 3) := by decide +kernel
theorem dX2_personToMeet_35 : decode cX2_personToMeet 35 = .ok (.aload_n 0, 1) := by decide +kernel
theorem dX2_personToMeet_36 : decode cX2_personToMeet 36 = .ok (.getfield 18, 3) := by decide +kernel
theorem dX2_personToMeet_39 : decode cX2_personToMeet 39 = .ok (.iconst 3, 1) := by decide +kernel
theorem dX2_personToMeet_40 : decode cX2_personToMeet 40 = .ok (.invokevirtual 84, 3) := by decide +kernel
theorem dX2_personToMeet_43 : decode cX2_personToMeet 43 = .ok (.iload_n 1, 1) := by decide +kernel
theorem dX2_personToMeet_44 : decode cX2_personToMeet 44 = .ok (.ireturn, 1) := by decide +kernel
theorem bX2_personToMeet_0 {G : Gt} {d bc bs : Nat} {Q : QT} {l : Ls} {z : List Value} {h : Hp} (k : (tAld 0 (tGetf 1 0 (tAld 0 (tGetf 1 1 (tCV1 G d 0 0 8 mX9_personHere (fun l z h => T G d bc bs mX2_personToMeet 11 l z h Q)))))) l z h) : T G d bc bs mX2_personToMeet 0 l z h Q := by
  refine R_aload_n dX2_personToMeet_0 rfl (fun l z h k => ?_) k
  refine R_getf (ci := 1) (f := 0) (C := RX2) (N := 2) (Tt := TX2) dX2_personToMeet_1 rfl i_X2 (by decide) w_320 (fun l z h k => ?_) k
  refine R_aload_n dX2_personToMeet_4 rfl (fun l z h k => ?_) k
  refine R_getf (ci := 1) (f := 1) (C := RX2) (N := 2) (Tt := TX2) dX2_personToMeet_5 rfl i_X2 (by decide) w_321 (fun l z h k => ?_) k
  exact R_cv1 (M := mX2_personToMeet) (pc := 8) (bc := bc) (bs := bs) (cb := 0) (cs := 0) (M' := mX9_personHere) dX2_personToMeet_8 rfl (by decide) w_731 w_132 w_728 w_729 w_730 (by decide +kernel) (fun _ _ _ k => k) k
theorem bX2_personToMeet_11 {G : Gt} {d bc bs : Nat} {Q : QT} {l : Ls} {z : List Value} {h : Hp} (k : (tIst 1 (tAld 0 (tGetf 1 0 (tCV0 G d 0 0 8 mX9_isSound (fun l z h => T G d bc bs mX2_personToMeet 19 l z h Q))))) l z h) : T G d bc bs mX2_personToMeet 11 l z h Q := by
  refine R_istore_n dX2_personToMeet_11 rfl (by decide) (fun l z h k => ?_) k
  refine R_aload_n dX2_personToMeet_12 rfl (fun l z h k => ?_) k
  refine R_getf (ci := 1) (f := 0) (C := RX2) (N := 2) (Tt := TX2) dX2_personToMeet_13 rfl i_X2 (by decide) w_320 (fun l z h k => ?_) k
  exact R_cv0 (M := mX2_personToMeet) (pc := 16) (bc := bc) (bs := bs) (cb := 0) (cs := 0) (M' := mX9_isSound) dX2_personToMeet_16 rfl (by decide) w_656 w_132 w_653 w_654 w_655 (by decide +kernel) (fun _ _ _ k => k) k
theorem bX2_personToMeet_19 {G : Gt} {d bc bs : Nat} {Q : QT} {l : Ls} {z : List Value} {h : Hp} (k : (tIf (fun x => x = 0) (fun l z h => T G d bc bs mX2_personToMeet 43 l z h Q) (fun l z h => T G d bc bs mX2_personToMeet 22 l z h Q)) l z h) : T G d bc bs mX2_personToMeet 19 l z h Q := by
  exact R_if_eq dX2_personToMeet_19 (by decide) (fun _ _ _ k => k) (fun _ _ _ k => k) k
theorem bX2_personToMeet_22 {G : Gt} {d bc bs : Nat} {Q : QT} {l : Ls} {z : List Value} {h : Hp} (k : (tAld 0 (tGetf 1 1 (tGetf 9 11 (tIld 1 (tXald 0 (tPush (.int (-1)) (tIf2 (fun x y => x = y) (fun l z h => T G d bc bs mX2_personToMeet 43 l z h Q) (fun l z h => T G d bc bs mX2_personToMeet 35 l z h Q)))))))) l z h) : T G d bc bs mX2_personToMeet 22 l z h Q := by
  refine R_aload_n dX2_personToMeet_22 rfl (fun l z h k => ?_) k
  refine R_getf (ci := 1) (f := 1) (C := RX2) (N := 2) (Tt := TX2) dX2_personToMeet_23 rfl i_X2 (by decide) w_321 (fun l z h k => ?_) k
  refine R_getf (ci := 9) (f := 11) (C := RX11) (N := 14) (Tt := TX11) dX2_personToMeet_26 rfl i_X11 (by decide) w_287 (fun l z h k => ?_) k
  refine R_iload_n dX2_personToMeet_29 rfl (fun l z h k => ?_) k
  refine R_iaload dX2_personToMeet_30 (fun l z h k => ?_) k
  refine R_iconst dX2_personToMeet_31 (by decide) (fun l z h k => ?_) k
  exact R_icmp_eq dX2_personToMeet_32 (by decide) (fun _ _ _ k => k) (fun _ _ _ k => k) k
theorem bX2_personToMeet_35 {G : Gt} {d bc bs : Nat} {Q : QT} {l : Ls} {z : List Value} {h : Hp} (k : (tAld 0 (tGetf 1 0 (tPush (.int 3) (tCV1 G d 0 0 8 mX9_fail (fun l z h => T G d bc bs mX2_personToMeet 43 l z h Q))))) l z h) : T G d bc bs mX2_personToMeet 35 l z h Q := by
  refine R_aload_n dX2_personToMeet_35 rfl (fun l z h k => ?_) k
  refine R_getf (ci := 1) (f := 0) (C := RX2) (N := 2) (Tt := TX2) dX2_personToMeet_36 rfl i_X2 (by decide) w_320 (fun l z h k => ?_) k
  refine R_iconst dX2_personToMeet_39 (by decide) (fun l z h k => ?_) k
  exact R_cv1 (M := mX2_personToMeet) (pc := 40) (bc := bc) (bs := bs) (cb := 0) (cs := 0) (M' := mX9_fail) dX2_personToMeet_40 rfl (by decide) w_674 w_132 w_671 w_672 w_673 (by decide +kernel) (fun _ _ _ k => k) k
theorem bX2_personToMeet_43 {G : Gt} {d bc bs : Nat} {Q : QT} {l : Ls} {z : List Value} {h : Hp} (k : (tIld 1 (tRetI Q)) l z h) : T G d bc bs mX2_personToMeet 43 l z h Q := by
  refine R_iload_n dX2_personToMeet_43 rfl (fun l z h k => ?_) k
  exact R_iret dX2_personToMeet_44 rfl k
theorem dX3_init_0 : decode cX3_init 0 = .ok (.aload_n 0, 1) := by decide +kernel
theorem dX3_init_1 : decode cX3_init 1 = .ok (.invokespecial 1, 3) := by decide +kernel
theorem dX3_init_4 : decode cX3_init 4 = .ok (.return_, 1) := by decide +kernel
theorem bX3_init_0 {G : Gt} {d bc bs : Nat} {Q : QT} {l : Ls} {z : List Value} {h : Hp} (hd1 : 1 ≤ d) (k : (tAld 0 (tObj ((fun l z h => T G d bc bs mX3_init 4 l z h Q)))) l z h) : T G d bc bs mX3_init 0 l z h Q := by
  refine R_aload_n dX3_init_0 rfl (fun l z h k => ?_) k
  refine R_obj dX3_init_1 hd1 w_422 w_163 w_164 (fun l z h k => ?_) k
  exact k
theorem bX3_init_4 {G : Gt} {d bc bs : Nat} {Q : QT} {l : Ls} {z : List Value} {h : Hp} (k : (tRetV Q) l z h) : T G d bc bs mX3_init 4 l z h Q := by
  exact R_vret dX3_init_4 rfl k
theorem dX3_begin_0 : decode cX3_begin 0 = .ok (.aload_n 0, 1) := by decide +kernel
theorem dX3_begin_1 : decode cX3_begin 1 = .ok (.iload_n 1, 1) := by decide +kernel
theorem dX3_begin_2 : decode cX3_begin 2 = .ok (.putfield 7, 3) := by decide +kernel
theorem dX3_begin_5 : decode cX3_begin 5 = .ok (.return_, 1) := by decide +kernel
theorem bX3_begin_0 {G : Gt} {d bc bs : Nat} {Q : QT} {l : Ls} {z : List Value} {h : Hp} (k : (tAld 0 (tIld 1 (tPutf isI 2 0 (tRetV Q)))) l z h) : T G d bc bs mX3_begin 0 l z h Q := by
  refine R_aload_n dX3_begin_0 rfl (fun l z h k => ?_) k
  refine R_iload_n dX3_begin_1 rfl (fun l z h k => ?_) k
  refine R_putf (ci := 2) (f := 0) (C := RX3) (N := 1) (Tt := TX3) tyX3 tyX3_ok nmX3 dX3_begin_2 rfl i_X3 (by decide) w_423 rfl (tyX3_ok 0 (by decide)) p_int (fun l z h k => ?_) k
  exact R_vret dX3_begin_5 rfl k
theorem dX3_draw_0 : decode cX3_draw 0 = .ok (.aload_n 0, 1) := by decide +kernel
theorem dX3_draw_1 : decode cX3_draw 1 = .ok (.aload_n 0, 1) := by decide +kernel
theorem dX3_draw_2 : decode cX3_draw 2 = .ok (.getfield 7, 3) := by decide +kernel
theorem dX3_draw_5 : decode cX3_draw 5 = .ok (.ldc 13, 2) := by decide +kernel
theorem dX3_draw_7 : decode cX3_draw 7 = .ok (.imul, 1) := by decide +kernel
theorem dX3_draw_8 : decode cX3_draw 8 = .ok (.sipush 12345, 3) := by decide +kernel
theorem dX3_draw_11 : decode cX3_draw 11 = .ok (.iadd, 1) := by decide +kernel
theorem dX3_draw_12 : decode cX3_draw 12 = .ok (.putfield 7, 3) := by decide +kernel
theorem dX3_draw_15 : decode cX3_draw 15 = .ok (.iload_n 1, 1) := by decide +kernel
theorem dX3_draw_16 : decode cX3_draw 16 = .ok (.ifCond .le 15, 3) := by decide +kernel
theorem dX3_draw_19 : decode cX3_draw 19 = .ok (.aload_n 0, 1) := by decide +kernel
theorem dX3_draw_20 : decode cX3_draw 20 = .ok (.getfield 7, 3) := by decide +kernel
theorem dX3_draw_23 : decode cX3_draw 23 = .ok (.bipush 8, 2) := by decide +kernel
theorem dX3_draw_25 : decode cX3_draw 25 = .ok (.iushr, 1) := by decide +kernel
theorem dX3_draw_26 : decode cX3_draw 26 = .ok (.iload_n 1, 1) := by decide +kernel
theorem dX3_draw_27 : decode cX3_draw 27 = .ok (.irem, 1) := by decide +kernel
theorem dX3_draw_28 : decode cX3_draw 28 = .ok (.goto 4, 3) := by decide +kernel
theorem dX3_draw_31 : decode cX3_draw 31 = .ok (.iconst 0, 1) := by decide +kernel
theorem dX3_draw_32 : decode cX3_draw 32 = .ok (.ireturn, 1) := by decide +kernel
theorem bX3_draw_0 {G : Gt} {d bc bs : Nat} {Q : QT} {l : Ls} {z : List Value} {h : Hp} (k : (tAld 0 (tAld 0 (tGetf 2 0 (tPush (.int 1103515245) (tB (fun x y => x * y) (tPush (.int 12345) (tB (fun x y => x + y) (tPutf isI 2 0 (tIld 1 (tIf (fun x => x ≤ 0) (fun l z h => T G d bc bs mX3_draw 31 l z h Q) (fun l z h => T G d bc bs mX3_draw 19 l z h Q))))))))))) l z h) : T G d bc bs mX3_draw 0 l z h Q := by
  refine R_aload_n dX3_draw_0 rfl (fun l z h k => ?_) k
  refine R_aload_n dX3_draw_1 rfl (fun l z h k => ?_) k
  refine R_getf (ci := 2) (f := 0) (C := RX3) (N := 1) (Tt := TX3) dX3_draw_2 rfl i_X3 (by decide) w_423 (fun l z h k => ?_) k
  refine R_ldc dX3_draw_5 w_987 (fun l z h k => ?_) k
  refine R_imul dX3_draw_7 (fun l z h k => ?_) k
  refine R_sipush dX3_draw_8 (by decide) (fun l z h k => ?_) k
  refine R_iadd dX3_draw_11 (fun l z h k => ?_) k
  refine R_putf (ci := 2) (f := 0) (C := RX3) (N := 1) (Tt := TX3) tyX3 tyX3_ok nmX3 dX3_draw_12 rfl i_X3 (by decide) w_423 rfl (tyX3_ok 0 (by decide)) p_int (fun l z h k => ?_) k
  refine R_iload_n dX3_draw_15 rfl (fun l z h k => ?_) k
  exact R_if_le dX3_draw_16 (by decide) (fun _ _ _ k => k) (fun _ _ _ k => k) k
theorem bX3_draw_19 {G : Gt} {d bc bs : Nat} {Q : QT} {l : Ls} {z : List Value} {h : Hp} (k : (tAld 0 (tGetf 2 0 (tPush (.int 8) (tB (fun x y => (x.toUInt32 >>> (y.toUInt32 &&& Int32.toUInt32 31)).toInt32) (tIld 1 (tBn (fun x y => x - x / y * y) ((fun l z h => T G d bc bs mX3_draw 32 l z h Q)))))))) l z h) : T G d bc bs mX3_draw 19 l z h Q := by
  refine R_aload_n dX3_draw_19 rfl (fun l z h k => ?_) k
  refine R_getf (ci := 2) (f := 0) (C := RX3) (N := 1) (Tt := TX3) dX3_draw_20 rfl i_X3 (by decide) w_423 (fun l z h k => ?_) k
  refine R_bipush dX3_draw_23 (by decide) (fun l z h k => ?_) k
  refine R_iushr dX3_draw_25 (fun l z h k => ?_) k
  refine R_iload_n dX3_draw_26 rfl (fun l z h k => ?_) k
  refine R_irem dX3_draw_27 (fun l z h k => ?_) k
  exact R_goto dX3_draw_28 (by decide) (fun _ _ _ k => k) k
theorem bX3_draw_31 {G : Gt} {d bc bs : Nat} {Q : QT} {l : Ls} {z : List Value} {h : Hp} (k : (tPush (.int 0) ((fun l z h => T G d bc bs mX3_draw 32 l z h Q))) l z h) : T G d bc bs mX3_draw 31 l z h Q := by
  refine R_iconst dX3_draw_31 (by decide) (fun l z h k => ?_) k
  exact k
theorem bX3_draw_32 {G : Gt} {d bc bs : Nat} {Q : QT} {l : Ls} {z : List Value} {h : Hp} (k : (tRetI Q) l z h) : T G d bc bs mX3_draw 32 l z h Q := by
  exact R_iret dX3_draw_32 rfl k
theorem dX3_liveDays_0 : decode cX3_liveDays 0 = .ok (.iload_n 2, 1) := by decide +kernel
theorem dX3_liveDays_1 : decode cX3_liveDays 1 = .ok (.aload_n 1, 1) := by decide +kernel
theorem dX3_liveDays_2 : decode cX3_liveDays 2 = .ok (.invokevirtual 14, 3) := by decide +kernel
theorem dX3_liveDays_5 : decode cX3_liveDays 5 = .ok (.invokestatic 20, 3) := by decide +kernel
theorem dX3_liveDays_8 : decode cX3_liveDays 8 = .ok (.istore_n 3, 1) := by decide +kernel
theorem dX3_liveDays_9 : decode cX3_liveDays 9 = .ok (.iconst 0, 1) := by decide +kernel
theorem dX3_liveDays_10 : decode cX3_liveDays 10 = .ok (.istore 4, 2) := by decide +kernel
theorem dX3_liveDays_12 : decode cX3_liveDays 12 = .ok (.iload 4, 2) := by decide +kernel
theorem dX3_liveDays_14 : decode cX3_liveDays 14 = .ok (.iload_n 3, 1) := by decide +kernel
theorem dX3_liveDays_15 : decode cX3_liveDays 15 = .ok (.if_icmp .ge 38, 3) := by decide +kernel
theorem dX3_liveDays_18 : decode cX3_liveDays 18 = .ok (.iconst 0, 1) := by decide +kernel
theorem dX3_liveDays_19 : decode cX3_liveDays 19 = .ok (.istore 5, 2) := by decide +kernel
theorem dX3_liveDays_21 : decode cX3_liveDays 21 = .ok (.iload 5, 2) := by decide +kernel
theorem dX3_liveDays_23 : decode cX3_liveDays 23 = .ok (.aload_n 1, 1) := by decide +kernel
theorem dX3_liveDays_24 : decode cX3_liveDays 24 = .ok (.getfield 26, 3) := by decide +kernel
theorem dX3_liveDays_27 : decode cX3_liveDays 27 = .ok (.if_icmp .ge 16, 3) := by decide +kernel
theorem dX3_liveDays_30 : decode cX3_liveDays 30 = .ok (.aload_n 0, 1) := by decide +kernel
theorem dX3_liveDays_31 : decode cX3_liveDays 31 = .ok (.aload_n 1, 1) := by decide +kernel
theorem dX3_liveDays_32 : decode cX3_liveDays 32 = .ok (.iload 5, 2) := by decide +kernel
theorem dX3_liveDays_34 : decode cX3_liveDays 34 = .ok (.invokevirtual 29, 3) := by decide +kernel
theorem dX3_liveDays_37 : decode cX3_liveDays 37 = .ok (.iinc 5 1, 3) := by decide +kernel
theorem dX3_liveDays_40 : decode cX3_liveDays 40 = .ok (.goto (-19), 3) := by decide +kernel
theorem dX3_liveDays_43 : decode cX3_liveDays 43 = .ok (.aload_n 1, 1) := by decide +kernel
theorem dX3_liveDays_44 : decode cX3_liveDays 44 = .ok (.invokevirtual 33, 3) := by decide +kernel
theorem dX3_liveDays_47 : decode cX3_liveDays 47 = .ok (.iinc 4 1, 3) := by decide +kernel
theorem dX3_liveDays_50 : decode cX3_liveDays 50 = .ok (.goto (-38), 3) := by decide +kernel
theorem dX3_liveDays_53 : decode cX3_liveDays 53 = .ok (.iload_n 3, 1) := by decide +kernel
theorem dX3_liveDays_54 : decode cX3_liveDays 54 = .ok (.iconst 0, 1) := by decide +kernel
theorem dX3_liveDays_55 : decode cX3_liveDays 55 = .ok (.invokestatic 36, 3) := by decide +kernel
theorem dX3_liveDays_58 : decode cX3_liveDays 58 = .ok (.ireturn, 1) := by decide +kernel
theorem bX3_liveDays_0 {G : Gt} {d bc bs : Nat} {Q : QT} {l : Ls} {z : List Value} {h : Hp} (k : (tIld 2 (tAld 1 (tCV0 G d 0 0 9 mX11_daysLeft (fun l z h => T G d bc bs mX3_liveDays 5 l z h Q)))) l z h) : T G d bc bs mX3_liveDays 0 l z h Q := by
  refine R_iload_n dX3_liveDays_0 rfl (fun l z h k => ?_) k
  refine R_aload_n dX3_liveDays_1 rfl (fun l z h k => ?_) k
  exact R_cv0 (M := mX3_liveDays) (pc := 2) (bc := bc) (bs := bs) (cb := 0) (cs := 0) (M' := mX11_daysLeft) dX3_liveDays_2 rfl (by decide) w_946 w_136 w_977 w_944 w_945 (by decide +kernel) (fun _ _ _ k => k) k
theorem bX3_liveDays_5 {G : Gt} {d bc bs : Nat} {Q : QT} {l : Ls} {z : List Value} {h : Hp} (hd1 : 1 ≤ d) (k : (tMin ((fun l z h => T G d bc bs mX3_liveDays 8 l z h Q))) l z h) : T G d bc bs mX3_liveDays 5 l z h Q := by
  refine R_mmin dX3_liveDays_5 hd1 w_978 (fun l z h k => ?_) k
  exact k
theorem bX3_liveDays_8 {G : Gt} {d bc bs : Nat} {Q : QT} {l : Ls} {z : List Value} {h : Hp} (k : (tIst 3 (tPush (.int 0) (tIst 4 ((fun l z h => T G d bc bs mX3_liveDays 12 l z h Q))))) l z h) : T G d bc bs mX3_liveDays 8 l z h Q := by
  refine R_istore_n dX3_liveDays_8 rfl (by decide) (fun l z h k => ?_) k
  refine R_iconst dX3_liveDays_9 (by decide) (fun l z h k => ?_) k
  refine R_istore dX3_liveDays_10 (by decide) (fun l z h k => ?_) k
  exact k
theorem bX3_liveDays_12 {G : Gt} {d bc bs : Nat} {Q : QT} {l : Ls} {z : List Value} {h : Hp} (k : (tIld 4 (tIld 3 (tIf2 (fun x y => y ≤ x) (fun l z h => T G d bc bs mX3_liveDays 53 l z h Q) (fun l z h => T G d bc bs mX3_liveDays 18 l z h Q)))) l z h) : T G d bc bs mX3_liveDays 12 l z h Q := by
  refine R_iload dX3_liveDays_12 (fun l z h k => ?_) k
  refine R_iload_n dX3_liveDays_14 rfl (fun l z h k => ?_) k
  exact R_icmp_ge dX3_liveDays_15 (by decide) (fun _ _ _ k => k) (fun _ _ _ k => k) k
theorem bX3_liveDays_18 {G : Gt} {d bc bs : Nat} {Q : QT} {l : Ls} {z : List Value} {h : Hp} (k : (tPush (.int 0) (tIst 5 ((fun l z h => T G d bc bs mX3_liveDays 21 l z h Q)))) l z h) : T G d bc bs mX3_liveDays 18 l z h Q := by
  refine R_iconst dX3_liveDays_18 (by decide) (fun l z h k => ?_) k
  refine R_istore dX3_liveDays_19 (by decide) (fun l z h k => ?_) k
  exact k
theorem bX3_liveDays_21 {G : Gt} {d bc bs : Nat} {Q : QT} {l : Ls} {z : List Value} {h : Hp} (k : (tIld 5 (tAld 1 (tGetf 9 1 (tIf2 (fun x y => y ≤ x) (fun l z h => T G d bc bs mX3_liveDays 43 l z h Q) (fun l z h => T G d bc bs mX3_liveDays 30 l z h Q))))) l z h) : T G d bc bs mX3_liveDays 21 l z h Q := by
  refine R_iload dX3_liveDays_21 (fun l z h k => ?_) k
  refine R_aload_n dX3_liveDays_23 rfl (fun l z h k => ?_) k
  refine R_getf (ci := 9) (f := 1) (C := RX11) (N := 14) (Tt := TX11) dX3_liveDays_24 rfl i_X11 (by decide) w_255 (fun l z h k => ?_) k
  exact R_icmp_ge dX3_liveDays_27 (by decide) (fun _ _ _ k => k) (fun _ _ _ k => k) k
theorem bX3_liveDays_30 {G : Gt} {d bc bs : Nat} {Q : QT} {l : Ls} {z : List Value} {h : Hp} (k : (tAld 0 (tAld 1 (tIld 5 (tCV2 G d 0 0 2 mX3_actByDraw (fun l z h => T G d bc bs mX3_liveDays 37 l z h Q))))) l z h) : T G d bc bs mX3_liveDays 30 l z h Q := by
  refine R_aload_n dX3_liveDays_30 rfl (fun l z h k => ?_) k
  refine R_aload_n dX3_liveDays_31 rfl (fun l z h k => ?_) k
  refine R_iload dX3_liveDays_32 (fun l z h k => ?_) k
  exact R_cv2 (M := mX3_liveDays) (pc := 34) (bc := bc) (bs := bs) (cb := 0) (cs := 0) (M' := mX3_actByDraw) dX3_liveDays_34 rfl (by decide) w_982 w_141 w_979 w_981 w_14 (by decide +kernel) (fun _ _ _ k => k) k
theorem bX3_liveDays_37 {G : Gt} {d bc bs : Nat} {Q : QT} {l : Ls} {z : List Value} {h : Hp} (k : (tInc 5 1 ((fun l z h => T G d bc bs mX3_liveDays 21 l z h Q))) l z h) : T G d bc bs mX3_liveDays 37 l z h Q := by
  refine R_iinc dX3_liveDays_37 (by decide) (by decide) (fun l z h k => ?_) k
  exact R_goto dX3_liveDays_40 (by decide) (fun _ _ _ k => k) k
theorem bX3_liveDays_43 {G : Gt} {d bc bs : Nat} {Q : QT} {l : Ls} {z : List Value} {h : Hp} (k : (tAld 1 (tCV0 G d 0 0 9 mX11_liveDay (fun l z h => T G d bc bs mX3_liveDays 47 l z h Q))) l z h) : T G d bc bs mX3_liveDays 43 l z h Q := by
  refine R_aload_n dX3_liveDays_43 rfl (fun l z h k => ?_) k
  exact R_cv0 (M := mX3_liveDays) (pc := 44) (bc := bc) (bs := bs) (cb := 0) (cs := 0) (M' := mX11_liveDay) dX3_liveDays_44 rfl (by decide) w_951 w_136 w_999 w_949 w_950 (by decide +kernel) (fun _ _ _ k => k) k
theorem bX3_liveDays_47 {G : Gt} {d bc bs : Nat} {Q : QT} {l : Ls} {z : List Value} {h : Hp} (k : (tInc 4 1 ((fun l z h => T G d bc bs mX3_liveDays 12 l z h Q))) l z h) : T G d bc bs mX3_liveDays 47 l z h Q := by
  refine R_iinc dX3_liveDays_47 (by decide) (by decide) (fun l z h k => ?_) k
  exact R_goto dX3_liveDays_50 (by decide) (fun _ _ _ k => k) k
theorem bX3_liveDays_53 {G : Gt} {d bc bs : Nat} {Q : QT} {l : Ls} {z : List Value} {h : Hp} (hd1 : 1 ≤ d) (k : (tIld 3 (tPush (.int 0) (tMax ((fun l z h => T G d bc bs mX3_liveDays 58 l z h Q))))) l z h) : T G d bc bs mX3_liveDays 53 l z h Q := by
  refine R_iload_n dX3_liveDays_53 rfl (fun l z h k => ?_) k
  refine R_iconst dX3_liveDays_54 (by decide) (fun l z h k => ?_) k
  refine R_mmax dX3_liveDays_55 hd1 w_1000 (fun l z h k => ?_) k
  exact k
theorem bX3_liveDays_58 {G : Gt} {d bc bs : Nat} {Q : QT} {l : Ls} {z : List Value} {h : Hp} (k : (tRetI Q) l z h) : T G d bc bs mX3_liveDays 58 l z h Q := by
  exact R_iret dX3_liveDays_58 rfl k
theorem dX3_actByDraw_0 : decode cX3_actByDraw 0 = .ok (.aload_n 0, 1) := by decide +kernel
theorem dX3_actByDraw_1 : decode cX3_actByDraw 1 = .ok (.iconst 5, 1) := by decide +kernel
theorem dX3_actByDraw_2 : decode cX3_actByDraw 2 = .ok (.invokevirtual 39, 3) := by decide +kernel
theorem dX3_actByDraw_5 : decode cX3_actByDraw 5 = .ok (.tableswitch 85 0 3 #[31, 45, 59, 76], 31) := by decide +kernel
theorem dX3_actByDraw_36 : decode cX3_actByDraw 36 = .ok (.aload_n 1, 1) := by decide +kernel
theorem dX3_actByDraw_37 : decode cX3_actByDraw 37 = .ok (.iload_n 2, 1) := by decide +kernel
theorem dX3_actByDraw_38 : decode cX3_actByDraw 38 = .ok (.aload_n 1, 1) := by decide +kernel
theorem dX3_actByDraw_39 : decode cX3_actByDraw 39 = .ok (.iload_n 2, 1) := by decide +kernel
theorem dX3_actByDraw_40 : decode cX3_actByDraw 40 = .ok (.invokevirtual 43, 3) := by decide +kernel
theorem dX3_actByDraw_43 : decode cX3_actByDraw 43 = .ok (.invokevirtual 46, 3) := by decide +kernel
theorem dX3_actByDraw_46 : decode cX3_actByDraw 46 = .ok (.pop, 1) := by decide +kernel
theorem dX3_actByDraw_47 : decode cX3_actByDraw 47 = .ok (.goto 43, 3) := by decide +kernel
theorem dX3_actByDraw_50 : decode cX3_actByDraw 50 = .ok (.aload_n 1, 1) := by decide +kernel
theorem dX3_actByDraw_51 : decode cX3_actByDraw 51 = .ok (.iload_n 2, 1) := by decide +kernel
theorem dX3_actByDraw_52 : decode cX3_actByDraw 52 = .ok (.aload_n 1, 1) := by decide +kernel
theorem dX3_actByDraw_53 : decode cX3_actByDraw 53 = .ok (.iload_n 2, 1) := by decide +kernel
theorem dX3_actByDraw_54 : decode cX3_actByDraw 54 = .ok (.invokevirtual 49, 3) := by decide +kernel
theorem dX3_actByDraw_57 : decode cX3_actByDraw 57 = .ok (.invokevirtual 46, 3) := by decide +kernel
theorem dX3_actByDraw_60 : decode cX3_actByDraw 60 = .ok (.pop, 1) := by decide +kernel
theorem dX3_actByDraw_61 : decode cX3_actByDraw 61 = .ok (.goto 29, 3) := by decide +kernel
theorem dX3_actByDraw_64 : decode cX3_actByDraw 64 = .ok (.aload_n 1, 1) := by decide +kernel
theorem dX3_actByDraw_65 : decode cX3_actByDraw 65 = .ok (.iload_n 2, 1) := by decide +kernel
theorem dX3_actByDraw_66 : decode cX3_actByDraw 66 = .ok (.aload_n 0, 1) := by decide +kernel
theorem dX3_actByDraw_67 : decode cX3_actByDraw 67 = .ok (.aload_n 1, 1) := by decide +kernel
theorem dX3_actByDraw_68 : decode cX3_actByDraw 68 = .ok (.getfield 26, 3) := by decide +kernel
theorem dX3_actByDraw_71 : decode cX3_actByDraw 71 = .ok (.invokevirtual 39, 3) := by decide +kernel
theorem dX3_actByDraw_74 : decode cX3_actByDraw 74 = .ok (.invokevirtual 52, 3) := by decide +kernel
theorem dX3_actByDraw_77 : decode cX3_actByDraw 77 = .ok (.pop, 1) := by decide +kernel
theorem dX3_actByDraw_78 : decode cX3_actByDraw 78 = .ok (.goto 12, 3) := by decide +kernel
theorem dX3_actByDraw_81 : decode cX3_actByDraw 81 = .ok (.aload_n 1, 1) := by decide +kernel
theorem dX3_actByDraw_82 : decode cX3_actByDraw 82 = .ok (.iload_n 2, 1) := by decide +kernel
theorem dX3_actByDraw_83 : decode cX3_actByDraw 83 = .ok (.invokevirtual 55, 3) := by decide +kernel
theorem dX3_actByDraw_86 : decode cX3_actByDraw 86 = .ok (.pop, 1) := by decide +kernel
theorem dX3_actByDraw_87 : decode cX3_actByDraw 87 = .ok (.goto 3, 3) := by decide +kernel
theorem dX3_actByDraw_90 : decode cX3_actByDraw 90 = .ok (.return_, 1) := by decide +kernel
theorem bX3_actByDraw_0 {G : Gt} {d bc bs : Nat} {Q : QT} {l : Ls} {z : List Value} {h : Hp} (k : (tAld 0 (tPush (.int 5) (tCV1 G d 0 0 2 mX3_draw (fun l z h => T G d bc bs mX3_actByDraw 5 l z h Q)))) l z h) : T G d bc bs mX3_actByDraw 0 l z h Q := by
  refine R_aload_n dX3_actByDraw_0 rfl (fun l z h k => ?_) k
  refine R_iconst dX3_actByDraw_1 (by decide) (fun l z h k => ?_) k
  exact R_cv1 (M := mX3_actByDraw) (pc := 2) (bc := bc) (bs := bs) (cb := 0) (cs := 0) (M' := mX3_draw) dX3_actByDraw_2 rfl (by decide) w_986 w_141 w_983 w_985 w_15 (by decide +kernel) (fun _ _ _ k => k) k
theorem bX3_actByDraw_5 {G : Gt} {d bc bs : Nat} {Q : QT} {l : Ls} {z : List Value} {h : Hp} (k : (tSw 0 [36, 50, 64, 81] 90 (fun t l z h => T G d bc bs mX3_actByDraw t l z h Q)) l z h) : T G d bc bs mX3_actByDraw 5 l z h Q := by
  exact R_table dX3_actByDraw_5 (by decide) (by decide) (by decide) (by decide) (by decide) (fun _ _ _ _ k => k) k
theorem bX3_actByDraw_36 {G : Gt} {d bc bs : Nat} {Q : QT} {l : Ls} {z : List Value} {h : Hp} (k : (tAld 1 (tIld 2 (tAld 1 (tIld 2 (tCV1 G d 0 0 9 mX11_placeTowardsWanted (fun l z h => T G d bc bs mX3_actByDraw 43 l z h Q)))))) l z h) : T G d bc bs mX3_actByDraw 36 l z h Q := by
  refine R_aload_n dX3_actByDraw_36 rfl (fun l z h k => ?_) k
  refine R_iload_n dX3_actByDraw_37 rfl (fun l z h k => ?_) k
  refine R_aload_n dX3_actByDraw_38 rfl (fun l z h k => ?_) k
  refine R_iload_n dX3_actByDraw_39 rfl (fun l z h k => ?_) k
  exact R_cv1 (M := mX3_actByDraw) (pc := 40) (bc := bc) (bs := bs) (cb := 0) (cs := 0) (M' := mX11_placeTowardsWanted) dX3_actByDraw_40 rfl (by decide) w_991 w_136 w_988 w_989 w_990 (by decide +kernel) (fun _ _ _ k => k) k
theorem bX3_actByDraw_43 {G : Gt} {d bc bs : Nat} {Q : QT} {l : Ls} {z : List Value} {h : Hp} (k : (tCV2 G d 0 0 9 mX11_walk (fun l z h => T G d bc bs mX3_actByDraw 46 l z h Q)) l z h) : T G d bc bs mX3_actByDraw 43 l z h Q := by
  exact R_cv2 (M := mX3_actByDraw) (pc := 43) (bc := bc) (bs := bs) (cb := 0) (cs := 0) (M' := mX11_walk) dX3_actByDraw_43 rfl (by decide) w_882 w_136 w_992 w_880 w_881 (by decide +kernel) (fun _ _ _ k => k) k
theorem bX3_actByDraw_46 {G : Gt} {d bc bs : Nat} {Q : QT} {l : Ls} {z : List Value} {h : Hp} (k : (tPop ((fun l z h => T G d bc bs mX3_actByDraw 90 l z h Q))) l z h) : T G d bc bs mX3_actByDraw 46 l z h Q := by
  refine R_pop dX3_actByDraw_46 (fun l z h k => ?_) k
  exact R_goto dX3_actByDraw_47 (by decide) (fun _ _ _ k => k) k
theorem bX3_actByDraw_50 {G : Gt} {d bc bs : Nat} {Q : QT} {l : Ls} {z : List Value} {h : Hp} (k : (tAld 1 (tIld 2 (tAld 1 (tIld 2 (tCV1 G d 0 0 9 mX11_placeAwayFromWanted (fun l z h => T G d bc bs mX3_actByDraw 57 l z h Q)))))) l z h) : T G d bc bs mX3_actByDraw 50 l z h Q := by
  refine R_aload_n dX3_actByDraw_50 rfl (fun l z h k => ?_) k
  refine R_iload_n dX3_actByDraw_51 rfl (fun l z h k => ?_) k
  refine R_aload_n dX3_actByDraw_52 rfl (fun l z h k => ?_) k
  refine R_iload_n dX3_actByDraw_53 rfl (fun l z h k => ?_) k
  exact R_cv1 (M := mX3_actByDraw) (pc := 54) (bc := bc) (bs := bs) (cb := 0) (cs := 0) (M' := mX11_placeAwayFromWanted) dX3_actByDraw_54 rfl (by decide) w_996 w_136 w_993 w_994 w_995 (by decide +kernel) (fun _ _ _ k => k) k
theorem bX3_actByDraw_57 {G : Gt} {d bc bs : Nat} {Q : QT} {l : Ls} {z : List Value} {h : Hp} (k : (tCV2 G d 0 0 9 mX11_walk (fun l z h => T G d bc bs mX3_actByDraw 60 l z h Q)) l z h) : T G d bc bs mX3_actByDraw 57 l z h Q := by
  exact R_cv2 (M := mX3_actByDraw) (pc := 57) (bc := bc) (bs := bs) (cb := 0) (cs := 0) (M' := mX11_walk) dX3_actByDraw_57 rfl (by decide) w_882 w_136 w_992 w_880 w_881 (by decide +kernel) (fun _ _ _ k => k) k
theorem bX3_actByDraw_60 {G : Gt} {d bc bs : Nat} {Q : QT} {l : Ls} {z : List Value} {h : Hp} (k : (tPop ((fun l z h => T G d bc bs mX3_actByDraw 90 l z h Q))) l z h) : T G d bc bs mX3_actByDraw 60 l z h Q := by
  refine R_pop dX3_actByDraw_60 (fun l z h k => ?_) k
  exact R_goto dX3_actByDraw_61 (by decide) (fun _ _ _ k => k) k
theorem bX3_actByDraw_64 {G : Gt} {d bc bs : Nat} {Q : QT} {l : Ls} {z : List Value} {h : Hp} (k : (tAld 1 (tIld 2 (tAld 0 (tAld 1 (tGetf 9 1 (tCV1 G d 0 0 2 mX3_draw (fun l z h => T G d bc bs mX3_actByDraw 74 l z h Q))))))) l z h) : T G d bc bs mX3_actByDraw 64 l z h Q := by
  refine R_aload_n dX3_actByDraw_64 rfl (fun l z h k => ?_) k
  refine R_iload_n dX3_actByDraw_65 rfl (fun l z h k => ?_) k
  refine R_aload_n dX3_actByDraw_66 rfl (fun l z h k => ?_) k
  refine R_aload_n dX3_actByDraw_67 rfl (fun l z h k => ?_) k
  refine R_getf (ci := 9) (f := 1) (C := RX11) (N := 14) (Tt := TX11) dX3_actByDraw_68 rfl i_X11 (by decide) w_255 (fun l z h k => ?_) k
  exact R_cv1 (M := mX3_actByDraw) (pc := 71) (bc := bc) (bs := bs) (cb := 0) (cs := 0) (M' := mX3_draw) dX3_actByDraw_71 rfl (by decide) w_986 w_141 w_983 w_985 w_15 (by decide +kernel) (fun _ _ _ k => k) k
theorem bX3_actByDraw_74 {G : Gt} {d bc bs : Nat} {Q : QT} {l : Ls} {z : List Value} {h : Hp} (k : (tCV2 G d 0 0 9 mX11_pair (fun l z h => T G d bc bs mX3_actByDraw 77 l z h Q)) l z h) : T G d bc bs mX3_actByDraw 74 l z h Q := by
  exact R_cv2 (M := mX3_actByDraw) (pc := 74) (bc := bc) (bs := bs) (cb := 0) (cs := 0) (M' := mX11_pair) dX3_actByDraw_74 rfl (by decide) w_771 w_136 w_997 w_769 w_770 (by decide +kernel) (fun _ _ _ k => k) k
theorem bX3_actByDraw_77 {G : Gt} {d bc bs : Nat} {Q : QT} {l : Ls} {z : List Value} {h : Hp} (k : (tPop ((fun l z h => T G d bc bs mX3_actByDraw 90 l z h Q))) l z h) : T G d bc bs mX3_actByDraw 77 l z h Q := by
  refine R_pop dX3_actByDraw_77 (fun l z h k => ?_) k
  exact R_goto dX3_actByDraw_78 (by decide) (fun _ _ _ k => k) k
theorem bX3_actByDraw_81 {G : Gt} {d bc bs : Nat} {Q : QT} {l : Ls} {z : List Value} {h : Hp} (k : (tAld 1 (tIld 2 (tCV1 G d 0 0 9 mX11_unpair (fun l z h => T G d bc bs mX3_actByDraw 86 l z h Q)))) l z h) : T G d bc bs mX3_actByDraw 81 l z h Q := by
  refine R_aload_n dX3_actByDraw_81 rfl (fun l z h k => ?_) k
  refine R_iload_n dX3_actByDraw_82 rfl (fun l z h k => ?_) k
  exact R_cv1 (M := mX3_actByDraw) (pc := 83) (bc := bc) (bs := bs) (cb := 0) (cs := 0) (M' := mX11_unpair) dX3_actByDraw_83 rfl (by decide) w_912 w_136 w_998 w_910 w_911 (by decide +kernel) (fun _ _ _ k => k) k
theorem bX3_actByDraw_86 {G : Gt} {d bc bs : Nat} {Q : QT} {l : Ls} {z : List Value} {h : Hp} (k : (tPop ((fun l z h => T G d bc bs mX3_actByDraw 90 l z h Q))) l z h) : T G d bc bs mX3_actByDraw 86 l z h Q := by
  refine R_pop dX3_actByDraw_86 (fun l z h k => ?_) k
  exact R_goto dX3_actByDraw_87 (by decide) (fun _ _ _ k => k) k
theorem bX3_actByDraw_90 {G : Gt} {d bc bs : Nat} {Q : QT} {l : Ls} {z : List Value} {h : Hp} (k : (tRetV Q) l z h) : T G d bc bs mX3_actByDraw 90 l z h Q := by
  exact R_vret dX3_actByDraw_90 rfl k
theorem dX6_init_0 : decode cX6_init 0 = .ok (.aload_n 0, 1) := by decide +kernel
theorem dX6_init_1 : decode cX6_init 1 = .ok (.invokespecial 3, 3) := by decide +kernel
theorem dX6_init_4 : decode cX6_init 4 = .ok (.aload_n 0, 1) := by decide +kernel
theorem dX6_init_5 : decode cX6_init 5 = .ok (.bipush 9, 2) := by decide +kernel
theorem dX6_init_7 : decode cX6_init 7 = .ok (.anewarray 11, 3) := by decide +kernel
theorem dX6_init_10 : decode cX6_init 10 = .ok (.putfield 13, 3) := by decide +kernel
theorem dX6_init_13 : decode cX6_init 13 = .ok (.iconst 0, 1) := by decide +kernel
theorem dX6_init_14 : decode cX6_init 14 = .ok (.istore_n 1, 1) := by decide +kernel
theorem dX6_init_15 : decode cX6_init 15 = .ok (.iload_n 1, 1) := by decide +kernel
theorem dX6_init_16 : decode cX6_init 16 = .ok (.bipush 9, 2) := by decide +kernel
theorem dX6_init_18 : decode cX6_init 18 = .ok (.if_icmp .ge 22, 3) := by decide +kernel
theorem dX6_init_21 : decode cX6_init 21 = .ok (.aload_n 0, 1) := by decide +kernel
theorem dX6_init_22 : decode cX6_init 22 = .ok (.getfield 13, 3) := by decide +kernel
theorem dX6_init_25 : decode cX6_init 25 = .ok (.iload_n 1, 1) := by decide +kernel
theorem dX6_init_26 : decode cX6_init 26 = .ok (.new 11, 3) := by decide +kernel
theorem dX6_init_29 : decode cX6_init 29 = .ok (.dup, 1) := by decide +kernel
theorem dX6_init_30 : decode cX6_init 30 = .ok (.invokespecial 17, 3) := by decide +kernel
theorem dX6_init_33 : decode cX6_init 33 = .ok (.aastore, 1) := by decide +kernel
theorem dX6_init_34 : decode cX6_init 34 = .ok (.iinc 1 1, 3) := by decide +kernel
theorem dX6_init_37 : decode cX6_init 37 = .ok (.goto (-22), 3) := by decide +kernel
theorem dX6_init_40 : decode cX6_init 40 = .ok (.return_, 1) := by decide +kernel
theorem bX6_init_0 {G : Gt} {d bc bs : Nat} {Q : QT} {l : Ls} {z : List Value} {h : Hp} (hd1 : 1 ≤ d) (k : (tAld 0 (tObj ((fun l z h => T G d bc bs mX6_init 4 l z h Q)))) l z h) : T G d bc bs mX6_init 0 l z h Q := by
  refine R_aload_n dX6_init_0 rfl (fun l z h k => ?_) k
  refine R_obj dX6_init_1 hd1 w_371 w_163 w_164 (fun l z h k => ?_) k
  exact k
theorem bX6_init_4 {G : Gt} {d bc bs : Nat} {Q : QT} {l : Ls} {z : List Value} {h : Hp} (k : (tAld 0 (tPush (.int 9) (tNewR 1 9 (tPutf isA 5 0 (tPush (.int 0) (tIst 1 ((fun l z h => T G d bc bs mX6_init 15 l z h Q)))))))) l z h) : T G d (bc + 1) (bs + 9) mX6_init 4 l z h Q := by
  refine R_aload_n dX6_init_4 rfl (fun l z h k => ?_) k
  refine R_bipush dX6_init_5 (by decide) (fun l z h k => ?_) k
  refine R_newR (C := "BridgeToll$World") dX6_init_7 (by decide) rfl (fun _ _ h => h.2.2.2.1) w_372 (by decide) (fun l z h k => ?_) k
  refine R_putF (ci := 5) (f := 0) (C := RX6) (N := 3) (Tt := TX6) tyX6 tyX6_ok nmX6 dX6_init_10 rfl i_X6 (by decide) w_375 rfl rfl rfl (tyX6_ok 0 (by decide)) (p_ref rfl) (fun l z h k => ?_) k
  refine R_iconst dX6_init_13 (by decide) (fun l z h k => ?_) k
  refine R_istore_n dX6_init_14 rfl (by decide) (fun l z h k => ?_) k
  exact k
theorem bX6_init_15 {G : Gt} {d bc bs : Nat} {Q : QT} {l : Ls} {z : List Value} {h : Hp} (k : (tIld 1 (tPush (.int 9) (tIf2 (fun x y => y ≤ x) (fun l z h => T G d bc bs mX6_init 40 l z h Q) (fun l z h => T G d bc bs mX6_init 21 l z h Q)))) l z h) : T G d bc bs mX6_init 15 l z h Q := by
  refine R_iload_n dX6_init_15 rfl (fun l z h k => ?_) k
  refine R_bipush dX6_init_16 (by decide) (fun l z h k => ?_) k
  exact R_icmp_ge dX6_init_18 (by decide) (fun _ _ _ k => k) (fun _ _ _ k => k) k
theorem bX6_init_21 {G : Gt} {d bc bs : Nat} {Q : QT} {l : Ls} {z : List Value} {h : Hp} (k : (tAld 0 (tGetf 5 0 (tIld 1 (tNew 9 [.int 0, .int 0, .int 0, .null, .null, .null, .null, .null, .null, .null, .null, .null, .null, .null] (tDup (tCI0 G d 11 126 mX11_init (fun l z h => T G d bc bs mX6_init 33 l z h Q))))))) l z h) : T G d (bc + 11 + 1) (bs + 126 + 14) mX6_init 21 l z h Q := by
  refine R_aload_n dX6_init_21 rfl (fun l z h k => ?_) k
  refine R_getf (ci := 5) (f := 0) (C := RX6) (N := 3) (Tt := TX6) dX6_init_22 rfl i_X6 (by decide) w_375 (fun l z h k => ?_) k
  refine R_iload_n dX6_init_25 rfl (fun l z h k => ?_) k
  refine R_new (ci := 9) (C := RX11) (N := 14) (Tt := TX11) (fs := [.int 0, .int 0, .int 0, .null, .null, .null, .null, .null, .null, .null, .null, .null, .null, .null]) tyX11 tyX11_ok dX6_init_26 rfl i_X11 w_372 w_243 w_136 rfl (fun j hj => by rcases (show j = 0 ∨ j = 1 ∨ j = 2 ∨ j = 3 ∨ j = 4 ∨ j = 5 ∨ j = 6 ∨ j = 7 ∨ j = 8 ∨ j = 9 ∨ j = 10 ∨ j = 11 ∨ j = 12 ∨ j = 13 by omega) with rfl | rfl | rfl | rfl | rfl | rfl | rfl | rfl | rfl | rfl | rfl | rfl | rfl | rfl <;> rfl) (fun l z h k => ?_) k
  refine R_dup dX6_init_29 (fun l z h k => ?_) k
  exact R_ciN0 (M := mX6_init) (pc := 30) (bc := bc) (bs := bs) (cb := 11) (cs := 126) (M' := mX11_init) dX6_init_30 (by decide) rfl w_246 w_136 n_374 w_245 rfl (by decide +kernel) (fun _ _ _ k => k) k
theorem bX6_init_33 {G : Gt} {d bc bs : Nat} {Q : QT} {l : Ls} {z : List Value} {h : Hp} (k : (tRast 1 (pObj 9) (tInc 1 1 ((fun l z h => T G d bc bs mX6_init 15 l z h Q)))) l z h) : T G d bc bs mX6_init 33 l z h Q := by
  refine R_aastore (C := "BridgeToll$World") dX6_init_33 (by decide) rfl (pObj_ok (ci := 9) (r := (RX11, TX11, 14)) rfl) (fun l z h k => ?_) k
  refine R_iinc dX6_init_34 (by decide) (by decide) (fun l z h k => ?_) k
  exact R_goto dX6_init_37 (by decide) (fun _ _ _ k => k) k
theorem bX6_init_40 {G : Gt} {d bc bs : Nat} {Q : QT} {l : Ls} {z : List Value} {h : Hp} (k : (tRetV Q) l z h) : T G d bc bs mX6_init 40 l z h Q := by
  exact R_vret dX6_init_40 rfl k
theorem dX6_sketch_0 : decode cX6_sketch 0 = .ok (.aload_n 0, 1) := by decide +kernel
theorem dX6_sketch_1 : decode cX6_sketch 1 = .ok (.getfield 13, 3) := by decide +kernel
theorem dX6_sketch_4 : decode cX6_sketch 4 = .ok (.aload_n 0, 1) := by decide +kernel
theorem dX6_sketch_5 : decode cX6_sketch 5 = .ok (.getfield 18, 3) := by decide +kernel
theorem dX6_sketch_8 : decode cX6_sketch 8 = .ok (.aaload, 1) := by decide +kernel
theorem dX6_sketch_9 : decode cX6_sketch 9 = .ok (.aload_n 1, 1) := by decide +kernel
theorem dX6_sketch_10 : decode cX6_sketch 10 = .ok (.invokevirtual 22, 3) := by decide +kernel
theorem dX6_sketch_13 : decode cX6_sketch 13 = .ok (.return_, 1) := by decide +kernel
theorem bX6_sketch_0 {G : Gt} {d bc bs : Nat} {Q : QT} {l : Ls} {z : List Value} {h : Hp} (k : (tAld 0 (tGetf 5 0 (tAld 0 (tGetf 5 1 (tRald (tAld 1 (tCV1 G d 0 0 9 mX11_copyFrom (fun l z h => T G d bc bs mX6_sketch 13 l z h Q)))))))) l z h) : T G d bc bs mX6_sketch 0 l z h Q := by
  refine R_aload_n dX6_sketch_0 rfl (fun l z h k => ?_) k
  refine R_getf (ci := 5) (f := 0) (C := RX6) (N := 3) (Tt := TX6) dX6_sketch_1 rfl i_X6 (by decide) w_375 (fun l z h k => ?_) k
  refine R_aload_n dX6_sketch_4 rfl (fun l z h k => ?_) k
  refine R_getf (ci := 5) (f := 1) (C := RX6) (N := 3) (Tt := TX6) dX6_sketch_5 rfl i_X6 (by decide) w_376 (fun l z h k => ?_) k
  refine R_aaload dX6_sketch_8 (fun l z h k => ?_) k
  refine R_aload_n dX6_sketch_9 rfl (fun l z h k => ?_) k
  exact R_cv1 (M := mX6_sketch) (pc := 10) (bc := bc) (bs := bs) (cb := 0) (cs := 0) (M' := mX11_copyFrom) dX6_sketch_10 rfl (by decide) w_787 w_136 w_878 w_785 w_786 (by decide +kernel) (fun _ _ _ k => k) k
theorem bX6_sketch_13 {G : Gt} {d bc bs : Nat} {Q : QT} {l : Ls} {z : List Value} {h : Hp} (k : (tRetV Q) l z h) : T G d bc bs mX6_sketch 13 l z h Q := by
  exact R_vret dX6_sketch_13 rfl k
theorem dX6_keep_0 : decode cX6_keep 0 = .ok (.aload_n 0, 1) := by decide +kernel
theorem dX6_keep_1 : decode cX6_keep 1 = .ok (.aload_n 0, 1) := by decide +kernel
theorem dX6_keep_2 : decode cX6_keep 2 = .ok (.getfield 18, 3) := by decide +kernel
theorem dX6_keep_5 : decode cX6_keep 5 = .ok (.iconst 1, 1) := by decide +kernel
theorem dX6_keep_6 : decode cX6_keep 6 = .ok (.iadd, 1) := by decide +kernel
theorem dX6_keep_7 : decode cX6_keep 7 = .ok (.bipush 9, 2) := by decide +kernel
theorem dX6_keep_9 : decode cX6_keep 9 = .ok (.irem, 1) := by decide +kernel
theorem dX6_keep_10 : decode cX6_keep 10 = .ok (.putfield 18, 3) := by decide +kernel
theorem dX6_keep_13 : decode cX6_keep 13 = .ok (.aload_n 0, 1) := by decide +kernel
theorem dX6_keep_14 : decode cX6_keep 14 = .ok (.aload_n 0, 1) := by decide +kernel
theorem dX6_keep_15 : decode cX6_keep 15 = .ok (.getfield 26, 3) := by decide +kernel
theorem dX6_keep_18 : decode cX6_keep 18 = .ok (.iconst 1, 1) := by decide +kernel
theorem dX6_keep_19 : decode cX6_keep 19 = .ok (.iadd, 1) := by decide +kernel
theorem dX6_keep_20 : decode cX6_keep 20 = .ok (.bipush 8, 2) := by decide +kernel
theorem dX6_keep_22 : decode cX6_keep 22 = .ok (.invokestatic 29, 3) := by decide +kernel
theorem dX6_keep_25 : decode cX6_keep 25 = .ok (.putfield 26, 3) := by decide +kernel
theorem dX6_keep_28 : decode cX6_keep 28 = .ok (.return_, 1) := by decide +kernel
theorem bX6_keep_0 {G : Gt} {d bc bs : Nat} {Q : QT} {l : Ls} {z : List Value} {h : Hp} (hd1 : 1 ≤ d) (k : (tAld 0 (tAld 0 (tGetf 5 1 (tPush (.int 1) (tB (fun x y => x + y) (tPush (.int 9) (tBn (fun x y => x - x / y * y) (tPutf isI 5 1 (tAld 0 (tAld 0 (tGetf 5 2 (tPush (.int 1) (tB (fun x y => x + y) (tPush (.int 8) (tMin ((fun l z h => T G d bc bs mX6_keep 25 l z h Q))))))))))))))))) l z h) : T G d bc bs mX6_keep 0 l z h Q := by
  refine R_aload_n dX6_keep_0 rfl (fun l z h k => ?_) k
  refine R_aload_n dX6_keep_1 rfl (fun l z h k => ?_) k
  refine R_getf (ci := 5) (f := 1) (C := RX6) (N := 3) (Tt := TX6) dX6_keep_2 rfl i_X6 (by decide) w_376 (fun l z h k => ?_) k
  refine R_iconst dX6_keep_5 (by decide) (fun l z h k => ?_) k
  refine R_iadd dX6_keep_6 (fun l z h k => ?_) k
  refine R_bipush dX6_keep_7 (by decide) (fun l z h k => ?_) k
  refine R_irem dX6_keep_9 (fun l z h k => ?_) k
  refine R_putf (ci := 5) (f := 1) (C := RX6) (N := 3) (Tt := TX6) tyX6 tyX6_ok nmX6 dX6_keep_10 rfl i_X6 (by decide) w_376 rfl (tyX6_ok 1 (by decide)) p_int (fun l z h k => ?_) k
  refine R_aload_n dX6_keep_13 rfl (fun l z h k => ?_) k
  refine R_aload_n dX6_keep_14 rfl (fun l z h k => ?_) k
  refine R_getf (ci := 5) (f := 2) (C := RX6) (N := 3) (Tt := TX6) dX6_keep_15 rfl i_X6 (by decide) w_377 (fun l z h k => ?_) k
  refine R_iconst dX6_keep_18 (by decide) (fun l z h k => ?_) k
  refine R_iadd dX6_keep_19 (fun l z h k => ?_) k
  refine R_bipush dX6_keep_20 (by decide) (fun l z h k => ?_) k
  refine R_mmin dX6_keep_22 hd1 w_897 (fun l z h k => ?_) k
  exact k
theorem bX6_keep_25 {G : Gt} {d bc bs : Nat} {Q : QT} {l : Ls} {z : List Value} {h : Hp} (k : (tPutf isI 5 2 (tRetV Q)) l z h) : T G d bc bs mX6_keep 25 l z h Q := by
  refine R_putf (ci := 5) (f := 2) (C := RX6) (N := 3) (Tt := TX6) tyX6 tyX6_ok nmX6 dX6_keep_25 rfl i_X6 (by decide) w_377 rfl (tyX6_ok 2 (by decide)) p_int (fun l z h k => ?_) k
  exact R_vret dX6_keep_28 rfl k
theorem dX6_takeBack_0 : decode cX6_takeBack 0 = .ok (.aload_n 0, 1) := by decide +kernel
theorem dX6_takeBack_1 : decode cX6_takeBack 1 = .ok (.getfield 26, 3) := by decide +kernel
theorem dX6_takeBack_4 : decode cX6_takeBack 4 = .ok (.ifCond .ne 5, 3) := by decide +kernel
theorem dX6_takeBack_7 : decode cX6_takeBack 7 = .ok (.iconst (-1), 1) := by decide +kernel
theorem dX6_takeBack_8 : decode cX6_takeBack 8 = .ok (.ireturn, 1) := by decide +kernel
theorem dX6_takeBack_9 : decode cX6_takeBack 9 = .ok (.aload_n 0, 1) := by decide +kernel
theorem dX6_takeBack_10 : decode cX6_takeBack 10 = .ok (.aload_n 0, 1) := by decide +kernel
theorem dX6_takeBack_11 : decode cX6_takeBack 11 = .ok (.getfield 18, 3) := by decide +kernel
theorem dX6_takeBack_14 : decode cX6_takeBack 14 = .ok (.bipush 9, 2) := by decide +kernel
theorem dX6_takeBack_16 : decode cX6_takeBack 16 = .ok (.iadd, 1) := by decide +kernel
theorem dX6_takeBack_17 : decode cX6_takeBack 17 = .ok (.iconst 1, 1) := by decide +kernel
theorem dX6_takeBack_18 : decode cX6_takeBack 18 = .ok (.isub, 1) := by decide +kernel
theorem dX6_takeBack_19 : decode cX6_takeBack 19 = .ok (.bipush 9, 2) := by decide +kernel
theorem dX6_takeBack_21 : decode cX6_takeBack 21 = .ok (.irem, 1) := by decide +kernel
theorem dX6_takeBack_22 : decode cX6_takeBack 22 = .ok (.putfield 18, 3) := by decide +kernel
theorem dX6_takeBack_25 : decode cX6_takeBack 25 = .ok (.aload_n 1, 1) := by decide +kernel
theorem dX6_takeBack_26 : decode cX6_takeBack 26 = .ok (.aload_n 0, 1) := by decide +kernel
theorem dX6_takeBack_27 : decode cX6_takeBack 27 = .ok (.getfield 13, 3) := by decide +kernel
theorem dX6_takeBack_30 : decode cX6_takeBack 30 = .ok (.aload_n 0, 1) := by decide +kernel
theorem dX6_takeBack_31 : decode cX6_takeBack 31 = .ok (.getfield 18, 3) := by decide +kernel
theorem dX6_takeBack_34 : decode cX6_takeBack 34 = .ok (.aaload, 1) := by decide +kernel
theorem dX6_takeBack_35 : decode cX6_takeBack 35 = .ok (.invokevirtual 22, 3) := by decide +kernel
theorem dX6_takeBack_38 : decode cX6_takeBack 38 = .ok (.aload_n 0, 1) := by decide +kernel
theorem dX6_takeBack_39 : decode cX6_takeBack 39 = .ok (.dup, 1) := by decide +kernel
theorem dX6_takeBack_40 : decode cX6_takeBack 40 = .ok (.getfield 26, 3) := by decide +kernel
theorem dX6_takeBack_43 : decode cX6_takeBack 43 = .ok (.iconst 1, 1) := by decide +kernel
theorem dX6_takeBack_44 : decode cX6_takeBack 44 = .ok (.isub, 1) := by decide +kernel
theorem dX6_takeBack_45 : decode cX6_takeBack 45 = .ok (.putfield 26, 3) := by decide +kernel
theorem dX6_takeBack_48 : decode cX6_takeBack 48 = .ok (.aload_n 0, 1) := by decide +kernel
theorem dX6_takeBack_49 : decode cX6_takeBack 49 = .ok (.getfield 26, 3) := by decide +kernel
theorem dX6_takeBack_52 : decode cX6_takeBack 52 = .ok (.ireturn, 1) := by decide +kernel
theorem bX6_takeBack_0 {G : Gt} {d bc bs : Nat} {Q : QT} {l : Ls} {z : List Value} {h : Hp} (k : (tAld 0 (tGetf 5 2 (tIf (fun x => x = 0) (fun l z h => T G d bc bs mX6_takeBack 7 l z h Q) (fun l z h => T G d bc bs mX6_takeBack 9 l z h Q)))) l z h) : T G d bc bs mX6_takeBack 0 l z h Q := by
  refine R_aload_n dX6_takeBack_0 rfl (fun l z h k => ?_) k
  refine R_getf (ci := 5) (f := 2) (C := RX6) (N := 3) (Tt := TX6) dX6_takeBack_1 rfl i_X6 (by decide) w_377 (fun l z h k => ?_) k
  exact R_if_ne dX6_takeBack_4 (by decide) (fun _ _ _ k => k) (fun _ _ _ k => k) k
theorem bX6_takeBack_7 {G : Gt} {d bc bs : Nat} {Q : QT} {l : Ls} {z : List Value} {h : Hp} (k : (tPush (.int (-1)) (tRetI Q)) l z h) : T G d bc bs mX6_takeBack 7 l z h Q := by
  refine R_iconst dX6_takeBack_7 (by decide) (fun l z h k => ?_) k
  exact R_iret dX6_takeBack_8 rfl k
theorem bX6_takeBack_9 {G : Gt} {d bc bs : Nat} {Q : QT} {l : Ls} {z : List Value} {h : Hp} (k : (tAld 0 (tAld 0 (tGetf 5 1 (tPush (.int 9) (tB (fun x y => x + y) (tPush (.int 1) (tB (fun x y => x - y) (tPush (.int 9) (tBn (fun x y => x - x / y * y) (tPutf isI 5 1 (tAld 1 (tAld 0 (tGetf 5 0 (tAld 0 (tGetf 5 1 (tRald (tCV1 G d 0 0 9 mX11_copyFrom (fun l z h => T G d bc bs mX6_takeBack 38 l z h Q)))))))))))))))))) l z h) : T G d bc bs mX6_takeBack 9 l z h Q := by
  refine R_aload_n dX6_takeBack_9 rfl (fun l z h k => ?_) k
  refine R_aload_n dX6_takeBack_10 rfl (fun l z h k => ?_) k
  refine R_getf (ci := 5) (f := 1) (C := RX6) (N := 3) (Tt := TX6) dX6_takeBack_11 rfl i_X6 (by decide) w_376 (fun l z h k => ?_) k
  refine R_bipush dX6_takeBack_14 (by decide) (fun l z h k => ?_) k
  refine R_iadd dX6_takeBack_16 (fun l z h k => ?_) k
  refine R_iconst dX6_takeBack_17 (by decide) (fun l z h k => ?_) k
  refine R_isub dX6_takeBack_18 (fun l z h k => ?_) k
  refine R_bipush dX6_takeBack_19 (by decide) (fun l z h k => ?_) k
  refine R_irem dX6_takeBack_21 (fun l z h k => ?_) k
  refine R_putf (ci := 5) (f := 1) (C := RX6) (N := 3) (Tt := TX6) tyX6 tyX6_ok nmX6 dX6_takeBack_22 rfl i_X6 (by decide) w_376 rfl (tyX6_ok 1 (by decide)) p_int (fun l z h k => ?_) k
  refine R_aload_n dX6_takeBack_25 rfl (fun l z h k => ?_) k
  refine R_aload_n dX6_takeBack_26 rfl (fun l z h k => ?_) k
  refine R_getf (ci := 5) (f := 0) (C := RX6) (N := 3) (Tt := TX6) dX6_takeBack_27 rfl i_X6 (by decide) w_375 (fun l z h k => ?_) k
  refine R_aload_n dX6_takeBack_30 rfl (fun l z h k => ?_) k
  refine R_getf (ci := 5) (f := 1) (C := RX6) (N := 3) (Tt := TX6) dX6_takeBack_31 rfl i_X6 (by decide) w_376 (fun l z h k => ?_) k
  refine R_aaload dX6_takeBack_34 (fun l z h k => ?_) k
  exact R_cv1 (M := mX6_takeBack) (pc := 35) (bc := bc) (bs := bs) (cb := 0) (cs := 0) (M' := mX11_copyFrom) dX6_takeBack_35 rfl (by decide) w_787 w_136 w_878 w_785 w_786 (by decide +kernel) (fun _ _ _ k => k) k
theorem bX6_takeBack_38 {G : Gt} {d bc bs : Nat} {Q : QT} {l : Ls} {z : List Value} {h : Hp} (k : (tAld 0 (tDup (tGetf 5 2 (tPush (.int 1) (tB (fun x y => x - y) (tPutf isI 5 2 (tAld 0 (tGetf 5 2 (tRetI Q))))))))) l z h) : T G d bc bs mX6_takeBack 38 l z h Q := by
  refine R_aload_n dX6_takeBack_38 rfl (fun l z h k => ?_) k
  refine R_dup dX6_takeBack_39 (fun l z h k => ?_) k
  refine R_getf (ci := 5) (f := 2) (C := RX6) (N := 3) (Tt := TX6) dX6_takeBack_40 rfl i_X6 (by decide) w_377 (fun l z h k => ?_) k
  refine R_iconst dX6_takeBack_43 (by decide) (fun l z h k => ?_) k
  refine R_isub dX6_takeBack_44 (fun l z h k => ?_) k
  refine R_putf (ci := 5) (f := 2) (C := RX6) (N := 3) (Tt := TX6) tyX6 tyX6_ok nmX6 dX6_takeBack_45 rfl i_X6 (by decide) w_377 rfl (tyX6_ok 2 (by decide)) p_int (fun l z h k => ?_) k
  refine R_aload_n dX6_takeBack_48 rfl (fun l z h k => ?_) k
  refine R_getf (ci := 5) (f := 2) (C := RX6) (N := 3) (Tt := TX6) dX6_takeBack_49 rfl i_X6 (by decide) w_377 (fun l z h k => ?_) k
  exact R_iret dX6_takeBack_52 rfl k
theorem dX6_forget_0 : decode cX6_forget 0 = .ok (.aload_n 0, 1) := by decide +kernel
theorem dX6_forget_1 : decode cX6_forget 1 = .ok (.iconst 0, 1) := by decide +kernel
theorem dX6_forget_2 : decode cX6_forget 2 = .ok (.putfield 26, 3) := by decide +kernel
theorem dX6_forget_5 : decode cX6_forget 5 = .ok (.return_, 1) := by decide +kernel
theorem bX6_forget_0 {G : Gt} {d bc bs : Nat} {Q : QT} {l : Ls} {z : List Value} {h : Hp} (k : (tAld 0 (tPush (.int 0) (tPutf isI 5 2 (tRetV Q)))) l z h) : T G d bc bs mX6_forget 0 l z h Q := by
  refine R_aload_n dX6_forget_0 rfl (fun l z h k => ?_) k
  refine R_iconst dX6_forget_1 (by decide) (fun l z h k => ?_) k
  refine R_putf (ci := 5) (f := 2) (C := RX6) (N := 3) (Tt := TX6) tyX6 tyX6_ok nmX6 dX6_forget_2 rfl i_X6 (by decide) w_377 rfl (tyX6_ok 2 (by decide)) p_int (fun l z h k => ?_) k
  exact R_vret dX6_forget_5 rfl k
theorem dX8_init_0 : decode cX8_init 0 = .ok (.aload_n 0, 1) := by decide +kernel
theorem dX8_init_1 : decode cX8_init 1 = .ok (.invokespecial 1, 3) := by decide +kernel
theorem dX8_init_4 : decode cX8_init 4 = .ok (.aload_n 0, 1) := by decide +kernel
theorem dX8_init_5 : decode cX8_init 5 = .ok (.sipush 940, 3) := by decide +kernel
theorem dX8_init_8 : decode cX8_init 8 = .ok (.newarray .int, 2) := by decide +kernel
theorem dX8_init_10 : decode cX8_init 10 = .ok (.putfield 9, 3) := by decide +kernel
theorem dX8_init_13 : decode cX8_init 13 = .ok (.return_, 1) := by decide +kernel
theorem bX8_init_0 {G : Gt} {d bc bs : Nat} {Q : QT} {l : Ls} {z : List Value} {h : Hp} (hd1 : 1 ≤ d) (k : (tAld 0 (tObj ((fun l z h => T G d bc bs mX8_init 4 l z h Q)))) l z h) : T G d bc bs mX8_init 0 l z h Q := by
  refine R_aload_n dX8_init_0 rfl (fun l z h k => ?_) k
  refine R_obj dX8_init_1 hd1 w_170 w_163 w_164 (fun l z h k => ?_) k
  exact k
theorem bX8_init_4 {G : Gt} {d bc bs : Nat} {Q : QT} {l : Ls} {z : List Value} {h : Hp} (k : (tAld 0 (tPush (.int 940) (tNewI 0 940 (tPutf isA 7 0 (tRetV Q))))) l z h) : T G d (bc + 1) (bs + 940) mX8_init 4 l z h Q := by
  refine R_aload_n dX8_init_4 rfl (fun l z h k => ?_) k
  refine R_sipush dX8_init_5 (by decide) (fun l z h k => ?_) k
  refine R_newI (ty := .int) dX8_init_8 (by decide) rfl rfl (fun _ _ => rfl) rfl w_183 (by decide) (fun l z h k => ?_) k
  refine R_putF (ci := 7) (f := 0) (C := RX8) (N := 2) (Tt := TX8) tyX8 tyX8_ok nmX8 dX8_init_10 rfl i_X8 (by decide) w_171 rfl rfl rfl (tyX8_ok 0 (by decide)) (p_ref rfl) (fun l z h k => ?_) k
  exact R_vret dX8_init_13 rfl k
theorem dX8_hasRoom_0 : decode cX8_hasRoom 0 = .ok (.aload_n 0, 1) := by decide +kernel
theorem dX8_hasRoom_1 : decode cX8_hasRoom 1 = .ok (.getfield 13, 3) := by decide +kernel
theorem dX8_hasRoom_4 : decode cX8_hasRoom 4 = .ok (.bipush 20, 2) := by decide +kernel
theorem dX8_hasRoom_6 : decode cX8_hasRoom 6 = .ok (.iadd, 1) := by decide +kernel
theorem dX8_hasRoom_7 : decode cX8_hasRoom 7 = .ok (.sipush 940, 3) := by decide +kernel
theorem dX8_hasRoom_10 : decode cX8_hasRoom 10 = .ok (.if_icmp .gt 7, 3) := by decide +kernel
theorem dX8_hasRoom_13 : decode cX8_hasRoom 13 = .ok (.iconst 1, 1) := by decide +kernel
theorem dX8_hasRoom_14 : decode cX8_hasRoom 14 = .ok (.goto 4, 3) := by decide +kernel
theorem dX8_hasRoom_17 : decode cX8_hasRoom 17 = .ok (.iconst 0, 1) := by decide +kernel
theorem dX8_hasRoom_18 : decode cX8_hasRoom 18 = .ok (.ireturn, 1) := by decide +kernel
theorem bX8_hasRoom_0 {G : Gt} {d bc bs : Nat} {Q : QT} {l : Ls} {z : List Value} {h : Hp} (k : (tAld 0 (tGetf 7 1 (tPush (.int 20) (tB (fun x y => x + y) (tPush (.int 940) (tIf2 (fun x y => y < x) (fun l z h => T G d bc bs mX8_hasRoom 17 l z h Q) (fun l z h => T G d bc bs mX8_hasRoom 13 l z h Q))))))) l z h) : T G d bc bs mX8_hasRoom 0 l z h Q := by
  refine R_aload_n dX8_hasRoom_0 rfl (fun l z h k => ?_) k
  refine R_getf (ci := 7) (f := 1) (C := RX8) (N := 2) (Tt := TX8) dX8_hasRoom_1 rfl i_X8 (by decide) w_174 (fun l z h k => ?_) k
  refine R_bipush dX8_hasRoom_4 (by decide) (fun l z h k => ?_) k
  refine R_iadd dX8_hasRoom_6 (fun l z h k => ?_) k
  refine R_sipush dX8_hasRoom_7 (by decide) (fun l z h k => ?_) k
  exact R_icmp_gt dX8_hasRoom_10 (by decide) (fun _ _ _ k => k) (fun _ _ _ k => k) k
theorem bX8_hasRoom_13 {G : Gt} {d bc bs : Nat} {Q : QT} {l : Ls} {z : List Value} {h : Hp} (k : (tPush (.int 1) ((fun l z h => T G d bc bs mX8_hasRoom 18 l z h Q))) l z h) : T G d bc bs mX8_hasRoom 13 l z h Q := by
  refine R_iconst dX8_hasRoom_13 (by decide) (fun l z h k => ?_) k
  exact R_goto dX8_hasRoom_14 (by decide) (fun _ _ _ k => k) k
theorem bX8_hasRoom_17 {G : Gt} {d bc bs : Nat} {Q : QT} {l : Ls} {z : List Value} {h : Hp} (k : (tPush (.int 0) ((fun l z h => T G d bc bs mX8_hasRoom 18 l z h Q))) l z h) : T G d bc bs mX8_hasRoom 17 l z h Q := by
  refine R_iconst dX8_hasRoom_17 (by decide) (fun l z h k => ?_) k
  exact k
theorem bX8_hasRoom_18 {G : Gt} {d bc bs : Nat} {Q : QT} {l : Ls} {z : List Value} {h : Hp} (k : (tRetZ Q) l z h) : T G d bc bs mX8_hasRoom 18 l z h Q := by
  exact R_zret dX8_hasRoom_18 rfl k
theorem dX8_put_0 : decode cX8_put 0 = .ok (.bipush 24, 2) := by decide +kernel
theorem dX8_put_2 : decode cX8_put 2 = .ok (.istore_n 2, 1) := by decide +kernel
theorem dX8_put_3 : decode cX8_put 3 = .ok (.iload_n 2, 1) := by decide +kernel
theorem dX8_put_4 : decode cX8_put 4 = .ok (.ifCond .lt 45, 3) := by decide +kernel
theorem dX8_put_7 : decode cX8_put 7 = .ok (.aload_n 0, 1) := by decide +kernel
theorem dX8_put_8 : decode cX8_put 8 = .ok (.getfield 13, 3) := by decide +kernel
theorem dX8_put_11 : decode cX8_put 11 = .ok (.sipush 940, 3) := by decide +kernel
theorem dX8_put_14 : decode cX8_put 14 = .ok (.if_icmp .ge 29, 3) := by decide +kernel
theorem dX8_put_17 : decode cX8_put 17 = .ok (.aload_n 0, 1) := by decide +kernel
theorem dX8_put_18 : decode cX8_put 18 = .ok (.getfield 9, 3) := by decide +kernel
theorem dX8_put_21 : decode cX8_put 21 = .ok (.aload_n 0, 1) := by decide +kernel
theorem dX8_put_22 : decode cX8_put 22 = .ok (.getfield 13, 3) := by decide +kernel
theorem dX8_put_25 : decode cX8_put 25 = .ok (.iload_n 1, 1) := by decide +kernel
theorem dX8_put_26 : decode cX8_put 26 = .ok (.iload_n 2, 1) := by decide +kernel
theorem dX8_put_27 : decode cX8_put 27 = .ok (.iushr, 1) := by decide +kernel
theorem dX8_put_28 : decode cX8_put 28 = .ok (.sipush 255, 3) := by decide +kernel
theorem dX8_put_31 : decode cX8_put 31 = .ok (.iand, 1) := by decide +kernel
theorem dX8_put_32 : decode cX8_put 32 = .ok (.iastore, 1) := by decide +kernel
theorem dX8_put_33 : decode cX8_put 33 = .ok (.aload_n 0, 1) := by decide +kernel
theorem dX8_put_34 : decode cX8_put 34 = .ok (.dup, 1) := by decide +kernel
theorem dX8_put_35 : decode cX8_put 35 = .ok (.getfield 13, 3) := by decide +kernel
theorem dX8_put_38 : decode cX8_put 38 = .ok (.iconst 1, 1) := by decide +kernel
theorem dX8_put_39 : decode cX8_put 39 = .ok (.iadd, 1) := by decide +kernel
theorem dX8_put_40 : decode cX8_put 40 = .ok (.putfield 13, 3) := by decide +kernel
theorem dX8_put_43 : decode cX8_put 43 = .ok (.iinc 2 (-8), 3) := by decide +kernel
theorem dX8_put_46 : decode cX8_put 46 = .ok (.goto (-43), 3) := by decide +kernel
theorem dX8_put_49 : decode cX8_put 49 = .ok (.return_, 1) := by decide +kernel
theorem bX8_put_0 {G : Gt} {d bc bs : Nat} {Q : QT} {l : Ls} {z : List Value} {h : Hp} (k : (tPush (.int 24) (tIst 2 ((fun l z h => T G d bc bs mX8_put 3 l z h Q)))) l z h) : T G d bc bs mX8_put 0 l z h Q := by
  refine R_bipush dX8_put_0 (by decide) (fun l z h k => ?_) k
  refine R_istore_n dX8_put_2 rfl (by decide) (fun l z h k => ?_) k
  exact k
theorem bX8_put_3 {G : Gt} {d bc bs : Nat} {Q : QT} {l : Ls} {z : List Value} {h : Hp} (k : (tIld 2 (tIf (fun x => x < 0) (fun l z h => T G d bc bs mX8_put 49 l z h Q) (fun l z h => T G d bc bs mX8_put 7 l z h Q))) l z h) : T G d bc bs mX8_put 3 l z h Q := by
  refine R_iload_n dX8_put_3 rfl (fun l z h k => ?_) k
  exact R_if_lt dX8_put_4 (by decide) (fun _ _ _ k => k) (fun _ _ _ k => k) k
theorem bX8_put_7 {G : Gt} {d bc bs : Nat} {Q : QT} {l : Ls} {z : List Value} {h : Hp} (k : (tAld 0 (tGetf 7 1 (tPush (.int 940) (tIf2 (fun x y => y ≤ x) (fun l z h => T G d bc bs mX8_put 43 l z h Q) (fun l z h => T G d bc bs mX8_put 17 l z h Q))))) l z h) : T G d bc bs mX8_put 7 l z h Q := by
  refine R_aload_n dX8_put_7 rfl (fun l z h k => ?_) k
  refine R_getf (ci := 7) (f := 1) (C := RX8) (N := 2) (Tt := TX8) dX8_put_8 rfl i_X8 (by decide) w_174 (fun l z h k => ?_) k
  refine R_sipush dX8_put_11 (by decide) (fun l z h k => ?_) k
  exact R_icmp_ge dX8_put_14 (by decide) (fun _ _ _ k => k) (fun _ _ _ k => k) k
theorem bX8_put_17 {G : Gt} {d bc bs : Nat} {Q : QT} {l : Ls} {z : List Value} {h : Hp} (k : (tAld 0 (tGetf 7 0 (tAld 0 (tGetf 7 1 (tIld 1 (tIld 2 (tB (fun x y => (x.toUInt32 >>> (y.toUInt32 &&& Int32.toUInt32 31)).toInt32) (tPush (.int 255) (tB (fun x y => x &&& y) (tXast 0 (tAld 0 (tDup (tGetf 7 1 (tPush (.int 1) (tB (fun x y => x + y) (tPutf isI 7 1 ((fun l z h => T G d bc bs mX8_put 43 l z h Q)))))))))))))))))) l z h) : T G d bc bs mX8_put 17 l z h Q := by
  refine R_aload_n dX8_put_17 rfl (fun l z h k => ?_) k
  refine R_getf (ci := 7) (f := 0) (C := RX8) (N := 2) (Tt := TX8) dX8_put_18 rfl i_X8 (by decide) w_171 (fun l z h k => ?_) k
  refine R_aload_n dX8_put_21 rfl (fun l z h k => ?_) k
  refine R_getf (ci := 7) (f := 1) (C := RX8) (N := 2) (Tt := TX8) dX8_put_22 rfl i_X8 (by decide) w_174 (fun l z h k => ?_) k
  refine R_iload_n dX8_put_25 rfl (fun l z h k => ?_) k
  refine R_iload_n dX8_put_26 rfl (fun l z h k => ?_) k
  refine R_iushr dX8_put_27 (fun l z h k => ?_) k
  refine R_sipush dX8_put_28 (by decide) (fun l z h k => ?_) k
  refine R_iand dX8_put_31 (fun l z h k => ?_) k
  refine R_iastore dX8_put_32 (fun l z h k => ?_) k
  refine R_aload_n dX8_put_33 rfl (fun l z h k => ?_) k
  refine R_dup dX8_put_34 (fun l z h k => ?_) k
  refine R_getf (ci := 7) (f := 1) (C := RX8) (N := 2) (Tt := TX8) dX8_put_35 rfl i_X8 (by decide) w_174 (fun l z h k => ?_) k
  refine R_iconst dX8_put_38 (by decide) (fun l z h k => ?_) k
  refine R_iadd dX8_put_39 (fun l z h k => ?_) k
  refine R_putf (ci := 7) (f := 1) (C := RX8) (N := 2) (Tt := TX8) tyX8 tyX8_ok nmX8 dX8_put_40 rfl i_X8 (by decide) w_174 rfl (tyX8_ok 1 (by decide)) p_int (fun l z h k => ?_) k
  exact k
theorem bX8_put_43 {G : Gt} {d bc bs : Nat} {Q : QT} {l : Ls} {z : List Value} {h : Hp} (k : (tInc 2 (-8) ((fun l z h => T G d bc bs mX8_put 3 l z h Q))) l z h) : T G d bc bs mX8_put 43 l z h Q := by
  refine R_iinc dX8_put_43 (by decide) (by decide) (fun l z h k => ?_) k
  exact R_goto dX8_put_46 (by decide) (fun _ _ _ k => k) k
theorem bX8_put_49 {G : Gt} {d bc bs : Nat} {Q : QT} {l : Ls} {z : List Value} {h : Hp} (k : (tRetV Q) l z h) : T G d bc bs mX8_put 49 l z h Q := by
  exact R_vret dX8_put_49 rfl k
theorem dX9_init_0 : decode cX9_init 0 = .ok (.aload_n 0, 1) := by decide +kernel
theorem dX9_init_1 : decode cX9_init 1 = .ok (.invokespecial 3, 3) := by decide +kernel
theorem dX9_init_4 : decode cX9_init 4 = .ok (.aload_n 0, 1) := by decide +kernel
theorem dX9_init_5 : decode cX9_init 5 = .ok (.sipush 941, 3) := by decide +kernel
theorem dX9_init_8 : decode cX9_init 8 = .ok (.newarray .int, 2) := by decide +kernel
theorem dX9_init_10 : decode cX9_init 10 = .ok (.putfield 11, 3) := by decide +kernel
theorem dX9_init_13 : decode cX9_init 13 = .ok (.aload_n 0, 1) := by decide +kernel
theorem dX9_init_14 : decode cX9_init 14 = .ok (.sipush 941, 3) := by decide +kernel
theorem dX9_init_17 : decode cX9_init 17 = .ok (.newarray .int, 2) := by decide +kernel
theorem dX9_init_19 : decode cX9_init 19 = .ok (.putfield 15, 3) := by decide +kernel
theorem dX9_init_22 : decode cX9_init 22 = .ok (.aload_n 0, 1) := by decide +kernel
theorem dX9_init_23 : decode cX9_init 23 = .ok (.sipush 941, 3) := by decide +kernel
theorem dX9_init_26 : decode cX9_init 26 = .ok (.newarray .long, 2) := by decide +kernel
theorem dX9_init_28 : decode cX9_init 28 = .ok (.putfield 18, 3) := by decide +kernel
theorem dX9_init_31 : decode cX9_init 31 = .ok (.aload_n 0, 1) := by decide +kernel
theorem dX9_init_32 : decode cX9_init 32 = .ok (.sipush 941, 3) := by decide +kernel
theorem dX9_init_35 : decode cX9_init 35 = .ok (.anewarray 22, 3) := by decide +kernel
theorem dX9_init_38 : decode cX9_init 38 = .ok (.putfield 24, 3) := by decide +kernel
theorem dX9_init_41 : decode cX9_init 41 = .ok (.aload_n 0, 1) := by decide +kernel
theorem dX9_init_42 : decode cX9_init 42 = .ok (.getstatic 28, 3) := by decide +kernel
theorem dX9_init_45 : decode cX9_init 45 = .ok (.putfield 32, 3) := by decide +kernel
theorem dX9_init_48 : decode cX9_init 48 = .ok (.aload_n 0, 1) := by decide +kernel
theorem dX9_init_49 : decode cX9_init 49 = .ok (.aload_n 1, 1) := by decide +kernel
theorem dX9_init_50 : decode cX9_init 50 = .ok (.putfield 35, 3) := by decide +kernel
theorem dX9_init_53 : decode cX9_init 53 = .ok (.return_, 1) := by decide +kernel
theorem bX9_init_0 {G : Gt} {d bc bs : Nat} {Q : QT} {l : Ls} {z : List Value} {h : Hp} (hd1 : 1 ≤ d) (k : (tAld 0 (tObj ((fun l z h => T G d bc bs mX9_init 4 l z h Q)))) l z h) : T G d bc bs mX9_init 0 l z h Q := by
  refine R_aload_n dX9_init_0 rfl (fun l z h k => ?_) k
  refine R_obj dX9_init_1 hd1 w_189 w_163 w_164 (fun l z h k => ?_) k
  exact k
theorem bX9_init_4 {G : Gt} {d bc bs : Nat} {Q : QT} {l : Ls} {z : List Value} {h : Hp} (k : (tAld 0 (tPush (.int 941) (tNewI 0 941 (tPutf isA 8 1 (tAld 0 (tPush (.int 941) (tNewI 0 941 (tPutf isA 8 2 (tAld 0 (tPush (.int 941) (tNewJ 941 (tPutf isA 8 3 (tAld 0 (tPush (.int 941) (tNewR 0 941 (tPutf isA 8 4 (tAld 0 (tPush (.ref (adW G 0)) (tPutf isA 8 8 (tAld 0 (tAld 1 (tPutf isA 8 0 (tRetV Q))))))))))))))))))))))) l z h) : T G d (bc + 1 + 1 + 1 + 1) (bs + 941 + 941 + 941 + 941) mX9_init 4 l z h Q := by
  refine R_aload_n dX9_init_4 rfl (fun l z h k => ?_) k
  refine R_sipush dX9_init_5 (by decide) (fun l z h k => ?_) k
  refine R_newI (ty := .int) dX9_init_8 (by decide) rfl rfl (fun _ _ => rfl) rfl w_183 (by decide) (fun l z h k => ?_) k
  refine R_putF (ci := 8) (f := 1) (C := RX9) (N := 11) (Tt := TX9) tyX9 tyX9_ok nmX9 dX9_init_10 rfl i_X9 (by decide) w_195 rfl rfl rfl (tyX9_ok 1 (by decide)) (p_ref rfl) (fun l z h k => ?_) k
  refine R_aload_n dX9_init_13 rfl (fun l z h k => ?_) k
  refine R_sipush dX9_init_14 (by decide) (fun l z h k => ?_) k
  refine R_newI (ty := .int) dX9_init_17 (by decide) rfl rfl (fun _ _ => rfl) rfl w_183 (by decide) (fun l z h k => ?_) k
  refine R_putF (ci := 8) (f := 2) (C := RX9) (N := 11) (Tt := TX9) tyX9 tyX9_ok nmX9 dX9_init_19 rfl i_X9 (by decide) w_196 rfl rfl rfl (tyX9_ok 2 (by decide)) (p_ref rfl) (fun l z h k => ?_) k
  refine R_aload_n dX9_init_22 rfl (fun l z h k => ?_) k
  refine R_sipush dX9_init_23 (by decide) (fun l z h k => ?_) k
  refine R_newJ dX9_init_26 w_235 (by decide) (fun l z h k => ?_) k
  refine R_putF (ci := 8) (f := 3) (C := RX9) (N := 11) (Tt := TX9) tyX9 tyX9_ok nmX9 dX9_init_28 rfl i_X9 (by decide) w_197 rfl rfl rfl (tyX9_ok 3 (by decide)) (p_ref rfl) (fun l z h k => ?_) k
  refine R_aload_n dX9_init_31 rfl (fun l z h k => ?_) k
  refine R_sipush dX9_init_32 (by decide) (fun l z h k => ?_) k
  refine R_newR (C := "BridgeToll$Word") dX9_init_35 (by decide) rfl (fun _ _ h => h.2.2.2.2.2.1) w_190 (by decide) (fun l z h k => ?_) k
  refine R_putF (ci := 8) (f := 4) (C := RX9) (N := 11) (Tt := TX9) tyX9 tyX9_ok nmX9 dX9_init_38 rfl i_X9 (by decide) w_198 rfl rfl rfl (tyX9_ok 4 (by decide)) (p_ref rfl) (fun l z h k => ?_) k
  refine R_aload_n dX9_init_41 rfl (fun l z h k => ?_) k
  refine R_word (k := 0) dX9_init_42 (by decide) rfl w_192 (fun l z h k => ?_) k
  refine R_putf (ci := 8) (f := 8) (C := RX9) (N := 11) (Tt := TX9) tyX9 tyX9_ok nmX9 dX9_init_45 rfl i_X9 (by decide) w_205 rfl (tyX9_ok 8 (by decide)) (p_ref rfl) (fun l z h k => ?_) k
  refine R_aload_n dX9_init_48 rfl (fun l z h k => ?_) k
  refine R_aload_n dX9_init_49 rfl (fun l z h k => ?_) k
  refine R_putF (ci := 8) (f := 0) (C := RX9) (N := 11) (Tt := TX9) tyX9 tyX9_ok nmX9 dX9_init_50 rfl i_X9 (by decide) w_194 rfl rfl rfl (tyX9_ok 0 (by decide)) (p_ref rfl) (fun l z h k => ?_) k
  exact R_vret dX9_init_53 rfl k
theorem dX9_begin_0 : decode cX9_begin 0 = .ok (.aload_n 0, 1) := by decide +kernel
theorem dX9_begin_1 : decode cX9_begin 1 = .ok (.iconst 0, 1) := by decide +kernel
theorem dX9_begin_2 : decode cX9_begin 2 = .ok (.putfield 39, 3) := by decide +kernel
theorem dX9_begin_5 : decode cX9_begin 5 = .ok (.aload_n 0, 1) := by decide +kernel
theorem dX9_begin_6 : decode cX9_begin 6 = .ok (.iconst 0, 1) := by decide +kernel
theorem dX9_begin_7 : decode cX9_begin 7 = .ok (.putfield 43, 3) := by decide +kernel
theorem dX9_begin_10 : decode cX9_begin 10 = .ok (.aload_n 0, 1) := by decide +kernel
theorem dX9_begin_11 : decode cX9_begin 11 = .ok (.iconst 0, 1) := by decide +kernel
theorem dX9_begin_12 : decode cX9_begin 12 = .ok (.putfield 46, 3) := by decide +kernel
theorem dX9_begin_15 : decode cX9_begin 15 = .ok (.iconst 0, 1) := by decide +kernel
theorem dX9_begin_16 : decode cX9_begin 16 = .ok (.istore_n 2, 1) := by decide +kernel
theorem dX9_begin_17 : decode cX9_begin 17 = .ok (.iload_n 2, 1) := by decide +kernel
theorem dX9_begin_18 : decode cX9_begin 18 = .ok (.aload_n 0, 1) := by decide +kernel
theorem dX9_begin_19 : decode cX9_begin 19 = .ok (.getfield 35, 3) := by decide +kernel
theorem dX9_begin_22 : decode cX9_begin 22 = .ok (.getfield 49, 3) := by decide +kernel
theorem dX9_begin_25 : decode cX9_begin 25 = .ok (.if_icmp .ge 88, 3) := by decide +kernel
theorem dX9_begin_28 : decode cX9_begin 28 = .ok (.iload_n 2, 1) := by decide +kernel
theorem dX9_begin_29 : decode cX9_begin 29 = .ok (.iload_n 1, 1) := by decide +kernel
theorem dX9_begin_30 : decode cX9_begin 30 = .ok (.if_icmp .ge 83, 3) := by decide +kernel
theorem dX9_begin_33 : decode cX9_begin 33 = .ok (.aload_n 0, 1) := by decide +kernel
theorem dX9_begin_34 : decode cX9_begin 34 = .ok (.getfield 35, 3) := by decide +kernel
theorem dX9_begin_37 : decode cX9_begin 37 = .ok (.getfield 54, 3) := by decide +kernel
theorem dX9_begin_40 : decode cX9_begin 40 = .ok (.iload_n 2, 1) := by decide +kernel
theorem dX9_begin_41 : decode cX9_begin 41 = .ok (.iaload, 1) := by decide +kernel
theorem dX9_begin_42 : decode cX9_begin 42 = .ok (.istore_n 3, 1) := by decide +kernel
theorem dX9_begin_43 : decode cX9_begin 43 = .ok (.iload_n 3, 1) := by decide +kernel
theorem dX9_begin_44 : decode cX9_begin 44 = .ok (.invokestatic 57, 3) := by decide +kernel
theorem dX9_begin_47 : decode cX9_begin 47 = .ok (.ifCond .eq 9, 3) := by decide +kernel
theorem dX9_begin_50 : decode cX9_begin 50 = .ok (.iinc 2 1, 3) := by decide +kernel
theorem dX9_begin_53 : decode cX9_begin 53 = .ok (.goto 57, 3) := by decide +kernel
theorem dX9_begin_56 : decode cX9_begin 56 = .ok (.iload_n 3, 1) := by decide +kernel
theorem dX9_begin_57 : decode cX9_begin 57 = .ok (.invokestatic 61, 3) := by decide +kernel
theorem dX9_begin_60 : decode cX9_begin 60 = .ok (.ifCond .ne 10, 3) := by decide +kernel
theorem dX9_begin_63 : decode cX9_begin 63 = .ok (.iload_n 3, 1) := by decide +kernel
theorem dX9_begin_64 : decode cX9_begin 64 = .ok (.invokestatic 64, 3) := by decide +kernel
theorem dX9_begin_67 : decode cX9_begin 67 = .ok (.ifCond .eq 18, 3) := by decide +kernel
theorem dX9_begin_70 : decode cX9_begin 70 = .ok (.iload_n 2, 1) := by decide +kernel
theorem dX9_begin_71 : decode cX9_begin 71 = .ok (.iconst 1, 1) := by decide +kernel
theorem dX9_begin_72 : decode cX9_begin 72 = .ok (.iadd, 1) := by decide +kernel
theorem dX9_begin_73 : decode cX9_begin 73 = .ok (.aload_n 0, 1) := by decide +kernel
theorem dX9_begin_74 : decode cX9_begin 74 = .ok (.iload_n 2, 1) := by decide +kernel
theorem dX9_begin_75 : decode cX9_begin 75 = .ok (.invokevirtual 67, 3) := by decide +kernel
theorem dX9_begin_78 : decode cX9_begin 78 = .ok (.invokestatic 71, 3) := by decide +kernel
theorem dX9_begin_81 : decode cX9_begin 81 = .ok (.istore_n 2, 1) := by decide +kernel
theorem dX9_begin_82 : decode cX9_begin 82 = .ok (.goto 28, 3) := by decide +kernel
theorem dX9_begin_85 : decode cX9_begin 85 = .ok (.aload_n 0, 1) := by decide +kernel
theorem dX9_begin_86 : decode cX9_begin 86 = .ok (.iload_n 3, 1) := by decide +kernel
theorem dX9_begin_87 : decode cX9_begin 87 = .ok (.invokestatic 77, 3) := by decide +kernel
theorem dX9_begin_90 : decode cX9_begin 90 = .ok (.ifCond .eq 7, 3) := by decide +kernel
theorem dX9_begin_93 : decode cX9_begin 93 = .ok (.iconst 4, 1) := by decide +kernel
theorem dX9_begin_94 : decode cX9_begin 94 = .ok (.goto 4, 3) := by decide +kernel
theorem dX9_begin_97 : decode cX9_begin 97 = .ok (.iconst 0, 1) := by decide +kernel
theorem dX9_begin_98 : decode cX9_begin 98 = .ok (.iload_n 2, 1) := by decide +kernel
theorem dX9_begin_99 : decode cX9_begin 99 = .ok (.iload_n 3, 1) := by decide +kernel
theorem dX9_begin_100 : decode cX9_begin 100 = .ok (.i2l, 1) := by decide +kernel
theorem dX9_begin_101 : decode cX9_begin 101 = .ok (.getstatic 28, 3) := by decide +kernel
theorem dX9_begin_104 : decode cX9_begin 104 = .ok (.invokevirtual 80, 3) := by decide +kernel
theorem dX9_begin_107 : decode cX9_begin 107 = .ok (.iinc 2 1, 3) := by decide +kernel
theorem dX9_begin_110 : decode cX9_begin 110 = .ok (.goto (-93), 3) := by decide +kernel
theorem dX9_begin_113 : decode cX9_begin 113 = .ok (.aload_n 0, 1) := by decide +kernel
theorem dX9_begin_114 : decode cX9_begin 114 = .ok (.getfield 35, 3) := by decide +kernel
theorem dX9_begin_117 : decode cX9_begin 117 = .ok (.getfield 49, 3) := by decide +kernel
theorem dX9_begin_120 : decode cX9_begin 120 = .ok (.iload_n 1, 1) := by decide +kernel
theorem dX9_begin_121 : decode cX9_begin 121 = .ok (.if_icmp .le 7, 3) := by decide +kernel
theorem dX9_begin_124 : decode cX9_begin 124 = .ok (.iconst 1, 1) := by decide +kernel
theorem dX9_begin_125 : decode cX9_begin 125 = .ok (.goto 4, 3) := by decide +kernel
theorem dX9_begin_128 : decode cX9_begin 128 = .ok (.iconst 0, 1) := by decide +kernel
theorem dX9_begin_129 : decode cX9_begin 129 = .ok (.istore_n 3, 1) := by decide +kernel
theorem dX9_begin_130 : decode cX9_begin 130 = .ok (.aload_n 0, 1) := by decide +kernel
theorem dX9_begin_131 : decode cX9_begin 131 = .ok (.iload_n 3, 1) := by decide +kernel
theorem dX9_begin_132 : decode cX9_begin 132 = .ok (.ifCond .eq 7, 3) := by decide +kernel
theorem dX9_begin_135 : decode cX9_begin 135 = .ok (.iconst 0, 1) := by decide +kernel
theorem dX9_begin_136 : decode cX9_begin 136 = .ok (.goto 4, 3) := by decide +kernel
theorem dX9_begin_139 : decode cX9_begin 139 = .ok (.iconst 1, 1) := by decide +kernel
theorem dX9_begin_140 : decode cX9_begin 140 = .ok (.iload_n 3, 1) := by decide +kernel
theorem dX9_begin_141 : decode cX9_begin 141 = .ok (.ifCond .eq 7, 3) := by decide +kernel
theorem dX9_begin_144 : decode cX9_begin 144 = .ok (.iload_n 1, 1) := by decide +kernel
theorem dX9_begin_145 : decode cX9_begin 145 = .ok (.goto 10, 3) := by decide +kernel
theorem dX9_begin_148 : decode cX9_begin 148 = .ok (.aload_n 0, 1) := by decide +kernel
theorem dX9_begin_149 : decode cX9_begin 149 = .ok (.getfield 35, 3) := by decide +kernel
theorem dX9_begin_152 : decode cX9_begin 152 = .ok (.getfield 49, 3) := by decide +kernel
theorem dX9_begin_155 : decode cX9_begin 155 = .ok (.lconst 0, 1) := by decide +kernel
theorem dX9_begin_156 : decode cX9_begin 156 = .ok (.getstatic 28, 3) := by decide +kernel
theorem dX9_begin_159 : decode cX9_begin 159 = .ok (.invokevirtual 80, 3) := by decide +kernel
theorem dX9_begin_162 : decode cX9_begin 162 = .ok (.aload_n 0, 1) := by decide +kernel
theorem dX9_begin_163 : decode cX9_begin 163 = .ok (.iconst (-1), 1) := by decide +kernel
theorem dX9_begin_164 : decode cX9_begin 164 = .ok (.putfield 84, 3) := by decide +kernel
theorem dX9_begin_167 : decode cX9_begin 167 = .ok (.aload_n 0, 1) := by decide +kernel
theorem dX9_begin_168 : decode cX9_begin 168 = .ok (.invokevirtual 87, 3) := by decide +kernel
theorem dX9_begin_171 : decode cX9_begin 171 = .ok (.return_, 1) := by decide +kernel
theorem bX9_begin_0 {G : Gt} {d bc bs : Nat} {Q : QT} {l : Ls} {z : List Value} {h : Hp} (k : (tAld 0 (tPush (.int 0) (tPutf isI 8 9 (tAld 0 (tPush (.int 0) (tPutf isI 8 10 (tAld 0 (tPush (.int 0) (tPutf isI 8 5 (tPush (.int 0) (tIst 2 ((fun l z h => T G d bc bs mX9_begin 17 l z h Q))))))))))))) l z h) : T G d bc bs mX9_begin 0 l z h Q := by
  refine R_aload_n dX9_begin_0 rfl (fun l z h k => ?_) k
  refine R_iconst dX9_begin_1 (by decide) (fun l z h k => ?_) k
  refine R_putf (ci := 8) (f := 9) (C := RX9) (N := 11) (Tt := TX9) tyX9 tyX9_ok nmX9 dX9_begin_2 rfl i_X9 (by decide) w_208 rfl (tyX9_ok 9 (by decide)) p_int (fun l z h k => ?_) k
  refine R_aload_n dX9_begin_5 rfl (fun l z h k => ?_) k
  refine R_iconst dX9_begin_6 (by decide) (fun l z h k => ?_) k
  refine R_putf (ci := 8) (f := 10) (C := RX9) (N := 11) (Tt := TX9) tyX9 tyX9_ok nmX9 dX9_begin_7 rfl i_X9 (by decide) w_210 rfl (tyX9_ok 10 (by decide)) p_int (fun l z h k => ?_) k
  refine R_aload_n dX9_begin_10 rfl (fun l z h k => ?_) k
  refine R_iconst dX9_begin_11 (by decide) (fun l z h k => ?_) k
  refine R_putf (ci := 8) (f := 5) (C := RX9) (N := 11) (Tt := TX9) tyX9 tyX9_ok nmX9 dX9_begin_12 rfl i_X9 (by decide) w_199 rfl (tyX9_ok 5 (by decide)) p_int (fun l z h k => ?_) k
  refine R_iconst dX9_begin_15 (by decide) (fun l z h k => ?_) k
  refine R_istore_n dX9_begin_16 rfl (by decide) (fun l z h k => ?_) k
  exact k
theorem bX9_begin_17 {G : Gt} {d bc bs : Nat} {Q : QT} {l : Ls} {z : List Value} {h : Hp} (k : (tIld 2 (tAld 0 (tGetf 8 0 (tGetf 7 1 (tIf2 (fun x y => y ≤ x) (fun l z h => T G d bc bs mX9_begin 113 l z h Q) (fun l z h => T G d bc bs mX9_begin 28 l z h Q)))))) l z h) : T G d bc bs mX9_begin 17 l z h Q := by
  refine R_iload_n dX9_begin_17 rfl (fun l z h k => ?_) k
  refine R_aload_n dX9_begin_18 rfl (fun l z h k => ?_) k
  refine R_getf (ci := 8) (f := 0) (C := RX9) (N := 11) (Tt := TX9) dX9_begin_19 rfl i_X9 (by decide) w_194 (fun l z h k => ?_) k
  refine R_getf (ci := 7) (f := 1) (C := RX8) (N := 2) (Tt := TX8) dX9_begin_22 rfl i_X8 (by decide) w_175 (fun l z h k => ?_) k
  exact R_icmp_ge dX9_begin_25 (by decide) (fun _ _ _ k => k) (fun _ _ _ k => k) k
theorem bX9_begin_28 {G : Gt} {d bc bs : Nat} {Q : QT} {l : Ls} {z : List Value} {h : Hp} (k : (tIld 2 (tIld 1 (tIf2 (fun x y => y ≤ x) (fun l z h => T G d bc bs mX9_begin 113 l z h Q) (fun l z h => T G d bc bs mX9_begin 33 l z h Q)))) l z h) : T G d bc bs mX9_begin 28 l z h Q := by
  refine R_iload_n dX9_begin_28 rfl (fun l z h k => ?_) k
  refine R_iload_n dX9_begin_29 rfl (fun l z h k => ?_) k
  exact R_icmp_ge dX9_begin_30 (by decide) (fun _ _ _ k => k) (fun _ _ _ k => k) k
theorem bX9_begin_33 {G : Gt} {d bc bs : Nat} {Q : QT} {l : Ls} {z : List Value} {h : Hp} (k : (tAld 0 (tGetf 8 0 (tGetf 7 0 (tIld 2 (tXald 0 (tIst 3 (tIld 3 (tCS1 G d 0 0 mX9_isBlank (fun l z h => T G d bc bs mX9_begin 47 l z h Q))))))))) l z h) : T G d bc bs mX9_begin 33 l z h Q := by
  refine R_aload_n dX9_begin_33 rfl (fun l z h k => ?_) k
  refine R_getf (ci := 8) (f := 0) (C := RX9) (N := 11) (Tt := TX9) dX9_begin_34 rfl i_X9 (by decide) w_194 (fun l z h k => ?_) k
  refine R_getf (ci := 7) (f := 0) (C := RX8) (N := 2) (Tt := TX8) dX9_begin_37 rfl i_X8 (by decide) w_173 (fun l z h k => ?_) k
  refine R_iload_n dX9_begin_40 rfl (fun l z h k => ?_) k
  refine R_iaload dX9_begin_41 (fun l z h k => ?_) k
  refine R_istore_n dX9_begin_42 rfl (by decide) (fun l z h k => ?_) k
  refine R_iload_n dX9_begin_43 rfl (fun l z h k => ?_) k
  exact R_cs1 (M := mX9_begin) (pc := 44) (bc := bc) (bs := bs) (cb := 0) (cs := 0) (M' := mX9_isBlank) dX9_begin_44 (by decide) w_569 w_132 w_567 w_568 (by decide +kernel) (fun _ _ _ k => k) k
theorem bX9_begin_47 {G : Gt} {d bc bs : Nat} {Q : QT} {l : Ls} {z : List Value} {h : Hp} (k : (tIf (fun x => x = 0) (fun l z h => T G d bc bs mX9_begin 56 l z h Q) (fun l z h => T G d bc bs mX9_begin 50 l z h Q)) l z h) : T G d bc bs mX9_begin 47 l z h Q := by
  exact R_if_eq dX9_begin_47 (by decide) (fun _ _ _ k => k) (fun _ _ _ k => k) k
theorem bX9_begin_50 {G : Gt} {d bc bs : Nat} {Q : QT} {l : Ls} {z : List Value} {h : Hp} (k : (tInc 2 1 ((fun l z h => T G d bc bs mX9_begin 110 l z h Q))) l z h) : T G d bc bs mX9_begin 50 l z h Q := by
  refine R_iinc dX9_begin_50 (by decide) (by decide) (fun l z h k => ?_) k
  exact R_goto dX9_begin_53 (by decide) (fun _ _ _ k => k) k
theorem bX9_begin_56 {G : Gt} {d bc bs : Nat} {Q : QT} {l : Ls} {z : List Value} {h : Hp} (k : (tIld 3 (tCS1 G d 0 0 mX9_isLetter (fun l z h => T G d bc bs mX9_begin 60 l z h Q))) l z h) : T G d bc bs mX9_begin 56 l z h Q := by
  refine R_iload_n dX9_begin_56 rfl (fun l z h k => ?_) k
  exact R_cs1 (M := mX9_begin) (pc := 57) (bc := bc) (bs := bs) (cb := 0) (cs := 0) (M' := mX9_isLetter) dX9_begin_57 (by decide) w_572 w_132 w_570 w_571 (by decide +kernel) (fun _ _ _ k => k) k
theorem bX9_begin_60 {G : Gt} {d bc bs : Nat} {Q : QT} {l : Ls} {z : List Value} {h : Hp} (k : (tIf (fun x => x = 0) (fun l z h => T G d bc bs mX9_begin 63 l z h Q) (fun l z h => T G d bc bs mX9_begin 70 l z h Q)) l z h) : T G d bc bs mX9_begin 60 l z h Q := by
  exact R_if_ne dX9_begin_60 (by decide) (fun _ _ _ k => k) (fun _ _ _ k => k) k
theorem bX9_begin_63 {G : Gt} {d bc bs : Nat} {Q : QT} {l : Ls} {z : List Value} {h : Hp} (k : (tIld 3 (tCS1 G d 0 0 mX9_isDigit (fun l z h => T G d bc bs mX9_begin 67 l z h Q))) l z h) : T G d bc bs mX9_begin 63 l z h Q := by
  refine R_iload_n dX9_begin_63 rfl (fun l z h k => ?_) k
  exact R_cs1 (M := mX9_begin) (pc := 64) (bc := bc) (bs := bs) (cb := 0) (cs := 0) (M' := mX9_isDigit) dX9_begin_64 (by decide) w_575 w_132 w_573 w_574 (by decide +kernel) (fun _ _ _ k => k) k
theorem bX9_begin_67 {G : Gt} {d bc bs : Nat} {Q : QT} {l : Ls} {z : List Value} {h : Hp} (k : (tIf (fun x => x = 0) (fun l z h => T G d bc bs mX9_begin 85 l z h Q) (fun l z h => T G d bc bs mX9_begin 70 l z h Q)) l z h) : T G d bc bs mX9_begin 67 l z h Q := by
  exact R_if_eq dX9_begin_67 (by decide) (fun _ _ _ k => k) (fun _ _ _ k => k) k
theorem bX9_begin_70 {G : Gt} {d bc bs : Nat} {Q : QT} {l : Ls} {z : List Value} {h : Hp} (k : (tIld 2 (tPush (.int 1) (tB (fun x y => x + y) (tAld 0 (tIld 2 (tCV1 G d 0 0 8 mX9_scanRun (fun l z h => T G d bc bs mX9_begin 78 l z h Q))))))) l z h) : T G d bc bs mX9_begin 70 l z h Q := by
  refine R_iload_n dX9_begin_70 rfl (fun l z h k => ?_) k
  refine R_iconst dX9_begin_71 (by decide) (fun l z h k => ?_) k
  refine R_iadd dX9_begin_72 (fun l z h k => ?_) k
  refine R_aload_n dX9_begin_73 rfl (fun l z h k => ?_) k
  refine R_iload_n dX9_begin_74 rfl (fun l z h k => ?_) k
  exact R_cv1 (M := mX9_begin) (pc := 75) (bc := bc) (bs := bs) (cb := 0) (cs := 0) (M' := mX9_scanRun) dX9_begin_75 rfl (by decide) w_579 w_132 w_576 w_578 w_0 (by decide +kernel) (fun _ _ _ k => k) k
theorem bX9_begin_78 {G : Gt} {d bc bs : Nat} {Q : QT} {l : Ls} {z : List Value} {h : Hp} (hd1 : 1 ≤ d) (k : (tMax ((fun l z h => T G d bc bs mX9_begin 81 l z h Q))) l z h) : T G d bc bs mX9_begin 78 l z h Q := by
  refine R_mmax dX9_begin_78 hd1 w_643 (fun l z h k => ?_) k
  exact k
theorem bX9_begin_81 {G : Gt} {d bc bs : Nat} {Q : QT} {l : Ls} {z : List Value} {h : Hp} (k : (tIst 2 ((fun l z h => T G d bc bs mX9_begin 110 l z h Q))) l z h) : T G d bc bs mX9_begin 81 l z h Q := by
  refine R_istore_n dX9_begin_81 rfl (by decide) (fun l z h k => ?_) k
  exact R_goto dX9_begin_82 (by decide) (fun _ _ _ k => k) k
theorem bX9_begin_85 {G : Gt} {d bc bs : Nat} {Q : QT} {l : Ls} {z : List Value} {h : Hp} (k : (tAld 0 (tIld 3 (tCS1 G d 0 0 mX9_isSign (fun l z h => T G d bc bs mX9_begin 90 l z h Q)))) l z h) : T G d bc bs mX9_begin 85 l z h Q := by
  refine R_aload_n dX9_begin_85 rfl (fun l z h k => ?_) k
  refine R_iload_n dX9_begin_86 rfl (fun l z h k => ?_) k
  exact R_cs1 (M := mX9_begin) (pc := 87) (bc := bc) (bs := bs) (cb := 0) (cs := 0) (M' := mX9_isSign) dX9_begin_87 (by decide) w_648 w_132 w_646 w_647 (by decide +kernel) (fun _ _ _ k => k) k
theorem bX9_begin_90 {G : Gt} {d bc bs : Nat} {Q : QT} {l : Ls} {z : List Value} {h : Hp} (k : (tIf (fun x => x = 0) (fun l z h => T G d bc bs mX9_begin 97 l z h Q) (fun l z h => T G d bc bs mX9_begin 93 l z h Q)) l z h) : T G d bc bs mX9_begin 90 l z h Q := by
  exact R_if_eq dX9_begin_90 (by decide) (fun _ _ _ k => k) (fun _ _ _ k => k) k
theorem bX9_begin_93 {G : Gt} {d bc bs : Nat} {Q : QT} {l : Ls} {z : List Value} {h : Hp} (k : (tPush (.int 4) ((fun l z h => T G d bc bs mX9_begin 98 l z h Q))) l z h) : T G d bc bs mX9_begin 93 l z h Q := by
  refine R_iconst dX9_begin_93 (by decide) (fun l z h k => ?_) k
  exact R_goto dX9_begin_94 (by decide) (fun _ _ _ k => k) k
theorem bX9_begin_97 {G : Gt} {d bc bs : Nat} {Q : QT} {l : Ls} {z : List Value} {h : Hp} (k : (tPush (.int 0) ((fun l z h => T G d bc bs mX9_begin 98 l z h Q))) l z h) : T G d bc bs mX9_begin 97 l z h Q := by
  refine R_iconst dX9_begin_97 (by decide) (fun l z h k => ?_) k
  exact k
theorem bX9_begin_98 {G : Gt} {d bc bs : Nat} {Q : QT} {l : Ls} {z : List Value} {h : Hp} (k : (tIld 2 (tIld 3 (tI2l (tPush (.ref (adW G 0)) (tCV4 G d 0 0 8 mX9_put (fun l z h => T G d bc bs mX9_begin 107 l z h Q)))))) l z h) : T G d bc bs mX9_begin 98 l z h Q := by
  refine R_iload_n dX9_begin_98 rfl (fun l z h k => ?_) k
  refine R_iload_n dX9_begin_99 rfl (fun l z h k => ?_) k
  refine R_i2l dX9_begin_100 (fun l z h k => ?_) k
  refine R_word (k := 0) dX9_begin_101 (by decide) rfl w_192 (fun l z h k => ?_) k
  exact R_cv4 (M := mX9_begin) (pc := 104) (bc := bc) (bs := bs) (cb := 0) (cs := 0) (M' := mX9_put) dX9_begin_104 rfl (by decide) w_642 w_132 w_639 w_641 w_3 (by decide +kernel) (fun _ _ _ k => k) k
theorem bX9_begin_107 {G : Gt} {d bc bs : Nat} {Q : QT} {l : Ls} {z : List Value} {h : Hp} (k : (tInc 2 1 ((fun l z h => T G d bc bs mX9_begin 110 l z h Q))) l z h) : T G d bc bs mX9_begin 107 l z h Q := by
  refine R_iinc dX9_begin_107 (by decide) (by decide) (fun l z h k => ?_) k
  exact k
theorem bX9_begin_110 {G : Gt} {d bc bs : Nat} {Q : QT} {l : Ls} {z : List Value} {h : Hp} (k : (fun l z h => T G d bc bs mX9_begin 17 l z h Q) l z h) : T G d bc bs mX9_begin 110 l z h Q := by
  exact R_goto dX9_begin_110 (by decide) (fun _ _ _ k => k) k
theorem bX9_begin_113 {G : Gt} {d bc bs : Nat} {Q : QT} {l : Ls} {z : List Value} {h : Hp} (k : (tAld 0 (tGetf 8 0 (tGetf 7 1 (tIld 1 (tIf2 (fun x y => x ≤ y) (fun l z h => T G d bc bs mX9_begin 128 l z h Q) (fun l z h => T G d bc bs mX9_begin 124 l z h Q)))))) l z h) : T G d bc bs mX9_begin 113 l z h Q := by
  refine R_aload_n dX9_begin_113 rfl (fun l z h k => ?_) k
  refine R_getf (ci := 8) (f := 0) (C := RX9) (N := 11) (Tt := TX9) dX9_begin_114 rfl i_X9 (by decide) w_194 (fun l z h k => ?_) k
  refine R_getf (ci := 7) (f := 1) (C := RX8) (N := 2) (Tt := TX8) dX9_begin_117 rfl i_X8 (by decide) w_175 (fun l z h k => ?_) k
  refine R_iload_n dX9_begin_120 rfl (fun l z h k => ?_) k
  exact R_icmp_le dX9_begin_121 (by decide) (fun _ _ _ k => k) (fun _ _ _ k => k) k
theorem bX9_begin_124 {G : Gt} {d bc bs : Nat} {Q : QT} {l : Ls} {z : List Value} {h : Hp} (k : (tPush (.int 1) ((fun l z h => T G d bc bs mX9_begin 129 l z h Q))) l z h) : T G d bc bs mX9_begin 124 l z h Q := by
  refine R_iconst dX9_begin_124 (by decide) (fun l z h k => ?_) k
  exact R_goto dX9_begin_125 (by decide) (fun _ _ _ k => k) k
theorem bX9_begin_128 {G : Gt} {d bc bs : Nat} {Q : QT} {l : Ls} {z : List Value} {h : Hp} (k : (tPush (.int 0) ((fun l z h => T G d bc bs mX9_begin 129 l z h Q))) l z h) : T G d bc bs mX9_begin 128 l z h Q := by
  refine R_iconst dX9_begin_128 (by decide) (fun l z h k => ?_) k
  exact k
theorem bX9_begin_129 {G : Gt} {d bc bs : Nat} {Q : QT} {l : Ls} {z : List Value} {h : Hp} (k : (tIst 3 (tAld 0 (tIld 3 (tIf (fun x => x = 0) (fun l z h => T G d bc bs mX9_begin 139 l z h Q) (fun l z h => T G d bc bs mX9_begin 135 l z h Q))))) l z h) : T G d bc bs mX9_begin 129 l z h Q := by
  refine R_istore_n dX9_begin_129 rfl (by decide) (fun l z h k => ?_) k
  refine R_aload_n dX9_begin_130 rfl (fun l z h k => ?_) k
  refine R_iload_n dX9_begin_131 rfl (fun l z h k => ?_) k
  exact R_if_eq dX9_begin_132 (by decide) (fun _ _ _ k => k) (fun _ _ _ k => k) k
theorem bX9_begin_135 {G : Gt} {d bc bs : Nat} {Q : QT} {l : Ls} {z : List Value} {h : Hp} (k : (tPush (.int 0) ((fun l z h => T G d bc bs mX9_begin 140 l z h Q))) l z h) : T G d bc bs mX9_begin 135 l z h Q := by
  refine R_iconst dX9_begin_135 (by decide) (fun l z h k => ?_) k
  exact R_goto dX9_begin_136 (by decide) (fun _ _ _ k => k) k
theorem bX9_begin_139 {G : Gt} {d bc bs : Nat} {Q : QT} {l : Ls} {z : List Value} {h : Hp} (k : (tPush (.int 1) ((fun l z h => T G d bc bs mX9_begin 140 l z h Q))) l z h) : T G d bc bs mX9_begin 139 l z h Q := by
  refine R_iconst dX9_begin_139 (by decide) (fun l z h k => ?_) k
  exact k
theorem bX9_begin_140 {G : Gt} {d bc bs : Nat} {Q : QT} {l : Ls} {z : List Value} {h : Hp} (k : (tIld 3 (tIf (fun x => x = 0) (fun l z h => T G d bc bs mX9_begin 148 l z h Q) (fun l z h => T G d bc bs mX9_begin 144 l z h Q))) l z h) : T G d bc bs mX9_begin 140 l z h Q := by
  refine R_iload_n dX9_begin_140 rfl (fun l z h k => ?_) k
  exact R_if_eq dX9_begin_141 (by decide) (fun _ _ _ k => k) (fun _ _ _ k => k) k
theorem bX9_begin_144 {G : Gt} {d bc bs : Nat} {Q : QT} {l : Ls} {z : List Value} {h : Hp} (k : (tIld 1 ((fun l z h => T G d bc bs mX9_begin 155 l z h Q))) l z h) : T G d bc bs mX9_begin 144 l z h Q := by
  refine R_iload_n dX9_begin_144 rfl (fun l z h k => ?_) k
  exact R_goto dX9_begin_145 (by decide) (fun _ _ _ k => k) k
theorem bX9_begin_148 {G : Gt} {d bc bs : Nat} {Q : QT} {l : Ls} {z : List Value} {h : Hp} (k : (tAld 0 (tGetf 8 0 (tGetf 7 1 ((fun l z h => T G d bc bs mX9_begin 155 l z h Q))))) l z h) : T G d bc bs mX9_begin 148 l z h Q := by
  refine R_aload_n dX9_begin_148 rfl (fun l z h k => ?_) k
  refine R_getf (ci := 8) (f := 0) (C := RX9) (N := 11) (Tt := TX9) dX9_begin_149 rfl i_X9 (by decide) w_194 (fun l z h k => ?_) k
  refine R_getf (ci := 7) (f := 1) (C := RX8) (N := 2) (Tt := TX8) dX9_begin_152 rfl i_X8 (by decide) w_175 (fun l z h k => ?_) k
  exact k
theorem bX9_begin_155 {G : Gt} {d bc bs : Nat} {Q : QT} {l : Ls} {z : List Value} {h : Hp} (k : (tPush (.long 0) (tPush (.ref (adW G 0)) (tCV4 G d 0 0 8 mX9_put (fun l z h => T G d bc bs mX9_begin 162 l z h Q)))) l z h) : T G d bc bs mX9_begin 155 l z h Q := by
  refine R_lconst dX9_begin_155 (by decide) (fun l z h k => ?_) k
  refine R_word (k := 0) dX9_begin_156 (by decide) rfl w_192 (fun l z h k => ?_) k
  exact R_cv4 (M := mX9_begin) (pc := 159) (bc := bc) (bs := bs) (cb := 0) (cs := 0) (M' := mX9_put) dX9_begin_159 rfl (by decide) w_642 w_132 w_639 w_641 w_3 (by decide +kernel) (fun _ _ _ k => k) k
theorem bX9_begin_162 {G : Gt} {d bc bs : Nat} {Q : QT} {l : Ls} {z : List Value} {h : Hp} (k : (tAld 0 (tPush (.int (-1)) (tPutf isI 8 6 (tAld 0 (tCV0 G d 0 0 8 mX9_step (fun l z h => T G d bc bs mX9_begin 171 l z h Q)))))) l z h) : T G d bc bs mX9_begin 162 l z h Q := by
  refine R_aload_n dX9_begin_162 rfl (fun l z h k => ?_) k
  refine R_iconst dX9_begin_163 (by decide) (fun l z h k => ?_) k
  refine R_putf (ci := 8) (f := 6) (C := RX9) (N := 11) (Tt := TX9) tyX9 tyX9_ok nmX9 dX9_begin_164 rfl i_X9 (by decide) w_200 rfl (tyX9_ok 6 (by decide)) p_int (fun l z h k => ?_) k
  refine R_aload_n dX9_begin_167 rfl (fun l z h k => ?_) k
  exact R_cv0 (M := mX9_begin) (pc := 168) (bc := bc) (bs := bs) (cb := 0) (cs := 0) (M' := mX9_step) dX9_begin_168 rfl (by decide) w_652 w_132 w_649 w_650 w_651 (by decide +kernel) (fun _ _ _ k => k) k
theorem bX9_begin_171 {G : Gt} {d bc bs : Nat} {Q : QT} {l : Ls} {z : List Value} {h : Hp} (k : (tRetV Q) l z h) : T G d bc bs mX9_begin 171 l z h Q := by
  exact R_vret dX9_begin_171 rfl k
theorem dX9_scanRun_0 : decode cX9_scanRun 0 = .ok (.iload_n 1, 1) := by decide +kernel
theorem dX9_scanRun_1 : decode cX9_scanRun 1 = .ok (.istore_n 2, 1) := by decide +kernel
theorem dX9_scanRun_2 : decode cX9_scanRun 2 = .ok (.iconst 0, 1) := by decide +kernel
theorem dX9_scanRun_3 : decode cX9_scanRun 3 = .ok (.istore_n 3, 1) := by decide +kernel
theorem dX9_scanRun_4 : decode cX9_scanRun 4 = .ok (.lconst 0, 1) := by decide +kernel
theorem dX9_scanRun_5 : decode cX9_scanRun 5 = .ok (.lstore 4, 2) := by decide +kernel
theorem dX9_scanRun_7 : decode cX9_scanRun 7 = .ok (.lconst 0, 1) := by decide +kernel
theorem dX9_scanRun_8 : decode cX9_scanRun 8 = .ok (.lstore 6, 2) := by decide +kernel
theorem dX9_scanRun_10 : decode cX9_scanRun 10 = .ok (.iload_n 2, 1) := by decide +kernel
theorem dX9_scanRun_11 : decode cX9_scanRun 11 = .ok (.aload_n 0, 1) := by decide +kernel
theorem dX9_scanRun_12 : decode cX9_scanRun 12 = .ok (.getfield 35, 3) := by decide +kernel
theorem dX9_scanRun_15 : decode cX9_scanRun 15 = .ok (.getfield 49, 3) := by decide +kernel
theorem dX9_scanRun_18 : decode cX9_scanRun 18 = .ok (.if_icmp .ge 94, 3) := by decide +kernel
theorem dX9_scanRun_21 : decode cX9_scanRun 21 = .ok (.aload_n 0, 1) := by decide +kernel
theorem dX9_scanRun_22 : decode cX9_scanRun 22 = .ok (.getfield 35, 3) := by decide +kernel
theorem dX9_scanRun_25 : decode cX9_scanRun 25 = .ok (.getfield 54, 3) := by decide +kernel
theorem dX9_scanRun_28 : decode cX9_scanRun 28 = .ok (.iload_n 2, 1) := by decide +kernel
theorem dX9_scanRun_29 : decode cX9_scanRun 29 = .ok (.iaload, 1) := by decide +kernel
theorem dX9_scanRun_30 : decode cX9_scanRun 30 = .ok (.invokestatic 61, 3) := by decide +kernel
theorem dX9_scanRun_33 : decode cX9_scanRun 33 = .ok (.ifCond .ne 18, 3) := by decide +kernel
theorem dX9_scanRun_36 : decode cX9_scanRun 36 = .ok (.aload_n 0, 1) := by decide +kernel
theorem dX9_scanRun_37 : decode cX9_scanRun 37 = .ok (.getfield 35, 3) := by decide +kernel
theorem dX9_scanRun_40 : decode cX9_scanRun 40 = .ok (.getfield 54, 3) := by decide +kernel
theorem dX9_scanRun_43 : decode cX9_scanRun 43 = .ok (.iload_n 2, 1) := by decide +kernel
theorem dX9_scanRun_44 : decode cX9_scanRun 44 = .ok (.iaload, 1) := by decide +kernel
theorem dX9_scanRun_45 : decode cX9_scanRun 45 = .ok (.invokestatic 64, 3) := by decide +kernel
theorem dX9_scanRun_48 : decode cX9_scanRun 48 = .ok (.ifCond .eq 64, 3) := by decide +kernel
theorem dX9_scanRun_51 : decode cX9_scanRun 51 = .ok (.aload_n 0, 1) := by decide +kernel
theorem dX9_scanRun_52 : decode cX9_scanRun 52 = .ok (.getfield 35, 3) := by decide +kernel
theorem dX9_scanRun_55 : decode cX9_scanRun 55 = .ok (.getfield 54, 3) := by decide +kernel
theorem dX9_scanRun_58 : decode cX9_scanRun 58 = .ok (.iload_n 2, 1) := by decide +kernel
theorem dX9_scanRun_59 : decode cX9_scanRun 59 = .ok (.iaload, 1) := by decide +kernel
theorem dX9_scanRun_60 : decode cX9_scanRun 60 = .ok (.istore 8, 2) := by decide +kernel
theorem dX9_scanRun_62 : decode cX9_scanRun 62 = .ok (.iload 8, 2) := by decide +kernel
theorem dX9_scanRun_64 : decode cX9_scanRun 64 = .ok (.invokestatic 61, 3) := by decide +kernel
theorem dX9_scanRun_67 : decode cX9_scanRun 67 = .ok (.ifCond .eq 24, 3) := by decide +kernel
theorem dX9_scanRun_70 : decode cX9_scanRun 70 = .ok (.iinc 3 1, 3) := by decide +kernel
theorem dX9_scanRun_73 : decode cX9_scanRun 73 = .ok (.lload 4, 2) := by decide +kernel
theorem dX9_scanRun_75 : decode cX9_scanRun 75 = .ok (.iconst 5, 1) := by decide +kernel
theorem dX9_scanRun_76 : decode cX9_scanRun 76 = .ok (.lshl, 1) := by decide +kernel
theorem dX9_scanRun_77 : decode cX9_scanRun 77 = .ok (.iload 8, 2) := by decide +kernel
theorem dX9_scanRun_79 : decode cX9_scanRun 79 = .ok (.bipush 97, 2) := by decide +kernel
theorem dX9_scanRun_81 : decode cX9_scanRun 81 = .ok (.isub, 1) := by decide +kernel
theorem dX9_scanRun_82 : decode cX9_scanRun 82 = .ok (.iconst 1, 1) := by decide +kernel
theorem dX9_scanRun_83 : decode cX9_scanRun 83 = .ok (.iadd, 1) := by decide +kernel
theorem dX9_scanRun_84 : decode cX9_scanRun 84 = .ok (.i2l, 1) := by decide +kernel
theorem dX9_scanRun_85 : decode cX9_scanRun 85 = .ok (.ladd, 1) := by decide +kernel
theorem dX9_scanRun_86 : decode cX9_scanRun 86 = .ok (.lstore 4, 2) := by decide +kernel
theorem dX9_scanRun_88 : decode cX9_scanRun 88 = .ok (.goto 18, 3) := by decide +kernel
theorem dX9_scanRun_91 : decode cX9_scanRun 91 = .ok (.lload 6, 2) := by decide +kernel
theorem dX9_scanRun_93 : decode cX9_scanRun 93 = .ok (.ldc2_w 90, 3) := by decide +kernel
theorem dX9_scanRun_96 : decode cX9_scanRun 96 = .ok (.lmul, 1) := by decide +kernel
theorem dX9_scanRun_97 : decode cX9_scanRun 97 = .ok (.iload 8, 2) := by decide +kernel
theorem dX9_scanRun_99 : decode cX9_scanRun 99 = .ok (.bipush 48, 2) := by decide +kernel
theorem dX9_scanRun_101 : decode cX9_scanRun 101 = .ok (.isub, 1) := by decide +kernel
theorem dX9_scanRun_102 : decode cX9_scanRun 102 = .ok (.i2l, 1) := by decide +kernel
theorem dX9_scanRun_103 : decode cX9_scanRun 103 = .ok (.ladd, 1) := by decide +kernel
theorem dX9_scanRun_104 : decode cX9_scanRun 104 = .ok (.lstore 6, 2) := by decide +kernel
theorem dX9_scanRun_106 : decode cX9_scanRun 106 = .ok (.iinc 2 1, 3) := by decide +kernel
theorem dX9_scanRun_109 : decode cX9_scanRun 109 = .ok (.goto (-99), 3) := by decide +kernel
theorem dX9_scanRun_112 : decode cX9_scanRun 112 = .ok (.iload_n 2, 1) := by decide +kernel
theorem dX9_scanRun_113 : decode cX9_scanRun 113 = .ok (.iload_n 1, 1) := by decide +kernel
theorem dX9_scanRun_114 : decode cX9_scanRun 114 = .ok (.isub, 1) := by decide +kernel
theorem dX9_scanRun_115 : decode cX9_scanRun 115 = .ok (.istore 8, 2) := by decide +kernel
theorem dX9_scanRun_117 : decode cX9_scanRun 117 = .ok (.iload_n 3, 1) := by decide +kernel
theorem dX9_scanRun_118 : decode cX9_scanRun 118 = .ok (.iload 8, 2) := by decide +kernel
theorem dX9_scanRun_120 : decode cX9_scanRun 120 = .ok (.if_icmp .ne 28, 3) := by decide +kernel
theorem dX9_scanRun_123 : decode cX9_scanRun 123 = .ok (.iload 8, 2) := by decide +kernel
theorem dX9_scanRun_125 : decode cX9_scanRun 125 = .ok (.bipush 7, 2) := by decide +kernel
theorem dX9_scanRun_127 : decode cX9_scanRun 127 = .ok (.if_icmp .gt 21, 3) := by decide +kernel
theorem dX9_scanRun_130 : decode cX9_scanRun 130 = .ok (.aload_n 0, 1) := by decide +kernel
theorem dX9_scanRun_131 : decode cX9_scanRun 131 = .ok (.iconst 2, 1) := by decide +kernel
theorem dX9_scanRun_132 : decode cX9_scanRun 132 = .ok (.iload_n 1, 1) := by decide +kernel
theorem dX9_scanRun_133 : decode cX9_scanRun 133 = .ok (.lload 4, 2) := by decide +kernel
theorem dX9_scanRun_135 : decode cX9_scanRun 135 = .ok (.aload_n 0, 1) := by decide +kernel
theorem dX9_scanRun_136 : decode cX9_scanRun 136 = .ok (.iload_n 1, 1) := by decide +kernel
theorem dX9_scanRun_137 : decode cX9_scanRun 137 = .ok (.iload 8, 2) := by decide +kernel
theorem dX9_scanRun_139 : decode cX9_scanRun 139 = .ok (.invokevirtual 92, 3) := by decide +kernel
theorem dX9_scanRun_142 : decode cX9_scanRun 142 = .ok (.invokevirtual 80, 3) := by decide +kernel
theorem dX9_scanRun_145 : decode cX9_scanRun 145 = .ok (.goto 37, 3) := by decide +kernel
theorem dX9_scanRun_148 : decode cX9_scanRun 148 = .ok (.iload_n 3, 1) := by decide +kernel
theorem dX9_scanRun_149 : decode cX9_scanRun 149 = .ok (.ifCond .ne 23, 3) := by decide +kernel
theorem dX9_scanRun_152 : decode cX9_scanRun 152 = .ok (.iload 8, 2) := by decide +kernel
theorem dX9_scanRun_154 : decode cX9_scanRun 154 = .ok (.iconst 3, 1) := by decide +kernel
theorem dX9_scanRun_155 : decode cX9_scanRun 155 = .ok (.if_icmp .gt 17, 3) := by decide +kernel
theorem dX9_scanRun_158 : decode cX9_scanRun 158 = .ok (.aload_n 0, 1) := by decide +kernel
theorem dX9_scanRun_159 : decode cX9_scanRun 159 = .ok (.iconst 3, 1) := by decide +kernel
theorem dX9_scanRun_160 : decode cX9_scanRun 160 = .ok (.iload_n 1, 1) := by decide +kernel
theorem dX9_scanRun_161 : decode cX9_scanRun 161 = .ok (.lload 6, 2) := by decide +kernel
theorem dX9_scanRun_163 : decode cX9_scanRun 163 = .ok (.getstatic 28, 3) := by decide +kernel
theorem dX9_scanRun_166 : decode cX9_scanRun 166 = .ok (.invokevirtual 80, 3) := by decide +kernel
theorem dX9_scanRun_169 : decode cX9_scanRun 169 = .ok (.goto 13, 3) := by decide +kernel
theorem dX9_scanRun_172 : decode cX9_scanRun 172 = .ok (.aload_n 0, 1) := by decide +kernel
theorem dX9_scanRun_173 : decode cX9_scanRun 173 = .ok (.iconst 0, 1) := by decide +kernel
theorem dX9_scanRun_174 : decode cX9_scanRun 174 = .ok (.iload_n 1, 1) := by decide +kernel
theorem dX9_scanRun_175 : decode cX9_scanRun 175 = .ok (.lconst 0, 1) := by decide +kernel
theorem dX9_scanRun_176 : decode cX9_scanRun 176 = .ok (.getstatic 28, 3) := by decide +kernel
theorem dX9_scanRun_179 : decode cX9_scanRun 179 = .ok (.invokevirtual 80, 3) := by decide +kernel
theorem dX9_scanRun_182 : decode cX9_scanRun 182 = .ok (.iload_n 2, 1) := by decide +kernel
theorem dX9_scanRun_183 : decode cX9_scanRun 183 = .ok (.ireturn, 1) := by decide +kernel
theorem bX9_scanRun_0 {G : Gt} {d bc bs : Nat} {Q : QT} {l : Ls} {z : List Value} {h : Hp} (k : (tIld 1 (tIst 2 (tPush (.int 0) (tIst 3 (tPush (.long 0) (tLst 4 (tPush (.long 0) (tLst 6 ((fun l z h => T G d bc bs mX9_scanRun 10 l z h Q)))))))))) l z h) : T G d bc bs mX9_scanRun 0 l z h Q := by
  refine R_iload_n dX9_scanRun_0 rfl (fun l z h k => ?_) k
  refine R_istore_n dX9_scanRun_1 rfl (by decide) (fun l z h k => ?_) k
  refine R_iconst dX9_scanRun_2 (by decide) (fun l z h k => ?_) k
  refine R_istore_n dX9_scanRun_3 rfl (by decide) (fun l z h k => ?_) k
  refine R_lconst dX9_scanRun_4 (by decide) (fun l z h k => ?_) k
  refine R_lstore dX9_scanRun_5 (by decide) (fun l z h k => ?_) k
  refine R_lconst dX9_scanRun_7 (by decide) (fun l z h k => ?_) k
  refine R_lstore dX9_scanRun_8 (by decide) (fun l z h k => ?_) k
  exact k
theorem bX9_scanRun_10 {G : Gt} {d bc bs : Nat} {Q : QT} {l : Ls} {z : List Value} {h : Hp} (k : (tIld 2 (tAld 0 (tGetf 8 0 (tGetf 7 1 (tIf2 (fun x y => y ≤ x) (fun l z h => T G d bc bs mX9_scanRun 112 l z h Q) (fun l z h => T G d bc bs mX9_scanRun 21 l z h Q)))))) l z h) : T G d bc bs mX9_scanRun 10 l z h Q := by
  refine R_iload_n dX9_scanRun_10 rfl (fun l z h k => ?_) k
  refine R_aload_n dX9_scanRun_11 rfl (fun l z h k => ?_) k
  refine R_getf (ci := 8) (f := 0) (C := RX9) (N := 11) (Tt := TX9) dX9_scanRun_12 rfl i_X9 (by decide) w_194 (fun l z h k => ?_) k
  refine R_getf (ci := 7) (f := 1) (C := RX8) (N := 2) (Tt := TX8) dX9_scanRun_15 rfl i_X8 (by decide) w_175 (fun l z h k => ?_) k
  exact R_icmp_ge dX9_scanRun_18 (by decide) (fun _ _ _ k => k) (fun _ _ _ k => k) k
theorem bX9_scanRun_21 {G : Gt} {d bc bs : Nat} {Q : QT} {l : Ls} {z : List Value} {h : Hp} (k : (tAld 0 (tGetf 8 0 (tGetf 7 0 (tIld 2 (tXald 0 (tCS1 G d 0 0 mX9_isLetter (fun l z h => T G d bc bs mX9_scanRun 33 l z h Q))))))) l z h) : T G d bc bs mX9_scanRun 21 l z h Q := by
  refine R_aload_n dX9_scanRun_21 rfl (fun l z h k => ?_) k
  refine R_getf (ci := 8) (f := 0) (C := RX9) (N := 11) (Tt := TX9) dX9_scanRun_22 rfl i_X9 (by decide) w_194 (fun l z h k => ?_) k
  refine R_getf (ci := 7) (f := 0) (C := RX8) (N := 2) (Tt := TX8) dX9_scanRun_25 rfl i_X8 (by decide) w_173 (fun l z h k => ?_) k
  refine R_iload_n dX9_scanRun_28 rfl (fun l z h k => ?_) k
  refine R_iaload dX9_scanRun_29 (fun l z h k => ?_) k
  exact R_cs1 (M := mX9_scanRun) (pc := 30) (bc := bc) (bs := bs) (cb := 0) (cs := 0) (M' := mX9_isLetter) dX9_scanRun_30 (by decide) w_572 w_132 w_570 w_571 (by decide +kernel) (fun _ _ _ k => k) k
theorem bX9_scanRun_33 {G : Gt} {d bc bs : Nat} {Q : QT} {l : Ls} {z : List Value} {h : Hp} (k : (tIf (fun x => x = 0) (fun l z h => T G d bc bs mX9_scanRun 36 l z h Q) (fun l z h => T G d bc bs mX9_scanRun 51 l z h Q)) l z h) : T G d bc bs mX9_scanRun 33 l z h Q := by
  exact R_if_ne dX9_scanRun_33 (by decide) (fun _ _ _ k => k) (fun _ _ _ k => k) k
theorem bX9_scanRun_36 {G : Gt} {d bc bs : Nat} {Q : QT} {l : Ls} {z : List Value} {h : Hp} (k : (tAld 0 (tGetf 8 0 (tGetf 7 0 (tIld 2 (tXald 0 (tCS1 G d 0 0 mX9_isDigit (fun l z h => T G d bc bs mX9_scanRun 48 l z h Q))))))) l z h) : T G d bc bs mX9_scanRun 36 l z h Q := by
  refine R_aload_n dX9_scanRun_36 rfl (fun l z h k => ?_) k
  refine R_getf (ci := 8) (f := 0) (C := RX9) (N := 11) (Tt := TX9) dX9_scanRun_37 rfl i_X9 (by decide) w_194 (fun l z h k => ?_) k
  refine R_getf (ci := 7) (f := 0) (C := RX8) (N := 2) (Tt := TX8) dX9_scanRun_40 rfl i_X8 (by decide) w_173 (fun l z h k => ?_) k
  refine R_iload_n dX9_scanRun_43 rfl (fun l z h k => ?_) k
  refine R_iaload dX9_scanRun_44 (fun l z h k => ?_) k
  exact R_cs1 (M := mX9_scanRun) (pc := 45) (bc := bc) (bs := bs) (cb := 0) (cs := 0) (M' := mX9_isDigit) dX9_scanRun_45 (by decide) w_575 w_132 w_573 w_574 (by decide +kernel) (fun _ _ _ k => k) k
theorem bX9_scanRun_48 {G : Gt} {d bc bs : Nat} {Q : QT} {l : Ls} {z : List Value} {h : Hp} (k : (tIf (fun x => x = 0) (fun l z h => T G d bc bs mX9_scanRun 112 l z h Q) (fun l z h => T G d bc bs mX9_scanRun 51 l z h Q)) l z h) : T G d bc bs mX9_scanRun 48 l z h Q := by
  exact R_if_eq dX9_scanRun_48 (by decide) (fun _ _ _ k => k) (fun _ _ _ k => k) k
theorem bX9_scanRun_51 {G : Gt} {d bc bs : Nat} {Q : QT} {l : Ls} {z : List Value} {h : Hp} (k : (tAld 0 (tGetf 8 0 (tGetf 7 0 (tIld 2 (tXald 0 (tIst 8 (tIld 8 (tCS1 G d 0 0 mX9_isLetter (fun l z h => T G d bc bs mX9_scanRun 67 l z h Q))))))))) l z h) : T G d bc bs mX9_scanRun 51 l z h Q := by
  refine R_aload_n dX9_scanRun_51 rfl (fun l z h k => ?_) k
  refine R_getf (ci := 8) (f := 0) (C := RX9) (N := 11) (Tt := TX9) dX9_scanRun_52 rfl i_X9 (by decide) w_194 (fun l z h k => ?_) k
  refine R_getf (ci := 7) (f := 0) (C := RX8) (N := 2) (Tt := TX8) dX9_scanRun_55 rfl i_X8 (by decide) w_173 (fun l z h k => ?_) k
  refine R_iload_n dX9_scanRun_58 rfl (fun l z h k => ?_) k
  refine R_iaload dX9_scanRun_59 (fun l z h k => ?_) k
  refine R_istore dX9_scanRun_60 (by decide) (fun l z h k => ?_) k
  refine R_iload dX9_scanRun_62 (fun l z h k => ?_) k
  exact R_cs1 (M := mX9_scanRun) (pc := 64) (bc := bc) (bs := bs) (cb := 0) (cs := 0) (M' := mX9_isLetter) dX9_scanRun_64 (by decide) w_572 w_132 w_570 w_571 (by decide +kernel) (fun _ _ _ k => k) k
theorem bX9_scanRun_67 {G : Gt} {d bc bs : Nat} {Q : QT} {l : Ls} {z : List Value} {h : Hp} (k : (tIf (fun x => x = 0) (fun l z h => T G d bc bs mX9_scanRun 91 l z h Q) (fun l z h => T G d bc bs mX9_scanRun 70 l z h Q)) l z h) : T G d bc bs mX9_scanRun 67 l z h Q := by
  exact R_if_eq dX9_scanRun_67 (by decide) (fun _ _ _ k => k) (fun _ _ _ k => k) k
theorem bX9_scanRun_70 {G : Gt} {d bc bs : Nat} {Q : QT} {l : Ls} {z : List Value} {h : Hp} (k : (tInc 3 1 (tLld 4 (tPush (.int 5) (tLS (fun x y => x <<< (y.toInt64 &&& 63)) (tIld 8 (tPush (.int 97) (tB (fun x y => x - y) (tPush (.int 1) (tB (fun x y => x + y) (tI2l (tLB (fun x y => x + y) (tLst 4 ((fun l z h => T G d bc bs mX9_scanRun 106 l z h Q)))))))))))))) l z h) : T G d bc bs mX9_scanRun 70 l z h Q := by
  refine R_iinc dX9_scanRun_70 (by decide) (by decide) (fun l z h k => ?_) k
  refine R_lload dX9_scanRun_73 (fun l z h k => ?_) k
  refine R_iconst dX9_scanRun_75 (by decide) (fun l z h k => ?_) k
  refine R_lshl dX9_scanRun_76 (fun l z h k => ?_) k
  refine R_iload dX9_scanRun_77 (fun l z h k => ?_) k
  refine R_bipush dX9_scanRun_79 (by decide) (fun l z h k => ?_) k
  refine R_isub dX9_scanRun_81 (fun l z h k => ?_) k
  refine R_iconst dX9_scanRun_82 (by decide) (fun l z h k => ?_) k
  refine R_iadd dX9_scanRun_83 (fun l z h k => ?_) k
  refine R_i2l dX9_scanRun_84 (fun l z h k => ?_) k
  refine R_ladd dX9_scanRun_85 (fun l z h k => ?_) k
  refine R_lstore dX9_scanRun_86 (by decide) (fun l z h k => ?_) k
  exact R_goto dX9_scanRun_88 (by decide) (fun _ _ _ k => k) k
theorem bX9_scanRun_91 {G : Gt} {d bc bs : Nat} {Q : QT} {l : Ls} {z : List Value} {h : Hp} (k : (tLld 6 (tPush (.long 10) (tLB (fun x y => x * y) (tIld 8 (tPush (.int 48) (tB (fun x y => x - y) (tI2l (tLB (fun x y => x + y) (tLst 6 ((fun l z h => T G d bc bs mX9_scanRun 106 l z h Q))))))))))) l z h) : T G d bc bs mX9_scanRun 91 l z h Q := by
  refine R_lload dX9_scanRun_91 (fun l z h k => ?_) k
  refine R_ldc2 dX9_scanRun_93 w_580 (fun l z h k => ?_) k
  refine R_lmul dX9_scanRun_96 (fun l z h k => ?_) k
  refine R_iload dX9_scanRun_97 (fun l z h k => ?_) k
  refine R_bipush dX9_scanRun_99 (by decide) (fun l z h k => ?_) k
  refine R_isub dX9_scanRun_101 (fun l z h k => ?_) k
  refine R_i2l dX9_scanRun_102 (fun l z h k => ?_) k
  refine R_ladd dX9_scanRun_103 (fun l z h k => ?_) k
  refine R_lstore dX9_scanRun_104 (by decide) (fun l z h k => ?_) k
  exact k
theorem bX9_scanRun_106 {G : Gt} {d bc bs : Nat} {Q : QT} {l : Ls} {z : List Value} {h : Hp} (k : (tInc 2 1 ((fun l z h => T G d bc bs mX9_scanRun 10 l z h Q))) l z h) : T G d bc bs mX9_scanRun 106 l z h Q := by
  refine R_iinc dX9_scanRun_106 (by decide) (by decide) (fun l z h k => ?_) k
  exact R_goto dX9_scanRun_109 (by decide) (fun _ _ _ k => k) k
theorem bX9_scanRun_112 {G : Gt} {d bc bs : Nat} {Q : QT} {l : Ls} {z : List Value} {h : Hp} (k : (tIld 2 (tIld 1 (tB (fun x y => x - y) (tIst 8 (tIld 3 (tIld 8 (tIf2 (fun x y => x = y) (fun l z h => T G d bc bs mX9_scanRun 123 l z h Q) (fun l z h => T G d bc bs mX9_scanRun 148 l z h Q)))))))) l z h) : T G d bc bs mX9_scanRun 112 l z h Q := by
  refine R_iload_n dX9_scanRun_112 rfl (fun l z h k => ?_) k
  refine R_iload_n dX9_scanRun_113 rfl (fun l z h k => ?_) k
  refine R_isub dX9_scanRun_114 (fun l z h k => ?_) k
  refine R_istore dX9_scanRun_115 (by decide) (fun l z h k => ?_) k
  refine R_iload_n dX9_scanRun_117 rfl (fun l z h k => ?_) k
  refine R_iload dX9_scanRun_118 (fun l z h k => ?_) k
  exact R_icmp_ne dX9_scanRun_120 (by decide) (fun _ _ _ k => k) (fun _ _ _ k => k) k
theorem bX9_scanRun_123 {G : Gt} {d bc bs : Nat} {Q : QT} {l : Ls} {z : List Value} {h : Hp} (k : (tIld 8 (tPush (.int 7) (tIf2 (fun x y => y < x) (fun l z h => T G d bc bs mX9_scanRun 148 l z h Q) (fun l z h => T G d bc bs mX9_scanRun 130 l z h Q)))) l z h) : T G d bc bs mX9_scanRun 123 l z h Q := by
  refine R_iload dX9_scanRun_123 (fun l z h k => ?_) k
  refine R_bipush dX9_scanRun_125 (by decide) (fun l z h k => ?_) k
  exact R_icmp_gt dX9_scanRun_127 (by decide) (fun _ _ _ k => k) (fun _ _ _ k => k) k
theorem bX9_scanRun_130 {G : Gt} {d bc bs : Nat} {Q : QT} {l : Ls} {z : List Value} {h : Hp} (k : (tAld 0 (tPush (.int 2) (tIld 1 (tLld 4 (tAld 0 (tIld 1 (tIld 8 (tCV2 G d 0 0 8 mX9_wordAt (fun l z h => T G d bc bs mX9_scanRun 142 l z h Q))))))))) l z h) : T G d bc bs mX9_scanRun 130 l z h Q := by
  refine R_aload_n dX9_scanRun_130 rfl (fun l z h k => ?_) k
  refine R_iconst dX9_scanRun_131 (by decide) (fun l z h k => ?_) k
  refine R_iload_n dX9_scanRun_132 rfl (fun l z h k => ?_) k
  refine R_lload dX9_scanRun_133 (fun l z h k => ?_) k
  refine R_aload_n dX9_scanRun_135 rfl (fun l z h k => ?_) k
  refine R_iload_n dX9_scanRun_136 rfl (fun l z h k => ?_) k
  refine R_iload dX9_scanRun_137 (fun l z h k => ?_) k
  exact R_cv2 (M := mX9_scanRun) (pc := 139) (bc := bc) (bs := bs) (cb := 0) (cs := 0) (M' := mX9_wordAt) dX9_scanRun_139 rfl (by decide) w_584 w_132 w_581 w_583 w_1 (by decide +kernel) (fun _ _ _ k => k) k
theorem bX9_scanRun_142 {G : Gt} {d bc bs : Nat} {Q : QT} {l : Ls} {z : List Value} {h : Hp} (k : (tCV4 G d 0 0 8 mX9_put (fun l z h => T G d bc bs mX9_scanRun 145 l z h Q)) l z h) : T G d bc bs mX9_scanRun 142 l z h Q := by
  exact R_cv4 (M := mX9_scanRun) (pc := 142) (bc := bc) (bs := bs) (cb := 0) (cs := 0) (M' := mX9_put) dX9_scanRun_142 rfl (by decide) w_642 w_132 w_639 w_641 w_3 (by decide +kernel) (fun _ _ _ k => k) k
theorem bX9_scanRun_145 {G : Gt} {d bc bs : Nat} {Q : QT} {l : Ls} {z : List Value} {h : Hp} (k : (fun l z h => T G d bc bs mX9_scanRun 182 l z h Q) l z h) : T G d bc bs mX9_scanRun 145 l z h Q := by
  exact R_goto dX9_scanRun_145 (by decide) (fun _ _ _ k => k) k
theorem bX9_scanRun_148 {G : Gt} {d bc bs : Nat} {Q : QT} {l : Ls} {z : List Value} {h : Hp} (k : (tIld 3 (tIf (fun x => x = 0) (fun l z h => T G d bc bs mX9_scanRun 152 l z h Q) (fun l z h => T G d bc bs mX9_scanRun 172 l z h Q))) l z h) : T G d bc bs mX9_scanRun 148 l z h Q := by
  refine R_iload_n dX9_scanRun_148 rfl (fun l z h k => ?_) k
  exact R_if_ne dX9_scanRun_149 (by decide) (fun _ _ _ k => k) (fun _ _ _ k => k) k
theorem bX9_scanRun_152 {G : Gt} {d bc bs : Nat} {Q : QT} {l : Ls} {z : List Value} {h : Hp} (k : (tIld 8 (tPush (.int 3) (tIf2 (fun x y => y < x) (fun l z h => T G d bc bs mX9_scanRun 172 l z h Q) (fun l z h => T G d bc bs mX9_scanRun 158 l z h Q)))) l z h) : T G d bc bs mX9_scanRun 152 l z h Q := by
  refine R_iload dX9_scanRun_152 (fun l z h k => ?_) k
  refine R_iconst dX9_scanRun_154 (by decide) (fun l z h k => ?_) k
  exact R_icmp_gt dX9_scanRun_155 (by decide) (fun _ _ _ k => k) (fun _ _ _ k => k) k
theorem bX9_scanRun_158 {G : Gt} {d bc bs : Nat} {Q : QT} {l : Ls} {z : List Value} {h : Hp} (k : (tAld 0 (tPush (.int 3) (tIld 1 (tLld 6 (tPush (.ref (adW G 0)) (tCV4 G d 0 0 8 mX9_put (fun l z h => T G d bc bs mX9_scanRun 169 l z h Q))))))) l z h) : T G d bc bs mX9_scanRun 158 l z h Q := by
  refine R_aload_n dX9_scanRun_158 rfl (fun l z h k => ?_) k
  refine R_iconst dX9_scanRun_159 (by decide) (fun l z h k => ?_) k
  refine R_iload_n dX9_scanRun_160 rfl (fun l z h k => ?_) k
  refine R_lload dX9_scanRun_161 (fun l z h k => ?_) k
  refine R_word (k := 0) dX9_scanRun_163 (by decide) rfl w_192 (fun l z h k => ?_) k
  exact R_cv4 (M := mX9_scanRun) (pc := 166) (bc := bc) (bs := bs) (cb := 0) (cs := 0) (M' := mX9_put) dX9_scanRun_166 rfl (by decide) w_642 w_132 w_639 w_641 w_3 (by decide +kernel) (fun _ _ _ k => k) k
theorem bX9_scanRun_169 {G : Gt} {d bc bs : Nat} {Q : QT} {l : Ls} {z : List Value} {h : Hp} (k : (fun l z h => T G d bc bs mX9_scanRun 182 l z h Q) l z h) : T G d bc bs mX9_scanRun 169 l z h Q := by
  exact R_goto dX9_scanRun_169 (by decide) (fun _ _ _ k => k) k
theorem bX9_scanRun_172 {G : Gt} {d bc bs : Nat} {Q : QT} {l : Ls} {z : List Value} {h : Hp} (k : (tAld 0 (tPush (.int 0) (tIld 1 (tPush (.long 0) (tPush (.ref (adW G 0)) (tCV4 G d 0 0 8 mX9_put (fun l z h => T G d bc bs mX9_scanRun 182 l z h Q))))))) l z h) : T G d bc bs mX9_scanRun 172 l z h Q := by
  refine R_aload_n dX9_scanRun_172 rfl (fun l z h k => ?_) k
  refine R_iconst dX9_scanRun_173 (by decide) (fun l z h k => ?_) k
  refine R_iload_n dX9_scanRun_174 rfl (fun l z h k => ?_) k
  refine R_lconst dX9_scanRun_175 (by decide) (fun l z h k => ?_) k
  refine R_word (k := 0) dX9_scanRun_176 (by decide) rfl w_192 (fun l z h k => ?_) k
  exact R_cv4 (M := mX9_scanRun) (pc := 179) (bc := bc) (bs := bs) (cb := 0) (cs := 0) (M' := mX9_put) dX9_scanRun_179 rfl (by decide) w_642 w_132 w_639 w_641 w_3 (by decide +kernel) (fun _ _ _ k => k) k
theorem bX9_scanRun_182 {G : Gt} {d bc bs : Nat} {Q : QT} {l : Ls} {z : List Value} {h : Hp} (k : (tIld 2 (tRetI Q)) l z h) : T G d bc bs mX9_scanRun 182 l z h Q := by
  refine R_iload_n dX9_scanRun_182 rfl (fun l z h k => ?_) k
  exact R_iret dX9_scanRun_183 rfl k
theorem dX9_wordAt_0 : decode cX9_wordAt 0 = .ok (.getstatic 96, 3) := by decide +kernel
theorem dX9_wordAt_3 : decode cX9_wordAt 3 = .ok (.astore_n 3, 1) := by decide +kernel
theorem dX9_wordAt_4 : decode cX9_wordAt 4 = .ok (.aload_n 3, 1) := by decide +kernel
theorem dX9_wordAt_5 : decode cX9_wordAt 5 = .ok (.arraylength, 1) := by decide +kernel
theorem dX9_wordAt_6 : decode cX9_wordAt 6 = .ok (.istore 4, 2) := by decide +kernel
theorem dX9_wordAt_8 : decode cX9_wordAt 8 = .ok (.iconst 0, 1) := by decide +kernel
theorem dX9_wordAt_9 : decode cX9_wordAt 9 = .ok (.istore 5, 2) := by decide +kernel
theorem dX9_wordAt_11 : decode cX9_wordAt 11 = .ok (.iload 5, 2) := by decide +kernel
theorem dX9_wordAt_13 : decode cX9_wordAt 13 = .ok (.iload 4, 2) := by decide +kernel
theorem dX9_wordAt_15 : decode cX9_wordAt 15 = .ok (.if_icmp .ge 43, 3) := by decide +kernel
theorem dX9_wordAt_18 : decode cX9_wordAt 18 = .ok (.aload_n 3, 1) := by decide +kernel
theorem dX9_wordAt_19 : decode cX9_wordAt 19 = .ok (.iload 5, 2) := by decide +kernel
theorem dX9_wordAt_21 : decode cX9_wordAt 21 = .ok (.aaload, 1) := by decide +kernel
theorem dX9_wordAt_22 : decode cX9_wordAt 22 = .ok (.astore 6, 2) := by decide +kernel
theorem dX9_wordAt_24 : decode cX9_wordAt 24 = .ok (.aload 6, 2) := by decide +kernel
theorem dX9_wordAt_26 : decode cX9_wordAt 26 = .ok (.getfield 99, 3) := by decide +kernel
theorem dX9_wordAt_29 : decode cX9_wordAt 29 = .ok (.invokevirtual 103, 3) := by decide +kernel
theorem dX9_wordAt_32 : decode cX9_wordAt 32 = .ok (.iload_n 2, 1) := by decide +kernel
theorem dX9_wordAt_33 : decode cX9_wordAt 33 = .ok (.if_icmp .ne 19, 3) := by decide +kernel
theorem dX9_wordAt_36 : decode cX9_wordAt 36 = .ok (.aload_n 0, 1) := by decide +kernel
theorem dX9_wordAt_37 : decode cX9_wordAt 37 = .ok (.iload_n 1, 1) := by decide +kernel
theorem dX9_wordAt_38 : decode cX9_wordAt 38 = .ok (.aload 6, 2) := by decide +kernel
theorem dX9_wordAt_40 : decode cX9_wordAt 40 = .ok (.getfield 99, 3) := by decide +kernel
theorem dX9_wordAt_43 : decode cX9_wordAt 43 = .ok (.invokevirtual 108, 3) := by decide +kernel
theorem dX9_wordAt_46 : decode cX9_wordAt 46 = .ok (.ifCond .eq 6, 3) := by decide +kernel
theorem dX9_wordAt_49 : decode cX9_wordAt 49 = .ok (.aload 6, 2) := by decide +kernel
theorem dX9_wordAt_51 : decode cX9_wordAt 51 = .ok (.areturn, 1) := by decide +kernel
theorem dX9_wordAt_52 : decode cX9_wordAt 52 = .ok (.iinc 5 1, 3) := by decide +kernel
theorem dX9_wordAt_55 : decode cX9_wordAt 55 = .ok (.goto (-44), 3) := by decide +kernel
theorem dX9_wordAt_58 : decode cX9_wordAt 58 = .ok (.getstatic 28, 3) := by decide +kernel
theorem dX9_wordAt_61 : decode cX9_wordAt 61 = .ok (.areturn, 1) := by decide +kernel
theorem bX9_wordAt_0 {G : Gt} {d bc bs : Nat} {Q : QT} {l : Ls} {z : List Value} {h : Hp} (k : (tPush (.ref (G.2.2.2 50)) (tAst 3 (tAld 3 (tTlen (fun a n => ∃ f, yWords G a n f) (tIst 4 (tPush (.int 0) (tIst 5 ((fun l z h => T G d bc bs mX9_wordAt 11 l z h Q))))))))) l z h) : T G d bc bs mX9_wordAt 0 l z h Q := by
  refine R_words dX9_wordAt_0 n_585 (fun l z h k => ?_) k
  refine R_astore_n dX9_wordAt_3 rfl (by decide) (fun l z h k => ?_) k
  refine R_aload_n dX9_wordAt_4 rfl (fun l z h k => ?_) k
  refine R_tlen yWords_ok dX9_wordAt_5 (fun l z h k => ?_) k
  refine R_istore dX9_wordAt_6 (by decide) (fun l z h k => ?_) k
  refine R_iconst dX9_wordAt_8 (by decide) (fun l z h k => ?_) k
  refine R_istore dX9_wordAt_9 (by decide) (fun l z h k => ?_) k
  exact k
theorem bX9_wordAt_11 {G : Gt} {d bc bs : Nat} {Q : QT} {l : Ls} {z : List Value} {h : Hp} (k : (tIld 5 (tIld 4 (tIf2 (fun x y => y ≤ x) (fun l z h => T G d bc bs mX9_wordAt 58 l z h Q) (fun l z h => T G d bc bs mX9_wordAt 18 l z h Q)))) l z h) : T G d bc bs mX9_wordAt 11 l z h Q := by
  refine R_iload dX9_wordAt_11 (fun l z h k => ?_) k
  refine R_iload dX9_wordAt_13 (fun l z h k => ?_) k
  exact R_icmp_ge dX9_wordAt_15 (by decide) (fun _ _ _ k => k) (fun _ _ _ k => k) k
theorem bX9_wordAt_18 {G : Gt} {d bc bs : Nat} {Q : QT} {l : Ls} {z : List Value} {h : Hp} (k : (tAld 3 (tIld 5 (tTald (yWords G) (tAst 6 (tAld 6 (tGx (xText G) (tCK G d 0 mJ0_length_8abf5 (fun l z h => T G d bc bs mX9_wordAt 32 l z h Q)))))))) l z h) : T G d bc bs mX9_wordAt 18 l z h Q := by
  refine R_aload_n dX9_wordAt_18 rfl (fun l z h k => ?_) k
  refine R_iload dX9_wordAt_19 (fun l z h k => ?_) k
  refine R_wald dX9_wordAt_21 (fun l z h k => ?_) k
  refine R_astore dX9_wordAt_22 (by decide) (fun l z h k => ?_) k
  refine R_aload dX9_wordAt_24 (fun l z h k => ?_) k
  refine R_gx dX9_wordAt_26 w_2170 xText_ok (fun l z h k => ?_) k
  exact R_callK (M' := mJ0_length_8abf5) dX9_wordAt_29 (by decide) w_590 w_145 w_587 w_588 w_589 (by decide +kernel) (fun _ _ _ k => k) k
theorem bX9_wordAt_32 {G : Gt} {d bc bs : Nat} {Q : QT} {l : Ls} {z : List Value} {h : Hp} (k : (tIld 2 (tIf2 (fun x y => x = y) (fun l z h => T G d bc bs mX9_wordAt 36 l z h Q) (fun l z h => T G d bc bs mX9_wordAt 52 l z h Q))) l z h) : T G d bc bs mX9_wordAt 32 l z h Q := by
  refine R_iload_n dX9_wordAt_32 rfl (fun l z h k => ?_) k
  exact R_icmp_ne dX9_wordAt_33 (by decide) (fun _ _ _ k => k) (fun _ _ _ k => k) k
theorem bX9_wordAt_36 {G : Gt} {d bc bs : Nat} {Q : QT} {l : Ls} {z : List Value} {h : Hp} (k : (tAld 0 (tIld 1 (tAld 6 (tGx (xText G) (tCV2 G d 0 0 8 mX9_isSpelledAt (fun l z h => T G d bc bs mX9_wordAt 46 l z h Q)))))) l z h) : T G d bc bs mX9_wordAt 36 l z h Q := by
  refine R_aload_n dX9_wordAt_36 rfl (fun l z h k => ?_) k
  refine R_iload_n dX9_wordAt_37 rfl (fun l z h k => ?_) k
  refine R_aload dX9_wordAt_38 (fun l z h k => ?_) k
  refine R_gx dX9_wordAt_40 w_2170 xText_ok (fun l z h k => ?_) k
  exact R_cv2 (M := mX9_wordAt) (pc := 43) (bc := bc) (bs := bs) (cb := 0) (cs := 0) (M' := mX9_isSpelledAt) dX9_wordAt_43 rfl (by decide) w_600 w_132 w_597 w_599 w_2 (by decide +kernel) (fun _ _ _ k => k) k
theorem bX9_wordAt_46 {G : Gt} {d bc bs : Nat} {Q : QT} {l : Ls} {z : List Value} {h : Hp} (k : (tIf (fun x => x = 0) (fun l z h => T G d bc bs mX9_wordAt 52 l z h Q) (fun l z h => T G d bc bs mX9_wordAt 49 l z h Q)) l z h) : T G d bc bs mX9_wordAt 46 l z h Q := by
  exact R_if_eq dX9_wordAt_46 (by decide) (fun _ _ _ k => k) (fun _ _ _ k => k) k
theorem bX9_wordAt_49 {G : Gt} {d bc bs : Nat} {Q : QT} {l : Ls} {z : List Value} {h : Hp} (k : (tAld 6 (tRetA Q)) l z h) : T G d bc bs mX9_wordAt 49 l z h Q := by
  refine R_aload dX9_wordAt_49 (fun l z h k => ?_) k
  exact R_aret dX9_wordAt_51 rfl (Or.inl ⟨_, rfl⟩) k
theorem bX9_wordAt_52 {G : Gt} {d bc bs : Nat} {Q : QT} {l : Ls} {z : List Value} {h : Hp} (k : (tInc 5 1 ((fun l z h => T G d bc bs mX9_wordAt 11 l z h Q))) l z h) : T G d bc bs mX9_wordAt 52 l z h Q := by
  refine R_iinc dX9_wordAt_52 (by decide) (by decide) (fun l z h k => ?_) k
  exact R_goto dX9_wordAt_55 (by decide) (fun _ _ _ k => k) k
theorem bX9_wordAt_58 {G : Gt} {d bc bs : Nat} {Q : QT} {l : Ls} {z : List Value} {h : Hp} (k : (tPush (.ref (adW G 0)) (tRetA Q)) l z h) : T G d bc bs mX9_wordAt 58 l z h Q := by
  refine R_word (k := 0) dX9_wordAt_58 (by decide) rfl w_192 (fun l z h k => ?_) k
  exact R_aret dX9_wordAt_61 rfl (Or.inl ⟨_, rfl⟩) k
theorem dX9_isSpelledAt_0 : decode cX9_isSpelledAt 0 = .ok (.iconst 0, 1) := by decide +kernel
theorem dX9_isSpelledAt_1 : decode cX9_isSpelledAt 1 = .ok (.istore_n 3, 1) := by decide +kernel
theorem dX9_isSpelledAt_2 : decode cX9_isSpelledAt 2 = .ok (.iload_n 3, 1) := by decide +kernel
theorem dX9_isSpelledAt_3 : decode cX9_isSpelledAt 3 = .ok (.aload_n 2, 1) := by decide +kernel
theorem dX9_isSpelledAt_4 : decode cX9_isSpelledAt 4 = .ok (.invokevirtual 103, 3) := by decide +kernel
theorem dX9_isSpelledAt_7 : decode cX9_isSpelledAt 7 = .ok (.if_icmp .ge 43, 3) := by decide +kernel
theorem dX9_isSpelledAt_10 : decode cX9_isSpelledAt 10 = .ok (.iload_n 1, 1) := by decide +kernel
theorem dX9_isSpelledAt_11 : decode cX9_isSpelledAt 11 = .ok (.iload_n 3, 1) := by decide +kernel
theorem dX9_isSpelledAt_12 : decode cX9_isSpelledAt 12 = .ok (.iadd, 1) := by decide +kernel
theorem dX9_isSpelledAt_13 : decode cX9_isSpelledAt 13 = .ok (.aload_n 0, 1) := by decide +kernel
theorem dX9_isSpelledAt_14 : decode cX9_isSpelledAt 14 = .ok (.getfield 35, 3) := by decide +kernel
theorem dX9_isSpelledAt_17 : decode cX9_isSpelledAt 17 = .ok (.getfield 49, 3) := by decide +kernel
theorem dX9_isSpelledAt_20 : decode cX9_isSpelledAt 20 = .ok (.if_icmp .ge 22, 3) := by decide +kernel
theorem dX9_isSpelledAt_23 : decode cX9_isSpelledAt 23 = .ok (.aload_n 0, 1) := by decide +kernel
theorem dX9_isSpelledAt_24 : decode cX9_isSpelledAt 24 = .ok (.getfield 35, 3) := by decide +kernel
theorem dX9_isSpelledAt_27 : decode cX9_isSpelledAt 27 = .ok (.getfield 54, 3) := by decide +kernel
theorem dX9_isSpelledAt_30 : decode cX9_isSpelledAt 30 = .ok (.iload_n 1, 1) := by decide +kernel
theorem dX9_isSpelledAt_31 : decode cX9_isSpelledAt 31 = .ok (.iload_n 3, 1) := by decide +kernel
theorem dX9_isSpelledAt_32 : decode cX9_isSpelledAt 32 = .ok (.iadd, 1) := by decide +kernel
theorem dX9_isSpelledAt_33 : decode cX9_isSpelledAt 33 = .ok (.iaload, 1) := by decide +kernel
theorem dX9_isSpelledAt_34 : decode cX9_isSpelledAt 34 = .ok (.aload_n 2, 1) := by decide +kernel
theorem dX9_isSpelledAt_35 : decode cX9_isSpelledAt 35 = .ok (.iload_n 3, 1) := by decide +kernel
theorem dX9_isSpelledAt_36 : decode cX9_isSpelledAt 36 = .ok (.invokevirtual 112, 3) := by decide +kernel
theorem dX9_isSpelledAt_39 : decode cX9_isSpelledAt 39 = .ok (.if_icmp .eq 5, 3) := by decide +kernel
theorem dX9_isSpelledAt_42 : decode cX9_isSpelledAt 42 = .ok (.iconst 0, 1) := by decide +kernel
theorem dX9_isSpelledAt_43 : decode cX9_isSpelledAt 43 = .ok (.ireturn, 1) := by decide +kernel
theorem dX9_isSpelledAt_44 : decode cX9_isSpelledAt 44 = .ok (.iinc 3 1, 3) := by decide +kernel
theorem dX9_isSpelledAt_47 : decode cX9_isSpelledAt 47 = .ok (.goto (-45), 3) := by decide +kernel
theorem dX9_isSpelledAt_50 : decode cX9_isSpelledAt 50 = .ok (.iconst 1, 1) := by decide +kernel
theorem dX9_isSpelledAt_51 : decode cX9_isSpelledAt 51 = .ok (.ireturn, 1) := by decide +kernel
theorem bX9_isSpelledAt_0 {G : Gt} {d bc bs : Nat} {Q : QT} {l : Ls} {z : List Value} {h : Hp} (k : (tPush (.int 0) (tIst 3 ((fun l z h => T G d bc bs mX9_isSpelledAt 2 l z h Q)))) l z h) : T G d bc bs mX9_isSpelledAt 0 l z h Q := by
  refine R_iconst dX9_isSpelledAt_0 (by decide) (fun l z h k => ?_) k
  refine R_istore_n dX9_isSpelledAt_1 rfl (by decide) (fun l z h k => ?_) k
  exact k
theorem bX9_isSpelledAt_2 {G : Gt} {d bc bs : Nat} {Q : QT} {l : Ls} {z : List Value} {h : Hp} (k : (tIld 3 (tAld 2 (tCK G d 0 mJ0_length_8abf5 (fun l z h => T G d bc bs mX9_isSpelledAt 7 l z h Q)))) l z h) : T G d bc bs mX9_isSpelledAt 2 l z h Q := by
  refine R_iload_n dX9_isSpelledAt_2 rfl (fun l z h k => ?_) k
  refine R_aload_n dX9_isSpelledAt_3 rfl (fun l z h k => ?_) k
  exact R_callK (M' := mJ0_length_8abf5) dX9_isSpelledAt_4 (by decide) w_590 w_145 w_587 w_588 w_589 (by decide +kernel) (fun _ _ _ k => k) k
theorem bX9_isSpelledAt_7 {G : Gt} {d bc bs : Nat} {Q : QT} {l : Ls} {z : List Value} {h : Hp} (k : (tIf2 (fun x y => y ≤ x) (fun l z h => T G d bc bs mX9_isSpelledAt 50 l z h Q) (fun l z h => T G d bc bs mX9_isSpelledAt 10 l z h Q)) l z h) : T G d bc bs mX9_isSpelledAt 7 l z h Q := by
  exact R_icmp_ge dX9_isSpelledAt_7 (by decide) (fun _ _ _ k => k) (fun _ _ _ k => k) k
theorem bX9_isSpelledAt_10 {G : Gt} {d bc bs : Nat} {Q : QT} {l : Ls} {z : List Value} {h : Hp} (k : (tIld 1 (tIld 3 (tB (fun x y => x + y) (tAld 0 (tGetf 8 0 (tGetf 7 1 (tIf2 (fun x y => y ≤ x) (fun l z h => T G d bc bs mX9_isSpelledAt 42 l z h Q) (fun l z h => T G d bc bs mX9_isSpelledAt 23 l z h Q)))))))) l z h) : T G d bc bs mX9_isSpelledAt 10 l z h Q := by
  refine R_iload_n dX9_isSpelledAt_10 rfl (fun l z h k => ?_) k
  refine R_iload_n dX9_isSpelledAt_11 rfl (fun l z h k => ?_) k
  refine R_iadd dX9_isSpelledAt_12 (fun l z h k => ?_) k
  refine R_aload_n dX9_isSpelledAt_13 rfl (fun l z h k => ?_) k
  refine R_getf (ci := 8) (f := 0) (C := RX9) (N := 11) (Tt := TX9) dX9_isSpelledAt_14 rfl i_X9 (by decide) w_194 (fun l z h k => ?_) k
  refine R_getf (ci := 7) (f := 1) (C := RX8) (N := 2) (Tt := TX8) dX9_isSpelledAt_17 rfl i_X8 (by decide) w_175 (fun l z h k => ?_) k
  exact R_icmp_ge dX9_isSpelledAt_20 (by decide) (fun _ _ _ k => k) (fun _ _ _ k => k) k
theorem bX9_isSpelledAt_23 {G : Gt} {d bc bs : Nat} {Q : QT} {l : Ls} {z : List Value} {h : Hp} (k : (tAld 0 (tGetf 8 0 (tGetf 7 0 (tIld 1 (tIld 3 (tB (fun x y => x + y) (tXald 0 (tAld 2 (tIld 3 (tCK G d 1 mJ0_charAt_5068e (fun l z h => T G d bc bs mX9_isSpelledAt 39 l z h Q))))))))))) l z h) : T G d bc bs mX9_isSpelledAt 23 l z h Q := by
  refine R_aload_n dX9_isSpelledAt_23 rfl (fun l z h k => ?_) k
  refine R_getf (ci := 8) (f := 0) (C := RX9) (N := 11) (Tt := TX9) dX9_isSpelledAt_24 rfl i_X9 (by decide) w_194 (fun l z h k => ?_) k
  refine R_getf (ci := 7) (f := 0) (C := RX8) (N := 2) (Tt := TX8) dX9_isSpelledAt_27 rfl i_X8 (by decide) w_173 (fun l z h k => ?_) k
  refine R_iload_n dX9_isSpelledAt_30 rfl (fun l z h k => ?_) k
  refine R_iload_n dX9_isSpelledAt_31 rfl (fun l z h k => ?_) k
  refine R_iadd dX9_isSpelledAt_32 (fun l z h k => ?_) k
  refine R_iaload dX9_isSpelledAt_33 (fun l z h k => ?_) k
  refine R_aload_n dX9_isSpelledAt_34 rfl (fun l z h k => ?_) k
  refine R_iload_n dX9_isSpelledAt_35 rfl (fun l z h k => ?_) k
  exact R_callK (M' := mJ0_charAt_5068e) dX9_isSpelledAt_36 (by decide) w_604 w_145 w_601 w_602 w_603 (by decide +kernel) (fun _ _ _ k => k) k
theorem bX9_isSpelledAt_39 {G : Gt} {d bc bs : Nat} {Q : QT} {l : Ls} {z : List Value} {h : Hp} (k : (tIf2 (fun x y => x = y) (fun l z h => T G d bc bs mX9_isSpelledAt 44 l z h Q) (fun l z h => T G d bc bs mX9_isSpelledAt 42 l z h Q)) l z h) : T G d bc bs mX9_isSpelledAt 39 l z h Q := by
  exact R_icmp_eq dX9_isSpelledAt_39 (by decide) (fun _ _ _ k => k) (fun _ _ _ k => k) k
theorem bX9_isSpelledAt_42 {G : Gt} {d bc bs : Nat} {Q : QT} {l : Ls} {z : List Value} {h : Hp} (k : (tPush (.int 0) (tRetZ Q)) l z h) : T G d bc bs mX9_isSpelledAt 42 l z h Q := by
  refine R_iconst dX9_isSpelledAt_42 (by decide) (fun l z h k => ?_) k
  exact R_zret dX9_isSpelledAt_43 rfl k
theorem bX9_isSpelledAt_44 {G : Gt} {d bc bs : Nat} {Q : QT} {l : Ls} {z : List Value} {h : Hp} (k : (tInc 3 1 ((fun l z h => T G d bc bs mX9_isSpelledAt 2 l z h Q))) l z h) : T G d bc bs mX9_isSpelledAt 44 l z h Q := by
  refine R_iinc dX9_isSpelledAt_44 (by decide) (by decide) (fun l z h k => ?_) k
  exact R_goto dX9_isSpelledAt_47 (by decide) (fun _ _ _ k => k) k
theorem bX9_isSpelledAt_50 {G : Gt} {d bc bs : Nat} {Q : QT} {l : Ls} {z : List Value} {h : Hp} (k : (tPush (.int 1) (tRetZ Q)) l z h) : T G d bc bs mX9_isSpelledAt 50 l z h Q := by
  refine R_iconst dX9_isSpelledAt_50 (by decide) (fun l z h k => ?_) k
  exact R_zret dX9_isSpelledAt_51 rfl k
theorem dX9_put_0 : decode cX9_put 0 = .ok (.aload_n 0, 1) := by decide +kernel
theorem dX9_put_1 : decode cX9_put 1 = .ok (.getfield 46, 3) := by decide +kernel
theorem dX9_put_4 : decode cX9_put 4 = .ok (.sipush 941, 3) := by decide +kernel
theorem dX9_put_7 : decode cX9_put 7 = .ok (.if_icmp .ge 54, 3) := by decide +kernel
theorem dX9_put_10 : decode cX9_put 10 = .ok (.aload_n 0, 1) := by decide +kernel
theorem dX9_put_11 : decode cX9_put 11 = .ok (.getfield 11, 3) := by decide +kernel
theorem dX9_put_14 : decode cX9_put 14 = .ok (.aload_n 0, 1) := by decide +kernel
theorem dX9_put_15 : decode cX9_put 15 = .ok (.getfield 46, 3) := by decide +kernel
theorem dX9_put_18 : decode cX9_put 18 = .ok (.iload_n 1, 1) := by decide +kernel
theorem dX9_put_19 : decode cX9_put 19 = .ok (.iastore, 1) := by decide +kernel
theorem dX9_put_20 : decode cX9_put 20 = .ok (.aload_n 0, 1) := by decide +kernel
theorem dX9_put_21 : decode cX9_put 21 = .ok (.getfield 15, 3) := by decide +kernel
theorem dX9_put_24 : decode cX9_put 24 = .ok (.aload_n 0, 1) := by decide +kernel
theorem dX9_put_25 : decode cX9_put 25 = .ok (.getfield 46, 3) := by decide +kernel
theorem dX9_put_28 : decode cX9_put 28 = .ok (.iload_n 2, 1) := by decide +kernel
theorem dX9_put_29 : decode cX9_put 29 = .ok (.iastore, 1) := by decide +kernel
theorem dX9_put_30 : decode cX9_put 30 = .ok (.aload_n 0, 1) := by decide +kernel
theorem dX9_put_31 : decode cX9_put 31 = .ok (.getfield 18, 3) := by decide +kernel
theorem dX9_put_34 : decode cX9_put 34 = .ok (.aload_n 0, 1) := by decide +kernel
theorem dX9_put_35 : decode cX9_put 35 = .ok (.getfield 46, 3) := by decide +kernel
theorem dX9_put_38 : decode cX9_put 38 = .ok (.lload_n 3, 1) := by decide +kernel
theorem dX9_put_39 : decode cX9_put 39 = .ok (.lastore, 1) := by decide +kernel
theorem dX9_put_40 : decode cX9_put 40 = .ok (.aload_n 0, 1) := by decide +kernel
theorem dX9_put_41 : decode cX9_put 41 = .ok (.getfield 24, 3) := by decide +kernel
theorem dX9_put_44 : decode cX9_put 44 = .ok (.aload_n 0, 1) := by decide +kernel
theorem dX9_put_45 : decode cX9_put 45 = .ok (.getfield 46, 3) := by decide +kernel
theorem dX9_put_48 : decode cX9_put 48 = .ok (.aload 5, 2) := by decide +kernel
theorem dX9_put_50 : decode cX9_put 50 = .ok (.aastore, 1) := by decide +kernel
theorem dX9_put_51 : decode cX9_put 51 = .ok (.aload_n 0, 1) := by decide +kernel
theorem dX9_put_52 : decode cX9_put 52 = .ok (.dup, 1) := by decide +kernel
theorem dX9_put_53 : decode cX9_put 53 = .ok (.getfield 46, 3) := by decide +kernel
theorem dX9_put_56 : decode cX9_put 56 = .ok (.iconst 1, 1) := by decide +kernel
theorem dX9_put_57 : decode cX9_put 57 = .ok (.iadd, 1) := by decide +kernel
theorem dX9_put_58 : decode cX9_put 58 = .ok (.putfield 46, 3) := by decide +kernel
theorem dX9_put_61 : decode cX9_put 61 = .ok (.return_, 1) := by decide +kernel
theorem bX9_put_0 {G : Gt} {d bc bs : Nat} {Q : QT} {l : Ls} {z : List Value} {h : Hp} (k : (tAld 0 (tGetf 8 5 (tPush (.int 941) (tIf2 (fun x y => y ≤ x) (fun l z h => T G d bc bs mX9_put 61 l z h Q) (fun l z h => T G d bc bs mX9_put 10 l z h Q))))) l z h) : T G d bc bs mX9_put 0 l z h Q := by
  refine R_aload_n dX9_put_0 rfl (fun l z h k => ?_) k
  refine R_getf (ci := 8) (f := 5) (C := RX9) (N := 11) (Tt := TX9) dX9_put_1 rfl i_X9 (by decide) w_199 (fun l z h k => ?_) k
  refine R_sipush dX9_put_4 (by decide) (fun l z h k => ?_) k
  exact R_icmp_ge dX9_put_7 (by decide) (fun _ _ _ k => k) (fun _ _ _ k => k) k
theorem bX9_put_10 {G : Gt} {d bc bs : Nat} {Q : QT} {l : Ls} {z : List Value} {h : Hp} (k : (tAld 0 (tGetf 8 1 (tAld 0 (tGetf 8 5 (tIld 1 (tXast 0 (tAld 0 (tGetf 8 2 (tAld 0 (tGetf 8 5 (tIld 2 (tXast 0 (tAld 0 (tGetf 8 3 (tAld 0 (tGetf 8 5 (tLld 3 (tJast (tAld 0 (tGetf 8 4 (tAld 0 (tGetf 8 5 (tAld 5 (tRast 0 (pWord G) (tAld 0 (tDup (tGetf 8 5 (tPush (.int 1) (tB (fun x y => x + y) (tPutf isI 8 5 ((fun l z h => T G d bc bs mX9_put 61 l z h Q)))))))))))))))))))))))))))))))) l z h) : T G d bc bs mX9_put 10 l z h Q := by
  refine R_aload_n dX9_put_10 rfl (fun l z h k => ?_) k
  refine R_getf (ci := 8) (f := 1) (C := RX9) (N := 11) (Tt := TX9) dX9_put_11 rfl i_X9 (by decide) w_195 (fun l z h k => ?_) k
  refine R_aload_n dX9_put_14 rfl (fun l z h k => ?_) k
  refine R_getf (ci := 8) (f := 5) (C := RX9) (N := 11) (Tt := TX9) dX9_put_15 rfl i_X9 (by decide) w_199 (fun l z h k => ?_) k
  refine R_iload_n dX9_put_18 rfl (fun l z h k => ?_) k
  refine R_iastore dX9_put_19 (fun l z h k => ?_) k
  refine R_aload_n dX9_put_20 rfl (fun l z h k => ?_) k
  refine R_getf (ci := 8) (f := 2) (C := RX9) (N := 11) (Tt := TX9) dX9_put_21 rfl i_X9 (by decide) w_196 (fun l z h k => ?_) k
  refine R_aload_n dX9_put_24 rfl (fun l z h k => ?_) k
  refine R_getf (ci := 8) (f := 5) (C := RX9) (N := 11) (Tt := TX9) dX9_put_25 rfl i_X9 (by decide) w_199 (fun l z h k => ?_) k
  refine R_iload_n dX9_put_28 rfl (fun l z h k => ?_) k
  refine R_iastore dX9_put_29 (fun l z h k => ?_) k
  refine R_aload_n dX9_put_30 rfl (fun l z h k => ?_) k
  refine R_getf (ci := 8) (f := 3) (C := RX9) (N := 11) (Tt := TX9) dX9_put_31 rfl i_X9 (by decide) w_197 (fun l z h k => ?_) k
  refine R_aload_n dX9_put_34 rfl (fun l z h k => ?_) k
  refine R_getf (ci := 8) (f := 5) (C := RX9) (N := 11) (Tt := TX9) dX9_put_35 rfl i_X9 (by decide) w_199 (fun l z h k => ?_) k
  refine R_lload_n dX9_put_38 rfl (fun l z h k => ?_) k
  refine R_lastore dX9_put_39 (fun l z h k => ?_) k
  refine R_aload_n dX9_put_40 rfl (fun l z h k => ?_) k
  refine R_getf (ci := 8) (f := 4) (C := RX9) (N := 11) (Tt := TX9) dX9_put_41 rfl i_X9 (by decide) w_198 (fun l z h k => ?_) k
  refine R_aload_n dX9_put_44 rfl (fun l z h k => ?_) k
  refine R_getf (ci := 8) (f := 5) (C := RX9) (N := 11) (Tt := TX9) dX9_put_45 rfl i_X9 (by decide) w_199 (fun l z h k => ?_) k
  refine R_aload dX9_put_48 (fun l z h k => ?_) k
  refine R_aastore (C := "BridgeToll$Word") dX9_put_50 (by decide) rfl pWord_ok (fun l z h k => ?_) k
  refine R_aload_n dX9_put_51 rfl (fun l z h k => ?_) k
  refine R_dup dX9_put_52 (fun l z h k => ?_) k
  refine R_getf (ci := 8) (f := 5) (C := RX9) (N := 11) (Tt := TX9) dX9_put_53 rfl i_X9 (by decide) w_199 (fun l z h k => ?_) k
  refine R_iconst dX9_put_56 (by decide) (fun l z h k => ?_) k
  refine R_iadd dX9_put_57 (fun l z h k => ?_) k
  refine R_putf (ci := 8) (f := 5) (C := RX9) (N := 11) (Tt := TX9) tyX9 tyX9_ok nmX9 dX9_put_58 rfl i_X9 (by decide) w_199 rfl (tyX9_ok 5 (by decide)) p_int (fun l z h k => ?_) k
  exact k
theorem bX9_put_61 {G : Gt} {d bc bs : Nat} {Q : QT} {l : Ls} {z : List Value} {h : Hp} (k : (tRetV Q) l z h) : T G d bc bs mX9_put 61 l z h Q := by
  exact R_vret dX9_put_61 rfl k
theorem dX9_step_0 : decode cX9_step 0 = .ok (.aload_n 0, 1) := by decide +kernel
theorem dX9_step_1 : decode cX9_step 1 = .ok (.getfield 39, 3) := by decide +kernel
theorem dX9_step_4 : decode cX9_step 4 = .ok (.ifCond .ne 52, 3) := by decide +kernel
theorem dX9_step_7 : decode cX9_step 7 = .ok (.aload_n 0, 1) := by decide +kernel
theorem dX9_step_8 : decode cX9_step 8 = .ok (.getfield 84, 3) := by decide +kernel
theorem dX9_step_11 : decode cX9_step 11 = .ok (.iconst 1, 1) := by decide +kernel
theorem dX9_step_12 : decode cX9_step 12 = .ok (.iadd, 1) := by decide +kernel
theorem dX9_step_13 : decode cX9_step 13 = .ok (.aload_n 0, 1) := by decide +kernel
theorem dX9_step_14 : decode cX9_step 14 = .ok (.getfield 46, 3) := by decide +kernel
theorem dX9_step_17 : decode cX9_step 17 = .ok (.if_icmp .ge 39, 3) := by decide +kernel
theorem dX9_step_20 : decode cX9_step 20 = .ok (.aload_n 0, 1) := by decide +kernel
theorem dX9_step_21 : decode cX9_step 21 = .ok (.dup, 1) := by decide +kernel
theorem dX9_step_22 : decode cX9_step 22 = .ok (.getfield 84, 3) := by decide +kernel
theorem dX9_step_25 : decode cX9_step 25 = .ok (.iconst 1, 1) := by decide +kernel
theorem dX9_step_26 : decode cX9_step 26 = .ok (.iadd, 1) := by decide +kernel
theorem dX9_step_27 : decode cX9_step 27 = .ok (.putfield 84, 3) := by decide +kernel
theorem dX9_step_30 : decode cX9_step 30 = .ok (.aload_n 0, 1) := by decide +kernel
theorem dX9_step_31 : decode cX9_step 31 = .ok (.aload_n 0, 1) := by decide +kernel
theorem dX9_step_32 : decode cX9_step 32 = .ok (.getfield 11, 3) := by decide +kernel
theorem dX9_step_35 : decode cX9_step 35 = .ok (.aload_n 0, 1) := by decide +kernel
theorem dX9_step_36 : decode cX9_step 36 = .ok (.getfield 84, 3) := by decide +kernel
theorem dX9_step_39 : decode cX9_step 39 = .ok (.iaload, 1) := by decide +kernel
theorem dX9_step_40 : decode cX9_step 40 = .ok (.putfield 116, 3) := by decide +kernel
theorem dX9_step_43 : decode cX9_step 43 = .ok (.aload_n 0, 1) := by decide +kernel
theorem dX9_step_44 : decode cX9_step 44 = .ok (.aload_n 0, 1) := by decide +kernel
theorem dX9_step_45 : decode cX9_step 45 = .ok (.getfield 24, 3) := by decide +kernel
theorem dX9_step_48 : decode cX9_step 48 = .ok (.aload_n 0, 1) := by decide +kernel
theorem dX9_step_49 : decode cX9_step 49 = .ok (.getfield 84, 3) := by decide +kernel
theorem dX9_step_52 : decode cX9_step 52 = .ok (.aaload, 1) := by decide +kernel
theorem dX9_step_53 : decode cX9_step 53 = .ok (.putfield 32, 3) := by decide +kernel
theorem dX9_step_56 : decode cX9_step 56 = .ok (.return_, 1) := by decide +kernel
theorem bX9_step_0 {G : Gt} {d bc bs : Nat} {Q : QT} {l : Ls} {z : List Value} {h : Hp} (k : (tAld 0 (tGetf 8 9 (tIf (fun x => x = 0) (fun l z h => T G d bc bs mX9_step 7 l z h Q) (fun l z h => T G d bc bs mX9_step 56 l z h Q)))) l z h) : T G d bc bs mX9_step 0 l z h Q := by
  refine R_aload_n dX9_step_0 rfl (fun l z h k => ?_) k
  refine R_getf (ci := 8) (f := 9) (C := RX9) (N := 11) (Tt := TX9) dX9_step_1 rfl i_X9 (by decide) w_208 (fun l z h k => ?_) k
  exact R_if_ne dX9_step_4 (by decide) (fun _ _ _ k => k) (fun _ _ _ k => k) k
theorem bX9_step_7 {G : Gt} {d bc bs : Nat} {Q : QT} {l : Ls} {z : List Value} {h : Hp} (k : (tAld 0 (tGetf 8 6 (tPush (.int 1) (tB (fun x y => x + y) (tAld 0 (tGetf 8 5 (tIf2 (fun x y => y ≤ x) (fun l z h => T G d bc bs mX9_step 56 l z h Q) (fun l z h => T G d bc bs mX9_step 20 l z h Q)))))))) l z h) : T G d bc bs mX9_step 7 l z h Q := by
  refine R_aload_n dX9_step_7 rfl (fun l z h k => ?_) k
  refine R_getf (ci := 8) (f := 6) (C := RX9) (N := 11) (Tt := TX9) dX9_step_8 rfl i_X9 (by decide) w_200 (fun l z h k => ?_) k
  refine R_iconst dX9_step_11 (by decide) (fun l z h k => ?_) k
  refine R_iadd dX9_step_12 (fun l z h k => ?_) k
  refine R_aload_n dX9_step_13 rfl (fun l z h k => ?_) k
  refine R_getf (ci := 8) (f := 5) (C := RX9) (N := 11) (Tt := TX9) dX9_step_14 rfl i_X9 (by decide) w_199 (fun l z h k => ?_) k
  exact R_icmp_ge dX9_step_17 (by decide) (fun _ _ _ k => k) (fun _ _ _ k => k) k
theorem bX9_step_20 {G : Gt} {d bc bs : Nat} {Q : QT} {l : Ls} {z : List Value} {h : Hp} (k : (tAld 0 (tDup (tGetf 8 6 (tPush (.int 1) (tB (fun x y => x + y) (tPutf isI 8 6 (tAld 0 (tAld 0 (tGetf 8 1 (tAld 0 (tGetf 8 6 (tXald 0 (tPutf isI 8 7 (tAld 0 (tAld 0 (tGetf 8 4 (tAld 0 (tGetf 8 6 (tTald (yWords G) (tPutf isA 8 8 ((fun l z h => T G d bc bs mX9_step 56 l z h Q)))))))))))))))))))))) l z h) : T G d bc bs mX9_step 20 l z h Q := by
  refine R_aload_n dX9_step_20 rfl (fun l z h k => ?_) k
  refine R_dup dX9_step_21 (fun l z h k => ?_) k
  refine R_getf (ci := 8) (f := 6) (C := RX9) (N := 11) (Tt := TX9) dX9_step_22 rfl i_X9 (by decide) w_200 (fun l z h k => ?_) k
  refine R_iconst dX9_step_25 (by decide) (fun l z h k => ?_) k
  refine R_iadd dX9_step_26 (fun l z h k => ?_) k
  refine R_putf (ci := 8) (f := 6) (C := RX9) (N := 11) (Tt := TX9) tyX9 tyX9_ok nmX9 dX9_step_27 rfl i_X9 (by decide) w_200 rfl (tyX9_ok 6 (by decide)) p_int (fun l z h k => ?_) k
  refine R_aload_n dX9_step_30 rfl (fun l z h k => ?_) k
  refine R_aload_n dX9_step_31 rfl (fun l z h k => ?_) k
  refine R_getf (ci := 8) (f := 1) (C := RX9) (N := 11) (Tt := TX9) dX9_step_32 rfl i_X9 (by decide) w_195 (fun l z h k => ?_) k
  refine R_aload_n dX9_step_35 rfl (fun l z h k => ?_) k
  refine R_getf (ci := 8) (f := 6) (C := RX9) (N := 11) (Tt := TX9) dX9_step_36 rfl i_X9 (by decide) w_200 (fun l z h k => ?_) k
  refine R_iaload dX9_step_39 (fun l z h k => ?_) k
  refine R_putf (ci := 8) (f := 7) (C := RX9) (N := 11) (Tt := TX9) tyX9 tyX9_ok nmX9 dX9_step_40 rfl i_X9 (by decide) w_204 rfl (tyX9_ok 7 (by decide)) p_int (fun l z h k => ?_) k
  refine R_aload_n dX9_step_43 rfl (fun l z h k => ?_) k
  refine R_aload_n dX9_step_44 rfl (fun l z h k => ?_) k
  refine R_getf (ci := 8) (f := 4) (C := RX9) (N := 11) (Tt := TX9) dX9_step_45 rfl i_X9 (by decide) w_198 (fun l z h k => ?_) k
  refine R_aload_n dX9_step_48 rfl (fun l z h k => ?_) k
  refine R_getf (ci := 8) (f := 6) (C := RX9) (N := 11) (Tt := TX9) dX9_step_49 rfl i_X9 (by decide) w_200 (fun l z h k => ?_) k
  refine R_wald dX9_step_52 (fun l z h k => ?_) k
  refine R_putf (ci := 8) (f := 8) (C := RX9) (N := 11) (Tt := TX9) tyX9 tyX9_ok nmX9 dX9_step_53 rfl i_X9 (by decide) w_205 rfl (tyX9_ok 8 (by decide)) (p_ref rfl) (fun l z h k => ?_) k
  exact k
theorem bX9_step_56 {G : Gt} {d bc bs : Nat} {Q : QT} {l : Ls} {z : List Value} {h : Hp} (k : (tRetV Q) l z h) : T G d bc bs mX9_step 56 l z h Q := by
  exact R_vret dX9_step_56 rfl k
theorem dX9_isSound_0 : decode cX9_isSound 0 = .ok (.aload_n 0, 1) := by decide +kernel
theorem dX9_isSound_1 : decode cX9_isSound 1 = .ok (.getfield 39, 3) := by decide +kernel
theorem dX9_isSound_4 : decode cX9_isSound 4 = .ok (.ifCond .ne 7, 3) := by decide +kernel
theorem dX9_isSound_7 : decode cX9_isSound 7 = .ok (.iconst 1, 1) := by decide +kernel
theorem dX9_isSound_8 : decode cX9_isSound 8 = .ok (.goto 4, 3) := by decide +kernel
theorem dX9_isSound_11 : decode cX9_isSound 11 = .ok (.iconst 0, 1) := by decide +kernel
theorem dX9_isSound_12 : decode cX9_isSound 12 = .ok (.ireturn, 1) := by decide +kernel
theorem bX9_isSound_0 {G : Gt} {d bc bs : Nat} {Q : QT} {l : Ls} {z : List Value} {h : Hp} (k : (tAld 0 (tGetf 8 9 (tIf (fun x => x = 0) (fun l z h => T G d bc bs mX9_isSound 7 l z h Q) (fun l z h => T G d bc bs mX9_isSound 11 l z h Q)))) l z h) : T G d bc bs mX9_isSound 0 l z h Q := by
  refine R_aload_n dX9_isSound_0 rfl (fun l z h k => ?_) k
  refine R_getf (ci := 8) (f := 9) (C := RX9) (N := 11) (Tt := TX9) dX9_isSound_1 rfl i_X9 (by decide) w_208 (fun l z h k => ?_) k
  exact R_if_ne dX9_isSound_4 (by decide) (fun _ _ _ k => k) (fun _ _ _ k => k) k
theorem bX9_isSound_7 {G : Gt} {d bc bs : Nat} {Q : QT} {l : Ls} {z : List Value} {h : Hp} (k : (tPush (.int 1) ((fun l z h => T G d bc bs mX9_isSound 12 l z h Q))) l z h) : T G d bc bs mX9_isSound 7 l z h Q := by
  refine R_iconst dX9_isSound_7 (by decide) (fun l z h k => ?_) k
  exact R_goto dX9_isSound_8 (by decide) (fun _ _ _ k => k) k
theorem bX9_isSound_11 {G : Gt} {d bc bs : Nat} {Q : QT} {l : Ls} {z : List Value} {h : Hp} (k : (tPush (.int 0) ((fun l z h => T G d bc bs mX9_isSound 12 l z h Q))) l z h) : T G d bc bs mX9_isSound 11 l z h Q := by
  refine R_iconst dX9_isSound_11 (by decide) (fun l z h k => ?_) k
  exact k
theorem bX9_isSound_12 {G : Gt} {d bc bs : Nat} {Q : QT} {l : Ls} {z : List Value} {h : Hp} (k : (tRetZ Q) l z h) : T G d bc bs mX9_isSound 12 l z h Q := by
  exact R_zret dX9_isSound_12 rfl k
theorem dX9_fail_0 : decode cX9_fail 0 = .ok (.aload_n 0, 1) := by decide +kernel
theorem dX9_fail_1 : decode cX9_fail 1 = .ok (.getfield 39, 3) := by decide +kernel
theorem dX9_fail_4 : decode cX9_fail 4 = .ok (.ifCond .ne 21, 3) := by decide +kernel
theorem dX9_fail_7 : decode cX9_fail 7 = .ok (.aload_n 0, 1) := by decide +kernel
theorem dX9_fail_8 : decode cX9_fail 8 = .ok (.iload_n 1, 1) := by decide +kernel
theorem dX9_fail_9 : decode cX9_fail 9 = .ok (.putfield 39, 3) := by decide +kernel
theorem dX9_fail_12 : decode cX9_fail 12 = .ok (.aload_n 0, 1) := by decide +kernel
theorem dX9_fail_13 : decode cX9_fail 13 = .ok (.aload_n 0, 1) := by decide +kernel
theorem dX9_fail_14 : decode cX9_fail 14 = .ok (.getfield 15, 3) := by decide +kernel
theorem dX9_fail_17 : decode cX9_fail 17 = .ok (.aload_n 0, 1) := by decide +kernel
theorem dX9_fail_18 : decode cX9_fail 18 = .ok (.getfield 84, 3) := by decide +kernel
theorem dX9_fail_21 : decode cX9_fail 21 = .ok (.iaload, 1) := by decide +kernel
theorem dX9_fail_22 : decode cX9_fail 22 = .ok (.putfield 43, 3) := by decide +kernel
theorem dX9_fail_25 : decode cX9_fail 25 = .ok (.return_, 1) := by decide +kernel
theorem bX9_fail_0 {G : Gt} {d bc bs : Nat} {Q : QT} {l : Ls} {z : List Value} {h : Hp} (k : (tAld 0 (tGetf 8 9 (tIf (fun x => x = 0) (fun l z h => T G d bc bs mX9_fail 7 l z h Q) (fun l z h => T G d bc bs mX9_fail 25 l z h Q)))) l z h) : T G d bc bs mX9_fail 0 l z h Q := by
  refine R_aload_n dX9_fail_0 rfl (fun l z h k => ?_) k
  refine R_getf (ci := 8) (f := 9) (C := RX9) (N := 11) (Tt := TX9) dX9_fail_1 rfl i_X9 (by decide) w_208 (fun l z h k => ?_) k
  exact R_if_ne dX9_fail_4 (by decide) (fun _ _ _ k => k) (fun _ _ _ k => k) k
theorem bX9_fail_7 {G : Gt} {d bc bs : Nat} {Q : QT} {l : Ls} {z : List Value} {h : Hp} (k : (tAld 0 (tIld 1 (tPutf isI 8 9 (tAld 0 (tAld 0 (tGetf 8 2 (tAld 0 (tGetf 8 6 (tXald 0 (tPutf isI 8 10 ((fun l z h => T G d bc bs mX9_fail 25 l z h Q)))))))))))) l z h) : T G d bc bs mX9_fail 7 l z h Q := by
  refine R_aload_n dX9_fail_7 rfl (fun l z h k => ?_) k
  refine R_iload_n dX9_fail_8 rfl (fun l z h k => ?_) k
  refine R_putf (ci := 8) (f := 9) (C := RX9) (N := 11) (Tt := TX9) tyX9 tyX9_ok nmX9 dX9_fail_9 rfl i_X9 (by decide) w_208 rfl (tyX9_ok 9 (by decide)) p_int (fun l z h k => ?_) k
  refine R_aload_n dX9_fail_12 rfl (fun l z h k => ?_) k
  refine R_aload_n dX9_fail_13 rfl (fun l z h k => ?_) k
  refine R_getf (ci := 8) (f := 2) (C := RX9) (N := 11) (Tt := TX9) dX9_fail_14 rfl i_X9 (by decide) w_196 (fun l z h k => ?_) k
  refine R_aload_n dX9_fail_17 rfl (fun l z h k => ?_) k
  refine R_getf (ci := 8) (f := 6) (C := RX9) (N := 11) (Tt := TX9) dX9_fail_18 rfl i_X9 (by decide) w_200 (fun l z h k => ?_) k
  refine R_iaload dX9_fail_21 (fun l z h k => ?_) k
  refine R_putf (ci := 8) (f := 10) (C := RX9) (N := 11) (Tt := TX9) tyX9 tyX9_ok nmX9 dX9_fail_22 rfl i_X9 (by decide) w_210 rfl (tyX9_ok 10 (by decide)) p_int (fun l z h k => ?_) k
  exact k
theorem bX9_fail_25 {G : Gt} {d bc bs : Nat} {Q : QT} {l : Ls} {z : List Value} {h : Hp} (k : (tRetV Q) l z h) : T G d bc bs mX9_fail 25 l z h Q := by
  exact R_vret dX9_fail_25 rfl k
theorem dX9_isBlank_0 : decode cX9_isBlank 0 = .ok (.iload_n 0, 1) := by decide +kernel
theorem dX9_isBlank_1 : decode cX9_isBlank 1 = .ok (.bipush 32, 2) := by decide +kernel
theorem dX9_isBlank_3 : decode cX9_isBlank 3 = .ok (.if_icmp .eq 9, 3) := by decide +kernel
theorem dX9_isBlank_6 : decode cX9_isBlank 6 = .ok (.iload_n 0, 1) := by decide +kernel
theorem dX9_isBlank_7 : decode cX9_isBlank 7 = .ok (.bipush 10, 2) := by decide +kernel
theorem dX9_isBlank_9 : decode cX9_isBlank 9 = .ok (.if_icmp .ne 7, 3) := by decide +kernel
theorem dX9_isBlank_12 : decode cX9_isBlank 12 = .ok (.iconst 1, 1) := by decide +kernel
theorem dX9_isBlank_13 : decode cX9_isBlank 13 = .ok (.goto 4, 3) := by decide +kernel
theorem dX9_isBlank_16 : decode cX9_isBlank 16 = .ok (.iconst 0, 1) := by decide +kernel
theorem dX9_isBlank_17 : decode cX9_isBlank 17 = .ok (.ireturn, 1) := by decide +kernel
theorem bX9_isBlank_0 {G : Gt} {d bc bs : Nat} {Q : QT} {l : Ls} {z : List Value} {h : Hp} (k : (tIld 0 (tPush (.int 32) (tIf2 (fun x y => x = y) (fun l z h => T G d bc bs mX9_isBlank 12 l z h Q) (fun l z h => T G d bc bs mX9_isBlank 6 l z h Q)))) l z h) : T G d bc bs mX9_isBlank 0 l z h Q := by
  refine R_iload_n dX9_isBlank_0 rfl (fun l z h k => ?_) k
  refine R_bipush dX9_isBlank_1 (by decide) (fun l z h k => ?_) k
  exact R_icmp_eq dX9_isBlank_3 (by decide) (fun _ _ _ k => k) (fun _ _ _ k => k) k
theorem bX9_isBlank_6 {G : Gt} {d bc bs : Nat} {Q : QT} {l : Ls} {z : List Value} {h : Hp} (k : (tIld 0 (tPush (.int 10) (tIf2 (fun x y => x = y) (fun l z h => T G d bc bs mX9_isBlank 12 l z h Q) (fun l z h => T G d bc bs mX9_isBlank 16 l z h Q)))) l z h) : T G d bc bs mX9_isBlank 6 l z h Q := by
  refine R_iload_n dX9_isBlank_6 rfl (fun l z h k => ?_) k
  refine R_bipush dX9_isBlank_7 (by decide) (fun l z h k => ?_) k
  exact R_icmp_ne dX9_isBlank_9 (by decide) (fun _ _ _ k => k) (fun _ _ _ k => k) k
theorem bX9_isBlank_12 {G : Gt} {d bc bs : Nat} {Q : QT} {l : Ls} {z : List Value} {h : Hp} (k : (tPush (.int 1) ((fun l z h => T G d bc bs mX9_isBlank 17 l z h Q))) l z h) : T G d bc bs mX9_isBlank 12 l z h Q := by
  refine R_iconst dX9_isBlank_12 (by decide) (fun l z h k => ?_) k
  exact R_goto dX9_isBlank_13 (by decide) (fun _ _ _ k => k) k
theorem bX9_isBlank_16 {G : Gt} {d bc bs : Nat} {Q : QT} {l : Ls} {z : List Value} {h : Hp} (k : (tPush (.int 0) ((fun l z h => T G d bc bs mX9_isBlank 17 l z h Q))) l z h) : T G d bc bs mX9_isBlank 16 l z h Q := by
  refine R_iconst dX9_isBlank_16 (by decide) (fun l z h k => ?_) k
  exact k
theorem bX9_isBlank_17 {G : Gt} {d bc bs : Nat} {Q : QT} {l : Ls} {z : List Value} {h : Hp} (k : (tRetZ Q) l z h) : T G d bc bs mX9_isBlank 17 l z h Q := by
  exact R_zret dX9_isBlank_17 rfl k
theorem dX9_isLetter_0 : decode cX9_isLetter 0 = .ok (.iload_n 0, 1) := by decide +kernel
theorem dX9_isLetter_1 : decode cX9_isLetter 1 = .ok (.bipush 97, 2) := by decide +kernel
theorem dX9_isLetter_3 : decode cX9_isLetter 3 = .ok (.if_icmp .lt 13, 3) := by decide +kernel
theorem dX9_isLetter_6 : decode cX9_isLetter 6 = .ok (.iload_n 0, 1) := by decide +kernel
theorem dX9_isLetter_7 : decode cX9_isLetter 7 = .ok (.bipush 122, 2) := by decide +kernel
theorem dX9_isLetter_9 : decode cX9_isLetter 9 = .ok (.if_icmp .gt 7, 3) := by decide +kernel
theorem dX9_isLetter_12 : decode cX9_isLetter 12 = .ok (.iconst 1, 1) := by decide +kernel
theorem dX9_isLetter_13 : decode cX9_isLetter 13 = .ok (.goto 4, 3) := by decide +kernel
theorem dX9_isLetter_16 : decode cX9_isLetter 16 = .ok (.iconst 0, 1) := by decide +kernel
theorem dX9_isLetter_17 : decode cX9_isLetter 17 = .ok (.ireturn, 1) := by decide +kernel
theorem bX9_isLetter_0 {G : Gt} {d bc bs : Nat} {Q : QT} {l : Ls} {z : List Value} {h : Hp} (k : (tIld 0 (tPush (.int 97) (tIf2 (fun x y => x < y) (fun l z h => T G d bc bs mX9_isLetter 16 l z h Q) (fun l z h => T G d bc bs mX9_isLetter 6 l z h Q)))) l z h) : T G d bc bs mX9_isLetter 0 l z h Q := by
  refine R_iload_n dX9_isLetter_0 rfl (fun l z h k => ?_) k
  refine R_bipush dX9_isLetter_1 (by decide) (fun l z h k => ?_) k
  exact R_icmp_lt dX9_isLetter_3 (by decide) (fun _ _ _ k => k) (fun _ _ _ k => k) k
theorem bX9_isLetter_6 {G : Gt} {d bc bs : Nat} {Q : QT} {l : Ls} {z : List Value} {h : Hp} (k : (tIld 0 (tPush (.int 122) (tIf2 (fun x y => y < x) (fun l z h => T G d bc bs mX9_isLetter 16 l z h Q) (fun l z h => T G d bc bs mX9_isLetter 12 l z h Q)))) l z h) : T G d bc bs mX9_isLetter 6 l z h Q := by
  refine R_iload_n dX9_isLetter_6 rfl (fun l z h k => ?_) k
  refine R_bipush dX9_isLetter_7 (by decide) (fun l z h k => ?_) k
  exact R_icmp_gt dX9_isLetter_9 (by decide) (fun _ _ _ k => k) (fun _ _ _ k => k) k
theorem bX9_isLetter_12 {G : Gt} {d bc bs : Nat} {Q : QT} {l : Ls} {z : List Value} {h : Hp} (k : (tPush (.int 1) ((fun l z h => T G d bc bs mX9_isLetter 17 l z h Q))) l z h) : T G d bc bs mX9_isLetter 12 l z h Q := by
  refine R_iconst dX9_isLetter_12 (by decide) (fun l z h k => ?_) k
  exact R_goto dX9_isLetter_13 (by decide) (fun _ _ _ k => k) k
theorem bX9_isLetter_16 {G : Gt} {d bc bs : Nat} {Q : QT} {l : Ls} {z : List Value} {h : Hp} (k : (tPush (.int 0) ((fun l z h => T G d bc bs mX9_isLetter 17 l z h Q))) l z h) : T G d bc bs mX9_isLetter 16 l z h Q := by
  refine R_iconst dX9_isLetter_16 (by decide) (fun l z h k => ?_) k
  exact k
theorem bX9_isLetter_17 {G : Gt} {d bc bs : Nat} {Q : QT} {l : Ls} {z : List Value} {h : Hp} (k : (tRetZ Q) l z h) : T G d bc bs mX9_isLetter 17 l z h Q := by
  exact R_zret dX9_isLetter_17 rfl k
theorem dX9_isDigit_0 : decode cX9_isDigit 0 = .ok (.iload_n 0, 1) := by decide +kernel
theorem dX9_isDigit_1 : decode cX9_isDigit 1 = .ok (.bipush 48, 2) := by decide +kernel
theorem dX9_isDigit_3 : decode cX9_isDigit 3 = .ok (.if_icmp .lt 13, 3) := by decide +kernel
theorem dX9_isDigit_6 : decode cX9_isDigit 6 = .ok (.iload_n 0, 1) := by decide +kernel
theorem dX9_isDigit_7 : decode cX9_isDigit 7 = .ok (.bipush 57, 2) := by decide +kernel
theorem dX9_isDigit_9 : decode cX9_isDigit 9 = .ok (.if_icmp .gt 7, 3) := by decide +kernel
theorem dX9_isDigit_12 : decode cX9_isDigit 12 = .ok (.iconst 1, 1) := by decide +kernel
theorem dX9_isDigit_13 : decode cX9_isDigit 13 = .ok (.goto 4, 3) := by decide +kernel
theorem dX9_isDigit_16 : decode cX9_isDigit 16 = .ok (.iconst 0, 1) := by decide +kernel
theorem dX9_isDigit_17 : decode cX9_isDigit 17 = .ok (.ireturn, 1) := by decide +kernel
theorem bX9_isDigit_0 {G : Gt} {d bc bs : Nat} {Q : QT} {l : Ls} {z : List Value} {h : Hp} (k : (tIld 0 (tPush (.int 48) (tIf2 (fun x y => x < y) (fun l z h => T G d bc bs mX9_isDigit 16 l z h Q) (fun l z h => T G d bc bs mX9_isDigit 6 l z h Q)))) l z h) : T G d bc bs mX9_isDigit 0 l z h Q := by
  refine R_iload_n dX9_isDigit_0 rfl (fun l z h k => ?_) k
  refine R_bipush dX9_isDigit_1 (by decide) (fun l z h k => ?_) k
  exact R_icmp_lt dX9_isDigit_3 (by decide) (fun _ _ _ k => k) (fun _ _ _ k => k) k
theorem bX9_isDigit_6 {G : Gt} {d bc bs : Nat} {Q : QT} {l : Ls} {z : List Value} {h : Hp} (k : (tIld 0 (tPush (.int 57) (tIf2 (fun x y => y < x) (fun l z h => T G d bc bs mX9_isDigit 16 l z h Q) (fun l z h => T G d bc bs mX9_isDigit 12 l z h Q)))) l z h) : T G d bc bs mX9_isDigit 6 l z h Q := by
  refine R_iload_n dX9_isDigit_6 rfl (fun l z h k => ?_) k
  refine R_bipush dX9_isDigit_7 (by decide) (fun l z h k => ?_) k
  exact R_icmp_gt dX9_isDigit_9 (by decide) (fun _ _ _ k => k) (fun _ _ _ k => k) k
theorem bX9_isDigit_12 {G : Gt} {d bc bs : Nat} {Q : QT} {l : Ls} {z : List Value} {h : Hp} (k : (tPush (.int 1) ((fun l z h => T G d bc bs mX9_isDigit 17 l z h Q))) l z h) : T G d bc bs mX9_isDigit 12 l z h Q := by
  refine R_iconst dX9_isDigit_12 (by decide) (fun l z h k => ?_) k
  exact R_goto dX9_isDigit_13 (by decide) (fun _ _ _ k => k) k
theorem bX9_isDigit_16 {G : Gt} {d bc bs : Nat} {Q : QT} {l : Ls} {z : List Value} {h : Hp} (k : (tPush (.int 0) ((fun l z h => T G d bc bs mX9_isDigit 17 l z h Q))) l z h) : T G d bc bs mX9_isDigit 16 l z h Q := by
  refine R_iconst dX9_isDigit_16 (by decide) (fun l z h k => ?_) k
  exact k
theorem bX9_isDigit_17 {G : Gt} {d bc bs : Nat} {Q : QT} {l : Ls} {z : List Value} {h : Hp} (k : (tRetZ Q) l z h) : T G d bc bs mX9_isDigit 17 l z h Q := by
  exact R_zret dX9_isDigit_17 rfl k
theorem dX9_isSign_0 : decode cX9_isSign 0 = .ok (.iload_n 0, 1) := by decide +kernel
theorem dX9_isSign_1 : decode cX9_isSign 1 = .ok (.bipush 59, 2) := by decide +kernel
theorem dX9_isSign_3 : decode cX9_isSign 3 = .ok (.if_icmp .eq 33, 3) := by decide +kernel
theorem dX9_isSign_6 : decode cX9_isSign 6 = .ok (.iload_n 0, 1) := by decide +kernel
theorem dX9_isSign_7 : decode cX9_isSign 7 = .ok (.bipush 60, 2) := by decide +kernel
theorem dX9_isSign_9 : decode cX9_isSign 9 = .ok (.if_icmp .eq 27, 3) := by decide +kernel
theorem dX9_isSign_12 : decode cX9_isSign 12 = .ok (.iload_n 0, 1) := by decide +kernel
theorem dX9_isSign_13 : decode cX9_isSign 13 = .ok (.bipush 61, 2) := by decide +kernel
theorem dX9_isSign_15 : decode cX9_isSign 15 = .ok (.if_icmp .eq 21, 3) := by decide +kernel
theorem dX9_isSign_18 : decode cX9_isSign 18 = .ok (.iload_n 0, 1) := by decide +kernel
theorem dX9_isSign_19 : decode cX9_isSign 19 = .ok (.bipush 62, 2) := by decide +kernel
theorem dX9_isSign_21 : decode cX9_isSign 21 = .ok (.if_icmp .eq 15, 3) := by decide +kernel
theorem dX9_isSign_24 : decode cX9_isSign 24 = .ok (.iload_n 0, 1) := by decide +kernel
theorem dX9_isSign_25 : decode cX9_isSign 25 = .ok (.bipush 40, 2) := by decide +kernel
theorem dX9_isSign_27 : decode cX9_isSign 27 = .ok (.if_icmp .eq 9, 3) := by decide +kernel
theorem dX9_isSign_30 : decode cX9_isSign 30 = .ok (.iload_n 0, 1) := by decide +kernel
theorem dX9_isSign_31 : decode cX9_isSign 31 = .ok (.bipush 41, 2) := by decide +kernel
theorem dX9_isSign_33 : decode cX9_isSign 33 = .ok (.if_icmp .ne 7, 3) := by decide +kernel
theorem dX9_isSign_36 : decode cX9_isSign 36 = .ok (.iconst 1, 1) := by decide +kernel
theorem dX9_isSign_37 : decode cX9_isSign 37 = .ok (.goto 4, 3) := by decide +kernel
theorem dX9_isSign_40 : decode cX9_isSign 40 = .ok (.iconst 0, 1) := by decide +kernel
theorem dX9_isSign_41 : decode cX9_isSign 41 = .ok (.ireturn, 1) := by decide +kernel
theorem bX9_isSign_0 {G : Gt} {d bc bs : Nat} {Q : QT} {l : Ls} {z : List Value} {h : Hp} (k : (tIld 0 (tPush (.int 59) (tIf2 (fun x y => x = y) (fun l z h => T G d bc bs mX9_isSign 36 l z h Q) (fun l z h => T G d bc bs mX9_isSign 6 l z h Q)))) l z h) : T G d bc bs mX9_isSign 0 l z h Q := by
  refine R_iload_n dX9_isSign_0 rfl (fun l z h k => ?_) k
  refine R_bipush dX9_isSign_1 (by decide) (fun l z h k => ?_) k
  exact R_icmp_eq dX9_isSign_3 (by decide) (fun _ _ _ k => k) (fun _ _ _ k => k) k
theorem bX9_isSign_6 {G : Gt} {d bc bs : Nat} {Q : QT} {l : Ls} {z : List Value} {h : Hp} (k : (tIld 0 (tPush (.int 60) (tIf2 (fun x y => x = y) (fun l z h => T G d bc bs mX9_isSign 36 l z h Q) (fun l z h => T G d bc bs mX9_isSign 12 l z h Q)))) l z h) : T G d bc bs mX9_isSign 6 l z h Q := by
  refine R_iload_n dX9_isSign_6 rfl (fun l z h k => ?_) k
  refine R_bipush dX9_isSign_7 (by decide) (fun l z h k => ?_) k
  exact R_icmp_eq dX9_isSign_9 (by decide) (fun _ _ _ k => k) (fun _ _ _ k => k) k
theorem bX9_isSign_12 {G : Gt} {d bc bs : Nat} {Q : QT} {l : Ls} {z : List Value} {h : Hp} (k : (tIld 0 (tPush (.int 61) (tIf2 (fun x y => x = y) (fun l z h => T G d bc bs mX9_isSign 36 l z h Q) (fun l z h => T G d bc bs mX9_isSign 18 l z h Q)))) l z h) : T G d bc bs mX9_isSign 12 l z h Q := by
  refine R_iload_n dX9_isSign_12 rfl (fun l z h k => ?_) k
  refine R_bipush dX9_isSign_13 (by decide) (fun l z h k => ?_) k
  exact R_icmp_eq dX9_isSign_15 (by decide) (fun _ _ _ k => k) (fun _ _ _ k => k) k
theorem bX9_isSign_18 {G : Gt} {d bc bs : Nat} {Q : QT} {l : Ls} {z : List Value} {h : Hp} (k : (tIld 0 (tPush (.int 62) (tIf2 (fun x y => x = y) (fun l z h => T G d bc bs mX9_isSign 36 l z h Q) (fun l z h => T G d bc bs mX9_isSign 24 l z h Q)))) l z h) : T G d bc bs mX9_isSign 18 l z h Q := by
  refine R_iload_n dX9_isSign_18 rfl (fun l z h k => ?_) k
  refine R_bipush dX9_isSign_19 (by decide) (fun l z h k => ?_) k
  exact R_icmp_eq dX9_isSign_21 (by decide) (fun _ _ _ k => k) (fun _ _ _ k => k) k
theorem bX9_isSign_24 {G : Gt} {d bc bs : Nat} {Q : QT} {l : Ls} {z : List Value} {h : Hp} (k : (tIld 0 (tPush (.int 40) (tIf2 (fun x y => x = y) (fun l z h => T G d bc bs mX9_isSign 36 l z h Q) (fun l z h => T G d bc bs mX9_isSign 30 l z h Q)))) l z h) : T G d bc bs mX9_isSign 24 l z h Q := by
  refine R_iload_n dX9_isSign_24 rfl (fun l z h k => ?_) k
  refine R_bipush dX9_isSign_25 (by decide) (fun l z h k => ?_) k
  exact R_icmp_eq dX9_isSign_27 (by decide) (fun _ _ _ k => k) (fun _ _ _ k => k) k
theorem bX9_isSign_30 {G : Gt} {d bc bs : Nat} {Q : QT} {l : Ls} {z : List Value} {h : Hp} (k : (tIld 0 (tPush (.int 41) (tIf2 (fun x y => x = y) (fun l z h => T G d bc bs mX9_isSign 36 l z h Q) (fun l z h => T G d bc bs mX9_isSign 40 l z h Q)))) l z h) : T G d bc bs mX9_isSign 30 l z h Q := by
  refine R_iload_n dX9_isSign_30 rfl (fun l z h k => ?_) k
  refine R_bipush dX9_isSign_31 (by decide) (fun l z h k => ?_) k
  exact R_icmp_ne dX9_isSign_33 (by decide) (fun _ _ _ k => k) (fun _ _ _ k => k) k
theorem bX9_isSign_36 {G : Gt} {d bc bs : Nat} {Q : QT} {l : Ls} {z : List Value} {h : Hp} (k : (tPush (.int 1) ((fun l z h => T G d bc bs mX9_isSign 41 l z h Q))) l z h) : T G d bc bs mX9_isSign 36 l z h Q := by
  refine R_iconst dX9_isSign_36 (by decide) (fun l z h k => ?_) k
  exact R_goto dX9_isSign_37 (by decide) (fun _ _ _ k => k) k
theorem bX9_isSign_40 {G : Gt} {d bc bs : Nat} {Q : QT} {l : Ls} {z : List Value} {h : Hp} (k : (tPush (.int 0) ((fun l z h => T G d bc bs mX9_isSign 41 l z h Q))) l z h) : T G d bc bs mX9_isSign 40 l z h Q := by
  refine R_iconst dX9_isSign_40 (by decide) (fun l z h k => ?_) k
  exact k
theorem bX9_isSign_41 {G : Gt} {d bc bs : Nat} {Q : QT} {l : Ls} {z : List Value} {h : Hp} (k : (tRetZ Q) l z h) : T G d bc bs mX9_isSign 41 l z h Q := by
  exact R_zret dX9_isSign_41 rfl k
theorem dX9_isAt_0 : decode cX9_isAt 0 = .ok (.aload_n 0, 1) := by decide +kernel
theorem dX9_isAt_1 : decode cX9_isAt 1 = .ok (.getfield 39, 3) := by decide +kernel
theorem dX9_isAt_4 : decode cX9_isAt 4 = .ok (.ifCond .ne 23, 3) := by decide +kernel
theorem dX9_isAt_7 : decode cX9_isAt 7 = .ok (.aload_n 0, 1) := by decide +kernel
theorem dX9_isAt_8 : decode cX9_isAt 8 = .ok (.getfield 116, 3) := by decide +kernel
theorem dX9_isAt_11 : decode cX9_isAt 11 = .ok (.iconst 2, 1) := by decide +kernel
theorem dX9_isAt_12 : decode cX9_isAt 12 = .ok (.if_icmp .ne 15, 3) := by decide +kernel
theorem dX9_isAt_15 : decode cX9_isAt 15 = .ok (.aload_n 0, 1) := by decide +kernel
theorem dX9_isAt_16 : decode cX9_isAt 16 = .ok (.getfield 32, 3) := by decide +kernel
theorem dX9_isAt_19 : decode cX9_isAt 19 = .ok (.aload_n 1, 1) := by decide +kernel
theorem dX9_isAt_20 : decode cX9_isAt 20 = .ok (.if_acmp .ne 7, 3) := by decide +kernel
theorem dX9_isAt_23 : decode cX9_isAt 23 = .ok (.iconst 1, 1) := by decide +kernel
theorem dX9_isAt_24 : decode cX9_isAt 24 = .ok (.goto 4, 3) := by decide +kernel
theorem dX9_isAt_27 : decode cX9_isAt 27 = .ok (.iconst 0, 1) := by decide +kernel
theorem dX9_isAt_28 : decode cX9_isAt 28 = .ok (.ireturn, 1) := by decide +kernel
theorem bX9_isAt_0 {G : Gt} {d bc bs : Nat} {Q : QT} {l : Ls} {z : List Value} {h : Hp} (k : (tAld 0 (tGetf 8 9 (tIf (fun x => x = 0) (fun l z h => T G d bc bs mX9_isAt 7 l z h Q) (fun l z h => T G d bc bs mX9_isAt 27 l z h Q)))) l z h) : T G d bc bs mX9_isAt 0 l z h Q := by
  refine R_aload_n dX9_isAt_0 rfl (fun l z h k => ?_) k
  refine R_getf (ci := 8) (f := 9) (C := RX9) (N := 11) (Tt := TX9) dX9_isAt_1 rfl i_X9 (by decide) w_208 (fun l z h k => ?_) k
  exact R_if_ne dX9_isAt_4 (by decide) (fun _ _ _ k => k) (fun _ _ _ k => k) k
theorem bX9_isAt_7 {G : Gt} {d bc bs : Nat} {Q : QT} {l : Ls} {z : List Value} {h : Hp} (k : (tAld 0 (tGetf 8 7 (tPush (.int 2) (tIf2 (fun x y => x = y) (fun l z h => T G d bc bs mX9_isAt 15 l z h Q) (fun l z h => T G d bc bs mX9_isAt 27 l z h Q))))) l z h) : T G d bc bs mX9_isAt 7 l z h Q := by
  refine R_aload_n dX9_isAt_7 rfl (fun l z h k => ?_) k
  refine R_getf (ci := 8) (f := 7) (C := RX9) (N := 11) (Tt := TX9) dX9_isAt_8 rfl i_X9 (by decide) w_204 (fun l z h k => ?_) k
  refine R_iconst dX9_isAt_11 (by decide) (fun l z h k => ?_) k
  exact R_icmp_ne dX9_isAt_12 (by decide) (fun _ _ _ k => k) (fun _ _ _ k => k) k
theorem bX9_isAt_15 {G : Gt} {d bc bs : Nat} {Q : QT} {l : Ls} {z : List Value} {h : Hp} (k : (tAld 0 (tGetf 8 8 (tAld 1 (tAcm (fun l z h => T G d bc bs mX9_isAt 23 l z h Q) (fun l z h => T G d bc bs mX9_isAt 27 l z h Q))))) l z h) : T G d bc bs mX9_isAt 15 l z h Q := by
  refine R_aload_n dX9_isAt_15 rfl (fun l z h k => ?_) k
  refine R_getf (ci := 8) (f := 8) (C := RX9) (N := 11) (Tt := TX9) dX9_isAt_16 rfl i_X9 (by decide) w_205 (fun l z h k => ?_) k
  refine R_aload_n dX9_isAt_19 rfl (fun l z h k => ?_) k
  exact R_acmp_ne dX9_isAt_20 (by decide) (fun _ _ _ k => k) (fun _ _ _ k => k) k
theorem bX9_isAt_23 {G : Gt} {d bc bs : Nat} {Q : QT} {l : Ls} {z : List Value} {h : Hp} (k : (tPush (.int 1) ((fun l z h => T G d bc bs mX9_isAt 28 l z h Q))) l z h) : T G d bc bs mX9_isAt 23 l z h Q := by
  refine R_iconst dX9_isAt_23 (by decide) (fun l z h k => ?_) k
  exact R_goto dX9_isAt_24 (by decide) (fun _ _ _ k => k) k
theorem bX9_isAt_27 {G : Gt} {d bc bs : Nat} {Q : QT} {l : Ls} {z : List Value} {h : Hp} (k : (tPush (.int 0) ((fun l z h => T G d bc bs mX9_isAt 28 l z h Q))) l z h) : T G d bc bs mX9_isAt 27 l z h Q := by
  refine R_iconst dX9_isAt_27 (by decide) (fun l z h k => ?_) k
  exact k
theorem bX9_isAt_28 {G : Gt} {d bc bs : Nat} {Q : QT} {l : Ls} {z : List Value} {h : Hp} (k : (tRetZ Q) l z h) : T G d bc bs mX9_isAt 28 l z h Q := by
  exact R_zret dX9_isAt_28 rfl k
theorem dX9_isAtSign_0 : decode cX9_isAtSign 0 = .ok (.aload_n 0, 1) := by decide +kernel
theorem dX9_isAtSign_1 : decode cX9_isAtSign 1 = .ok (.getfield 39, 3) := by decide +kernel
theorem dX9_isAtSign_4 : decode cX9_isAtSign 4 = .ok (.ifCond .ne 30, 3) := by decide +kernel
theorem dX9_isAtSign_7 : decode cX9_isAtSign 7 = .ok (.aload_n 0, 1) := by decide +kernel
theorem dX9_isAtSign_8 : decode cX9_isAtSign 8 = .ok (.getfield 116, 3) := by decide +kernel
theorem dX9_isAtSign_11 : decode cX9_isAtSign 11 = .ok (.iconst 4, 1) := by decide +kernel
theorem dX9_isAtSign_12 : decode cX9_isAtSign 12 = .ok (.if_icmp .ne 22, 3) := by decide +kernel
theorem dX9_isAtSign_15 : decode cX9_isAtSign 15 = .ok (.aload_n 0, 1) := by decide +kernel
theorem dX9_isAtSign_16 : decode cX9_isAtSign 16 = .ok (.getfield 18, 3) := by decide +kernel
theorem dX9_isAtSign_19 : decode cX9_isAtSign 19 = .ok (.aload_n 0, 1) := by decide +kernel
theorem dX9_isAtSign_20 : decode cX9_isAtSign 20 = .ok (.getfield 84, 3) := by decide +kernel
theorem dX9_isAtSign_23 : decode cX9_isAtSign 23 = .ok (.laload, 1) := by decide +kernel
theorem dX9_isAtSign_24 : decode cX9_isAtSign 24 = .ok (.iload_n 1, 1) := by decide +kernel
theorem dX9_isAtSign_25 : decode cX9_isAtSign 25 = .ok (.i2l, 1) := by decide +kernel
theorem dX9_isAtSign_26 : decode cX9_isAtSign 26 = .ok (.lcmp, 1) := by decide +kernel
theorem dX9_isAtSign_27 : decode cX9_isAtSign 27 = .ok (.ifCond .ne 7, 3) := by decide +kernel
theorem dX9_isAtSign_30 : decode cX9_isAtSign 30 = .ok (.iconst 1, 1) := by decide +kernel
theorem dX9_isAtSign_31 : decode cX9_isAtSign 31 = .ok (.goto 4, 3) := by decide +kernel
theorem dX9_isAtSign_34 : decode cX9_isAtSign 34 = .ok (.iconst 0, 1) := by decide +kernel
theorem dX9_isAtSign_35 : decode cX9_isAtSign 35 = .ok (.ireturn, 1) := by decide +kernel
theorem bX9_isAtSign_0 {G : Gt} {d bc bs : Nat} {Q : QT} {l : Ls} {z : List Value} {h : Hp} (k : (tAld 0 (tGetf 8 9 (tIf (fun x => x = 0) (fun l z h => T G d bc bs mX9_isAtSign 7 l z h Q) (fun l z h => T G d bc bs mX9_isAtSign 34 l z h Q)))) l z h) : T G d bc bs mX9_isAtSign 0 l z h Q := by
  refine R_aload_n dX9_isAtSign_0 rfl (fun l z h k => ?_) k
  refine R_getf (ci := 8) (f := 9) (C := RX9) (N := 11) (Tt := TX9) dX9_isAtSign_1 rfl i_X9 (by decide) w_208 (fun l z h k => ?_) k
  exact R_if_ne dX9_isAtSign_4 (by decide) (fun _ _ _ k => k) (fun _ _ _ k => k) k
theorem bX9_isAtSign_7 {G : Gt} {d bc bs : Nat} {Q : QT} {l : Ls} {z : List Value} {h : Hp} (k : (tAld 0 (tGetf 8 7 (tPush (.int 4) (tIf2 (fun x y => x = y) (fun l z h => T G d bc bs mX9_isAtSign 15 l z h Q) (fun l z h => T G d bc bs mX9_isAtSign 34 l z h Q))))) l z h) : T G d bc bs mX9_isAtSign 7 l z h Q := by
  refine R_aload_n dX9_isAtSign_7 rfl (fun l z h k => ?_) k
  refine R_getf (ci := 8) (f := 7) (C := RX9) (N := 11) (Tt := TX9) dX9_isAtSign_8 rfl i_X9 (by decide) w_204 (fun l z h k => ?_) k
  refine R_iconst dX9_isAtSign_11 (by decide) (fun l z h k => ?_) k
  exact R_icmp_ne dX9_isAtSign_12 (by decide) (fun _ _ _ k => k) (fun _ _ _ k => k) k
theorem bX9_isAtSign_15 {G : Gt} {d bc bs : Nat} {Q : QT} {l : Ls} {z : List Value} {h : Hp} (k : (tAld 0 (tGetf 8 3 (tAld 0 (tGetf 8 6 (tJald (tIld 1 (tI2l (tLcmp (tIf (fun x => x = 0) (fun l z h => T G d bc bs mX9_isAtSign 30 l z h Q) (fun l z h => T G d bc bs mX9_isAtSign 34 l z h Q)))))))))) l z h) : T G d bc bs mX9_isAtSign 15 l z h Q := by
  refine R_aload_n dX9_isAtSign_15 rfl (fun l z h k => ?_) k
  refine R_getf (ci := 8) (f := 3) (C := RX9) (N := 11) (Tt := TX9) dX9_isAtSign_16 rfl i_X9 (by decide) w_197 (fun l z h k => ?_) k
  refine R_aload_n dX9_isAtSign_19 rfl (fun l z h k => ?_) k
  refine R_getf (ci := 8) (f := 6) (C := RX9) (N := 11) (Tt := TX9) dX9_isAtSign_20 rfl i_X9 (by decide) w_200 (fun l z h k => ?_) k
  refine R_laload dX9_isAtSign_23 (fun l z h k => ?_) k
  refine R_iload_n dX9_isAtSign_24 rfl (fun l z h k => ?_) k
  refine R_i2l dX9_isAtSign_25 (fun l z h k => ?_) k
  refine R_lcmp dX9_isAtSign_26 (fun l z h k => ?_) k
  exact R_if_ne dX9_isAtSign_27 (by decide) (fun _ _ _ k => k) (fun _ _ _ k => k) k
theorem bX9_isAtSign_30 {G : Gt} {d bc bs : Nat} {Q : QT} {l : Ls} {z : List Value} {h : Hp} (k : (tPush (.int 1) ((fun l z h => T G d bc bs mX9_isAtSign 35 l z h Q))) l z h) : T G d bc bs mX9_isAtSign 30 l z h Q := by
  refine R_iconst dX9_isAtSign_30 (by decide) (fun l z h k => ?_) k
  exact R_goto dX9_isAtSign_31 (by decide) (fun _ _ _ k => k) k
theorem bX9_isAtSign_34 {G : Gt} {d bc bs : Nat} {Q : QT} {l : Ls} {z : List Value} {h : Hp} (k : (tPush (.int 0) ((fun l z h => T G d bc bs mX9_isAtSign 35 l z h Q))) l z h) : T G d bc bs mX9_isAtSign 34 l z h Q := by
  refine R_iconst dX9_isAtSign_34 (by decide) (fun l z h k => ?_) k
  exact k
theorem bX9_isAtSign_35 {G : Gt} {d bc bs : Nat} {Q : QT} {l : Ls} {z : List Value} {h : Hp} (k : (tRetZ Q) l z h) : T G d bc bs mX9_isAtSign 35 l z h Q := by
  exact R_zret dX9_isAtSign_35 rfl k
theorem dX9_takeSign_0 : decode cX9_takeSign 0 = .ok (.aload_n 0, 1) := by decide +kernel
theorem dX9_takeSign_1 : decode cX9_takeSign 1 = .ok (.iload_n 1, 1) := by decide +kernel
theorem dX9_takeSign_2 : decode cX9_takeSign 2 = .ok (.invokevirtual 119, 3) := by decide +kernel
theorem dX9_takeSign_5 : decode cX9_takeSign 5 = .ok (.ifCond .eq 10, 3) := by decide +kernel
theorem dX9_takeSign_8 : decode cX9_takeSign 8 = .ok (.aload_n 0, 1) := by decide +kernel
theorem dX9_takeSign_9 : decode cX9_takeSign 9 = .ok (.invokevirtual 87, 3) := by decide +kernel
theorem dX9_takeSign_12 : decode cX9_takeSign 12 = .ok (.goto 8, 3) := by decide +kernel
theorem dX9_takeSign_15 : decode cX9_takeSign 15 = .ok (.aload_n 0, 1) := by decide +kernel
theorem dX9_takeSign_16 : decode cX9_takeSign 16 = .ok (.iconst 1, 1) := by decide +kernel
theorem dX9_takeSign_17 : decode cX9_takeSign 17 = .ok (.invokevirtual 122, 3) := by decide +kernel
theorem dX9_takeSign_20 : decode cX9_takeSign 20 = .ok (.return_, 1) := by decide +kernel
theorem bX9_takeSign_0 {G : Gt} {d bc bs : Nat} {Q : QT} {l : Ls} {z : List Value} {h : Hp} (k : (tAld 0 (tIld 1 (tCV1 G d 0 0 8 mX9_isAtSign (fun l z h => T G d bc bs mX9_takeSign 5 l z h Q)))) l z h) : T G d bc bs mX9_takeSign 0 l z h Q := by
  refine R_aload_n dX9_takeSign_0 rfl (fun l z h k => ?_) k
  refine R_iload_n dX9_takeSign_1 rfl (fun l z h k => ?_) k
  exact R_cv1 (M := mX9_takeSign) (pc := 2) (bc := bc) (bs := bs) (cb := 0) (cs := 0) (M' := mX9_isAtSign) dX9_takeSign_2 rfl (by decide) w_779 w_132 w_776 w_777 w_778 (by decide +kernel) (fun _ _ _ k => k) k
theorem bX9_takeSign_5 {G : Gt} {d bc bs : Nat} {Q : QT} {l : Ls} {z : List Value} {h : Hp} (k : (tIf (fun x => x = 0) (fun l z h => T G d bc bs mX9_takeSign 15 l z h Q) (fun l z h => T G d bc bs mX9_takeSign 8 l z h Q)) l z h) : T G d bc bs mX9_takeSign 5 l z h Q := by
  exact R_if_eq dX9_takeSign_5 (by decide) (fun _ _ _ k => k) (fun _ _ _ k => k) k
theorem bX9_takeSign_8 {G : Gt} {d bc bs : Nat} {Q : QT} {l : Ls} {z : List Value} {h : Hp} (k : (tAld 0 (tCV0 G d 0 0 8 mX9_step (fun l z h => T G d bc bs mX9_takeSign 12 l z h Q))) l z h) : T G d bc bs mX9_takeSign 8 l z h Q := by
  refine R_aload_n dX9_takeSign_8 rfl (fun l z h k => ?_) k
  exact R_cv0 (M := mX9_takeSign) (pc := 9) (bc := bc) (bs := bs) (cb := 0) (cs := 0) (M' := mX9_step) dX9_takeSign_9 rfl (by decide) w_652 w_132 w_649 w_650 w_651 (by decide +kernel) (fun _ _ _ k => k) k
theorem bX9_takeSign_12 {G : Gt} {d bc bs : Nat} {Q : QT} {l : Ls} {z : List Value} {h : Hp} (k : (fun l z h => T G d bc bs mX9_takeSign 20 l z h Q) l z h) : T G d bc bs mX9_takeSign 12 l z h Q := by
  exact R_goto dX9_takeSign_12 (by decide) (fun _ _ _ k => k) k
theorem bX9_takeSign_15 {G : Gt} {d bc bs : Nat} {Q : QT} {l : Ls} {z : List Value} {h : Hp} (k : (tAld 0 (tPush (.int 1) (tCV1 G d 0 0 8 mX9_fail (fun l z h => T G d bc bs mX9_takeSign 20 l z h Q)))) l z h) : T G d bc bs mX9_takeSign 15 l z h Q := by
  refine R_aload_n dX9_takeSign_15 rfl (fun l z h k => ?_) k
  refine R_iconst dX9_takeSign_16 (by decide) (fun l z h k => ?_) k
  exact R_cv1 (M := mX9_takeSign) (pc := 17) (bc := bc) (bs := bs) (cb := 0) (cs := 0) (M' := mX9_fail) dX9_takeSign_17 rfl (by decide) w_674 w_132 w_681 w_672 w_673 (by decide +kernel) (fun _ _ _ k => k) k
theorem bX9_takeSign_20 {G : Gt} {d bc bs : Nat} {Q : QT} {l : Ls} {z : List Value} {h : Hp} (k : (tRetV Q) l z h) : T G d bc bs mX9_takeSign 20 l z h Q := by
  exact R_vret dX9_takeSign_20 rfl k
theorem dX9_takeComparison_0 : decode cX9_takeComparison 0 = .ok (.aload_n 0, 1) := by decide +kernel
theorem dX9_takeComparison_1 : decode cX9_takeComparison 1 = .ok (.getfield 18, 3) := by decide +kernel
theorem dX9_takeComparison_4 : decode cX9_takeComparison 4 = .ok (.aload_n 0, 1) := by decide +kernel
theorem dX9_takeComparison_5 : decode cX9_takeComparison 5 = .ok (.getfield 84, 3) := by decide +kernel
theorem dX9_takeComparison_8 : decode cX9_takeComparison 8 = .ok (.laload, 1) := by decide +kernel
theorem dX9_takeComparison_9 : decode cX9_takeComparison 9 = .ok (.l2i, 1) := by decide +kernel
theorem dX9_takeComparison_10 : decode cX9_takeComparison 10 = .ok (.istore_n 1, 1) := by decide +kernel
theorem dX9_takeComparison_11 : decode cX9_takeComparison 11 = .ok (.aload_n 0, 1) := by decide +kernel
theorem dX9_takeComparison_12 : decode cX9_takeComparison 12 = .ok (.bipush 60, 2) := by decide +kernel
theorem dX9_takeComparison_14 : decode cX9_takeComparison 14 = .ok (.invokevirtual 119, 3) := by decide +kernel
theorem dX9_takeComparison_17 : decode cX9_takeComparison 17 = .ok (.ifCond .ne 21, 3) := by decide +kernel
theorem dX9_takeComparison_20 : decode cX9_takeComparison 20 = .ok (.aload_n 0, 1) := by decide +kernel
theorem dX9_takeComparison_21 : decode cX9_takeComparison 21 = .ok (.bipush 61, 2) := by decide +kernel
theorem dX9_takeComparison_23 : decode cX9_takeComparison 23 = .ok (.invokevirtual 119, 3) := by decide +kernel
theorem dX9_takeComparison_26 : decode cX9_takeComparison 26 = .ok (.ifCond .ne 12, 3) := by decide +kernel
theorem dX9_takeComparison_29 : decode cX9_takeComparison 29 = .ok (.aload_n 0, 1) := by decide +kernel
theorem dX9_takeComparison_30 : decode cX9_takeComparison 30 = .ok (.bipush 62, 2) := by decide +kernel
theorem dX9_takeComparison_32 : decode cX9_takeComparison 32 = .ok (.invokevirtual 119, 3) := by decide +kernel
theorem dX9_takeComparison_35 : decode cX9_takeComparison 35 = .ok (.ifCond .eq 10, 3) := by decide +kernel
theorem dX9_takeComparison_38 : decode cX9_takeComparison 38 = .ok (.aload_n 0, 1) := by decide +kernel
theorem dX9_takeComparison_39 : decode cX9_takeComparison 39 = .ok (.invokevirtual 87, 3) := by decide +kernel
theorem dX9_takeComparison_42 : decode cX9_takeComparison 42 = .ok (.goto 8, 3) := by decide +kernel
theorem dX9_takeComparison_45 : decode cX9_takeComparison 45 = .ok (.aload_n 0, 1) := by decide +kernel
theorem dX9_takeComparison_46 : decode cX9_takeComparison 46 = .ok (.iconst 1, 1) := by decide +kernel
theorem dX9_takeComparison_47 : decode cX9_takeComparison 47 = .ok (.invokevirtual 122, 3) := by decide +kernel
theorem dX9_takeComparison_50 : decode cX9_takeComparison 50 = .ok (.iload_n 1, 1) := by decide +kernel
theorem dX9_takeComparison_51 : decode cX9_takeComparison 51 = .ok (.ireturn, 1) := by decide +kernel
theorem bX9_takeComparison_0 {G : Gt} {d bc bs : Nat} {Q : QT} {l : Ls} {z : List Value} {h : Hp} (k : (tAld 0 (tGetf 8 3 (tAld 0 (tGetf 8 6 (tJald (tL2i (tIst 1 (tAld 0 (tPush (.int 60) (tCV1 G d 0 0 8 mX9_isAtSign (fun l z h => T G d bc bs mX9_takeComparison 17 l z h Q))))))))))) l z h) : T G d bc bs mX9_takeComparison 0 l z h Q := by
  refine R_aload_n dX9_takeComparison_0 rfl (fun l z h k => ?_) k
  refine R_getf (ci := 8) (f := 3) (C := RX9) (N := 11) (Tt := TX9) dX9_takeComparison_1 rfl i_X9 (by decide) w_197 (fun l z h k => ?_) k
  refine R_aload_n dX9_takeComparison_4 rfl (fun l z h k => ?_) k
  refine R_getf (ci := 8) (f := 6) (C := RX9) (N := 11) (Tt := TX9) dX9_takeComparison_5 rfl i_X9 (by decide) w_200 (fun l z h k => ?_) k
  refine R_laload dX9_takeComparison_8 (fun l z h k => ?_) k
  refine R_l2i dX9_takeComparison_9 (fun l z h k => ?_) k
  refine R_istore_n dX9_takeComparison_10 rfl (by decide) (fun l z h k => ?_) k
  refine R_aload_n dX9_takeComparison_11 rfl (fun l z h k => ?_) k
  refine R_bipush dX9_takeComparison_12 (by decide) (fun l z h k => ?_) k
  exact R_cv1 (M := mX9_takeComparison) (pc := 14) (bc := bc) (bs := bs) (cb := 0) (cs := 0) (M' := mX9_isAtSign) dX9_takeComparison_14 rfl (by decide) w_779 w_132 w_776 w_777 w_778 (by decide +kernel) (fun _ _ _ k => k) k
theorem bX9_takeComparison_17 {G : Gt} {d bc bs : Nat} {Q : QT} {l : Ls} {z : List Value} {h : Hp} (k : (tIf (fun x => x = 0) (fun l z h => T G d bc bs mX9_takeComparison 20 l z h Q) (fun l z h => T G d bc bs mX9_takeComparison 38 l z h Q)) l z h) : T G d bc bs mX9_takeComparison 17 l z h Q := by
  exact R_if_ne dX9_takeComparison_17 (by decide) (fun _ _ _ k => k) (fun _ _ _ k => k) k
theorem bX9_takeComparison_20 {G : Gt} {d bc bs : Nat} {Q : QT} {l : Ls} {z : List Value} {h : Hp} (k : (tAld 0 (tPush (.int 61) (tCV1 G d 0 0 8 mX9_isAtSign (fun l z h => T G d bc bs mX9_takeComparison 26 l z h Q)))) l z h) : T G d bc bs mX9_takeComparison 20 l z h Q := by
  refine R_aload_n dX9_takeComparison_20 rfl (fun l z h k => ?_) k
  refine R_bipush dX9_takeComparison_21 (by decide) (fun l z h k => ?_) k
  exact R_cv1 (M := mX9_takeComparison) (pc := 23) (bc := bc) (bs := bs) (cb := 0) (cs := 0) (M' := mX9_isAtSign) dX9_takeComparison_23 rfl (by decide) w_779 w_132 w_776 w_777 w_778 (by decide +kernel) (fun _ _ _ k => k) k
theorem bX9_takeComparison_26 {G : Gt} {d bc bs : Nat} {Q : QT} {l : Ls} {z : List Value} {h : Hp} (k : (tIf (fun x => x = 0) (fun l z h => T G d bc bs mX9_takeComparison 29 l z h Q) (fun l z h => T G d bc bs mX9_takeComparison 38 l z h Q)) l z h) : T G d bc bs mX9_takeComparison 26 l z h Q := by
  exact R_if_ne dX9_takeComparison_26 (by decide) (fun _ _ _ k => k) (fun _ _ _ k => k) k
theorem bX9_takeComparison_29 {G : Gt} {d bc bs : Nat} {Q : QT} {l : Ls} {z : List Value} {h : Hp} (k : (tAld 0 (tPush (.int 62) (tCV1 G d 0 0 8 mX9_isAtSign (fun l z h => T G d bc bs mX9_takeComparison 35 l z h Q)))) l z h) : T G d bc bs mX9_takeComparison 29 l z h Q := by
  refine R_aload_n dX9_takeComparison_29 rfl (fun l z h k => ?_) k
  refine R_bipush dX9_takeComparison_30 (by decide) (fun l z h k => ?_) k
  exact R_cv1 (M := mX9_takeComparison) (pc := 32) (bc := bc) (bs := bs) (cb := 0) (cs := 0) (M' := mX9_isAtSign) dX9_takeComparison_32 rfl (by decide) w_779 w_132 w_776 w_777 w_778 (by decide +kernel) (fun _ _ _ k => k) k
theorem bX9_takeComparison_35 {G : Gt} {d bc bs : Nat} {Q : QT} {l : Ls} {z : List Value} {h : Hp} (k : (tIf (fun x => x = 0) (fun l z h => T G d bc bs mX9_takeComparison 45 l z h Q) (fun l z h => T G d bc bs mX9_takeComparison 38 l z h Q)) l z h) : T G d bc bs mX9_takeComparison 35 l z h Q := by
  exact R_if_eq dX9_takeComparison_35 (by decide) (fun _ _ _ k => k) (fun _ _ _ k => k) k
theorem bX9_takeComparison_38 {G : Gt} {d bc bs : Nat} {Q : QT} {l : Ls} {z : List Value} {h : Hp} (k : (tAld 0 (tCV0 G d 0 0 8 mX9_step (fun l z h => T G d bc bs mX9_takeComparison 42 l z h Q))) l z h) : T G d bc bs mX9_takeComparison 38 l z h Q := by
  refine R_aload_n dX9_takeComparison_38 rfl (fun l z h k => ?_) k
  exact R_cv0 (M := mX9_takeComparison) (pc := 39) (bc := bc) (bs := bs) (cb := 0) (cs := 0) (M' := mX9_step) dX9_takeComparison_39 rfl (by decide) w_652 w_132 w_649 w_650 w_651 (by decide +kernel) (fun _ _ _ k => k) k
theorem bX9_takeComparison_42 {G : Gt} {d bc bs : Nat} {Q : QT} {l : Ls} {z : List Value} {h : Hp} (k : (fun l z h => T G d bc bs mX9_takeComparison 50 l z h Q) l z h) : T G d bc bs mX9_takeComparison 42 l z h Q := by
  exact R_goto dX9_takeComparison_42 (by decide) (fun _ _ _ k => k) k
theorem bX9_takeComparison_45 {G : Gt} {d bc bs : Nat} {Q : QT} {l : Ls} {z : List Value} {h : Hp} (k : (tAld 0 (tPush (.int 1) (tCV1 G d 0 0 8 mX9_fail (fun l z h => T G d bc bs mX9_takeComparison 50 l z h Q)))) l z h) : T G d bc bs mX9_takeComparison 45 l z h Q := by
  refine R_aload_n dX9_takeComparison_45 rfl (fun l z h k => ?_) k
  refine R_iconst dX9_takeComparison_46 (by decide) (fun l z h k => ?_) k
  exact R_cv1 (M := mX9_takeComparison) (pc := 47) (bc := bc) (bs := bs) (cb := 0) (cs := 0) (M' := mX9_fail) dX9_takeComparison_47 rfl (by decide) w_674 w_132 w_681 w_672 w_673 (by decide +kernel) (fun _ _ _ k => k) k
theorem bX9_takeComparison_50 {G : Gt} {d bc bs : Nat} {Q : QT} {l : Ls} {z : List Value} {h : Hp} (k : (tIld 1 (tRetI Q)) l z h) : T G d bc bs mX9_takeComparison 50 l z h Q := by
  refine R_iload_n dX9_takeComparison_50 rfl (fun l z h k => ?_) k
  exact R_iret dX9_takeComparison_51 rfl k
theorem dX9_takeNumber_0 : decode cX9_takeNumber 0 = .ok (.aload_n 0, 1) := by decide +kernel
theorem dX9_takeNumber_1 : decode cX9_takeNumber 1 = .ok (.getfield 18, 3) := by decide +kernel
theorem dX9_takeNumber_4 : decode cX9_takeNumber 4 = .ok (.aload_n 0, 1) := by decide +kernel
theorem dX9_takeNumber_5 : decode cX9_takeNumber 5 = .ok (.getfield 84, 3) := by decide +kernel
theorem dX9_takeNumber_8 : decode cX9_takeNumber 8 = .ok (.laload, 1) := by decide +kernel
theorem dX9_takeNumber_9 : decode cX9_takeNumber 9 = .ok (.l2i, 1) := by decide +kernel
theorem dX9_takeNumber_10 : decode cX9_takeNumber 10 = .ok (.istore_n 3, 1) := by decide +kernel
theorem dX9_takeNumber_11 : decode cX9_takeNumber 11 = .ok (.aload_n 0, 1) := by decide +kernel
theorem dX9_takeNumber_12 : decode cX9_takeNumber 12 = .ok (.getfield 116, 3) := by decide +kernel
theorem dX9_takeNumber_15 : decode cX9_takeNumber 15 = .ok (.iconst 3, 1) := by decide +kernel
theorem dX9_takeNumber_16 : decode cX9_takeNumber 16 = .ok (.if_icmp .eq 11, 3) := by decide +kernel
theorem dX9_takeNumber_19 : decode cX9_takeNumber 19 = .ok (.aload_n 0, 1) := by decide +kernel
theorem dX9_takeNumber_20 : decode cX9_takeNumber 20 = .ok (.iconst 1, 1) := by decide +kernel
theorem dX9_takeNumber_21 : decode cX9_takeNumber 21 = .ok (.invokevirtual 122, 3) := by decide +kernel
theorem dX9_takeNumber_24 : decode cX9_takeNumber 24 = .ok (.goto 18, 3) := by decide +kernel
theorem dX9_takeNumber_27 : decode cX9_takeNumber 27 = .ok (.iload_n 3, 1) := by decide +kernel
theorem dX9_takeNumber_28 : decode cX9_takeNumber 28 = .ok (.iload_n 1, 1) := by decide +kernel
theorem dX9_takeNumber_29 : decode cX9_takeNumber 29 = .ok (.if_icmp .lt 8, 3) := by decide +kernel
theorem dX9_takeNumber_32 : decode cX9_takeNumber 32 = .ok (.iload_n 3, 1) := by decide +kernel
theorem dX9_takeNumber_33 : decode cX9_takeNumber 33 = .ok (.iload_n 2, 1) := by decide +kernel
theorem dX9_takeNumber_34 : decode cX9_takeNumber 34 = .ok (.if_icmp .le 8, 3) := by decide +kernel
theorem dX9_takeNumber_37 : decode cX9_takeNumber 37 = .ok (.aload_n 0, 1) := by decide +kernel
theorem dX9_takeNumber_38 : decode cX9_takeNumber 38 = .ok (.iconst 2, 1) := by decide +kernel
theorem dX9_takeNumber_39 : decode cX9_takeNumber 39 = .ok (.invokevirtual 122, 3) := by decide +kernel
theorem dX9_takeNumber_42 : decode cX9_takeNumber 42 = .ok (.aload_n 0, 1) := by decide +kernel
theorem dX9_takeNumber_43 : decode cX9_takeNumber 43 = .ok (.invokevirtual 87, 3) := by decide +kernel
theorem dX9_takeNumber_46 : decode cX9_takeNumber 46 = .ok (.iload_n 3, 1) := by decide +kernel
theorem dX9_takeNumber_47 : decode cX9_takeNumber 47 = .ok (.ireturn, 1) := by decide +kernel
theorem bX9_takeNumber_0 {G : Gt} {d bc bs : Nat} {Q : QT} {l : Ls} {z : List Value} {h : Hp} (k : (tAld 0 (tGetf 8 3 (tAld 0 (tGetf 8 6 (tJald (tL2i (tIst 3 (tAld 0 (tGetf 8 7 (tPush (.int 3) (tIf2 (fun x y => x = y) (fun l z h => T G d bc bs mX9_takeNumber 27 l z h Q) (fun l z h => T G d bc bs mX9_takeNumber 19 l z h Q)))))))))))) l z h) : T G d bc bs mX9_takeNumber 0 l z h Q := by
  refine R_aload_n dX9_takeNumber_0 rfl (fun l z h k => ?_) k
  refine R_getf (ci := 8) (f := 3) (C := RX9) (N := 11) (Tt := TX9) dX9_takeNumber_1 rfl i_X9 (by decide) w_197 (fun l z h k => ?_) k
  refine R_aload_n dX9_takeNumber_4 rfl (fun l z h k => ?_) k
  refine R_getf (ci := 8) (f := 6) (C := RX9) (N := 11) (Tt := TX9) dX9_takeNumber_5 rfl i_X9 (by decide) w_200 (fun l z h k => ?_) k
  refine R_laload dX9_takeNumber_8 (fun l z h k => ?_) k
  refine R_l2i dX9_takeNumber_9 (fun l z h k => ?_) k
  refine R_istore_n dX9_takeNumber_10 rfl (by decide) (fun l z h k => ?_) k
  refine R_aload_n dX9_takeNumber_11 rfl (fun l z h k => ?_) k
  refine R_getf (ci := 8) (f := 7) (C := RX9) (N := 11) (Tt := TX9) dX9_takeNumber_12 rfl i_X9 (by decide) w_204 (fun l z h k => ?_) k
  refine R_iconst dX9_takeNumber_15 (by decide) (fun l z h k => ?_) k
  exact R_icmp_eq dX9_takeNumber_16 (by decide) (fun _ _ _ k => k) (fun _ _ _ k => k) k
theorem bX9_takeNumber_19 {G : Gt} {d bc bs : Nat} {Q : QT} {l : Ls} {z : List Value} {h : Hp} (k : (tAld 0 (tPush (.int 1) (tCV1 G d 0 0 8 mX9_fail (fun l z h => T G d bc bs mX9_takeNumber 24 l z h Q)))) l z h) : T G d bc bs mX9_takeNumber 19 l z h Q := by
  refine R_aload_n dX9_takeNumber_19 rfl (fun l z h k => ?_) k
  refine R_iconst dX9_takeNumber_20 (by decide) (fun l z h k => ?_) k
  exact R_cv1 (M := mX9_takeNumber) (pc := 21) (bc := bc) (bs := bs) (cb := 0) (cs := 0) (M' := mX9_fail) dX9_takeNumber_21 rfl (by decide) w_674 w_132 w_681 w_672 w_673 (by decide +kernel) (fun _ _ _ k => k) k
theorem bX9_takeNumber_24 {G : Gt} {d bc bs : Nat} {Q : QT} {l : Ls} {z : List Value} {h : Hp} (k : (fun l z h => T G d bc bs mX9_takeNumber 42 l z h Q) l z h) : T G d bc bs mX9_takeNumber 24 l z h Q := by
  exact R_goto dX9_takeNumber_24 (by decide) (fun _ _ _ k => k) k
theorem bX9_takeNumber_27 {G : Gt} {d bc bs : Nat} {Q : QT} {l : Ls} {z : List Value} {h : Hp} (k : (tIld 3 (tIld 1 (tIf2 (fun x y => x < y) (fun l z h => T G d bc bs mX9_takeNumber 37 l z h Q) (fun l z h => T G d bc bs mX9_takeNumber 32 l z h Q)))) l z h) : T G d bc bs mX9_takeNumber 27 l z h Q := by
  refine R_iload_n dX9_takeNumber_27 rfl (fun l z h k => ?_) k
  refine R_iload_n dX9_takeNumber_28 rfl (fun l z h k => ?_) k
  exact R_icmp_lt dX9_takeNumber_29 (by decide) (fun _ _ _ k => k) (fun _ _ _ k => k) k
theorem bX9_takeNumber_32 {G : Gt} {d bc bs : Nat} {Q : QT} {l : Ls} {z : List Value} {h : Hp} (k : (tIld 3 (tIld 2 (tIf2 (fun x y => x ≤ y) (fun l z h => T G d bc bs mX9_takeNumber 42 l z h Q) (fun l z h => T G d bc bs mX9_takeNumber 37 l z h Q)))) l z h) : T G d bc bs mX9_takeNumber 32 l z h Q := by
  refine R_iload_n dX9_takeNumber_32 rfl (fun l z h k => ?_) k
  refine R_iload_n dX9_takeNumber_33 rfl (fun l z h k => ?_) k
  exact R_icmp_le dX9_takeNumber_34 (by decide) (fun _ _ _ k => k) (fun _ _ _ k => k) k
theorem bX9_takeNumber_37 {G : Gt} {d bc bs : Nat} {Q : QT} {l : Ls} {z : List Value} {h : Hp} (k : (tAld 0 (tPush (.int 2) (tCV1 G d 0 0 8 mX9_fail (fun l z h => T G d bc bs mX9_takeNumber 42 l z h Q)))) l z h) : T G d bc bs mX9_takeNumber 37 l z h Q := by
  refine R_aload_n dX9_takeNumber_37 rfl (fun l z h k => ?_) k
  refine R_iconst dX9_takeNumber_38 (by decide) (fun l z h k => ?_) k
  exact R_cv1 (M := mX9_takeNumber) (pc := 39) (bc := bc) (bs := bs) (cb := 0) (cs := 0) (M' := mX9_fail) dX9_takeNumber_39 rfl (by decide) w_674 w_132 w_681 w_672 w_673 (by decide +kernel) (fun _ _ _ k => k) k
theorem bX9_takeNumber_42 {G : Gt} {d bc bs : Nat} {Q : QT} {l : Ls} {z : List Value} {h : Hp} (k : (tAld 0 (tCV0 G d 0 0 8 mX9_step (fun l z h => T G d bc bs mX9_takeNumber 46 l z h Q))) l z h) : T G d bc bs mX9_takeNumber 42 l z h Q := by
  refine R_aload_n dX9_takeNumber_42 rfl (fun l z h k => ?_) k
  exact R_cv0 (M := mX9_takeNumber) (pc := 43) (bc := bc) (bs := bs) (cb := 0) (cs := 0) (M' := mX9_step) dX9_takeNumber_43 rfl (by decide) w_652 w_132 w_649 w_650 w_651 (by decide +kernel) (fun _ _ _ k => k) k
theorem bX9_takeNumber_46 {G : Gt} {d bc bs : Nat} {Q : QT} {l : Ls} {z : List Value} {h : Hp} (k : (tIld 3 (tRetI Q)) l z h) : T G d bc bs mX9_takeNumber 46 l z h Q := by
  refine R_iload_n dX9_takeNumber_46 rfl (fun l z h k => ?_) k
  exact R_iret dX9_takeNumber_47 rfl k
theorem dX9_takePlace_0 : decode cX9_takePlace 0 = .ok (.iconst (-1), 1) := by decide +kernel
theorem dX9_takePlace_1 : decode cX9_takePlace 1 = .ok (.istore_n 1, 1) := by decide +kernel
theorem dX9_takePlace_2 : decode cX9_takePlace 2 = .ok (.aload_n 0, 1) := by decide +kernel
theorem dX9_takePlace_3 : decode cX9_takePlace 3 = .ok (.getstatic 126, 3) := by decide +kernel
theorem dX9_takePlace_6 : decode cX9_takePlace 6 = .ok (.invokevirtual 129, 3) := by decide +kernel
theorem dX9_takePlace_9 : decode cX9_takePlace 9 = .ok (.ifCond .eq 8, 3) := by decide +kernel
theorem dX9_takePlace_12 : decode cX9_takePlace 12 = .ok (.iconst 0, 1) := by decide +kernel
theorem dX9_takePlace_13 : decode cX9_takePlace 13 = .ok (.istore_n 1, 1) := by decide +kernel
theorem dX9_takePlace_14 : decode cX9_takePlace 14 = .ok (.goto 38, 3) := by decide +kernel
theorem dX9_takePlace_17 : decode cX9_takePlace 17 = .ok (.aload_n 0, 1) := by decide +kernel
theorem dX9_takePlace_18 : decode cX9_takePlace 18 = .ok (.getstatic 133, 3) := by decide +kernel
theorem dX9_takePlace_21 : decode cX9_takePlace 21 = .ok (.invokevirtual 129, 3) := by decide +kernel
theorem dX9_takePlace_24 : decode cX9_takePlace 24 = .ok (.ifCond .eq 8, 3) := by decide +kernel
theorem dX9_takePlace_27 : decode cX9_takePlace 27 = .ok (.iconst 1, 1) := by decide +kernel
theorem dX9_takePlace_28 : decode cX9_takePlace 28 = .ok (.istore_n 1, 1) := by decide +kernel
theorem dX9_takePlace_29 : decode cX9_takePlace 29 = .ok (.goto 23, 3) := by decide +kernel
theorem dX9_takePlace_32 : decode cX9_takePlace 32 = .ok (.aload_n 0, 1) := by decide +kernel
theorem dX9_takePlace_33 : decode cX9_takePlace 33 = .ok (.getstatic 136, 3) := by decide +kernel
theorem dX9_takePlace_36 : decode cX9_takePlace 36 = .ok (.invokevirtual 129, 3) := by decide +kernel
theorem dX9_takePlace_39 : decode cX9_takePlace 39 = .ok (.ifCond .eq 8, 3) := by decide +kernel
theorem dX9_takePlace_42 : decode cX9_takePlace 42 = .ok (.iconst 2, 1) := by decide +kernel
theorem dX9_takePlace_43 : decode cX9_takePlace 43 = .ok (.istore_n 1, 1) := by decide +kernel
theorem dX9_takePlace_44 : decode cX9_takePlace 44 = .ok (.goto 8, 3) := by decide +kernel
theorem dX9_takePlace_47 : decode cX9_takePlace 47 = .ok (.aload_n 0, 1) := by decide +kernel
theorem dX9_takePlace_48 : decode cX9_takePlace 48 = .ok (.iconst 1, 1) := by decide +kernel
theorem dX9_takePlace_49 : decode cX9_takePlace 49 = .ok (.invokevirtual 122, 3) := by decide +kernel
theorem dX9_takePlace_52 : decode cX9_takePlace 52 = .ok (.aload_n 0, 1) := by decide +kernel
theorem dX9_takePlace_53 : decode cX9_takePlace 53 = .ok (.invokevirtual 87, 3) := by decide +kernel
theorem dX9_takePlace_56 : decode cX9_takePlace 56 = .ok (.iload_n 1, 1) := by decide +kernel
theorem dX9_takePlace_57 : decode cX9_takePlace 57 = .ok (.ireturn, 1) := by decide +kernel
theorem bX9_takePlace_0 {G : Gt} {d bc bs : Nat} {Q : QT} {l : Ls} {z : List Value} {h : Hp} (k : (tPush (.int (-1)) (tIst 1 (tAld 0 (tPush (.ref (adW G 6)) (tCV1 G d 0 0 8 mX9_isAt (fun l z h => T G d bc bs mX9_takePlace 9 l z h Q)))))) l z h) : T G d bc bs mX9_takePlace 0 l z h Q := by
  refine R_iconst dX9_takePlace_0 (by decide) (fun l z h k => ?_) k
  refine R_istore_n dX9_takePlace_1 rfl (by decide) (fun l z h k => ?_) k
  refine R_aload_n dX9_takePlace_2 rfl (fun l z h k => ?_) k
  refine R_word (k := 6) dX9_takePlace_3 (by decide) rfl w_694 (fun l z h k => ?_) k
  exact R_cv1 (M := mX9_takePlace) (pc := 6) (bc := bc) (bs := bs) (cb := 0) (cs := 0) (M' := mX9_isAt) dX9_takePlace_6 rfl (by decide) w_666 w_132 w_680 w_664 w_665 (by decide +kernel) (fun _ _ _ k => k) k
theorem bX9_takePlace_9 {G : Gt} {d bc bs : Nat} {Q : QT} {l : Ls} {z : List Value} {h : Hp} (k : (tIf (fun x => x = 0) (fun l z h => T G d bc bs mX9_takePlace 17 l z h Q) (fun l z h => T G d bc bs mX9_takePlace 12 l z h Q)) l z h) : T G d bc bs mX9_takePlace 9 l z h Q := by
  exact R_if_eq dX9_takePlace_9 (by decide) (fun _ _ _ k => k) (fun _ _ _ k => k) k
theorem bX9_takePlace_12 {G : Gt} {d bc bs : Nat} {Q : QT} {l : Ls} {z : List Value} {h : Hp} (k : (tPush (.int 0) (tIst 1 ((fun l z h => T G d bc bs mX9_takePlace 52 l z h Q)))) l z h) : T G d bc bs mX9_takePlace 12 l z h Q := by
  refine R_iconst dX9_takePlace_12 (by decide) (fun l z h k => ?_) k
  refine R_istore_n dX9_takePlace_13 rfl (by decide) (fun l z h k => ?_) k
  exact R_goto dX9_takePlace_14 (by decide) (fun _ _ _ k => k) k
theorem bX9_takePlace_17 {G : Gt} {d bc bs : Nat} {Q : QT} {l : Ls} {z : List Value} {h : Hp} (k : (tAld 0 (tPush (.ref (adW G 7)) (tCV1 G d 0 0 8 mX9_isAt (fun l z h => T G d bc bs mX9_takePlace 24 l z h Q)))) l z h) : T G d bc bs mX9_takePlace 17 l z h Q := by
  refine R_aload_n dX9_takePlace_17 rfl (fun l z h k => ?_) k
  refine R_word (k := 7) dX9_takePlace_18 (by decide) rfl w_716 (fun l z h k => ?_) k
  exact R_cv1 (M := mX9_takePlace) (pc := 21) (bc := bc) (bs := bs) (cb := 0) (cs := 0) (M' := mX9_isAt) dX9_takePlace_21 rfl (by decide) w_666 w_132 w_680 w_664 w_665 (by decide +kernel) (fun _ _ _ k => k) k
theorem bX9_takePlace_24 {G : Gt} {d bc bs : Nat} {Q : QT} {l : Ls} {z : List Value} {h : Hp} (k : (tIf (fun x => x = 0) (fun l z h => T G d bc bs mX9_takePlace 32 l z h Q) (fun l z h => T G d bc bs mX9_takePlace 27 l z h Q)) l z h) : T G d bc bs mX9_takePlace 24 l z h Q := by
  exact R_if_eq dX9_takePlace_24 (by decide) (fun _ _ _ k => k) (fun _ _ _ k => k) k
theorem bX9_takePlace_27 {G : Gt} {d bc bs : Nat} {Q : QT} {l : Ls} {z : List Value} {h : Hp} (k : (tPush (.int 1) (tIst 1 ((fun l z h => T G d bc bs mX9_takePlace 52 l z h Q)))) l z h) : T G d bc bs mX9_takePlace 27 l z h Q := by
  refine R_iconst dX9_takePlace_27 (by decide) (fun l z h k => ?_) k
  refine R_istore_n dX9_takePlace_28 rfl (by decide) (fun l z h k => ?_) k
  exact R_goto dX9_takePlace_29 (by decide) (fun _ _ _ k => k) k
theorem bX9_takePlace_32 {G : Gt} {d bc bs : Nat} {Q : QT} {l : Ls} {z : List Value} {h : Hp} (k : (tAld 0 (tPush (.ref (adW G 8)) (tCV1 G d 0 0 8 mX9_isAt (fun l z h => T G d bc bs mX9_takePlace 39 l z h Q)))) l z h) : T G d bc bs mX9_takePlace 32 l z h Q := by
  refine R_aload_n dX9_takePlace_32 rfl (fun l z h k => ?_) k
  refine R_word (k := 8) dX9_takePlace_33 (by decide) rfl w_696 (fun l z h k => ?_) k
  exact R_cv1 (M := mX9_takePlace) (pc := 36) (bc := bc) (bs := bs) (cb := 0) (cs := 0) (M' := mX9_isAt) dX9_takePlace_36 rfl (by decide) w_666 w_132 w_680 w_664 w_665 (by decide +kernel) (fun _ _ _ k => k) k
theorem bX9_takePlace_39 {G : Gt} {d bc bs : Nat} {Q : QT} {l : Ls} {z : List Value} {h : Hp} (k : (tIf (fun x => x = 0) (fun l z h => T G d bc bs mX9_takePlace 47 l z h Q) (fun l z h => T G d bc bs mX9_takePlace 42 l z h Q)) l z h) : T G d bc bs mX9_takePlace 39 l z h Q := by
  exact R_if_eq dX9_takePlace_39 (by decide) (fun _ _ _ k => k) (fun _ _ _ k => k) k
theorem bX9_takePlace_42 {G : Gt} {d bc bs : Nat} {Q : QT} {l : Ls} {z : List Value} {h : Hp} (k : (tPush (.int 2) (tIst 1 ((fun l z h => T G d bc bs mX9_takePlace 52 l z h Q)))) l z h) : T G d bc bs mX9_takePlace 42 l z h Q := by
  refine R_iconst dX9_takePlace_42 (by decide) (fun l z h k => ?_) k
  refine R_istore_n dX9_takePlace_43 rfl (by decide) (fun l z h k => ?_) k
  exact R_goto dX9_takePlace_44 (by decide) (fun _ _ _ k => k) k
theorem bX9_takePlace_47 {G : Gt} {d bc bs : Nat} {Q : QT} {l : Ls} {z : List Value} {h : Hp} (k : (tAld 0 (tPush (.int 1) (tCV1 G d 0 0 8 mX9_fail (fun l z h => T G d bc bs mX9_takePlace 52 l z h Q)))) l z h) : T G d bc bs mX9_takePlace 47 l z h Q := by
  refine R_aload_n dX9_takePlace_47 rfl (fun l z h k => ?_) k
  refine R_iconst dX9_takePlace_48 (by decide) (fun l z h k => ?_) k
  exact R_cv1 (M := mX9_takePlace) (pc := 49) (bc := bc) (bs := bs) (cb := 0) (cs := 0) (M' := mX9_fail) dX9_takePlace_49 rfl (by decide) w_674 w_132 w_681 w_672 w_673 (by decide +kernel) (fun _ _ _ k => k) k
theorem bX9_takePlace_52 {G : Gt} {d bc bs : Nat} {Q : QT} {l : Ls} {z : List Value} {h : Hp} (k : (tAld 0 (tCV0 G d 0 0 8 mX9_step (fun l z h => T G d bc bs mX9_takePlace 56 l z h Q))) l z h) : T G d bc bs mX9_takePlace 52 l z h Q := by
  refine R_aload_n dX9_takePlace_52 rfl (fun l z h k => ?_) k
  exact R_cv0 (M := mX9_takePlace) (pc := 53) (bc := bc) (bs := bs) (cb := 0) (cs := 0) (M' := mX9_step) dX9_takePlace_53 rfl (by decide) w_652 w_132 w_649 w_650 w_651 (by decide +kernel) (fun _ _ _ k => k) k
theorem bX9_takePlace_56 {G : Gt} {d bc bs : Nat} {Q : QT} {l : Ls} {z : List Value} {h : Hp} (k : (tIld 1 (tRetI Q)) l z h) : T G d bc bs mX9_takePlace 56 l z h Q := by
  refine R_iload_n dX9_takePlace_56 rfl (fun l z h k => ?_) k
  exact R_iret dX9_takePlace_57 rfl k
theorem dX9_takeEnd_0 : decode cX9_takeEnd 0 = .ok (.iconst (-1), 1) := by decide +kernel
theorem dX9_takeEnd_1 : decode cX9_takeEnd 1 = .ok (.istore_n 1, 1) := by decide +kernel
theorem dX9_takeEnd_2 : decode cX9_takeEnd 2 = .ok (.aload_n 0, 1) := by decide +kernel
theorem dX9_takeEnd_3 : decode cX9_takeEnd 3 = .ok (.getstatic 126, 3) := by decide +kernel
theorem dX9_takeEnd_6 : decode cX9_takeEnd 6 = .ok (.invokevirtual 129, 3) := by decide +kernel
theorem dX9_takeEnd_9 : decode cX9_takeEnd 9 = .ok (.ifCond .eq 8, 3) := by decide +kernel
theorem dX9_takeEnd_12 : decode cX9_takeEnd 12 = .ok (.iconst 0, 1) := by decide +kernel
theorem dX9_takeEnd_13 : decode cX9_takeEnd 13 = .ok (.istore_n 1, 1) := by decide +kernel
theorem dX9_takeEnd_14 : decode cX9_takeEnd 14 = .ok (.goto 23, 3) := by decide +kernel
theorem dX9_takeEnd_17 : decode cX9_takeEnd 17 = .ok (.aload_n 0, 1) := by decide +kernel
theorem dX9_takeEnd_18 : decode cX9_takeEnd 18 = .ok (.getstatic 136, 3) := by decide +kernel
theorem dX9_takeEnd_21 : decode cX9_takeEnd 21 = .ok (.invokevirtual 129, 3) := by decide +kernel
theorem dX9_takeEnd_24 : decode cX9_takeEnd 24 = .ok (.ifCond .eq 8, 3) := by decide +kernel
theorem dX9_takeEnd_27 : decode cX9_takeEnd 27 = .ok (.iconst 1, 1) := by decide +kernel
theorem dX9_takeEnd_28 : decode cX9_takeEnd 28 = .ok (.istore_n 1, 1) := by decide +kernel
theorem dX9_takeEnd_29 : decode cX9_takeEnd 29 = .ok (.goto 8, 3) := by decide +kernel
theorem dX9_takeEnd_32 : decode cX9_takeEnd 32 = .ok (.aload_n 0, 1) := by decide +kernel
theorem dX9_takeEnd_33 : decode cX9_takeEnd 33 = .ok (.iconst 1, 1) := by decide +kernel
theorem dX9_takeEnd_34 : decode cX9_takeEnd 34 = .ok (.invokevirtual 122, 3) := by decide +kernel
theorem dX9_takeEnd_37 : decode cX9_takeEnd 37 = .ok (.aload_n 0, 1) := by decide +kernel
theorem dX9_takeEnd_38 : decode cX9_takeEnd 38 = .ok (.invokevirtual 87, 3) := by decide +kernel
theorem dX9_takeEnd_41 : decode cX9_takeEnd 41 = .ok (.iload_n 1, 1) := by decide +kernel
theorem dX9_takeEnd_42 : decode cX9_takeEnd 42 = .ok (.ireturn, 1) := by decide +kernel
theorem bX9_takeEnd_0 {G : Gt} {d bc bs : Nat} {Q : QT} {l : Ls} {z : List Value} {h : Hp} (k : (tPush (.int (-1)) (tIst 1 (tAld 0 (tPush (.ref (adW G 6)) (tCV1 G d 0 0 8 mX9_isAt (fun l z h => T G d bc bs mX9_takeEnd 9 l z h Q)))))) l z h) : T G d bc bs mX9_takeEnd 0 l z h Q := by
  refine R_iconst dX9_takeEnd_0 (by decide) (fun l z h k => ?_) k
  refine R_istore_n dX9_takeEnd_1 rfl (by decide) (fun l z h k => ?_) k
  refine R_aload_n dX9_takeEnd_2 rfl (fun l z h k => ?_) k
  refine R_word (k := 6) dX9_takeEnd_3 (by decide) rfl w_694 (fun l z h k => ?_) k
  exact R_cv1 (M := mX9_takeEnd) (pc := 6) (bc := bc) (bs := bs) (cb := 0) (cs := 0) (M' := mX9_isAt) dX9_takeEnd_6 rfl (by decide) w_666 w_132 w_680 w_664 w_665 (by decide +kernel) (fun _ _ _ k => k) k
theorem bX9_takeEnd_9 {G : Gt} {d bc bs : Nat} {Q : QT} {l : Ls} {z : List Value} {h : Hp} (k : (tIf (fun x => x = 0) (fun l z h => T G d bc bs mX9_takeEnd 17 l z h Q) (fun l z h => T G d bc bs mX9_takeEnd 12 l z h Q)) l z h) : T G d bc bs mX9_takeEnd 9 l z h Q := by
  exact R_if_eq dX9_takeEnd_9 (by decide) (fun _ _ _ k => k) (fun _ _ _ k => k) k
theorem bX9_takeEnd_12 {G : Gt} {d bc bs : Nat} {Q : QT} {l : Ls} {z : List Value} {h : Hp} (k : (tPush (.int 0) (tIst 1 ((fun l z h => T G d bc bs mX9_takeEnd 37 l z h Q)))) l z h) : T G d bc bs mX9_takeEnd 12 l z h Q := by
  refine R_iconst dX9_takeEnd_12 (by decide) (fun l z h k => ?_) k
  refine R_istore_n dX9_takeEnd_13 rfl (by decide) (fun l z h k => ?_) k
  exact R_goto dX9_takeEnd_14 (by decide) (fun _ _ _ k => k) k
theorem bX9_takeEnd_17 {G : Gt} {d bc bs : Nat} {Q : QT} {l : Ls} {z : List Value} {h : Hp} (k : (tAld 0 (tPush (.ref (adW G 8)) (tCV1 G d 0 0 8 mX9_isAt (fun l z h => T G d bc bs mX9_takeEnd 24 l z h Q)))) l z h) : T G d bc bs mX9_takeEnd 17 l z h Q := by
  refine R_aload_n dX9_takeEnd_17 rfl (fun l z h k => ?_) k
  refine R_word (k := 8) dX9_takeEnd_18 (by decide) rfl w_696 (fun l z h k => ?_) k
  exact R_cv1 (M := mX9_takeEnd) (pc := 21) (bc := bc) (bs := bs) (cb := 0) (cs := 0) (M' := mX9_isAt) dX9_takeEnd_21 rfl (by decide) w_666 w_132 w_680 w_664 w_665 (by decide +kernel) (fun _ _ _ k => k) k
theorem bX9_takeEnd_24 {G : Gt} {d bc bs : Nat} {Q : QT} {l : Ls} {z : List Value} {h : Hp} (k : (tIf (fun x => x = 0) (fun l z h => T G d bc bs mX9_takeEnd 32 l z h Q) (fun l z h => T G d bc bs mX9_takeEnd 27 l z h Q)) l z h) : T G d bc bs mX9_takeEnd 24 l z h Q := by
  exact R_if_eq dX9_takeEnd_24 (by decide) (fun _ _ _ k => k) (fun _ _ _ k => k) k
theorem bX9_takeEnd_27 {G : Gt} {d bc bs : Nat} {Q : QT} {l : Ls} {z : List Value} {h : Hp} (k : (tPush (.int 1) (tIst 1 ((fun l z h => T G d bc bs mX9_takeEnd 37 l z h Q)))) l z h) : T G d bc bs mX9_takeEnd 27 l z h Q := by
  refine R_iconst dX9_takeEnd_27 (by decide) (fun l z h k => ?_) k
  refine R_istore_n dX9_takeEnd_28 rfl (by decide) (fun l z h k => ?_) k
  exact R_goto dX9_takeEnd_29 (by decide) (fun _ _ _ k => k) k
theorem bX9_takeEnd_32 {G : Gt} {d bc bs : Nat} {Q : QT} {l : Ls} {z : List Value} {h : Hp} (k : (tAld 0 (tPush (.int 1) (tCV1 G d 0 0 8 mX9_fail (fun l z h => T G d bc bs mX9_takeEnd 37 l z h Q)))) l z h) : T G d bc bs mX9_takeEnd 32 l z h Q := by
  refine R_aload_n dX9_takeEnd_32 rfl (fun l z h k => ?_) k
  refine R_iconst dX9_takeEnd_33 (by decide) (fun l z h k => ?_) k
  exact R_cv1 (M := mX9_takeEnd) (pc := 34) (bc := bc) (bs := bs) (cb := 0) (cs := 0) (M' := mX9_fail) dX9_takeEnd_34 rfl (by decide) w_674 w_132 w_681 w_672 w_673 (by decide +kernel) (fun _ _ _ k => k) k
theorem bX9_takeEnd_37 {G : Gt} {d bc bs : Nat} {Q : QT} {l : Ls} {z : List Value} {h : Hp} (k : (tAld 0 (tCV0 G d 0 0 8 mX9_step (fun l z h => T G d bc bs mX9_takeEnd 41 l z h Q))) l z h) : T G d bc bs mX9_takeEnd 37 l z h Q := by
  refine R_aload_n dX9_takeEnd_37 rfl (fun l z h k => ?_) k
  exact R_cv0 (M := mX9_takeEnd) (pc := 38) (bc := bc) (bs := bs) (cb := 0) (cs := 0) (M' := mX9_step) dX9_takeEnd_38 rfl (by decide) w_652 w_132 w_649 w_650 w_651 (by decide +kernel) (fun _ _ _ k => k) k
theorem bX9_takeEnd_41 {G : Gt} {d bc bs : Nat} {Q : QT} {l : Ls} {z : List Value} {h : Hp} (k : (tIld 1 (tRetI Q)) l z h) : T G d bc bs mX9_takeEnd 41 l z h Q := by
  refine R_iload_n dX9_takeEnd_41 rfl (fun l z h k => ?_) k
  exact R_iret dX9_takeEnd_42 rfl k
theorem dX9_newNameHere_0 : decode cX9_newNameHere 0 = .ok (.aload_n 0, 1) := by decide +kernel
theorem dX9_newNameHere_1 : decode cX9_newNameHere 1 = .ok (.getstatic 28, 3) := by decide +kernel
theorem dX9_newNameHere_4 : decode cX9_newNameHere 4 = .ok (.invokevirtual 129, 3) := by decide +kernel
theorem dX9_newNameHere_7 : decode cX9_newNameHere 7 = .ok (.ifCond .ne 11, 3) := by decide +kernel
theorem dX9_newNameHere_10 : decode cX9_newNameHere 10 = .ok (.aload_n 0, 1) := by decide +kernel
theorem dX9_newNameHere_11 : decode cX9_newNameHere 11 = .ok (.iconst 1, 1) := by decide +kernel
theorem dX9_newNameHere_12 : decode cX9_newNameHere 12 = .ok (.invokevirtual 122, 3) := by decide +kernel
theorem dX9_newNameHere_15 : decode cX9_newNameHere 15 = .ok (.goto 42, 3) := by decide +kernel
theorem dX9_newNameHere_18 : decode cX9_newNameHere 18 = .ok (.aload_n 1, 1) := by decide +kernel
theorem dX9_newNameHere_19 : decode cX9_newNameHere 19 = .ok (.aload_n 0, 1) := by decide +kernel
theorem dX9_newNameHere_20 : decode cX9_newNameHere 20 = .ok (.getfield 18, 3) := by decide +kernel
theorem dX9_newNameHere_23 : decode cX9_newNameHere 23 = .ok (.aload_n 0, 1) := by decide +kernel
theorem dX9_newNameHere_24 : decode cX9_newNameHere 24 = .ok (.getfield 84, 3) := by decide +kernel
theorem dX9_newNameHere_27 : decode cX9_newNameHere 27 = .ok (.laload, 1) := by decide +kernel
theorem dX9_newNameHere_28 : decode cX9_newNameHere 28 = .ok (.invokevirtual 139, 3) := by decide +kernel
theorem dX9_newNameHere_31 : decode cX9_newNameHere 31 = .ok (.iconst (-1), 1) := by decide +kernel
theorem dX9_newNameHere_32 : decode cX9_newNameHere 32 = .ok (.if_icmp .ne 20, 3) := by decide +kernel
theorem dX9_newNameHere_35 : decode cX9_newNameHere 35 = .ok (.aload_n 1, 1) := by decide +kernel
theorem dX9_newNameHere_36 : decode cX9_newNameHere 36 = .ok (.aload_n 0, 1) := by decide +kernel
theorem dX9_newNameHere_37 : decode cX9_newNameHere 37 = .ok (.getfield 18, 3) := by decide +kernel
theorem dX9_newNameHere_40 : decode cX9_newNameHere 40 = .ok (.aload_n 0, 1) := by decide +kernel
theorem dX9_newNameHere_41 : decode cX9_newNameHere 41 = .ok (.getfield 84, 3) := by decide +kernel
theorem dX9_newNameHere_44 : decode cX9_newNameHere 44 = .ok (.laload, 1) := by decide +kernel
theorem dX9_newNameHere_45 : decode cX9_newNameHere 45 = .ok (.invokevirtual 145, 3) := by decide +kernel
theorem dX9_newNameHere_48 : decode cX9_newNameHere 48 = .ok (.iconst (-1), 1) := by decide +kernel
theorem dX9_newNameHere_49 : decode cX9_newNameHere 49 = .ok (.if_icmp .eq 8, 3) := by decide +kernel
theorem dX9_newNameHere_52 : decode cX9_newNameHere 52 = .ok (.aload_n 0, 1) := by decide +kernel
theorem dX9_newNameHere_53 : decode cX9_newNameHere 53 = .ok (.iconst 3, 1) := by decide +kernel
theorem dX9_newNameHere_54 : decode cX9_newNameHere 54 = .ok (.invokevirtual 122, 3) := by decide +kernel
theorem dX9_newNameHere_57 : decode cX9_newNameHere 57 = .ok (.aload_n 0, 1) := by decide +kernel
theorem dX9_newNameHere_58 : decode cX9_newNameHere 58 = .ok (.getfield 18, 3) := by decide +kernel
theorem dX9_newNameHere_61 : decode cX9_newNameHere 61 = .ok (.aload_n 0, 1) := by decide +kernel
theorem dX9_newNameHere_62 : decode cX9_newNameHere 62 = .ok (.getfield 84, 3) := by decide +kernel
theorem dX9_newNameHere_65 : decode cX9_newNameHere 65 = .ok (.laload, 1) := by decide +kernel
theorem dX9_newNameHere_66 : decode cX9_newNameHere 66 = .ok (.lreturn, 1) := by decide +kernel
theorem bX9_newNameHere_0 {G : Gt} {d bc bs : Nat} {Q : QT} {l : Ls} {z : List Value} {h : Hp} (k : (tAld 0 (tPush (.ref (adW G 0)) (tCV1 G d 0 0 8 mX9_isAt (fun l z h => T G d bc bs mX9_newNameHere 7 l z h Q)))) l z h) : T G d bc bs mX9_newNameHere 0 l z h Q := by
  refine R_aload_n dX9_newNameHere_0 rfl (fun l z h k => ?_) k
  refine R_word (k := 0) dX9_newNameHere_1 (by decide) rfl w_192 (fun l z h k => ?_) k
  exact R_cv1 (M := mX9_newNameHere) (pc := 4) (bc := bc) (bs := bs) (cb := 0) (cs := 0) (M' := mX9_isAt) dX9_newNameHere_4 rfl (by decide) w_666 w_132 w_680 w_664 w_665 (by decide +kernel) (fun _ _ _ k => k) k
theorem bX9_newNameHere_7 {G : Gt} {d bc bs : Nat} {Q : QT} {l : Ls} {z : List Value} {h : Hp} (k : (tIf (fun x => x = 0) (fun l z h => T G d bc bs mX9_newNameHere 10 l z h Q) (fun l z h => T G d bc bs mX9_newNameHere 18 l z h Q)) l z h) : T G d bc bs mX9_newNameHere 7 l z h Q := by
  exact R_if_ne dX9_newNameHere_7 (by decide) (fun _ _ _ k => k) (fun _ _ _ k => k) k
theorem bX9_newNameHere_10 {G : Gt} {d bc bs : Nat} {Q : QT} {l : Ls} {z : List Value} {h : Hp} (k : (tAld 0 (tPush (.int 1) (tCV1 G d 0 0 8 mX9_fail (fun l z h => T G d bc bs mX9_newNameHere 15 l z h Q)))) l z h) : T G d bc bs mX9_newNameHere 10 l z h Q := by
  refine R_aload_n dX9_newNameHere_10 rfl (fun l z h k => ?_) k
  refine R_iconst dX9_newNameHere_11 (by decide) (fun l z h k => ?_) k
  exact R_cv1 (M := mX9_newNameHere) (pc := 12) (bc := bc) (bs := bs) (cb := 0) (cs := 0) (M' := mX9_fail) dX9_newNameHere_12 rfl (by decide) w_674 w_132 w_681 w_672 w_673 (by decide +kernel) (fun _ _ _ k => k) k
theorem bX9_newNameHere_15 {G : Gt} {d bc bs : Nat} {Q : QT} {l : Ls} {z : List Value} {h : Hp} (k : (fun l z h => T G d bc bs mX9_newNameHere 57 l z h Q) l z h) : T G d bc bs mX9_newNameHere 15 l z h Q := by
  exact R_goto dX9_newNameHere_15 (by decide) (fun _ _ _ k => k) k
theorem bX9_newNameHere_18 {G : Gt} {d bc bs : Nat} {Q : QT} {l : Ls} {z : List Value} {h : Hp} (k : (tAld 1 (tAld 0 (tGetf 8 3 (tAld 0 (tGetf 8 6 (tJald (tCV1 G d 0 0 9 mX11_personNamed (fun l z h => T G d bc bs mX9_newNameHere 31 l z h Q)))))))) l z h) : T G d bc bs mX9_newNameHere 18 l z h Q := by
  refine R_aload_n dX9_newNameHere_18 rfl (fun l z h k => ?_) k
  refine R_aload_n dX9_newNameHere_19 rfl (fun l z h k => ?_) k
  refine R_getf (ci := 8) (f := 3) (C := RX9) (N := 11) (Tt := TX9) dX9_newNameHere_20 rfl i_X9 (by decide) w_197 (fun l z h k => ?_) k
  refine R_aload_n dX9_newNameHere_23 rfl (fun l z h k => ?_) k
  refine R_getf (ci := 8) (f := 6) (C := RX9) (N := 11) (Tt := TX9) dX9_newNameHere_24 rfl i_X9 (by decide) w_200 (fun l z h k => ?_) k
  refine R_laload dX9_newNameHere_27 (fun l z h k => ?_) k
  exact R_cv1 (M := mX9_newNameHere) (pc := 28) (bc := bc) (bs := bs) (cb := 0) (cs := 0) (M' := mX11_personNamed) dX9_newNameHere_28 rfl (by decide) w_685 w_136 w_682 w_683 w_684 (by decide +kernel) (fun _ _ _ k => k) k
theorem bX9_newNameHere_31 {G : Gt} {d bc bs : Nat} {Q : QT} {l : Ls} {z : List Value} {h : Hp} (k : (tPush (.int (-1)) (tIf2 (fun x y => x = y) (fun l z h => T G d bc bs mX9_newNameHere 35 l z h Q) (fun l z h => T G d bc bs mX9_newNameHere 52 l z h Q))) l z h) : T G d bc bs mX9_newNameHere 31 l z h Q := by
  refine R_iconst dX9_newNameHere_31 (by decide) (fun l z h k => ?_) k
  exact R_icmp_ne dX9_newNameHere_32 (by decide) (fun _ _ _ k => k) (fun _ _ _ k => k) k
theorem bX9_newNameHere_35 {G : Gt} {d bc bs : Nat} {Q : QT} {l : Ls} {z : List Value} {h : Hp} (k : (tAld 1 (tAld 0 (tGetf 8 3 (tAld 0 (tGetf 8 6 (tJald (tCV1 G d 0 0 9 mX11_thingNamed (fun l z h => T G d bc bs mX9_newNameHere 48 l z h Q)))))))) l z h) : T G d bc bs mX9_newNameHere 35 l z h Q := by
  refine R_aload_n dX9_newNameHere_35 rfl (fun l z h k => ?_) k
  refine R_aload_n dX9_newNameHere_36 rfl (fun l z h k => ?_) k
  refine R_getf (ci := 8) (f := 3) (C := RX9) (N := 11) (Tt := TX9) dX9_newNameHere_37 rfl i_X9 (by decide) w_197 (fun l z h k => ?_) k
  refine R_aload_n dX9_newNameHere_40 rfl (fun l z h k => ?_) k
  refine R_getf (ci := 8) (f := 6) (C := RX9) (N := 11) (Tt := TX9) dX9_newNameHere_41 rfl i_X9 (by decide) w_200 (fun l z h k => ?_) k
  refine R_laload dX9_newNameHere_44 (fun l z h k => ?_) k
  exact R_cv1 (M := mX9_newNameHere) (pc := 45) (bc := bc) (bs := bs) (cb := 0) (cs := 0) (M' := mX11_thingNamed) dX9_newNameHere_45 rfl (by decide) w_689 w_136 w_686 w_687 w_688 (by decide +kernel) (fun _ _ _ k => k) k
theorem bX9_newNameHere_48 {G : Gt} {d bc bs : Nat} {Q : QT} {l : Ls} {z : List Value} {h : Hp} (k : (tPush (.int (-1)) (tIf2 (fun x y => x = y) (fun l z h => T G d bc bs mX9_newNameHere 57 l z h Q) (fun l z h => T G d bc bs mX9_newNameHere 52 l z h Q))) l z h) : T G d bc bs mX9_newNameHere 48 l z h Q := by
  refine R_iconst dX9_newNameHere_48 (by decide) (fun l z h k => ?_) k
  exact R_icmp_eq dX9_newNameHere_49 (by decide) (fun _ _ _ k => k) (fun _ _ _ k => k) k
theorem bX9_newNameHere_52 {G : Gt} {d bc bs : Nat} {Q : QT} {l : Ls} {z : List Value} {h : Hp} (k : (tAld 0 (tPush (.int 3) (tCV1 G d 0 0 8 mX9_fail (fun l z h => T G d bc bs mX9_newNameHere 57 l z h Q)))) l z h) : T G d bc bs mX9_newNameHere 52 l z h Q := by
  refine R_aload_n dX9_newNameHere_52 rfl (fun l z h k => ?_) k
  refine R_iconst dX9_newNameHere_53 (by decide) (fun l z h k => ?_) k
  exact R_cv1 (M := mX9_newNameHere) (pc := 54) (bc := bc) (bs := bs) (cb := 0) (cs := 0) (M' := mX9_fail) dX9_newNameHere_54 rfl (by decide) w_674 w_132 w_681 w_672 w_673 (by decide +kernel) (fun _ _ _ k => k) k
theorem bX9_newNameHere_57 {G : Gt} {d bc bs : Nat} {Q : QT} {l : Ls} {z : List Value} {h : Hp} (k : (tAld 0 (tGetf 8 3 (tAld 0 (tGetf 8 6 (tJald (tRetL Q)))))) l z h) : T G d bc bs mX9_newNameHere 57 l z h Q := by
  refine R_aload_n dX9_newNameHere_57 rfl (fun l z h k => ?_) k
  refine R_getf (ci := 8) (f := 3) (C := RX9) (N := 11) (Tt := TX9) dX9_newNameHere_58 rfl i_X9 (by decide) w_197 (fun l z h k => ?_) k
  refine R_aload_n dX9_newNameHere_61 rfl (fun l z h k => ?_) k
  refine R_getf (ci := 8) (f := 6) (C := RX9) (N := 11) (Tt := TX9) dX9_newNameHere_62 rfl i_X9 (by decide) w_200 (fun l z h k => ?_) k
  refine R_laload dX9_newNameHere_65 (fun l z h k => ?_) k
  exact R_lret dX9_newNameHere_66 rfl k
theorem dX9_personHere_0 : decode cX9_personHere 0 = .ok (.iconst (-1), 1) := by decide +kernel
theorem dX9_personHere_1 : decode cX9_personHere 1 = .ok (.istore_n 2, 1) := by decide +kernel
theorem dX9_personHere_2 : decode cX9_personHere 2 = .ok (.aload_n 0, 1) := by decide +kernel
theorem dX9_personHere_3 : decode cX9_personHere 3 = .ok (.getstatic 28, 3) := by decide +kernel
theorem dX9_personHere_6 : decode cX9_personHere 6 = .ok (.invokevirtual 129, 3) := by decide +kernel
theorem dX9_personHere_9 : decode cX9_personHere 9 = .ok (.ifCond .ne 11, 3) := by decide +kernel
theorem dX9_personHere_12 : decode cX9_personHere 12 = .ok (.aload_n 0, 1) := by decide +kernel
theorem dX9_personHere_13 : decode cX9_personHere 13 = .ok (.iconst 1, 1) := by decide +kernel
theorem dX9_personHere_14 : decode cX9_personHere 14 = .ok (.invokevirtual 122, 3) := by decide +kernel
theorem dX9_personHere_17 : decode cX9_personHere 17 = .ok (.goto 27, 3) := by decide +kernel
theorem dX9_personHere_20 : decode cX9_personHere 20 = .ok (.aload_n 1, 1) := by decide +kernel
theorem dX9_personHere_21 : decode cX9_personHere 21 = .ok (.aload_n 0, 1) := by decide +kernel
theorem dX9_personHere_22 : decode cX9_personHere 22 = .ok (.getfield 18, 3) := by decide +kernel
theorem dX9_personHere_25 : decode cX9_personHere 25 = .ok (.aload_n 0, 1) := by decide +kernel
theorem dX9_personHere_26 : decode cX9_personHere 26 = .ok (.getfield 84, 3) := by decide +kernel
theorem dX9_personHere_29 : decode cX9_personHere 29 = .ok (.laload, 1) := by decide +kernel
theorem dX9_personHere_30 : decode cX9_personHere 30 = .ok (.invokevirtual 139, 3) := by decide +kernel
theorem dX9_personHere_33 : decode cX9_personHere 33 = .ok (.istore_n 2, 1) := by decide +kernel
theorem dX9_personHere_34 : decode cX9_personHere 34 = .ok (.iload_n 2, 1) := by decide +kernel
theorem dX9_personHere_35 : decode cX9_personHere 35 = .ok (.iconst (-1), 1) := by decide +kernel
theorem dX9_personHere_36 : decode cX9_personHere 36 = .ok (.if_icmp .ne 8, 3) := by decide +kernel
theorem dX9_personHere_39 : decode cX9_personHere 39 = .ok (.aload_n 0, 1) := by decide +kernel
theorem dX9_personHere_40 : decode cX9_personHere 40 = .ok (.iconst 3, 1) := by decide +kernel
theorem dX9_personHere_41 : decode cX9_personHere 41 = .ok (.invokevirtual 122, 3) := by decide +kernel
theorem dX9_personHere_44 : decode cX9_personHere 44 = .ok (.iload_n 2, 1) := by decide +kernel
theorem dX9_personHere_45 : decode cX9_personHere 45 = .ok (.ireturn, 1) := by decide +kernel
theorem bX9_personHere_0 {G : Gt} {d bc bs : Nat} {Q : QT} {l : Ls} {z : List Value} {h : Hp} (k : (tPush (.int (-1)) (tIst 2 (tAld 0 (tPush (.ref (adW G 0)) (tCV1 G d 0 0 8 mX9_isAt (fun l z h => T G d bc bs mX9_personHere 9 l z h Q)))))) l z h) : T G d bc bs mX9_personHere 0 l z h Q := by
  refine R_iconst dX9_personHere_0 (by decide) (fun l z h k => ?_) k
  refine R_istore_n dX9_personHere_1 rfl (by decide) (fun l z h k => ?_) k
  refine R_aload_n dX9_personHere_2 rfl (fun l z h k => ?_) k
  refine R_word (k := 0) dX9_personHere_3 (by decide) rfl w_192 (fun l z h k => ?_) k
  exact R_cv1 (M := mX9_personHere) (pc := 6) (bc := bc) (bs := bs) (cb := 0) (cs := 0) (M' := mX9_isAt) dX9_personHere_6 rfl (by decide) w_666 w_132 w_680 w_664 w_665 (by decide +kernel) (fun _ _ _ k => k) k
theorem bX9_personHere_9 {G : Gt} {d bc bs : Nat} {Q : QT} {l : Ls} {z : List Value} {h : Hp} (k : (tIf (fun x => x = 0) (fun l z h => T G d bc bs mX9_personHere 12 l z h Q) (fun l z h => T G d bc bs mX9_personHere 20 l z h Q)) l z h) : T G d bc bs mX9_personHere 9 l z h Q := by
  exact R_if_ne dX9_personHere_9 (by decide) (fun _ _ _ k => k) (fun _ _ _ k => k) k
theorem bX9_personHere_12 {G : Gt} {d bc bs : Nat} {Q : QT} {l : Ls} {z : List Value} {h : Hp} (k : (tAld 0 (tPush (.int 1) (tCV1 G d 0 0 8 mX9_fail (fun l z h => T G d bc bs mX9_personHere 17 l z h Q)))) l z h) : T G d bc bs mX9_personHere 12 l z h Q := by
  refine R_aload_n dX9_personHere_12 rfl (fun l z h k => ?_) k
  refine R_iconst dX9_personHere_13 (by decide) (fun l z h k => ?_) k
  exact R_cv1 (M := mX9_personHere) (pc := 14) (bc := bc) (bs := bs) (cb := 0) (cs := 0) (M' := mX9_fail) dX9_personHere_14 rfl (by decide) w_674 w_132 w_681 w_672 w_673 (by decide +kernel) (fun _ _ _ k => k) k
theorem bX9_personHere_17 {G : Gt} {d bc bs : Nat} {Q : QT} {l : Ls} {z : List Value} {h : Hp} (k : (fun l z h => T G d bc bs mX9_personHere 44 l z h Q) l z h) : T G d bc bs mX9_personHere 17 l z h Q := by
  exact R_goto dX9_personHere_17 (by decide) (fun _ _ _ k => k) k
theorem bX9_personHere_20 {G : Gt} {d bc bs : Nat} {Q : QT} {l : Ls} {z : List Value} {h : Hp} (k : (tAld 1 (tAld 0 (tGetf 8 3 (tAld 0 (tGetf 8 6 (tJald (tCV1 G d 0 0 9 mX11_personNamed (fun l z h => T G d bc bs mX9_personHere 33 l z h Q)))))))) l z h) : T G d bc bs mX9_personHere 20 l z h Q := by
  refine R_aload_n dX9_personHere_20 rfl (fun l z h k => ?_) k
  refine R_aload_n dX9_personHere_21 rfl (fun l z h k => ?_) k
  refine R_getf (ci := 8) (f := 3) (C := RX9) (N := 11) (Tt := TX9) dX9_personHere_22 rfl i_X9 (by decide) w_197 (fun l z h k => ?_) k
  refine R_aload_n dX9_personHere_25 rfl (fun l z h k => ?_) k
  refine R_getf (ci := 8) (f := 6) (C := RX9) (N := 11) (Tt := TX9) dX9_personHere_26 rfl i_X9 (by decide) w_200 (fun l z h k => ?_) k
  refine R_laload dX9_personHere_29 (fun l z h k => ?_) k
  exact R_cv1 (M := mX9_personHere) (pc := 30) (bc := bc) (bs := bs) (cb := 0) (cs := 0) (M' := mX11_personNamed) dX9_personHere_30 rfl (by decide) w_685 w_136 w_682 w_683 w_684 (by decide +kernel) (fun _ _ _ k => k) k
theorem bX9_personHere_33 {G : Gt} {d bc bs : Nat} {Q : QT} {l : Ls} {z : List Value} {h : Hp} (k : (tIst 2 (tIld 2 (tPush (.int (-1)) (tIf2 (fun x y => x = y) (fun l z h => T G d bc bs mX9_personHere 39 l z h Q) (fun l z h => T G d bc bs mX9_personHere 44 l z h Q))))) l z h) : T G d bc bs mX9_personHere 33 l z h Q := by
  refine R_istore_n dX9_personHere_33 rfl (by decide) (fun l z h k => ?_) k
  refine R_iload_n dX9_personHere_34 rfl (fun l z h k => ?_) k
  refine R_iconst dX9_personHere_35 (by decide) (fun l z h k => ?_) k
  exact R_icmp_ne dX9_personHere_36 (by decide) (fun _ _ _ k => k) (fun _ _ _ k => k) k
theorem bX9_personHere_39 {G : Gt} {d bc bs : Nat} {Q : QT} {l : Ls} {z : List Value} {h : Hp} (k : (tAld 0 (tPush (.int 3) (tCV1 G d 0 0 8 mX9_fail (fun l z h => T G d bc bs mX9_personHere 44 l z h Q)))) l z h) : T G d bc bs mX9_personHere 39 l z h Q := by
  refine R_aload_n dX9_personHere_39 rfl (fun l z h k => ?_) k
  refine R_iconst dX9_personHere_40 (by decide) (fun l z h k => ?_) k
  exact R_cv1 (M := mX9_personHere) (pc := 41) (bc := bc) (bs := bs) (cb := 0) (cs := 0) (M' := mX9_fail) dX9_personHere_41 rfl (by decide) w_674 w_132 w_681 w_672 w_673 (by decide +kernel) (fun _ _ _ k => k) k
theorem bX9_personHere_44 {G : Gt} {d bc bs : Nat} {Q : QT} {l : Ls} {z : List Value} {h : Hp} (k : (tIld 2 (tRetI Q)) l z h) : T G d bc bs mX9_personHere 44 l z h Q := by
  refine R_iload_n dX9_personHere_44 rfl (fun l z h k => ?_) k
  exact R_iret dX9_personHere_45 rfl k
theorem dX9_thingHere_0 : decode cX9_thingHere 0 = .ok (.iconst (-1), 1) := by decide +kernel
theorem dX9_thingHere_1 : decode cX9_thingHere 1 = .ok (.istore_n 2, 1) := by decide +kernel
theorem dX9_thingHere_2 : decode cX9_thingHere 2 = .ok (.aload_n 0, 1) := by decide +kernel
theorem dX9_thingHere_3 : decode cX9_thingHere 3 = .ok (.getstatic 28, 3) := by decide +kernel
theorem dX9_thingHere_6 : decode cX9_thingHere 6 = .ok (.invokevirtual 129, 3) := by decide +kernel
theorem dX9_thingHere_9 : decode cX9_thingHere 9 = .ok (.ifCond .ne 11, 3) := by decide +kernel
theorem dX9_thingHere_12 : decode cX9_thingHere 12 = .ok (.aload_n 0, 1) := by decide +kernel
theorem dX9_thingHere_13 : decode cX9_thingHere 13 = .ok (.iconst 1, 1) := by decide +kernel
theorem dX9_thingHere_14 : decode cX9_thingHere 14 = .ok (.invokevirtual 122, 3) := by decide +kernel
theorem dX9_thingHere_17 : decode cX9_thingHere 17 = .ok (.goto 27, 3) := by decide +kernel
theorem dX9_thingHere_20 : decode cX9_thingHere 20 = .ok (.aload_n 1, 1) := by decide +kernel
theorem dX9_thingHere_21 : decode cX9_thingHere 21 = .ok (.aload_n 0, 1) := by decide +kernel
theorem dX9_thingHere_22 : decode cX9_thingHere 22 = .ok (.getfield 18, 3) := by decide +kernel
theorem dX9_thingHere_25 : decode cX9_thingHere 25 = .ok (.aload_n 0, 1) := by decide +kernel
theorem dX9_thingHere_26 : decode cX9_thingHere 26 = .ok (.getfield 84, 3) := by decide +kernel
theorem dX9_thingHere_29 : decode cX9_thingHere 29 = .ok (.laload, 1) := by decide +kernel
theorem dX9_thingHere_30 : decode cX9_thingHere 30 = .ok (.invokevirtual 145, 3) := by decide +kernel
theorem dX9_thingHere_33 : decode cX9_thingHere 33 = .ok (.istore_n 2, 1) := by decide +kernel
theorem dX9_thingHere_34 : decode cX9_thingHere 34 = .ok (.iload_n 2, 1) := by decide +kernel
theorem dX9_thingHere_35 : decode cX9_thingHere 35 = .ok (.iconst (-1), 1) := by decide +kernel
theorem dX9_thingHere_36 : decode cX9_thingHere 36 = .ok (.if_icmp .ne 8, 3) := by decide +kernel
theorem dX9_thingHere_39 : decode cX9_thingHere 39 = .ok (.aload_n 0, 1) := by decide +kernel
theorem dX9_thingHere_40 : decode cX9_thingHere 40 = .ok (.iconst 3, 1) := by decide +kernel
theorem dX9_thingHere_41 : decode cX9_thingHere 41 = .ok (.invokevirtual 122, 3) := by decide +kernel
theorem dX9_thingHere_44 : decode cX9_thingHere 44 = .ok (.iload_n 2, 1) := by decide +kernel
theorem dX9_thingHere_45 : decode cX9_thingHere 45 = .ok (.ireturn, 1) := by decide +kernel
theorem bX9_thingHere_0 {G : Gt} {d bc bs : Nat} {Q : QT} {l : Ls} {z : List Value} {h : Hp} (k : (tPush (.int (-1)) (tIst 2 (tAld 0 (tPush (.ref (adW G 0)) (tCV1 G d 0 0 8 mX9_isAt (fun l z h => T G d bc bs mX9_thingHere 9 l z h Q)))))) l z h) : T G d bc bs mX9_thingHere 0 l z h Q := by
  refine R_iconst dX9_thingHere_0 (by decide) (fun l z h k => ?_) k
  refine R_istore_n dX9_thingHere_1 rfl (by decide) (fun l z h k => ?_) k
  refine R_aload_n dX9_thingHere_2 rfl (fun l z h k => ?_) k
  refine R_word (k := 0) dX9_thingHere_3 (by decide) rfl w_192 (fun l z h k => ?_) k
  exact R_cv1 (M := mX9_thingHere) (pc := 6) (bc := bc) (bs := bs) (cb := 0) (cs := 0) (M' := mX9_isAt) dX9_thingHere_6 rfl (by decide) w_666 w_132 w_680 w_664 w_665 (by decide +kernel) (fun _ _ _ k => k) k
theorem bX9_thingHere_9 {G : Gt} {d bc bs : Nat} {Q : QT} {l : Ls} {z : List Value} {h : Hp} (k : (tIf (fun x => x = 0) (fun l z h => T G d bc bs mX9_thingHere 12 l z h Q) (fun l z h => T G d bc bs mX9_thingHere 20 l z h Q)) l z h) : T G d bc bs mX9_thingHere 9 l z h Q := by
  exact R_if_ne dX9_thingHere_9 (by decide) (fun _ _ _ k => k) (fun _ _ _ k => k) k
theorem bX9_thingHere_12 {G : Gt} {d bc bs : Nat} {Q : QT} {l : Ls} {z : List Value} {h : Hp} (k : (tAld 0 (tPush (.int 1) (tCV1 G d 0 0 8 mX9_fail (fun l z h => T G d bc bs mX9_thingHere 17 l z h Q)))) l z h) : T G d bc bs mX9_thingHere 12 l z h Q := by
  refine R_aload_n dX9_thingHere_12 rfl (fun l z h k => ?_) k
  refine R_iconst dX9_thingHere_13 (by decide) (fun l z h k => ?_) k
  exact R_cv1 (M := mX9_thingHere) (pc := 14) (bc := bc) (bs := bs) (cb := 0) (cs := 0) (M' := mX9_fail) dX9_thingHere_14 rfl (by decide) w_674 w_132 w_681 w_672 w_673 (by decide +kernel) (fun _ _ _ k => k) k
theorem bX9_thingHere_17 {G : Gt} {d bc bs : Nat} {Q : QT} {l : Ls} {z : List Value} {h : Hp} (k : (fun l z h => T G d bc bs mX9_thingHere 44 l z h Q) l z h) : T G d bc bs mX9_thingHere 17 l z h Q := by
  exact R_goto dX9_thingHere_17 (by decide) (fun _ _ _ k => k) k
theorem bX9_thingHere_20 {G : Gt} {d bc bs : Nat} {Q : QT} {l : Ls} {z : List Value} {h : Hp} (k : (tAld 1 (tAld 0 (tGetf 8 3 (tAld 0 (tGetf 8 6 (tJald (tCV1 G d 0 0 9 mX11_thingNamed (fun l z h => T G d bc bs mX9_thingHere 33 l z h Q)))))))) l z h) : T G d bc bs mX9_thingHere 20 l z h Q := by
  refine R_aload_n dX9_thingHere_20 rfl (fun l z h k => ?_) k
  refine R_aload_n dX9_thingHere_21 rfl (fun l z h k => ?_) k
  refine R_getf (ci := 8) (f := 3) (C := RX9) (N := 11) (Tt := TX9) dX9_thingHere_22 rfl i_X9 (by decide) w_197 (fun l z h k => ?_) k
  refine R_aload_n dX9_thingHere_25 rfl (fun l z h k => ?_) k
  refine R_getf (ci := 8) (f := 6) (C := RX9) (N := 11) (Tt := TX9) dX9_thingHere_26 rfl i_X9 (by decide) w_200 (fun l z h k => ?_) k
  refine R_laload dX9_thingHere_29 (fun l z h k => ?_) k
  exact R_cv1 (M := mX9_thingHere) (pc := 30) (bc := bc) (bs := bs) (cb := 0) (cs := 0) (M' := mX11_thingNamed) dX9_thingHere_30 rfl (by decide) w_689 w_136 w_686 w_687 w_688 (by decide +kernel) (fun _ _ _ k => k) k
theorem bX9_thingHere_33 {G : Gt} {d bc bs : Nat} {Q : QT} {l : Ls} {z : List Value} {h : Hp} (k : (tIst 2 (tIld 2 (tPush (.int (-1)) (tIf2 (fun x y => x = y) (fun l z h => T G d bc bs mX9_thingHere 39 l z h Q) (fun l z h => T G d bc bs mX9_thingHere 44 l z h Q))))) l z h) : T G d bc bs mX9_thingHere 33 l z h Q := by
  refine R_istore_n dX9_thingHere_33 rfl (by decide) (fun l z h k => ?_) k
  refine R_iload_n dX9_thingHere_34 rfl (fun l z h k => ?_) k
  refine R_iconst dX9_thingHere_35 (by decide) (fun l z h k => ?_) k
  exact R_icmp_ne dX9_thingHere_36 (by decide) (fun _ _ _ k => k) (fun _ _ _ k => k) k
theorem bX9_thingHere_39 {G : Gt} {d bc bs : Nat} {Q : QT} {l : Ls} {z : List Value} {h : Hp} (k : (tAld 0 (tPush (.int 3) (tCV1 G d 0 0 8 mX9_fail (fun l z h => T G d bc bs mX9_thingHere 44 l z h Q)))) l z h) : T G d bc bs mX9_thingHere 39 l z h Q := by
  refine R_aload_n dX9_thingHere_39 rfl (fun l z h k => ?_) k
  refine R_iconst dX9_thingHere_40 (by decide) (fun l z h k => ?_) k
  exact R_cv1 (M := mX9_thingHere) (pc := 41) (bc := bc) (bs := bs) (cb := 0) (cs := 0) (M' := mX9_fail) dX9_thingHere_41 rfl (by decide) w_674 w_132 w_681 w_672 w_673 (by decide +kernel) (fun _ _ _ k => k) k
theorem bX9_thingHere_44 {G : Gt} {d bc bs : Nat} {Q : QT} {l : Ls} {z : List Value} {h : Hp} (k : (tIld 2 (tRetI Q)) l z h) : T G d bc bs mX9_thingHere 44 l z h Q := by
  refine R_iload_n dX9_thingHere_44 rfl (fun l z h k => ?_) k
  exact R_iret dX9_thingHere_45 rfl k
