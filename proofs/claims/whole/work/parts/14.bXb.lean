theorem dX1_init_0 : decode cX1_init 0 = .ok (.aload_n 0, 1) := by decide +kernel
theorem dX1_init_1 : decode cX1_init 1 = .ok (.invokespecial 3, 3) := by decide +kernel
theorem dX1_init_4 : decode cX1_init 4 = .ok (.aload_n 0, 1) := by decide +kernel
theorem dX1_init_5 : decode cX1_init 5 = .ok (.bipush 40, 2) := by decide +kernel
theorem dX1_init_7 : decode cX1_init 7 = .ok (.anewarray 11, 3) := by decide +kernel
theorem dX1_init_10 : decode cX1_init 10 = .ok (.putfield 13, 3) := by decide +kernel
theorem dX1_init_13 : decode cX1_init 13 = .ok (.aload_n 0, 1) := by decide +kernel
theorem dX1_init_14 : decode cX1_init 14 = .ok (.bipush 40, 2) := by decide +kernel
theorem dX1_init_16 : decode cX1_init 16 = .ok (.iconst 4, 1) := by decide +kernel
theorem dX1_init_17 : decode cX1_init 17 = .ok (.multianewarray 17 2, 4) := by decide +kernel
theorem dX1_init_21 : decode cX1_init 21 = .ok (.putfield 19, 3) := by decide +kernel
theorem dX1_init_24 : decode cX1_init 24 = .ok (.aload_n 0, 1) := by decide +kernel
theorem dX1_init_25 : decode cX1_init 25 = .ok (.new 22, 3) := by decide +kernel
theorem dX1_init_28 : decode cX1_init 28 = .ok (.dup, 1) := by decide +kernel
theorem dX1_init_29 : decode cX1_init 29 = .ok (.invokespecial 24, 3) := by decide +kernel
theorem dX1_init_32 : decode cX1_init 32 = .ok (.putfield 25, 3) := by decide +kernel
theorem dX1_init_35 : decode cX1_init 35 = .ok (.aload_n 0, 1) := by decide +kernel
theorem dX1_init_36 : decode cX1_init 36 = .ok (.iconst 4, 1) := by decide +kernel
theorem dX1_init_37 : decode cX1_init 37 = .ok (.newarray .int, 2) := by decide +kernel
theorem dX1_init_39 : decode cX1_init 39 = .ok (.putfield 29, 3) := by decide +kernel
theorem dX1_init_42 : decode cX1_init 42 = .ok (.aload_n 0, 1) := by decide +kernel
theorem dX1_init_43 : decode cX1_init 43 = .ok (.aload_n 1, 1) := by decide +kernel
theorem dX1_init_44 : decode cX1_init 44 = .ok (.putfield 33, 3) := by decide +kernel
theorem dX1_init_47 : decode cX1_init 47 = .ok (.aload_n 0, 1) := by decide +kernel
theorem dX1_init_48 : decode cX1_init 48 = .ok (.getfield 29, 3) := by decide +kernel
theorem dX1_init_51 : decode cX1_init 51 = .ok (.iconst (-1), 1) := by decide +kernel
theorem dX1_init_52 : decode cX1_init 52 = .ok (.invokestatic 37, 3) := by decide +kernel
theorem dX1_init_55 : decode cX1_init 55 = .ok (.iconst 0, 1) := by decide +kernel
theorem dX1_init_56 : decode cX1_init 56 = .ok (.istore_n 2, 1) := by decide +kernel
theorem dX1_init_57 : decode cX1_init 57 = .ok (.iload_n 2, 1) := by decide +kernel
theorem dX1_init_58 : decode cX1_init 58 = .ok (.bipush 40, 2) := by decide +kernel
theorem dX1_init_60 : decode cX1_init 60 = .ok (.if_icmp .ge 18, 3) := by decide +kernel
theorem dX1_init_63 : decode cX1_init 63 = .ok (.aload_n 0, 1) := by decide +kernel
theorem dX1_init_64 : decode cX1_init 64 = .ok (.getfield 13, 3) := by decide +kernel
theorem dX1_init_67 : decode cX1_init 67 = .ok (.iload_n 2, 1) := by decide +kernel
theorem dX1_init_68 : decode cX1_init 68 = .ok (.getstatic 43, 3) := by decide +kernel
theorem dX1_init_71 : decode cX1_init 71 = .ok (.aastore, 1) := by decide +kernel
theorem dX1_init_72 : decode cX1_init 72 = .ok (.iinc 2 1, 3) := by decide +kernel
theorem dX1_init_75 : decode cX1_init 75 = .ok (.goto (-18), 3) := by decide +kernel
theorem dX1_init_78 : decode cX1_init 78 = .ok (.return_, 1) := by decide +kernel
theorem bX1_init_0 {G : Gt} {d bc bs : Nat} {Q : QT} {l : Ls} {z : List Value} {h : Hp} (hd1 : 1 ≤ d) (k : (tAld 0 (tObj ((fun l z h => T G d bc bs mX1_init 4 l z h Q)))) l z h) : T G d bc bs mX1_init 0 l z h Q := by
  refine R_aload_n dX1_init_0 rfl (fun l z h k => ?_) k
  refine R_obj dX1_init_1 hd1 w_333 w_163 w_164 (fun l z h k => ?_) k
  exact k
theorem bX1_init_32 {G : Gt} {d bc bs : Nat} {Q : QT} {l : Ls} {z : List Value} {h : Hp} (k : (tPutf isA 0 4 (tAld 0 (tPush (.int 4) (tNewI 0 4 (tPutf isA 0 5 (tAld 0 (tAld 1 (tPutf isA 0 0 (tAld 0 (tGetf 0 5 (tPush (.int (-1)) (tCS2 G d 0 0 mJ7_fill_53178 (fun l z h => T G d bc bs mX1_init 55 l z h Q))))))))))))) l z h) : T G d (bc + 1) (bs + 4) mX1_init 32 l z h Q := by
  refine R_putF (ci := 0) (f := 4) (C := RX1) (N := 6) (Tt := TX1) tyX1 tyX1_ok nmX1 dX1_init_32 rfl i_X1 (by decide) w_347 rfl rfl rfl (tyX1_ok 4 (by decide)) (p_ref rfl) (fun l z h k => ?_) k
  refine R_aload_n dX1_init_35 rfl (fun l z h k => ?_) k
  refine R_iconst dX1_init_36 (by decide) (fun l z h k => ?_) k
  refine R_newI (ty := .int) dX1_init_37 (by decide) rfl rfl (fun _ _ => rfl) rfl w_183 (by decide) (fun l z h k => ?_) k
  refine R_putF (ci := 0) (f := 5) (C := RX1) (N := 6) (Tt := TX1) tyX1 tyX1_ok nmX1 dX1_init_39 rfl i_X1 (by decide) w_349 rfl rfl rfl (tyX1_ok 5 (by decide)) (p_ref rfl) (fun l z h k => ?_) k
  refine R_aload_n dX1_init_42 rfl (fun l z h k => ?_) k
  refine R_aload_n dX1_init_43 rfl (fun l z h k => ?_) k
  refine R_putF (ci := 0) (f := 0) (C := RX1) (N := 6) (Tt := TX1) tyX1 tyX1_ok nmX1 dX1_init_44 rfl i_X1 (by decide) w_343 rfl rfl rfl (tyX1_ok 0 (by decide)) (p_ref rfl) (fun l z h k => ?_) k
  refine R_aload_n dX1_init_47 rfl (fun l z h k => ?_) k
  refine R_getf (ci := 0) (f := 5) (C := RX1) (N := 6) (Tt := TX1) dX1_init_48 rfl i_X1 (by decide) w_349 (fun l z h k => ?_) k
  refine R_iconst dX1_init_51 (by decide) (fun l z h k => ?_) k
  exact R_cs2 (M := mX1_init) (pc := 52) (bc := bc) (bs := bs) (cb := 0) (cs := 0) (M' := mJ7_fill_53178) dX1_init_52 (by decide) w_341 w_138 w_339 w_340 (by decide +kernel) (fun _ _ _ k => k) k
theorem bX1_init_55 {G : Gt} {d bc bs : Nat} {Q : QT} {l : Ls} {z : List Value} {h : Hp} (k : (tPush (.int 0) (tIst 2 ((fun l z h => T G d bc bs mX1_init 57 l z h Q)))) l z h) : T G d bc bs mX1_init 55 l z h Q := by
  refine R_iconst dX1_init_55 (by decide) (fun l z h k => ?_) k
  refine R_istore_n dX1_init_56 rfl (by decide) (fun l z h k => ?_) k
  exact k
theorem bX1_init_57 {G : Gt} {d bc bs : Nat} {Q : QT} {l : Ls} {z : List Value} {h : Hp} (k : (tIld 2 (tPush (.int 40) (tIf2 (fun x y => y ≤ x) (fun l z h => T G d bc bs mX1_init 78 l z h Q) (fun l z h => T G d bc bs mX1_init 63 l z h Q)))) l z h) : T G d bc bs mX1_init 57 l z h Q := by
  refine R_iload_n dX1_init_57 rfl (fun l z h k => ?_) k
  refine R_bipush dX1_init_58 (by decide) (fun l z h k => ?_) k
  exact R_icmp_ge dX1_init_60 (by decide) (fun _ _ _ k => k) (fun _ _ _ k => k) k
theorem bX1_init_63 {G : Gt} {d bc bs : Nat} {Q : QT} {l : Ls} {z : List Value} {h : Hp} (k : (tAld 0 (tGetf 0 1 (tIld 2 (tPush (.ref (adW G 0)) (tRast 0 (pWord G) (tInc 2 1 ((fun l z h => T G d bc bs mX1_init 57 l z h Q)))))))) l z h) : T G d bc bs mX1_init 63 l z h Q := by
  refine R_aload_n dX1_init_63 rfl (fun l z h k => ?_) k
  refine R_getf (ci := 0) (f := 1) (C := RX1) (N := 6) (Tt := TX1) dX1_init_64 rfl i_X1 (by decide) w_344 (fun l z h k => ?_) k
  refine R_iload_n dX1_init_67 rfl (fun l z h k => ?_) k
  refine R_word (k := 0) dX1_init_68 (by decide) rfl w_342 (fun l z h k => ?_) k
  refine R_aastore (C := "BridgeToll$Word") dX1_init_71 (by decide) rfl pWord_ok (fun l z h k => ?_) k
  refine R_iinc dX1_init_72 (by decide) (by decide) (fun l z h k => ?_) k
  exact R_goto dX1_init_75 (by decide) (fun _ _ _ k => k) k
theorem bX1_init_78 {G : Gt} {d bc bs : Nat} {Q : QT} {l : Ls} {z : List Value} {h : Hp} (k : (tRetV Q) l z h) : T G d bc bs mX1_init 78 l z h Q := by
  exact R_vret dX1_init_78 rfl k
theorem dX1_readLines_0 : decode cX1_readLines 0 = .ok (.aload_n 0, 1) := by decide +kernel
theorem dX1_readLines_1 : decode cX1_readLines 1 = .ok (.iconst 0, 1) := by decide +kernel
theorem dX1_readLines_2 : decode cX1_readLines 2 = .ok (.putfield 47, 3) := by decide +kernel
theorem dX1_readLines_5 : decode cX1_readLines 5 = .ok (.aload_n 0, 1) := by decide +kernel
theorem dX1_readLines_6 : decode cX1_readLines 6 = .ok (.getfield 33, 3) := by decide +kernel
theorem dX1_readLines_9 : decode cX1_readLines 9 = .ok (.sipush 400, 3) := by decide +kernel
theorem dX1_readLines_12 : decode cX1_readLines 12 = .ok (.invokevirtual 51, 3) := by decide +kernel
theorem dX1_readLines_15 : decode cX1_readLines 15 = .ok (.aload_n 0, 1) := by decide +kernel
theorem dX1_readLines_16 : decode cX1_readLines 16 = .ok (.getfield 47, 3) := by decide +kernel
theorem dX1_readLines_19 : decode cX1_readLines 19 = .ok (.bipush 40, 2) := by decide +kernel
theorem dX1_readLines_21 : decode cX1_readLines 21 = .ok (.if_icmp .ge 51, 3) := by decide +kernel
theorem dX1_readLines_24 : decode cX1_readLines 24 = .ok (.aload_n 0, 1) := by decide +kernel
theorem dX1_readLines_25 : decode cX1_readLines 25 = .ok (.getfield 33, 3) := by decide +kernel
theorem dX1_readLines_28 : decode cX1_readLines 28 = .ok (.invokevirtual 57, 3) := by decide +kernel
theorem dX1_readLines_31 : decode cX1_readLines 31 = .ok (.ifCond .eq 41, 3) := by decide +kernel
theorem dX1_readLines_34 : decode cX1_readLines 34 = .ok (.aload_n 0, 1) := by decide +kernel
theorem dX1_readLines_35 : decode cX1_readLines 35 = .ok (.getfield 33, 3) := by decide +kernel
theorem dX1_readLines_38 : decode cX1_readLines 38 = .ok (.getfield 61, 3) := by decide +kernel
theorem dX1_readLines_41 : decode cX1_readLines 41 = .ok (.iconst 1, 1) := by decide +kernel
theorem dX1_readLines_42 : decode cX1_readLines 42 = .ok (.if_icmp .eq 30, 3) := by decide +kernel
theorem dX1_readLines_45 : decode cX1_readLines 45 = .ok (.aload_n 0, 1) := by decide +kernel
theorem dX1_readLines_46 : decode cX1_readLines 46 = .ok (.aload_n 1, 1) := by decide +kernel
theorem dX1_readLines_47 : decode cX1_readLines 47 = .ok (.invokevirtual 64, 3) := by decide +kernel
theorem dX1_readLines_50 : decode cX1_readLines 50 = .ok (.aload_n 0, 1) := by decide +kernel
theorem dX1_readLines_51 : decode cX1_readLines 51 = .ok (.getfield 33, 3) := by decide +kernel
theorem dX1_readLines_54 : decode cX1_readLines 54 = .ok (.bipush 59, 2) := by decide +kernel
theorem dX1_readLines_56 : decode cX1_readLines 56 = .ok (.invokevirtual 68, 3) := by decide +kernel
theorem dX1_readLines_59 : decode cX1_readLines 59 = .ok (.aload_n 0, 1) := by decide +kernel
theorem dX1_readLines_60 : decode cX1_readLines 60 = .ok (.dup, 1) := by decide +kernel
theorem dX1_readLines_61 : decode cX1_readLines 61 = .ok (.getfield 47, 3) := by decide +kernel
theorem dX1_readLines_64 : decode cX1_readLines 64 = .ok (.iconst 1, 1) := by decide +kernel
theorem dX1_readLines_65 : decode cX1_readLines 65 = .ok (.iadd, 1) := by decide +kernel
theorem dX1_readLines_66 : decode cX1_readLines 66 = .ok (.putfield 47, 3) := by decide +kernel
theorem dX1_readLines_69 : decode cX1_readLines 69 = .ok (.goto (-54), 3) := by decide +kernel
theorem dX1_readLines_72 : decode cX1_readLines 72 = .ok (.aload_n 0, 1) := by decide +kernel
theorem dX1_readLines_73 : decode cX1_readLines 73 = .ok (.getfield 33, 3) := by decide +kernel
theorem dX1_readLines_76 : decode cX1_readLines 76 = .ok (.invokevirtual 57, 3) := by decide +kernel
theorem dX1_readLines_79 : decode cX1_readLines 79 = .ok (.ifCond .eq 19, 3) := by decide +kernel
theorem dX1_readLines_82 : decode cX1_readLines 82 = .ok (.aload_n 0, 1) := by decide +kernel
theorem dX1_readLines_83 : decode cX1_readLines 83 = .ok (.getfield 33, 3) := by decide +kernel
theorem dX1_readLines_86 : decode cX1_readLines 86 = .ok (.getfield 61, 3) := by decide +kernel
theorem dX1_readLines_89 : decode cX1_readLines 89 = .ok (.iconst 1, 1) := by decide +kernel
theorem dX1_readLines_90 : decode cX1_readLines 90 = .ok (.if_icmp .eq 8, 3) := by decide +kernel
theorem dX1_readLines_93 : decode cX1_readLines 93 = .ok (.aload_n 0, 1) := by decide +kernel
theorem dX1_readLines_94 : decode cX1_readLines 94 = .ok (.aload_n 1, 1) := by decide +kernel
theorem dX1_readLines_95 : decode cX1_readLines 95 = .ok (.invokevirtual 71, 3) := by decide +kernel
theorem dX1_readLines_98 : decode cX1_readLines 98 = .ok (.return_, 1) := by decide +kernel
theorem bX1_readLines_0 {G : Gt} {d bc bs : Nat} {Q : QT} {l : Ls} {z : List Value} {h : Hp} (k : (tAld 0 (tPush (.int 0) (tPutf isI 0 3 (tAld 0 (tGetf 0 0 (tPush (.int 400) (tCV1 G d 0 0 8 mX9_begin (fun l z h => T G d bc bs mX1_readLines 15 l z h Q)))))))) l z h) : T G d bc bs mX1_readLines 0 l z h Q := by
  refine R_aload_n dX1_readLines_0 rfl (fun l z h k => ?_) k
  refine R_iconst dX1_readLines_1 (by decide) (fun l z h k => ?_) k
  refine R_putf (ci := 0) (f := 3) (C := RX1) (N := 6) (Tt := TX1) tyX1 tyX1_ok nmX1 dX1_readLines_2 rfl i_X1 (by decide) w_346 rfl (tyX1_ok 3 (by decide)) p_int (fun l z h k => ?_) k
  refine R_aload_n dX1_readLines_5 rfl (fun l z h k => ?_) k
  refine R_getf (ci := 0) (f := 0) (C := RX1) (N := 6) (Tt := TX1) dX1_readLines_6 rfl i_X1 (by decide) w_343 (fun l z h k => ?_) k
  refine R_sipush dX1_readLines_9 (by decide) (fun l z h k => ?_) k
  exact R_cv1 (M := mX1_readLines) (pc := 12) (bc := bc) (bs := bs) (cb := 0) (cs := 0) (M' := mX9_begin) dX1_readLines_12 rfl (by decide) w_566 w_132 w_1207 w_564 w_565 (by decide +kernel) (fun _ _ _ k => k) k
theorem bX1_readLines_15 {G : Gt} {d bc bs : Nat} {Q : QT} {l : Ls} {z : List Value} {h : Hp} (k : (tAld 0 (tGetf 0 3 (tPush (.int 40) (tIf2 (fun x y => y ≤ x) (fun l z h => T G d bc bs mX1_readLines 72 l z h Q) (fun l z h => T G d bc bs mX1_readLines 24 l z h Q))))) l z h) : T G d bc bs mX1_readLines 15 l z h Q := by
  refine R_aload_n dX1_readLines_15 rfl (fun l z h k => ?_) k
  refine R_getf (ci := 0) (f := 3) (C := RX1) (N := 6) (Tt := TX1) dX1_readLines_16 rfl i_X1 (by decide) w_346 (fun l z h k => ?_) k
  refine R_bipush dX1_readLines_19 (by decide) (fun l z h k => ?_) k
  exact R_icmp_ge dX1_readLines_21 (by decide) (fun _ _ _ k => k) (fun _ _ _ k => k) k
theorem bX1_readLines_24 {G : Gt} {d bc bs : Nat} {Q : QT} {l : Ls} {z : List Value} {h : Hp} (k : (tAld 0 (tGetf 0 0 (tCV0 G d 0 0 8 mX9_isSound (fun l z h => T G d bc bs mX1_readLines 31 l z h Q)))) l z h) : T G d bc bs mX1_readLines 24 l z h Q := by
  refine R_aload_n dX1_readLines_24 rfl (fun l z h k => ?_) k
  refine R_getf (ci := 0) (f := 0) (C := RX1) (N := 6) (Tt := TX1) dX1_readLines_25 rfl i_X1 (by decide) w_343 (fun l z h k => ?_) k
  exact R_cv0 (M := mX1_readLines) (pc := 28) (bc := bc) (bs := bs) (cb := 0) (cs := 0) (M' := mX9_isSound) dX1_readLines_28 rfl (by decide) w_656 w_132 w_1208 w_654 w_655 (by decide +kernel) (fun _ _ _ k => k) k
theorem bX1_readLines_31 {G : Gt} {d bc bs : Nat} {Q : QT} {l : Ls} {z : List Value} {h : Hp} (k : (tIf (fun x => x = 0) (fun l z h => T G d bc bs mX1_readLines 72 l z h Q) (fun l z h => T G d bc bs mX1_readLines 34 l z h Q)) l z h) : T G d bc bs mX1_readLines 31 l z h Q := by
  exact R_if_eq dX1_readLines_31 (by decide) (fun _ _ _ k => k) (fun _ _ _ k => k) k
theorem bX1_readLines_34 {G : Gt} {d bc bs : Nat} {Q : QT} {l : Ls} {z : List Value} {h : Hp} (k : (tAld 0 (tGetf 0 0 (tGetf 8 7 (tPush (.int 1) (tIf2 (fun x y => x = y) (fun l z h => T G d bc bs mX1_readLines 72 l z h Q) (fun l z h => T G d bc bs mX1_readLines 45 l z h Q)))))) l z h) : T G d bc bs mX1_readLines 34 l z h Q := by
  refine R_aload_n dX1_readLines_34 rfl (fun l z h k => ?_) k
  refine R_getf (ci := 0) (f := 0) (C := RX1) (N := 6) (Tt := TX1) dX1_readLines_35 rfl i_X1 (by decide) w_343 (fun l z h k => ?_) k
  refine R_getf (ci := 8) (f := 7) (C := RX9) (N := 11) (Tt := TX9) dX1_readLines_38 rfl i_X9 (by decide) w_201 (fun l z h k => ?_) k
  refine R_iconst dX1_readLines_41 (by decide) (fun l z h k => ?_) k
  exact R_icmp_eq dX1_readLines_42 (by decide) (fun _ _ _ k => k) (fun _ _ _ k => k) k
theorem bX1_readLines_45 {G : Gt} {d bc bs : Nat} {Q : QT} {l : Ls} {z : List Value} {h : Hp} (k : (tAld 0 (tAld 1 (tCV1 G d 0 0 0 mX1_readLine (fun l z h => T G d bc bs mX1_readLines 50 l z h Q)))) l z h) : T G d bc bs mX1_readLines 45 l z h Q := by
  refine R_aload_n dX1_readLines_45 rfl (fun l z h k => ?_) k
  refine R_aload_n dX1_readLines_46 rfl (fun l z h k => ?_) k
  exact R_cv1 (M := mX1_readLines) (pc := 47) (bc := bc) (bs := bs) (cb := 0) (cs := 0) (M' := mX1_readLine) dX1_readLines_47 rfl (by decide) w_1212 w_137 w_1209 w_1211 w_27 (by decide +kernel) (fun _ _ _ k => k) k
theorem bX1_readLines_50 {G : Gt} {d bc bs : Nat} {Q : QT} {l : Ls} {z : List Value} {h : Hp} (k : (tAld 0 (tGetf 0 0 (tPush (.int 59) (tCV1 G d 0 0 8 mX9_takeSign (fun l z h => T G d bc bs mX1_readLines 59 l z h Q))))) l z h) : T G d bc bs mX1_readLines 50 l z h Q := by
  refine R_aload_n dX1_readLines_50 rfl (fun l z h k => ?_) k
  refine R_getf (ci := 0) (f := 0) (C := RX1) (N := 6) (Tt := TX1) dX1_readLines_51 rfl i_X1 (by decide) w_343 (fun l z h k => ?_) k
  refine R_bipush dX1_readLines_54 (by decide) (fun l z h k => ?_) k
  exact R_cv1 (M := mX1_readLines) (pc := 56) (bc := bc) (bs := bs) (cb := 0) (cs := 0) (M' := mX9_takeSign) dX1_readLines_56 rfl (by decide) w_775 w_132 w_1245 w_773 w_774 (by decide +kernel) (fun _ _ _ k => k) k
theorem bX1_readLines_59 {G : Gt} {d bc bs : Nat} {Q : QT} {l : Ls} {z : List Value} {h : Hp} (k : (tAld 0 (tDup (tGetf 0 3 (tPush (.int 1) (tB (fun x y => x + y) (tPutf isI 0 3 ((fun l z h => T G d bc bs mX1_readLines 15 l z h Q)))))))) l z h) : T G d bc bs mX1_readLines 59 l z h Q := by
  refine R_aload_n dX1_readLines_59 rfl (fun l z h k => ?_) k
  refine R_dup dX1_readLines_60 (fun l z h k => ?_) k
  refine R_getf (ci := 0) (f := 3) (C := RX1) (N := 6) (Tt := TX1) dX1_readLines_61 rfl i_X1 (by decide) w_346 (fun l z h k => ?_) k
  refine R_iconst dX1_readLines_64 (by decide) (fun l z h k => ?_) k
  refine R_iadd dX1_readLines_65 (fun l z h k => ?_) k
  refine R_putf (ci := 0) (f := 3) (C := RX1) (N := 6) (Tt := TX1) tyX1 tyX1_ok nmX1 dX1_readLines_66 rfl i_X1 (by decide) w_346 rfl (tyX1_ok 3 (by decide)) p_int (fun l z h k => ?_) k
  exact R_goto dX1_readLines_69 (by decide) (fun _ _ _ k => k) k
theorem bX1_readLines_72 {G : Gt} {d bc bs : Nat} {Q : QT} {l : Ls} {z : List Value} {h : Hp} (k : (tAld 0 (tGetf 0 0 (tCV0 G d 0 0 8 mX9_isSound (fun l z h => T G d bc bs mX1_readLines 79 l z h Q)))) l z h) : T G d bc bs mX1_readLines 72 l z h Q := by
  refine R_aload_n dX1_readLines_72 rfl (fun l z h k => ?_) k
  refine R_getf (ci := 0) (f := 0) (C := RX1) (N := 6) (Tt := TX1) dX1_readLines_73 rfl i_X1 (by decide) w_343 (fun l z h k => ?_) k
  exact R_cv0 (M := mX1_readLines) (pc := 76) (bc := bc) (bs := bs) (cb := 0) (cs := 0) (M' := mX9_isSound) dX1_readLines_76 rfl (by decide) w_656 w_132 w_1208 w_654 w_655 (by decide +kernel) (fun _ _ _ k => k) k
theorem bX1_readLines_79 {G : Gt} {d bc bs : Nat} {Q : QT} {l : Ls} {z : List Value} {h : Hp} (k : (tIf (fun x => x = 0) (fun l z h => T G d bc bs mX1_readLines 98 l z h Q) (fun l z h => T G d bc bs mX1_readLines 82 l z h Q)) l z h) : T G d bc bs mX1_readLines 79 l z h Q := by
  exact R_if_eq dX1_readLines_79 (by decide) (fun _ _ _ k => k) (fun _ _ _ k => k) k
theorem bX1_readLines_82 {G : Gt} {d bc bs : Nat} {Q : QT} {l : Ls} {z : List Value} {h : Hp} (k : (tAld 0 (tGetf 0 0 (tGetf 8 7 (tPush (.int 1) (tIf2 (fun x y => x = y) (fun l z h => T G d bc bs mX1_readLines 98 l z h Q) (fun l z h => T G d bc bs mX1_readLines 93 l z h Q)))))) l z h) : T G d bc bs mX1_readLines 82 l z h Q := by
  refine R_aload_n dX1_readLines_82 rfl (fun l z h k => ?_) k
  refine R_getf (ci := 0) (f := 0) (C := RX1) (N := 6) (Tt := TX1) dX1_readLines_83 rfl i_X1 (by decide) w_343 (fun l z h k => ?_) k
  refine R_getf (ci := 8) (f := 7) (C := RX9) (N := 11) (Tt := TX9) dX1_readLines_86 rfl i_X9 (by decide) w_201 (fun l z h k => ?_) k
  refine R_iconst dX1_readLines_89 (by decide) (fun l z h k => ?_) k
  exact R_icmp_eq dX1_readLines_90 (by decide) (fun _ _ _ k => k) (fun _ _ _ k => k) k
theorem bX1_readLines_93 {G : Gt} {d bc bs : Nat} {Q : QT} {l : Ls} {z : List Value} {h : Hp} (k : (tAld 0 (tAld 1 (tCV1 G d 0 0 0 mX1_refuseLine (fun l z h => T G d bc bs mX1_readLines 98 l z h Q)))) l z h) : T G d bc bs mX1_readLines 93 l z h Q := by
  refine R_aload_n dX1_readLines_93 rfl (fun l z h k => ?_) k
  refine R_aload_n dX1_readLines_94 rfl (fun l z h k => ?_) k
  exact R_cv1 (M := mX1_readLines) (pc := 95) (bc := bc) (bs := bs) (cb := 0) (cs := 0) (M' := mX1_refuseLine) dX1_readLines_95 rfl (by decide) w_1249 w_137 w_1246 w_1248 w_31 (by decide +kernel) (fun _ _ _ k => k) k
theorem bX1_readLines_98 {G : Gt} {d bc bs : Nat} {Q : QT} {l : Ls} {z : List Value} {h : Hp} (k : (tRetV Q) l z h) : T G d bc bs mX1_readLines 98 l z h Q := by
  exact R_vret dX1_readLines_98 rfl k
theorem dX1_refuseLine_0 : decode cX1_refuseLine 0 = .ok (.aload_n 0, 1) := by decide +kernel
theorem dX1_refuseLine_1 : decode cX1_refuseLine 1 = .ok (.getfield 33, 3) := by decide +kernel
theorem dX1_refuseLine_4 : decode cX1_refuseLine 4 = .ok (.getstatic 74, 3) := by decide +kernel
theorem dX1_refuseLine_7 : decode cX1_refuseLine 7 = .ok (.invokevirtual 77, 3) := by decide +kernel
theorem dX1_refuseLine_10 : decode cX1_refuseLine 10 = .ok (.ifCond .ne 25, 3) := by decide +kernel
theorem dX1_refuseLine_13 : decode cX1_refuseLine 13 = .ok (.aload_n 0, 1) := by decide +kernel
theorem dX1_refuseLine_14 : decode cX1_refuseLine 14 = .ok (.getfield 33, 3) := by decide +kernel
theorem dX1_refuseLine_17 : decode cX1_refuseLine 17 = .ok (.getstatic 81, 3) := by decide +kernel
theorem dX1_refuseLine_20 : decode cX1_refuseLine 20 = .ok (.invokevirtual 77, 3) := by decide +kernel
theorem dX1_refuseLine_23 : decode cX1_refuseLine 23 = .ok (.ifCond .ne 12, 3) := by decide +kernel
theorem dX1_refuseLine_26 : decode cX1_refuseLine 26 = .ok (.aload_n 0, 1) := by decide +kernel
theorem dX1_refuseLine_27 : decode cX1_refuseLine 27 = .ok (.getfield 33, 3) := by decide +kernel
theorem dX1_refuseLine_30 : decode cX1_refuseLine 30 = .ok (.aload_n 1, 1) := by decide +kernel
theorem dX1_refuseLine_31 : decode cX1_refuseLine 31 = .ok (.invokevirtual 84, 3) := by decide +kernel
theorem dX1_refuseLine_34 : decode cX1_refuseLine 34 = .ok (.pop, 1) := by decide +kernel
theorem dX1_refuseLine_35 : decode cX1_refuseLine 35 = .ok (.aload_n 0, 1) := by decide +kernel
theorem dX1_refuseLine_36 : decode cX1_refuseLine 36 = .ok (.getfield 33, 3) := by decide +kernel
theorem dX1_refuseLine_39 : decode cX1_refuseLine 39 = .ok (.iconst 4, 1) := by decide +kernel
theorem dX1_refuseLine_40 : decode cX1_refuseLine 40 = .ok (.invokevirtual 88, 3) := by decide +kernel
theorem dX1_refuseLine_43 : decode cX1_refuseLine 43 = .ok (.return_, 1) := by decide +kernel
theorem bX1_refuseLine_0 {G : Gt} {d bc bs : Nat} {Q : QT} {l : Ls} {z : List Value} {h : Hp} (k : (tAld 0 (tGetf 0 0 (tPush (.ref (adW G 13)) (tCV1 G d 0 0 8 mX9_isAt (fun l z h => T G d bc bs mX1_refuseLine 10 l z h Q))))) l z h) : T G d bc bs mX1_refuseLine 0 l z h Q := by
  refine R_aload_n dX1_refuseLine_0 rfl (fun l z h k => ?_) k
  refine R_getf (ci := 0) (f := 0) (C := RX1) (N := 6) (Tt := TX1) dX1_refuseLine_1 rfl i_X1 (by decide) w_343 (fun l z h k => ?_) k
  refine R_word (k := 13) dX1_refuseLine_4 (by decide) rfl w_1213 (fun l z h k => ?_) k
  exact R_cv1 (M := mX1_refuseLine) (pc := 7) (bc := bc) (bs := bs) (cb := 0) (cs := 0) (M' := mX9_isAt) dX1_refuseLine_7 rfl (by decide) w_666 w_132 w_1215 w_664 w_665 (by decide +kernel) (fun _ _ _ k => k) k
theorem bX1_refuseLine_10 {G : Gt} {d bc bs : Nat} {Q : QT} {l : Ls} {z : List Value} {h : Hp} (k : (tIf (fun x => x = 0) (fun l z h => T G d bc bs mX1_refuseLine 13 l z h Q) (fun l z h => T G d bc bs mX1_refuseLine 35 l z h Q)) l z h) : T G d bc bs mX1_refuseLine 10 l z h Q := by
  exact R_if_ne dX1_refuseLine_10 (by decide) (fun _ _ _ k => k) (fun _ _ _ k => k) k
theorem bX1_refuseLine_13 {G : Gt} {d bc bs : Nat} {Q : QT} {l : Ls} {z : List Value} {h : Hp} (k : (tAld 0 (tGetf 0 0 (tPush (.ref (adW G 14)) (tCV1 G d 0 0 8 mX9_isAt (fun l z h => T G d bc bs mX1_refuseLine 23 l z h Q))))) l z h) : T G d bc bs mX1_refuseLine 13 l z h Q := by
  refine R_aload_n dX1_refuseLine_13 rfl (fun l z h k => ?_) k
  refine R_getf (ci := 0) (f := 0) (C := RX1) (N := 6) (Tt := TX1) dX1_refuseLine_14 rfl i_X1 (by decide) w_343 (fun l z h k => ?_) k
  refine R_word (k := 14) dX1_refuseLine_17 (by decide) rfl w_1224 (fun l z h k => ?_) k
  exact R_cv1 (M := mX1_refuseLine) (pc := 20) (bc := bc) (bs := bs) (cb := 0) (cs := 0) (M' := mX9_isAt) dX1_refuseLine_20 rfl (by decide) w_666 w_132 w_1215 w_664 w_665 (by decide +kernel) (fun _ _ _ k => k) k
theorem bX1_refuseLine_23 {G : Gt} {d bc bs : Nat} {Q : QT} {l : Ls} {z : List Value} {h : Hp} (k : (tIf (fun x => x = 0) (fun l z h => T G d bc bs mX1_refuseLine 26 l z h Q) (fun l z h => T G d bc bs mX1_refuseLine 35 l z h Q)) l z h) : T G d bc bs mX1_refuseLine 23 l z h Q := by
  exact R_if_ne dX1_refuseLine_23 (by decide) (fun _ _ _ k => k) (fun _ _ _ k => k) k
theorem bX1_refuseLine_26 {G : Gt} {d bc bs : Nat} {Q : QT} {l : Ls} {z : List Value} {h : Hp} (k : (tAld 0 (tGetf 0 0 (tAld 1 (tCV1 G d 0 0 8 mX9_personHere (fun l z h => T G d bc bs mX1_refuseLine 34 l z h Q))))) l z h) : T G d bc bs mX1_refuseLine 26 l z h Q := by
  refine R_aload_n dX1_refuseLine_26 rfl (fun l z h k => ?_) k
  refine R_getf (ci := 0) (f := 0) (C := RX1) (N := 6) (Tt := TX1) dX1_refuseLine_27 rfl i_X1 (by decide) w_343 (fun l z h k => ?_) k
  refine R_aload_n dX1_refuseLine_30 rfl (fun l z h k => ?_) k
  exact R_cv1 (M := mX1_refuseLine) (pc := 31) (bc := bc) (bs := bs) (cb := 0) (cs := 0) (M' := mX9_personHere) dX1_refuseLine_31 rfl (by decide) w_731 w_132 w_1230 w_729 w_730 (by decide +kernel) (fun _ _ _ k => k) k
theorem bX1_refuseLine_34 {G : Gt} {d bc bs : Nat} {Q : QT} {l : Ls} {z : List Value} {h : Hp} (k : (tPop ((fun l z h => T G d bc bs mX1_refuseLine 35 l z h Q))) l z h) : T G d bc bs mX1_refuseLine 34 l z h Q := by
  refine R_pop dX1_refuseLine_34 (fun l z h k => ?_) k
  exact k
theorem bX1_refuseLine_35 {G : Gt} {d bc bs : Nat} {Q : QT} {l : Ls} {z : List Value} {h : Hp} (k : (tAld 0 (tGetf 0 0 (tPush (.int 4) (tCV1 G d 0 0 8 mX9_fail (fun l z h => T G d bc bs mX1_refuseLine 43 l z h Q))))) l z h) : T G d bc bs mX1_refuseLine 35 l z h Q := by
  refine R_aload_n dX1_refuseLine_35 rfl (fun l z h k => ?_) k
  refine R_getf (ci := 0) (f := 0) (C := RX1) (N := 6) (Tt := TX1) dX1_refuseLine_36 rfl i_X1 (by decide) w_343 (fun l z h k => ?_) k
  refine R_iconst dX1_refuseLine_39 (by decide) (fun l z h k => ?_) k
  exact R_cv1 (M := mX1_refuseLine) (pc := 40) (bc := bc) (bs := bs) (cb := 0) (cs := 0) (M' := mX9_fail) dX1_refuseLine_40 rfl (by decide) w_674 w_132 w_1244 w_672 w_673 (by decide +kernel) (fun _ _ _ k => k) k
theorem bX1_refuseLine_43 {G : Gt} {d bc bs : Nat} {Q : QT} {l : Ls} {z : List Value} {h : Hp} (k : (tRetV Q) l z h) : T G d bc bs mX1_refuseLine 43 l z h Q := by
  exact R_vret dX1_refuseLine_43 rfl k
theorem dX1_readLine_0 : decode cX1_readLine 0 = .ok (.aload_n 0, 1) := by decide +kernel
theorem dX1_readLine_1 : decode cX1_readLine 1 = .ok (.getfield 19, 3) := by decide +kernel
theorem dX1_readLine_4 : decode cX1_readLine 4 = .ok (.aload_n 0, 1) := by decide +kernel
theorem dX1_readLine_5 : decode cX1_readLine 5 = .ok (.getfield 47, 3) := by decide +kernel
theorem dX1_readLine_8 : decode cX1_readLine 8 = .ok (.aaload, 1) := by decide +kernel
theorem dX1_readLine_9 : decode cX1_readLine 9 = .ok (.astore_n 2, 1) := by decide +kernel
theorem dX1_readLine_10 : decode cX1_readLine 10 = .ok (.aload_n 0, 1) := by decide +kernel
theorem dX1_readLine_11 : decode cX1_readLine 11 = .ok (.getfield 33, 3) := by decide +kernel
theorem dX1_readLine_14 : decode cX1_readLine 14 = .ok (.getstatic 74, 3) := by decide +kernel
theorem dX1_readLine_17 : decode cX1_readLine 17 = .ok (.invokevirtual 77, 3) := by decide +kernel
theorem dX1_readLine_20 : decode cX1_readLine 20 = .ok (.ifCond .eq 56, 3) := by decide +kernel
theorem dX1_readLine_23 : decode cX1_readLine 23 = .ok (.aload_n 0, 1) := by decide +kernel
theorem dX1_readLine_24 : decode cX1_readLine 24 = .ok (.getfield 13, 3) := by decide +kernel
theorem dX1_readLine_27 : decode cX1_readLine 27 = .ok (.aload_n 0, 1) := by decide +kernel
theorem dX1_readLine_28 : decode cX1_readLine 28 = .ok (.getfield 47, 3) := by decide +kernel
theorem dX1_readLine_31 : decode cX1_readLine 31 = .ok (.getstatic 74, 3) := by decide +kernel
theorem dX1_readLine_34 : decode cX1_readLine 34 = .ok (.aastore, 1) := by decide +kernel
theorem dX1_readLine_35 : decode cX1_readLine 35 = .ok (.aload_n 0, 1) := by decide +kernel
theorem dX1_readLine_36 : decode cX1_readLine 36 = .ok (.getfield 33, 3) := by decide +kernel
theorem dX1_readLine_39 : decode cX1_readLine 39 = .ok (.invokevirtual 91, 3) := by decide +kernel
theorem dX1_readLine_42 : decode cX1_readLine 42 = .ok (.aload_n 2, 1) := by decide +kernel
theorem dX1_readLine_43 : decode cX1_readLine 43 = .ok (.iconst 0, 1) := by decide +kernel
theorem dX1_readLine_44 : decode cX1_readLine 44 = .ok (.aload_n 0, 1) := by decide +kernel
theorem dX1_readLine_45 : decode cX1_readLine 45 = .ok (.getfield 33, 3) := by decide +kernel
theorem dX1_readLine_48 : decode cX1_readLine 48 = .ok (.invokevirtual 94, 3) := by decide +kernel
theorem dX1_readLine_51 : decode cX1_readLine 51 = .ok (.iastore, 1) := by decide +kernel
theorem dX1_readLine_52 : decode cX1_readLine 52 = .ok (.aload_n 2, 1) := by decide +kernel
theorem dX1_readLine_53 : decode cX1_readLine 53 = .ok (.iconst 1, 1) := by decide +kernel
theorem dX1_readLine_54 : decode cX1_readLine 54 = .ok (.aload_n 0, 1) := by decide +kernel
theorem dX1_readLine_55 : decode cX1_readLine 55 = .ok (.aload_n 1, 1) := by decide +kernel
theorem dX1_readLine_56 : decode cX1_readLine 56 = .ok (.invokevirtual 98, 3) := by decide +kernel
theorem dX1_readLine_59 : decode cX1_readLine 59 = .ok (.iastore, 1) := by decide +kernel
theorem dX1_readLine_60 : decode cX1_readLine 60 = .ok (.aload_n 2, 1) := by decide +kernel
theorem dX1_readLine_61 : decode cX1_readLine 61 = .ok (.iconst 2, 1) := by decide +kernel
theorem dX1_readLine_62 : decode cX1_readLine 62 = .ok (.aload_n 0, 1) := by decide +kernel
theorem dX1_readLine_63 : decode cX1_readLine 63 = .ok (.getfield 33, 3) := by decide +kernel
theorem dX1_readLine_66 : decode cX1_readLine 66 = .ok (.iconst 0, 1) := by decide +kernel
theorem dX1_readLine_67 : decode cX1_readLine 67 = .ok (.bipush 12, 2) := by decide +kernel
theorem dX1_readLine_69 : decode cX1_readLine 69 = .ok (.invokevirtual 101, 3) := by decide +kernel
theorem dX1_readLine_72 : decode cX1_readLine 72 = .ok (.iastore, 1) := by decide +kernel
theorem dX1_readLine_73 : decode cX1_readLine 73 = .ok (.goto 81, 3) := by decide +kernel
theorem dX1_readLine_76 : decode cX1_readLine 76 = .ok (.aload_n 0, 1) := by decide +kernel
theorem dX1_readLine_77 : decode cX1_readLine 77 = .ok (.getfield 33, 3) := by decide +kernel
theorem dX1_readLine_80 : decode cX1_readLine 80 = .ok (.getstatic 81, 3) := by decide +kernel
theorem dX1_readLine_83 : decode cX1_readLine 83 = .ok (.invokevirtual 77, 3) := by decide +kernel
theorem dX1_readLine_86 : decode cX1_readLine 86 = .ok (.ifCond .eq 38, 3) := by decide +kernel
theorem dX1_readLine_89 : decode cX1_readLine 89 = .ok (.aload_n 0, 1) := by decide +kernel
theorem dX1_readLine_90 : decode cX1_readLine 90 = .ok (.getfield 13, 3) := by decide +kernel
theorem dX1_readLine_93 : decode cX1_readLine 93 = .ok (.aload_n 0, 1) := by decide +kernel
theorem dX1_readLine_94 : decode cX1_readLine 94 = .ok (.getfield 47, 3) := by decide +kernel
theorem dX1_readLine_97 : decode cX1_readLine 97 = .ok (.getstatic 81, 3) := by decide +kernel
theorem dX1_readLine_100 : decode cX1_readLine 100 = .ok (.aastore, 1) := by decide +kernel
theorem dX1_readLine_101 : decode cX1_readLine 101 = .ok (.aload_n 0, 1) := by decide +kernel
theorem dX1_readLine_102 : decode cX1_readLine 102 = .ok (.getfield 33, 3) := by decide +kernel
theorem dX1_readLine_105 : decode cX1_readLine 105 = .ok (.invokevirtual 91, 3) := by decide +kernel
theorem dX1_readLine_108 : decode cX1_readLine 108 = .ok (.aload_n 2, 1) := by decide +kernel
theorem dX1_readLine_109 : decode cX1_readLine 109 = .ok (.iconst 0, 1) := by decide +kernel
theorem dX1_readLine_110 : decode cX1_readLine 110 = .ok (.aload_n 0, 1) := by decide +kernel
theorem dX1_readLine_111 : decode cX1_readLine 111 = .ok (.getfield 33, 3) := by decide +kernel
theorem dX1_readLine_114 : decode cX1_readLine 114 = .ok (.iconst 1, 1) := by decide +kernel
theorem dX1_readLine_115 : decode cX1_readLine 115 = .ok (.bipush 60, 2) := by decide +kernel
theorem dX1_readLine_117 : decode cX1_readLine 117 = .ok (.invokevirtual 101, 3) := by decide +kernel
theorem dX1_readLine_120 : decode cX1_readLine 120 = .ok (.iastore, 1) := by decide +kernel
theorem dX1_readLine_121 : decode cX1_readLine 121 = .ok (.goto 33, 3) := by decide +kernel
theorem dX1_readLine_124 : decode cX1_readLine 124 = .ok (.aload_n 2, 1) := by decide +kernel
theorem dX1_readLine_125 : decode cX1_readLine 125 = .ok (.iconst 0, 1) := by decide +kernel
theorem dX1_readLine_126 : decode cX1_readLine 126 = .ok (.aload_n 0, 1) := by decide +kernel
theorem dX1_readLine_127 : decode cX1_readLine 127 = .ok (.aload_n 1, 1) := by decide +kernel
theorem dX1_readLine_128 : decode cX1_readLine 128 = .ok (.invokevirtual 105, 3) := by decide +kernel
theorem dX1_readLine_131 : decode cX1_readLine 131 = .ok (.iastore, 1) := by decide +kernel
theorem dX1_readLine_132 : decode cX1_readLine 132 = .ok (.aload_n 0, 1) := by decide +kernel
theorem dX1_readLine_133 : decode cX1_readLine 133 = .ok (.getfield 13, 3) := by decide +kernel
theorem dX1_readLine_136 : decode cX1_readLine 136 = .ok (.aload_n 0, 1) := by decide +kernel
theorem dX1_readLine_137 : decode cX1_readLine 137 = .ok (.getfield 47, 3) := by decide +kernel
theorem dX1_readLine_140 : decode cX1_readLine 140 = .ok (.aload_n 0, 1) := by decide +kernel
theorem dX1_readLine_141 : decode cX1_readLine 141 = .ok (.getfield 33, 3) := by decide +kernel
theorem dX1_readLine_144 : decode cX1_readLine 144 = .ok (.getfield 108, 3) := by decide +kernel
theorem dX1_readLine_147 : decode cX1_readLine 147 = .ok (.aastore, 1) := by decide +kernel
theorem dX1_readLine_148 : decode cX1_readLine 148 = .ok (.aload_n 0, 1) := by decide +kernel
theorem dX1_readLine_149 : decode cX1_readLine 149 = .ok (.aload_n 1, 1) := by decide +kernel
theorem dX1_readLine_150 : decode cX1_readLine 150 = .ok (.aload_n 2, 1) := by decide +kernel
theorem dX1_readLine_151 : decode cX1_readLine 151 = .ok (.invokevirtual 111, 3) := by decide +kernel
theorem dX1_readLine_154 : decode cX1_readLine 154 = .ok (.return_, 1) := by decide +kernel
theorem bX1_readLine_0 {G : Gt} {d bc bs : Nat} {Q : QT} {l : Ls} {z : List Value} {h : Hp} (k : (tAld 0 (tGetf 0 2 (tAld 0 (tGetf 0 3 (tRald (tAst 2 (tAld 0 (tGetf 0 0 (tPush (.ref (adW G 13)) (tCV1 G d 0 0 8 mX9_isAt (fun l z h => T G d bc bs mX1_readLine 20 l z h Q))))))))))) l z h) : T G d bc bs mX1_readLine 0 l z h Q := by
  refine R_aload_n dX1_readLine_0 rfl (fun l z h k => ?_) k
  refine R_getf (ci := 0) (f := 2) (C := RX1) (N := 6) (Tt := TX1) dX1_readLine_1 rfl i_X1 (by decide) w_345 (fun l z h k => ?_) k
  refine R_aload_n dX1_readLine_4 rfl (fun l z h k => ?_) k
  refine R_getf (ci := 0) (f := 3) (C := RX1) (N := 6) (Tt := TX1) dX1_readLine_5 rfl i_X1 (by decide) w_346 (fun l z h k => ?_) k
  refine R_aaload dX1_readLine_8 (fun l z h k => ?_) k
  refine R_astore_n dX1_readLine_9 rfl (by decide) (fun l z h k => ?_) k
  refine R_aload_n dX1_readLine_10 rfl (fun l z h k => ?_) k
  refine R_getf (ci := 0) (f := 0) (C := RX1) (N := 6) (Tt := TX1) dX1_readLine_11 rfl i_X1 (by decide) w_343 (fun l z h k => ?_) k
  refine R_word (k := 13) dX1_readLine_14 (by decide) rfl w_1213 (fun l z h k => ?_) k
  exact R_cv1 (M := mX1_readLine) (pc := 17) (bc := bc) (bs := bs) (cb := 0) (cs := 0) (M' := mX9_isAt) dX1_readLine_17 rfl (by decide) w_666 w_132 w_1215 w_664 w_665 (by decide +kernel) (fun _ _ _ k => k) k
theorem bX1_readLine_20 {G : Gt} {d bc bs : Nat} {Q : QT} {l : Ls} {z : List Value} {h : Hp} (k : (tIf (fun x => x = 0) (fun l z h => T G d bc bs mX1_readLine 76 l z h Q) (fun l z h => T G d bc bs mX1_readLine 23 l z h Q)) l z h) : T G d bc bs mX1_readLine 20 l z h Q := by
  exact R_if_eq dX1_readLine_20 (by decide) (fun _ _ _ k => k) (fun _ _ _ k => k) k
theorem bX1_readLine_23 {G : Gt} {d bc bs : Nat} {Q : QT} {l : Ls} {z : List Value} {h : Hp} (k : (tAld 0 (tGetf 0 1 (tAld 0 (tGetf 0 3 (tPush (.ref (adW G 13)) (tRast 0 (pWord G) (tAld 0 (tGetf 0 0 (tCV0 G d 0 0 8 mX9_step (fun l z h => T G d bc bs mX1_readLine 42 l z h Q)))))))))) l z h) : T G d bc bs mX1_readLine 23 l z h Q := by
  refine R_aload_n dX1_readLine_23 rfl (fun l z h k => ?_) k
  refine R_getf (ci := 0) (f := 1) (C := RX1) (N := 6) (Tt := TX1) dX1_readLine_24 rfl i_X1 (by decide) w_344 (fun l z h k => ?_) k
  refine R_aload_n dX1_readLine_27 rfl (fun l z h k => ?_) k
  refine R_getf (ci := 0) (f := 3) (C := RX1) (N := 6) (Tt := TX1) dX1_readLine_28 rfl i_X1 (by decide) w_346 (fun l z h k => ?_) k
  refine R_word (k := 13) dX1_readLine_31 (by decide) rfl w_1213 (fun l z h k => ?_) k
  refine R_aastore (C := "BridgeToll$Word") dX1_readLine_34 (by decide) rfl pWord_ok (fun l z h k => ?_) k
  refine R_aload_n dX1_readLine_35 rfl (fun l z h k => ?_) k
  refine R_getf (ci := 0) (f := 0) (C := RX1) (N := 6) (Tt := TX1) dX1_readLine_36 rfl i_X1 (by decide) w_343 (fun l z h k => ?_) k
  exact R_cv0 (M := mX1_readLine) (pc := 39) (bc := bc) (bs := bs) (cb := 0) (cs := 0) (M' := mX9_step) dX1_readLine_39 rfl (by decide) w_652 w_132 w_1216 w_650 w_651 (by decide +kernel) (fun _ _ _ k => k) k
theorem bX1_readLine_42 {G : Gt} {d bc bs : Nat} {Q : QT} {l : Ls} {z : List Value} {h : Hp} (k : (tAld 2 (tPush (.int 0) (tAld 0 (tGetf 0 0 (tCV0 G d 0 0 8 mX9_takeEnd (fun l z h => T G d bc bs mX1_readLine 51 l z h Q)))))) l z h) : T G d bc bs mX1_readLine 42 l z h Q := by
  refine R_aload_n dX1_readLine_42 rfl (fun l z h k => ?_) k
  refine R_iconst dX1_readLine_43 (by decide) (fun l z h k => ?_) k
  refine R_aload_n dX1_readLine_44 rfl (fun l z h k => ?_) k
  refine R_getf (ci := 0) (f := 0) (C := RX1) (N := 6) (Tt := TX1) dX1_readLine_45 rfl i_X1 (by decide) w_343 (fun l z h k => ?_) k
  exact R_cv0 (M := mX1_readLine) (pc := 48) (bc := bc) (bs := bs) (cb := 0) (cs := 0) (M' := mX9_takeEnd) dX1_readLine_48 rfl (by decide) w_693 w_132 w_1217 w_691 w_692 (by decide +kernel) (fun _ _ _ k => k) k
theorem bX1_readLine_51 {G : Gt} {d bc bs : Nat} {Q : QT} {l : Ls} {z : List Value} {h : Hp} (k : (tXast 0 (tAld 2 (tPush (.int 1) (tAld 0 (tAld 1 (tCV1 G d 0 0 0 mX1_takeThing (fun l z h => T G d bc bs mX1_readLine 59 l z h Q))))))) l z h) : T G d bc bs mX1_readLine 51 l z h Q := by
  refine R_iastore dX1_readLine_51 (fun l z h k => ?_) k
  refine R_aload_n dX1_readLine_52 rfl (fun l z h k => ?_) k
  refine R_iconst dX1_readLine_53 (by decide) (fun l z h k => ?_) k
  refine R_aload_n dX1_readLine_54 rfl (fun l z h k => ?_) k
  refine R_aload_n dX1_readLine_55 rfl (fun l z h k => ?_) k
  exact R_cv1 (M := mX1_readLine) (pc := 56) (bc := bc) (bs := bs) (cb := 0) (cs := 0) (M' := mX1_takeThing) dX1_readLine_56 rfl (by decide) w_1221 w_137 w_1218 w_1220 w_28 (by decide +kernel) (fun _ _ _ k => k) k
theorem bX1_readLine_59 {G : Gt} {d bc bs : Nat} {Q : QT} {l : Ls} {z : List Value} {h : Hp} (k : (tXast 0 (tAld 2 (tPush (.int 2) (tAld 0 (tGetf 0 0 (tPush (.int 0) (tPush (.int 12) (tCV2 G d 0 0 8 mX9_takeNumber (fun l z h => T G d bc bs mX1_readLine 72 l z h Q))))))))) l z h) : T G d bc bs mX1_readLine 59 l z h Q := by
  refine R_iastore dX1_readLine_59 (fun l z h k => ?_) k
  refine R_aload_n dX1_readLine_60 rfl (fun l z h k => ?_) k
  refine R_iconst dX1_readLine_61 (by decide) (fun l z h k => ?_) k
  refine R_aload_n dX1_readLine_62 rfl (fun l z h k => ?_) k
  refine R_getf (ci := 0) (f := 0) (C := RX1) (N := 6) (Tt := TX1) dX1_readLine_63 rfl i_X1 (by decide) w_343 (fun l z h k => ?_) k
  refine R_iconst dX1_readLine_66 (by decide) (fun l z h k => ?_) k
  refine R_bipush dX1_readLine_67 (by decide) (fun l z h k => ?_) k
  exact R_cv2 (M := mX1_readLine) (pc := 69) (bc := bc) (bs := bs) (cb := 0) (cs := 0) (M' := mX9_takeNumber) dX1_readLine_69 rfl (by decide) w_701 w_132 w_1223 w_699 w_700 (by decide +kernel) (fun _ _ _ k => k) k
theorem bX1_readLine_72 {G : Gt} {d bc bs : Nat} {Q : QT} {l : Ls} {z : List Value} {h : Hp} (k : (tXast 0 ((fun l z h => T G d bc bs mX1_readLine 154 l z h Q))) l z h) : T G d bc bs mX1_readLine 72 l z h Q := by
  refine R_iastore dX1_readLine_72 (fun l z h k => ?_) k
  exact R_goto dX1_readLine_73 (by decide) (fun _ _ _ k => k) k
theorem bX1_readLine_76 {G : Gt} {d bc bs : Nat} {Q : QT} {l : Ls} {z : List Value} {h : Hp} (k : (tAld 0 (tGetf 0 0 (tPush (.ref (adW G 14)) (tCV1 G d 0 0 8 mX9_isAt (fun l z h => T G d bc bs mX1_readLine 86 l z h Q))))) l z h) : T G d bc bs mX1_readLine 76 l z h Q := by
  refine R_aload_n dX1_readLine_76 rfl (fun l z h k => ?_) k
  refine R_getf (ci := 0) (f := 0) (C := RX1) (N := 6) (Tt := TX1) dX1_readLine_77 rfl i_X1 (by decide) w_343 (fun l z h k => ?_) k
  refine R_word (k := 14) dX1_readLine_80 (by decide) rfl w_1224 (fun l z h k => ?_) k
  exact R_cv1 (M := mX1_readLine) (pc := 83) (bc := bc) (bs := bs) (cb := 0) (cs := 0) (M' := mX9_isAt) dX1_readLine_83 rfl (by decide) w_666 w_132 w_1215 w_664 w_665 (by decide +kernel) (fun _ _ _ k => k) k
theorem bX1_readLine_86 {G : Gt} {d bc bs : Nat} {Q : QT} {l : Ls} {z : List Value} {h : Hp} (k : (tIf (fun x => x = 0) (fun l z h => T G d bc bs mX1_readLine 124 l z h Q) (fun l z h => T G d bc bs mX1_readLine 89 l z h Q)) l z h) : T G d bc bs mX1_readLine 86 l z h Q := by
  exact R_if_eq dX1_readLine_86 (by decide) (fun _ _ _ k => k) (fun _ _ _ k => k) k
theorem bX1_readLine_89 {G : Gt} {d bc bs : Nat} {Q : QT} {l : Ls} {z : List Value} {h : Hp} (k : (tAld 0 (tGetf 0 1 (tAld 0 (tGetf 0 3 (tPush (.ref (adW G 14)) (tRast 0 (pWord G) (tAld 0 (tGetf 0 0 (tCV0 G d 0 0 8 mX9_step (fun l z h => T G d bc bs mX1_readLine 108 l z h Q)))))))))) l z h) : T G d bc bs mX1_readLine 89 l z h Q := by
  refine R_aload_n dX1_readLine_89 rfl (fun l z h k => ?_) k
  refine R_getf (ci := 0) (f := 1) (C := RX1) (N := 6) (Tt := TX1) dX1_readLine_90 rfl i_X1 (by decide) w_344 (fun l z h k => ?_) k
  refine R_aload_n dX1_readLine_93 rfl (fun l z h k => ?_) k
  refine R_getf (ci := 0) (f := 3) (C := RX1) (N := 6) (Tt := TX1) dX1_readLine_94 rfl i_X1 (by decide) w_346 (fun l z h k => ?_) k
  refine R_word (k := 14) dX1_readLine_97 (by decide) rfl w_1224 (fun l z h k => ?_) k
  refine R_aastore (C := "BridgeToll$Word") dX1_readLine_100 (by decide) rfl pWord_ok (fun l z h k => ?_) k
  refine R_aload_n dX1_readLine_101 rfl (fun l z h k => ?_) k
  refine R_getf (ci := 0) (f := 0) (C := RX1) (N := 6) (Tt := TX1) dX1_readLine_102 rfl i_X1 (by decide) w_343 (fun l z h k => ?_) k
  exact R_cv0 (M := mX1_readLine) (pc := 105) (bc := bc) (bs := bs) (cb := 0) (cs := 0) (M' := mX9_step) dX1_readLine_105 rfl (by decide) w_652 w_132 w_1216 w_650 w_651 (by decide +kernel) (fun _ _ _ k => k) k
theorem bX1_readLine_108 {G : Gt} {d bc bs : Nat} {Q : QT} {l : Ls} {z : List Value} {h : Hp} (k : (tAld 2 (tPush (.int 0) (tAld 0 (tGetf 0 0 (tPush (.int 1) (tPush (.int 60) (tCV2 G d 0 0 8 mX9_takeNumber (fun l z h => T G d bc bs mX1_readLine 120 l z h Q)))))))) l z h) : T G d bc bs mX1_readLine 108 l z h Q := by
  refine R_aload_n dX1_readLine_108 rfl (fun l z h k => ?_) k
  refine R_iconst dX1_readLine_109 (by decide) (fun l z h k => ?_) k
  refine R_aload_n dX1_readLine_110 rfl (fun l z h k => ?_) k
  refine R_getf (ci := 0) (f := 0) (C := RX1) (N := 6) (Tt := TX1) dX1_readLine_111 rfl i_X1 (by decide) w_343 (fun l z h k => ?_) k
  refine R_iconst dX1_readLine_114 (by decide) (fun l z h k => ?_) k
  refine R_bipush dX1_readLine_115 (by decide) (fun l z h k => ?_) k
  exact R_cv2 (M := mX1_readLine) (pc := 117) (bc := bc) (bs := bs) (cb := 0) (cs := 0) (M' := mX9_takeNumber) dX1_readLine_117 rfl (by decide) w_701 w_132 w_1223 w_699 w_700 (by decide +kernel) (fun _ _ _ k => k) k
theorem bX1_readLine_120 {G : Gt} {d bc bs : Nat} {Q : QT} {l : Ls} {z : List Value} {h : Hp} (k : (tXast 0 ((fun l z h => T G d bc bs mX1_readLine 154 l z h Q))) l z h) : T G d bc bs mX1_readLine 120 l z h Q := by
  refine R_iastore dX1_readLine_120 (fun l z h k => ?_) k
  exact R_goto dX1_readLine_121 (by decide) (fun _ _ _ k => k) k
theorem bX1_readLine_124 {G : Gt} {d bc bs : Nat} {Q : QT} {l : Ls} {z : List Value} {h : Hp} (k : (tAld 2 (tPush (.int 0) (tAld 0 (tAld 1 (tCV1 G d 0 0 0 mX1_takePerson (fun l z h => T G d bc bs mX1_readLine 131 l z h Q)))))) l z h) : T G d bc bs mX1_readLine 124 l z h Q := by
  refine R_aload_n dX1_readLine_124 rfl (fun l z h k => ?_) k
  refine R_iconst dX1_readLine_125 (by decide) (fun l z h k => ?_) k
  refine R_aload_n dX1_readLine_126 rfl (fun l z h k => ?_) k
  refine R_aload_n dX1_readLine_127 rfl (fun l z h k => ?_) k
  exact R_cv1 (M := mX1_readLine) (pc := 128) (bc := bc) (bs := bs) (cb := 0) (cs := 0) (M' := mX1_takePerson) dX1_readLine_128 rfl (by decide) w_1229 w_137 w_1226 w_1228 w_29 (by decide +kernel) (fun _ _ _ k => k) k
theorem bX1_readLine_131 {G : Gt} {d bc bs : Nat} {Q : QT} {l : Ls} {z : List Value} {h : Hp} (k : (tXast 0 (tAld 0 (tGetf 0 1 (tAld 0 (tGetf 0 3 (tAld 0 (tGetf 0 0 (tGetf 8 8 (tRast 0 (pWord G) (tAld 0 (tAld 1 (tAld 2 (tCV2 G d 0 0 0 mX1_readDeed (fun l z h => T G d bc bs mX1_readLine 154 l z h Q)))))))))))))) l z h) : T G d bc bs mX1_readLine 131 l z h Q := by
  refine R_iastore dX1_readLine_131 (fun l z h k => ?_) k
  refine R_aload_n dX1_readLine_132 rfl (fun l z h k => ?_) k
  refine R_getf (ci := 0) (f := 1) (C := RX1) (N := 6) (Tt := TX1) dX1_readLine_133 rfl i_X1 (by decide) w_344 (fun l z h k => ?_) k
  refine R_aload_n dX1_readLine_136 rfl (fun l z h k => ?_) k
  refine R_getf (ci := 0) (f := 3) (C := RX1) (N := 6) (Tt := TX1) dX1_readLine_137 rfl i_X1 (by decide) w_346 (fun l z h k => ?_) k
  refine R_aload_n dX1_readLine_140 rfl (fun l z h k => ?_) k
  refine R_getf (ci := 0) (f := 0) (C := RX1) (N := 6) (Tt := TX1) dX1_readLine_141 rfl i_X1 (by decide) w_343 (fun l z h k => ?_) k
  refine R_getf (ci := 8) (f := 8) (C := RX9) (N := 11) (Tt := TX9) dX1_readLine_144 rfl i_X9 (by decide) w_206 (fun l z h k => ?_) k
  refine R_aastore (C := "BridgeToll$Word") dX1_readLine_147 (by decide) rfl pWord_ok (fun l z h k => ?_) k
  refine R_aload_n dX1_readLine_148 rfl (fun l z h k => ?_) k
  refine R_aload_n dX1_readLine_149 rfl (fun l z h k => ?_) k
  refine R_aload_n dX1_readLine_150 rfl (fun l z h k => ?_) k
  exact R_cv2 (M := mX1_readLine) (pc := 151) (bc := bc) (bs := bs) (cb := 0) (cs := 0) (M' := mX1_readDeed) dX1_readLine_151 rfl (by decide) w_1234 w_137 w_1231 w_1233 w_30 (by decide +kernel) (fun _ _ _ k => k) k
theorem bX1_readLine_154 {G : Gt} {d bc bs : Nat} {Q : QT} {l : Ls} {z : List Value} {h : Hp} (k : (tRetV Q) l z h) : T G d bc bs mX1_readLine 154 l z h Q := by
  exact R_vret dX1_readLine_154 rfl k
theorem dX1_readDeed_0 : decode cX1_readDeed 0 = .ok (.aload_n 0, 1) := by decide +kernel
theorem dX1_readDeed_1 : decode cX1_readDeed 1 = .ok (.getfield 33, 3) := by decide +kernel
theorem dX1_readDeed_4 : decode cX1_readDeed 4 = .ok (.getstatic 115, 3) := by decide +kernel
theorem dX1_readDeed_7 : decode cX1_readDeed 7 = .ok (.invokevirtual 77, 3) := by decide +kernel
theorem dX1_readDeed_10 : decode cX1_readDeed 10 = .ok (.ifCond .eq 23, 3) := by decide +kernel
theorem dX1_readDeed_13 : decode cX1_readDeed 13 = .ok (.aload_n 0, 1) := by decide +kernel
theorem dX1_readDeed_14 : decode cX1_readDeed 14 = .ok (.getfield 33, 3) := by decide +kernel
theorem dX1_readDeed_17 : decode cX1_readDeed 17 = .ok (.invokevirtual 91, 3) := by decide +kernel
theorem dX1_readDeed_20 : decode cX1_readDeed 20 = .ok (.aload_n 2, 1) := by decide +kernel
theorem dX1_readDeed_21 : decode cX1_readDeed 21 = .ok (.iconst 1, 1) := by decide +kernel
theorem dX1_readDeed_22 : decode cX1_readDeed 22 = .ok (.aload_n 0, 1) := by decide +kernel
theorem dX1_readDeed_23 : decode cX1_readDeed 23 = .ok (.getfield 33, 3) := by decide +kernel
theorem dX1_readDeed_26 : decode cX1_readDeed 26 = .ok (.invokevirtual 118, 3) := by decide +kernel
theorem dX1_readDeed_29 : decode cX1_readDeed 29 = .ok (.iastore, 1) := by decide +kernel
theorem dX1_readDeed_30 : decode cX1_readDeed 30 = .ok (.goto 112, 3) := by decide +kernel
theorem dX1_readDeed_33 : decode cX1_readDeed 33 = .ok (.aload_n 0, 1) := by decide +kernel
theorem dX1_readDeed_34 : decode cX1_readDeed 34 = .ok (.getfield 33, 3) := by decide +kernel
theorem dX1_readDeed_37 : decode cX1_readDeed 37 = .ok (.getstatic 121, 3) := by decide +kernel
theorem dX1_readDeed_40 : decode cX1_readDeed 40 = .ok (.invokevirtual 77, 3) := by decide +kernel
theorem dX1_readDeed_43 : decode cX1_readDeed 43 = .ok (.ifCond .eq 21, 3) := by decide +kernel
theorem dX1_readDeed_46 : decode cX1_readDeed 46 = .ok (.aload_n 0, 1) := by decide +kernel
theorem dX1_readDeed_47 : decode cX1_readDeed 47 = .ok (.getfield 33, 3) := by decide +kernel
theorem dX1_readDeed_50 : decode cX1_readDeed 50 = .ok (.invokevirtual 91, 3) := by decide +kernel
theorem dX1_readDeed_53 : decode cX1_readDeed 53 = .ok (.aload_n 2, 1) := by decide +kernel
theorem dX1_readDeed_54 : decode cX1_readDeed 54 = .ok (.iconst 1, 1) := by decide +kernel
theorem dX1_readDeed_55 : decode cX1_readDeed 55 = .ok (.aload_n 0, 1) := by decide +kernel
theorem dX1_readDeed_56 : decode cX1_readDeed 56 = .ok (.aload_n 1, 1) := by decide +kernel
theorem dX1_readDeed_57 : decode cX1_readDeed 57 = .ok (.invokevirtual 105, 3) := by decide +kernel
theorem dX1_readDeed_60 : decode cX1_readDeed 60 = .ok (.iastore, 1) := by decide +kernel
theorem dX1_readDeed_61 : decode cX1_readDeed 61 = .ok (.goto 81, 3) := by decide +kernel
theorem dX1_readDeed_64 : decode cX1_readDeed 64 = .ok (.aload_n 0, 1) := by decide +kernel
theorem dX1_readDeed_65 : decode cX1_readDeed 65 = .ok (.getfield 33, 3) := by decide +kernel
theorem dX1_readDeed_68 : decode cX1_readDeed 68 = .ok (.getstatic 124, 3) := by decide +kernel
theorem dX1_readDeed_71 : decode cX1_readDeed 71 = .ok (.invokevirtual 77, 3) := by decide +kernel
theorem dX1_readDeed_74 : decode cX1_readDeed 74 = .ok (.ifCond .eq 13, 3) := by decide +kernel
theorem dX1_readDeed_77 : decode cX1_readDeed 77 = .ok (.aload_n 0, 1) := by decide +kernel
theorem dX1_readDeed_78 : decode cX1_readDeed 78 = .ok (.getfield 33, 3) := by decide +kernel
theorem dX1_readDeed_81 : decode cX1_readDeed 81 = .ok (.invokevirtual 91, 3) := by decide +kernel
theorem dX1_readDeed_84 : decode cX1_readDeed 84 = .ok (.goto 58, 3) := by decide +kernel
theorem dX1_readDeed_87 : decode cX1_readDeed 87 = .ok (.aload_n 0, 1) := by decide +kernel
theorem dX1_readDeed_88 : decode cX1_readDeed 88 = .ok (.getfield 33, 3) := by decide +kernel
theorem dX1_readDeed_91 : decode cX1_readDeed 91 = .ok (.getstatic 127, 3) := by decide +kernel
theorem dX1_readDeed_94 : decode cX1_readDeed 94 = .ok (.invokevirtual 77, 3) := by decide +kernel
theorem dX1_readDeed_97 : decode cX1_readDeed 97 = .ok (.ifCond .eq 37, 3) := by decide +kernel
theorem dX1_readDeed_100 : decode cX1_readDeed 100 = .ok (.aload_n 0, 1) := by decide +kernel
theorem dX1_readDeed_101 : decode cX1_readDeed 101 = .ok (.getfield 33, 3) := by decide +kernel
theorem dX1_readDeed_104 : decode cX1_readDeed 104 = .ok (.invokevirtual 91, 3) := by decide +kernel
theorem dX1_readDeed_107 : decode cX1_readDeed 107 = .ok (.aload_n 2, 1) := by decide +kernel
theorem dX1_readDeed_108 : decode cX1_readDeed 108 = .ok (.iconst 1, 1) := by decide +kernel
theorem dX1_readDeed_109 : decode cX1_readDeed 109 = .ok (.aload_n 0, 1) := by decide +kernel
theorem dX1_readDeed_110 : decode cX1_readDeed 110 = .ok (.aload_n 1, 1) := by decide +kernel
theorem dX1_readDeed_111 : decode cX1_readDeed 111 = .ok (.invokevirtual 98, 3) := by decide +kernel
theorem dX1_readDeed_114 : decode cX1_readDeed 114 = .ok (.iastore, 1) := by decide +kernel
theorem dX1_readDeed_115 : decode cX1_readDeed 115 = .ok (.aload_n 2, 1) := by decide +kernel
theorem dX1_readDeed_116 : decode cX1_readDeed 116 = .ok (.iconst 2, 1) := by decide +kernel
theorem dX1_readDeed_117 : decode cX1_readDeed 117 = .ok (.aload_n 0, 1) := by decide +kernel
theorem dX1_readDeed_118 : decode cX1_readDeed 118 = .ok (.aload_n 1, 1) := by decide +kernel
theorem dX1_readDeed_119 : decode cX1_readDeed 119 = .ok (.invokevirtual 105, 3) := by decide +kernel
theorem dX1_readDeed_122 : decode cX1_readDeed 122 = .ok (.iastore, 1) := by decide +kernel
theorem dX1_readDeed_123 : decode cX1_readDeed 123 = .ok (.aload_n 2, 1) := by decide +kernel
theorem dX1_readDeed_124 : decode cX1_readDeed 124 = .ok (.iconst 3, 1) := by decide +kernel
theorem dX1_readDeed_125 : decode cX1_readDeed 125 = .ok (.aload_n 0, 1) := by decide +kernel
theorem dX1_readDeed_126 : decode cX1_readDeed 126 = .ok (.aload_n 1, 1) := by decide +kernel
theorem dX1_readDeed_127 : decode cX1_readDeed 127 = .ok (.invokevirtual 98, 3) := by decide +kernel
theorem dX1_readDeed_130 : decode cX1_readDeed 130 = .ok (.iastore, 1) := by decide +kernel
theorem dX1_readDeed_131 : decode cX1_readDeed 131 = .ok (.goto 11, 3) := by decide +kernel
theorem dX1_readDeed_134 : decode cX1_readDeed 134 = .ok (.aload_n 0, 1) := by decide +kernel
theorem dX1_readDeed_135 : decode cX1_readDeed 135 = .ok (.getfield 33, 3) := by decide +kernel
theorem dX1_readDeed_138 : decode cX1_readDeed 138 = .ok (.iconst 1, 1) := by decide +kernel
theorem dX1_readDeed_139 : decode cX1_readDeed 139 = .ok (.invokevirtual 88, 3) := by decide +kernel
theorem dX1_readDeed_142 : decode cX1_readDeed 142 = .ok (.return_, 1) := by decide +kernel
theorem bX1_readDeed_0 {G : Gt} {d bc bs : Nat} {Q : QT} {l : Ls} {z : List Value} {h : Hp} (k : (tAld 0 (tGetf 0 0 (tPush (.ref (adW G 9)) (tCV1 G d 0 0 8 mX9_isAt (fun l z h => T G d bc bs mX1_readDeed 10 l z h Q))))) l z h) : T G d bc bs mX1_readDeed 0 l z h Q := by
  refine R_aload_n dX1_readDeed_0 rfl (fun l z h k => ?_) k
  refine R_getf (ci := 0) (f := 0) (C := RX1) (N := 6) (Tt := TX1) dX1_readDeed_1 rfl i_X1 (by decide) w_343 (fun l z h k => ?_) k
  refine R_word (k := 9) dX1_readDeed_4 (by decide) rfl w_1235 (fun l z h k => ?_) k
  exact R_cv1 (M := mX1_readDeed) (pc := 7) (bc := bc) (bs := bs) (cb := 0) (cs := 0) (M' := mX9_isAt) dX1_readDeed_7 rfl (by decide) w_666 w_132 w_1215 w_664 w_665 (by decide +kernel) (fun _ _ _ k => k) k
theorem bX1_readDeed_10 {G : Gt} {d bc bs : Nat} {Q : QT} {l : Ls} {z : List Value} {h : Hp} (k : (tIf (fun x => x = 0) (fun l z h => T G d bc bs mX1_readDeed 33 l z h Q) (fun l z h => T G d bc bs mX1_readDeed 13 l z h Q)) l z h) : T G d bc bs mX1_readDeed 10 l z h Q := by
  exact R_if_eq dX1_readDeed_10 (by decide) (fun _ _ _ k => k) (fun _ _ _ k => k) k
theorem bX1_readDeed_13 {G : Gt} {d bc bs : Nat} {Q : QT} {l : Ls} {z : List Value} {h : Hp} (k : (tAld 0 (tGetf 0 0 (tCV0 G d 0 0 8 mX9_step (fun l z h => T G d bc bs mX1_readDeed 20 l z h Q)))) l z h) : T G d bc bs mX1_readDeed 13 l z h Q := by
  refine R_aload_n dX1_readDeed_13 rfl (fun l z h k => ?_) k
  refine R_getf (ci := 0) (f := 0) (C := RX1) (N := 6) (Tt := TX1) dX1_readDeed_14 rfl i_X1 (by decide) w_343 (fun l z h k => ?_) k
  exact R_cv0 (M := mX1_readDeed) (pc := 17) (bc := bc) (bs := bs) (cb := 0) (cs := 0) (M' := mX9_step) dX1_readDeed_17 rfl (by decide) w_652 w_132 w_1216 w_650 w_651 (by decide +kernel) (fun _ _ _ k => k) k
theorem bX1_readDeed_20 {G : Gt} {d bc bs : Nat} {Q : QT} {l : Ls} {z : List Value} {h : Hp} (k : (tAld 2 (tPush (.int 1) (tAld 0 (tGetf 0 0 (tCV0 G d 0 0 8 mX9_takePlace (fun l z h => T G d bc bs mX1_readDeed 29 l z h Q)))))) l z h) : T G d bc bs mX1_readDeed 20 l z h Q := by
  refine R_aload_n dX1_readDeed_20 rfl (fun l z h k => ?_) k
  refine R_iconst dX1_readDeed_21 (by decide) (fun l z h k => ?_) k
  refine R_aload_n dX1_readDeed_22 rfl (fun l z h k => ?_) k
  refine R_getf (ci := 0) (f := 0) (C := RX1) (N := 6) (Tt := TX1) dX1_readDeed_23 rfl i_X1 (by decide) w_343 (fun l z h k => ?_) k
  exact R_cv0 (M := mX1_readDeed) (pc := 26) (bc := bc) (bs := bs) (cb := 0) (cs := 0) (M' := mX9_takePlace) dX1_readDeed_26 rfl (by decide) w_715 w_132 w_1237 w_713 w_714 (by decide +kernel) (fun _ _ _ k => k) k
theorem bX1_readDeed_29 {G : Gt} {d bc bs : Nat} {Q : QT} {l : Ls} {z : List Value} {h : Hp} (k : (tXast 0 ((fun l z h => T G d bc bs mX1_readDeed 142 l z h Q))) l z h) : T G d bc bs mX1_readDeed 29 l z h Q := by
  refine R_iastore dX1_readDeed_29 (fun l z h k => ?_) k
  exact R_goto dX1_readDeed_30 (by decide) (fun _ _ _ k => k) k
theorem bX1_readDeed_33 {G : Gt} {d bc bs : Nat} {Q : QT} {l : Ls} {z : List Value} {h : Hp} (k : (tAld 0 (tGetf 0 0 (tPush (.ref (adW G 10)) (tCV1 G d 0 0 8 mX9_isAt (fun l z h => T G d bc bs mX1_readDeed 43 l z h Q))))) l z h) : T G d bc bs mX1_readDeed 33 l z h Q := by
  refine R_aload_n dX1_readDeed_33 rfl (fun l z h k => ?_) k
  refine R_getf (ci := 0) (f := 0) (C := RX1) (N := 6) (Tt := TX1) dX1_readDeed_34 rfl i_X1 (by decide) w_343 (fun l z h k => ?_) k
  refine R_word (k := 10) dX1_readDeed_37 (by decide) rfl w_1238 (fun l z h k => ?_) k
  exact R_cv1 (M := mX1_readDeed) (pc := 40) (bc := bc) (bs := bs) (cb := 0) (cs := 0) (M' := mX9_isAt) dX1_readDeed_40 rfl (by decide) w_666 w_132 w_1215 w_664 w_665 (by decide +kernel) (fun _ _ _ k => k) k
theorem bX1_readDeed_43 {G : Gt} {d bc bs : Nat} {Q : QT} {l : Ls} {z : List Value} {h : Hp} (k : (tIf (fun x => x = 0) (fun l z h => T G d bc bs mX1_readDeed 64 l z h Q) (fun l z h => T G d bc bs mX1_readDeed 46 l z h Q)) l z h) : T G d bc bs mX1_readDeed 43 l z h Q := by
  exact R_if_eq dX1_readDeed_43 (by decide) (fun _ _ _ k => k) (fun _ _ _ k => k) k
theorem bX1_readDeed_46 {G : Gt} {d bc bs : Nat} {Q : QT} {l : Ls} {z : List Value} {h : Hp} (k : (tAld 0 (tGetf 0 0 (tCV0 G d 0 0 8 mX9_step (fun l z h => T G d bc bs mX1_readDeed 53 l z h Q)))) l z h) : T G d bc bs mX1_readDeed 46 l z h Q := by
  refine R_aload_n dX1_readDeed_46 rfl (fun l z h k => ?_) k
  refine R_getf (ci := 0) (f := 0) (C := RX1) (N := 6) (Tt := TX1) dX1_readDeed_47 rfl i_X1 (by decide) w_343 (fun l z h k => ?_) k
  exact R_cv0 (M := mX1_readDeed) (pc := 50) (bc := bc) (bs := bs) (cb := 0) (cs := 0) (M' := mX9_step) dX1_readDeed_50 rfl (by decide) w_652 w_132 w_1216 w_650 w_651 (by decide +kernel) (fun _ _ _ k => k) k
theorem bX1_readDeed_53 {G : Gt} {d bc bs : Nat} {Q : QT} {l : Ls} {z : List Value} {h : Hp} (k : (tAld 2 (tPush (.int 1) (tAld 0 (tAld 1 (tCV1 G d 0 0 0 mX1_takePerson (fun l z h => T G d bc bs mX1_readDeed 60 l z h Q)))))) l z h) : T G d bc bs mX1_readDeed 53 l z h Q := by
  refine R_aload_n dX1_readDeed_53 rfl (fun l z h k => ?_) k
  refine R_iconst dX1_readDeed_54 (by decide) (fun l z h k => ?_) k
  refine R_aload_n dX1_readDeed_55 rfl (fun l z h k => ?_) k
  refine R_aload_n dX1_readDeed_56 rfl (fun l z h k => ?_) k
  exact R_cv1 (M := mX1_readDeed) (pc := 57) (bc := bc) (bs := bs) (cb := 0) (cs := 0) (M' := mX1_takePerson) dX1_readDeed_57 rfl (by decide) w_1229 w_137 w_1226 w_1228 w_29 (by decide +kernel) (fun _ _ _ k => k) k
theorem bX1_readDeed_60 {G : Gt} {d bc bs : Nat} {Q : QT} {l : Ls} {z : List Value} {h : Hp} (k : (tXast 0 ((fun l z h => T G d bc bs mX1_readDeed 142 l z h Q))) l z h) : T G d bc bs mX1_readDeed 60 l z h Q := by
  refine R_iastore dX1_readDeed_60 (fun l z h k => ?_) k
  exact R_goto dX1_readDeed_61 (by decide) (fun _ _ _ k => k) k
theorem bX1_readDeed_64 {G : Gt} {d bc bs : Nat} {Q : QT} {l : Ls} {z : List Value} {h : Hp} (k : (tAld 0 (tGetf 0 0 (tPush (.ref (adW G 11)) (tCV1 G d 0 0 8 mX9_isAt (fun l z h => T G d bc bs mX1_readDeed 74 l z h Q))))) l z h) : T G d bc bs mX1_readDeed 64 l z h Q := by
  refine R_aload_n dX1_readDeed_64 rfl (fun l z h k => ?_) k
  refine R_getf (ci := 0) (f := 0) (C := RX1) (N := 6) (Tt := TX1) dX1_readDeed_65 rfl i_X1 (by decide) w_343 (fun l z h k => ?_) k
  refine R_word (k := 11) dX1_readDeed_68 (by decide) rfl w_1240 (fun l z h k => ?_) k
  exact R_cv1 (M := mX1_readDeed) (pc := 71) (bc := bc) (bs := bs) (cb := 0) (cs := 0) (M' := mX9_isAt) dX1_readDeed_71 rfl (by decide) w_666 w_132 w_1215 w_664 w_665 (by decide +kernel) (fun _ _ _ k => k) k
theorem bX1_readDeed_74 {G : Gt} {d bc bs : Nat} {Q : QT} {l : Ls} {z : List Value} {h : Hp} (k : (tIf (fun x => x = 0) (fun l z h => T G d bc bs mX1_readDeed 87 l z h Q) (fun l z h => T G d bc bs mX1_readDeed 77 l z h Q)) l z h) : T G d bc bs mX1_readDeed 74 l z h Q := by
  exact R_if_eq dX1_readDeed_74 (by decide) (fun _ _ _ k => k) (fun _ _ _ k => k) k
theorem bX1_readDeed_77 {G : Gt} {d bc bs : Nat} {Q : QT} {l : Ls} {z : List Value} {h : Hp} (k : (tAld 0 (tGetf 0 0 (tCV0 G d 0 0 8 mX9_step (fun l z h => T G d bc bs mX1_readDeed 84 l z h Q)))) l z h) : T G d bc bs mX1_readDeed 77 l z h Q := by
  refine R_aload_n dX1_readDeed_77 rfl (fun l z h k => ?_) k
  refine R_getf (ci := 0) (f := 0) (C := RX1) (N := 6) (Tt := TX1) dX1_readDeed_78 rfl i_X1 (by decide) w_343 (fun l z h k => ?_) k
  exact R_cv0 (M := mX1_readDeed) (pc := 81) (bc := bc) (bs := bs) (cb := 0) (cs := 0) (M' := mX9_step) dX1_readDeed_81 rfl (by decide) w_652 w_132 w_1216 w_650 w_651 (by decide +kernel) (fun _ _ _ k => k) k
theorem bX1_readDeed_84 {G : Gt} {d bc bs : Nat} {Q : QT} {l : Ls} {z : List Value} {h : Hp} (k : (fun l z h => T G d bc bs mX1_readDeed 142 l z h Q) l z h) : T G d bc bs mX1_readDeed 84 l z h Q := by
  exact R_goto dX1_readDeed_84 (by decide) (fun _ _ _ k => k) k
theorem bX1_readDeed_87 {G : Gt} {d bc bs : Nat} {Q : QT} {l : Ls} {z : List Value} {h : Hp} (k : (tAld 0 (tGetf 0 0 (tPush (.ref (adW G 12)) (tCV1 G d 0 0 8 mX9_isAt (fun l z h => T G d bc bs mX1_readDeed 97 l z h Q))))) l z h) : T G d bc bs mX1_readDeed 87 l z h Q := by
  refine R_aload_n dX1_readDeed_87 rfl (fun l z h k => ?_) k
  refine R_getf (ci := 0) (f := 0) (C := RX1) (N := 6) (Tt := TX1) dX1_readDeed_88 rfl i_X1 (by decide) w_343 (fun l z h k => ?_) k
  refine R_word (k := 12) dX1_readDeed_91 (by decide) rfl w_1242 (fun l z h k => ?_) k
  exact R_cv1 (M := mX1_readDeed) (pc := 94) (bc := bc) (bs := bs) (cb := 0) (cs := 0) (M' := mX9_isAt) dX1_readDeed_94 rfl (by decide) w_666 w_132 w_1215 w_664 w_665 (by decide +kernel) (fun _ _ _ k => k) k
theorem bX1_readDeed_97 {G : Gt} {d bc bs : Nat} {Q : QT} {l : Ls} {z : List Value} {h : Hp} (k : (tIf (fun x => x = 0) (fun l z h => T G d bc bs mX1_readDeed 134 l z h Q) (fun l z h => T G d bc bs mX1_readDeed 100 l z h Q)) l z h) : T G d bc bs mX1_readDeed 97 l z h Q := by
  exact R_if_eq dX1_readDeed_97 (by decide) (fun _ _ _ k => k) (fun _ _ _ k => k) k
theorem bX1_readDeed_100 {G : Gt} {d bc bs : Nat} {Q : QT} {l : Ls} {z : List Value} {h : Hp} (k : (tAld 0 (tGetf 0 0 (tCV0 G d 0 0 8 mX9_step (fun l z h => T G d bc bs mX1_readDeed 107 l z h Q)))) l z h) : T G d bc bs mX1_readDeed 100 l z h Q := by
  refine R_aload_n dX1_readDeed_100 rfl (fun l z h k => ?_) k
  refine R_getf (ci := 0) (f := 0) (C := RX1) (N := 6) (Tt := TX1) dX1_readDeed_101 rfl i_X1 (by decide) w_343 (fun l z h k => ?_) k
  exact R_cv0 (M := mX1_readDeed) (pc := 104) (bc := bc) (bs := bs) (cb := 0) (cs := 0) (M' := mX9_step) dX1_readDeed_104 rfl (by decide) w_652 w_132 w_1216 w_650 w_651 (by decide +kernel) (fun _ _ _ k => k) k
theorem bX1_readDeed_107 {G : Gt} {d bc bs : Nat} {Q : QT} {l : Ls} {z : List Value} {h : Hp} (k : (tAld 2 (tPush (.int 1) (tAld 0 (tAld 1 (tCV1 G d 0 0 0 mX1_takeThing (fun l z h => T G d bc bs mX1_readDeed 114 l z h Q)))))) l z h) : T G d bc bs mX1_readDeed 107 l z h Q := by
  refine R_aload_n dX1_readDeed_107 rfl (fun l z h k => ?_) k
  refine R_iconst dX1_readDeed_108 (by decide) (fun l z h k => ?_) k
  refine R_aload_n dX1_readDeed_109 rfl (fun l z h k => ?_) k
  refine R_aload_n dX1_readDeed_110 rfl (fun l z h k => ?_) k
  exact R_cv1 (M := mX1_readDeed) (pc := 111) (bc := bc) (bs := bs) (cb := 0) (cs := 0) (M' := mX1_takeThing) dX1_readDeed_111 rfl (by decide) w_1221 w_137 w_1218 w_1220 w_28 (by decide +kernel) (fun _ _ _ k => k) k
theorem bX1_readDeed_114 {G : Gt} {d bc bs : Nat} {Q : QT} {l : Ls} {z : List Value} {h : Hp} (k : (tXast 0 (tAld 2 (tPush (.int 2) (tAld 0 (tAld 1 (tCV1 G d 0 0 0 mX1_takePerson (fun l z h => T G d bc bs mX1_readDeed 122 l z h Q))))))) l z h) : T G d bc bs mX1_readDeed 114 l z h Q := by
  refine R_iastore dX1_readDeed_114 (fun l z h k => ?_) k
  refine R_aload_n dX1_readDeed_115 rfl (fun l z h k => ?_) k
  refine R_iconst dX1_readDeed_116 (by decide) (fun l z h k => ?_) k
  refine R_aload_n dX1_readDeed_117 rfl (fun l z h k => ?_) k
  refine R_aload_n dX1_readDeed_118 rfl (fun l z h k => ?_) k
  exact R_cv1 (M := mX1_readDeed) (pc := 119) (bc := bc) (bs := bs) (cb := 0) (cs := 0) (M' := mX1_takePerson) dX1_readDeed_119 rfl (by decide) w_1229 w_137 w_1226 w_1228 w_29 (by decide +kernel) (fun _ _ _ k => k) k
theorem bX1_readDeed_122 {G : Gt} {d bc bs : Nat} {Q : QT} {l : Ls} {z : List Value} {h : Hp} (k : (tXast 0 (tAld 2 (tPush (.int 3) (tAld 0 (tAld 1 (tCV1 G d 0 0 0 mX1_takeThing (fun l z h => T G d bc bs mX1_readDeed 130 l z h Q))))))) l z h) : T G d bc bs mX1_readDeed 122 l z h Q := by
  refine R_iastore dX1_readDeed_122 (fun l z h k => ?_) k
  refine R_aload_n dX1_readDeed_123 rfl (fun l z h k => ?_) k
  refine R_iconst dX1_readDeed_124 (by decide) (fun l z h k => ?_) k
  refine R_aload_n dX1_readDeed_125 rfl (fun l z h k => ?_) k
  refine R_aload_n dX1_readDeed_126 rfl (fun l z h k => ?_) k
  exact R_cv1 (M := mX1_readDeed) (pc := 127) (bc := bc) (bs := bs) (cb := 0) (cs := 0) (M' := mX1_takeThing) dX1_readDeed_127 rfl (by decide) w_1221 w_137 w_1218 w_1220 w_28 (by decide +kernel) (fun _ _ _ k => k) k
theorem bX1_readDeed_130 {G : Gt} {d bc bs : Nat} {Q : QT} {l : Ls} {z : List Value} {h : Hp} (k : (tXast 0 ((fun l z h => T G d bc bs mX1_readDeed 142 l z h Q))) l z h) : T G d bc bs mX1_readDeed 130 l z h Q := by
  refine R_iastore dX1_readDeed_130 (fun l z h k => ?_) k
  exact R_goto dX1_readDeed_131 (by decide) (fun _ _ _ k => k) k
theorem bX1_readDeed_134 {G : Gt} {d bc bs : Nat} {Q : QT} {l : Ls} {z : List Value} {h : Hp} (k : (tAld 0 (tGetf 0 0 (tPush (.int 1) (tCV1 G d 0 0 8 mX9_fail (fun l z h => T G d bc bs mX1_readDeed 142 l z h Q))))) l z h) : T G d bc bs mX1_readDeed 134 l z h Q := by
  refine R_aload_n dX1_readDeed_134 rfl (fun l z h k => ?_) k
  refine R_getf (ci := 0) (f := 0) (C := RX1) (N := 6) (Tt := TX1) dX1_readDeed_135 rfl i_X1 (by decide) w_343 (fun l z h k => ?_) k
  refine R_iconst dX1_readDeed_138 (by decide) (fun l z h k => ?_) k
  exact R_cv1 (M := mX1_readDeed) (pc := 139) (bc := bc) (bs := bs) (cb := 0) (cs := 0) (M' := mX9_fail) dX1_readDeed_139 rfl (by decide) w_674 w_132 w_1244 w_672 w_673 (by decide +kernel) (fun _ _ _ k => k) k
theorem bX1_readDeed_142 {G : Gt} {d bc bs : Nat} {Q : QT} {l : Ls} {z : List Value} {h : Hp} (k : (tRetV Q) l z h) : T G d bc bs mX1_readDeed 142 l z h Q := by
  exact R_vret dX1_readDeed_142 rfl k
theorem dX1_takePerson_0 : decode cX1_takePerson 0 = .ok (.aload_n 0, 1) := by decide +kernel
theorem dX1_takePerson_1 : decode cX1_takePerson 1 = .ok (.getfield 33, 3) := by decide +kernel
theorem dX1_takePerson_4 : decode cX1_takePerson 4 = .ok (.aload_n 1, 1) := by decide +kernel
theorem dX1_takePerson_5 : decode cX1_takePerson 5 = .ok (.invokevirtual 84, 3) := by decide +kernel
theorem dX1_takePerson_8 : decode cX1_takePerson 8 = .ok (.istore_n 2, 1) := by decide +kernel
theorem dX1_takePerson_9 : decode cX1_takePerson 9 = .ok (.aload_n 0, 1) := by decide +kernel
theorem dX1_takePerson_10 : decode cX1_takePerson 10 = .ok (.getfield 33, 3) := by decide +kernel
theorem dX1_takePerson_13 : decode cX1_takePerson 13 = .ok (.invokevirtual 91, 3) := by decide +kernel
theorem dX1_takePerson_16 : decode cX1_takePerson 16 = .ok (.iload_n 2, 1) := by decide +kernel
theorem dX1_takePerson_17 : decode cX1_takePerson 17 = .ok (.ireturn, 1) := by decide +kernel
theorem bX1_takePerson_0 {G : Gt} {d bc bs : Nat} {Q : QT} {l : Ls} {z : List Value} {h : Hp} (k : (tAld 0 (tGetf 0 0 (tAld 1 (tCV1 G d 0 0 8 mX9_personHere (fun l z h => T G d bc bs mX1_takePerson 8 l z h Q))))) l z h) : T G d bc bs mX1_takePerson 0 l z h Q := by
  refine R_aload_n dX1_takePerson_0 rfl (fun l z h k => ?_) k
  refine R_getf (ci := 0) (f := 0) (C := RX1) (N := 6) (Tt := TX1) dX1_takePerson_1 rfl i_X1 (by decide) w_343 (fun l z h k => ?_) k
  refine R_aload_n dX1_takePerson_4 rfl (fun l z h k => ?_) k
  exact R_cv1 (M := mX1_takePerson) (pc := 5) (bc := bc) (bs := bs) (cb := 0) (cs := 0) (M' := mX9_personHere) dX1_takePerson_5 rfl (by decide) w_731 w_132 w_1230 w_729 w_730 (by decide +kernel) (fun _ _ _ k => k) k
theorem bX1_takePerson_8 {G : Gt} {d bc bs : Nat} {Q : QT} {l : Ls} {z : List Value} {h : Hp} (k : (tIst 2 (tAld 0 (tGetf 0 0 (tCV0 G d 0 0 8 mX9_step (fun l z h => T G d bc bs mX1_takePerson 16 l z h Q))))) l z h) : T G d bc bs mX1_takePerson 8 l z h Q := by
  refine R_istore_n dX1_takePerson_8 rfl (by decide) (fun l z h k => ?_) k
  refine R_aload_n dX1_takePerson_9 rfl (fun l z h k => ?_) k
  refine R_getf (ci := 0) (f := 0) (C := RX1) (N := 6) (Tt := TX1) dX1_takePerson_10 rfl i_X1 (by decide) w_343 (fun l z h k => ?_) k
  exact R_cv0 (M := mX1_takePerson) (pc := 13) (bc := bc) (bs := bs) (cb := 0) (cs := 0) (M' := mX9_step) dX1_takePerson_13 rfl (by decide) w_652 w_132 w_1216 w_650 w_651 (by decide +kernel) (fun _ _ _ k => k) k
theorem bX1_takePerson_16 {G : Gt} {d bc bs : Nat} {Q : QT} {l : Ls} {z : List Value} {h : Hp} (k : (tIld 2 (tRetI Q)) l z h) : T G d bc bs mX1_takePerson 16 l z h Q := by
  refine R_iload_n dX1_takePerson_16 rfl (fun l z h k => ?_) k
  exact R_iret dX1_takePerson_17 rfl k
theorem dX1_takeThing_0 : decode cX1_takeThing 0 = .ok (.aload_n 0, 1) := by decide +kernel
theorem dX1_takeThing_1 : decode cX1_takeThing 1 = .ok (.getfield 33, 3) := by decide +kernel
theorem dX1_takeThing_4 : decode cX1_takeThing 4 = .ok (.aload_n 1, 1) := by decide +kernel
theorem dX1_takeThing_5 : decode cX1_takeThing 5 = .ok (.invokevirtual 130, 3) := by decide +kernel
theorem dX1_takeThing_8 : decode cX1_takeThing 8 = .ok (.istore_n 2, 1) := by decide +kernel
theorem dX1_takeThing_9 : decode cX1_takeThing 9 = .ok (.aload_n 0, 1) := by decide +kernel
theorem dX1_takeThing_10 : decode cX1_takeThing 10 = .ok (.getfield 33, 3) := by decide +kernel
theorem dX1_takeThing_13 : decode cX1_takeThing 13 = .ok (.invokevirtual 91, 3) := by decide +kernel
theorem dX1_takeThing_16 : decode cX1_takeThing 16 = .ok (.iload_n 2, 1) := by decide +kernel
theorem dX1_takeThing_17 : decode cX1_takeThing 17 = .ok (.ireturn, 1) := by decide +kernel
theorem bX1_takeThing_0 {G : Gt} {d bc bs : Nat} {Q : QT} {l : Ls} {z : List Value} {h : Hp} (k : (tAld 0 (tGetf 0 0 (tAld 1 (tCV1 G d 0 0 8 mX9_thingHere (fun l z h => T G d bc bs mX1_takeThing 8 l z h Q))))) l z h) : T G d bc bs mX1_takeThing 0 l z h Q := by
  refine R_aload_n dX1_takeThing_0 rfl (fun l z h k => ?_) k
  refine R_getf (ci := 0) (f := 0) (C := RX1) (N := 6) (Tt := TX1) dX1_takeThing_1 rfl i_X1 (by decide) w_343 (fun l z h k => ?_) k
  refine R_aload_n dX1_takeThing_4 rfl (fun l z h k => ?_) k
  exact R_cv1 (M := mX1_takeThing) (pc := 5) (bc := bc) (bs := bs) (cb := 0) (cs := 0) (M' := mX9_thingHere) dX1_takeThing_5 rfl (by decide) w_735 w_132 w_1222 w_733 w_734 (by decide +kernel) (fun _ _ _ k => k) k
theorem bX1_takeThing_8 {G : Gt} {d bc bs : Nat} {Q : QT} {l : Ls} {z : List Value} {h : Hp} (k : (tIst 2 (tAld 0 (tGetf 0 0 (tCV0 G d 0 0 8 mX9_step (fun l z h => T G d bc bs mX1_takeThing 16 l z h Q))))) l z h) : T G d bc bs mX1_takeThing 8 l z h Q := by
  refine R_istore_n dX1_takeThing_8 rfl (by decide) (fun l z h k => ?_) k
  refine R_aload_n dX1_takeThing_9 rfl (fun l z h k => ?_) k
  refine R_getf (ci := 0) (f := 0) (C := RX1) (N := 6) (Tt := TX1) dX1_takeThing_10 rfl i_X1 (by decide) w_343 (fun l z h k => ?_) k
  exact R_cv0 (M := mX1_takeThing) (pc := 13) (bc := bc) (bs := bs) (cb := 0) (cs := 0) (M' := mX9_step) dX1_takeThing_13 rfl (by decide) w_652 w_132 w_1216 w_650 w_651 (by decide +kernel) (fun _ _ _ k => k) k
theorem bX1_takeThing_16 {G : Gt} {d bc bs : Nat} {Q : QT} {l : Ls} {z : List Value} {h : Hp} (k : (tIld 2 (tRetI Q)) l z h) : T G d bc bs mX1_takeThing 16 l z h Q := by
  refine R_iload_n dX1_takeThing_16 rfl (fun l z h k => ?_) k
  exact R_iret dX1_takeThing_17 rfl k
theorem dX1_judge_0 : decode cX1_judge 0 = .ok (.aload_n 0, 1) := by decide +kernel
theorem dX1_judge_1 : decode cX1_judge 1 = .ok (.getfield 25, 3) := by decide +kernel
theorem dX1_judge_4 : decode cX1_judge 4 = .ok (.aload_n 1, 1) := by decide +kernel
theorem dX1_judge_5 : decode cX1_judge 5 = .ok (.invokevirtual 133, 3) := by decide +kernel
theorem dX1_judge_8 : decode cX1_judge 8 = .ok (.iconst 0, 1) := by decide +kernel
theorem dX1_judge_9 : decode cX1_judge 9 = .ok (.istore_n 2, 1) := by decide +kernel
theorem dX1_judge_10 : decode cX1_judge 10 = .ok (.iconst 0, 1) := by decide +kernel
theorem dX1_judge_11 : decode cX1_judge 11 = .ok (.istore_n 3, 1) := by decide +kernel
theorem dX1_judge_12 : decode cX1_judge 12 = .ok (.iload_n 3, 1) := by decide +kernel
theorem dX1_judge_13 : decode cX1_judge 13 = .ok (.aload_n 0, 1) := by decide +kernel
theorem dX1_judge_14 : decode cX1_judge 14 = .ok (.getfield 47, 3) := by decide +kernel
theorem dX1_judge_17 : decode cX1_judge 17 = .ok (.if_icmp .ge 34, 3) := by decide +kernel
theorem dX1_judge_20 : decode cX1_judge 20 = .ok (.iload_n 2, 1) := by decide +kernel
theorem dX1_judge_21 : decode cX1_judge 21 = .ok (.ifCond .ne 30, 3) := by decide +kernel
theorem dX1_judge_24 : decode cX1_judge 24 = .ok (.aload_n 0, 1) := by decide +kernel
theorem dX1_judge_25 : decode cX1_judge 25 = .ok (.aload_n 0, 1) := by decide +kernel
theorem dX1_judge_26 : decode cX1_judge 26 = .ok (.getfield 13, 3) := by decide +kernel
theorem dX1_judge_29 : decode cX1_judge 29 = .ok (.iload_n 3, 1) := by decide +kernel
theorem dX1_judge_30 : decode cX1_judge 30 = .ok (.aaload, 1) := by decide +kernel
theorem dX1_judge_31 : decode cX1_judge 31 = .ok (.aload_n 0, 1) := by decide +kernel
theorem dX1_judge_32 : decode cX1_judge 32 = .ok (.getfield 19, 3) := by decide +kernel
theorem dX1_judge_35 : decode cX1_judge 35 = .ok (.iload_n 3, 1) := by decide +kernel
theorem dX1_judge_36 : decode cX1_judge 36 = .ok (.aaload, 1) := by decide +kernel
theorem dX1_judge_37 : decode cX1_judge 37 = .ok (.invokevirtual 136, 3) := by decide +kernel
theorem dX1_judge_40 : decode cX1_judge 40 = .ok (.istore_n 2, 1) := by decide +kernel
theorem dX1_judge_41 : decode cX1_judge 41 = .ok (.iload_n 2, 1) := by decide +kernel
theorem dX1_judge_42 : decode cX1_judge 42 = .ok (.ifCond .ne (-30), 3) := by decide +kernel
theorem dX1_judge_45 : decode cX1_judge 45 = .ok (.iinc 3 1, 3) := by decide +kernel
theorem dX1_judge_48 : decode cX1_judge 48 = .ok (.goto (-36), 3) := by decide +kernel
theorem dX1_judge_51 : decode cX1_judge 51 = .ok (.aload_n 0, 1) := by decide +kernel
theorem dX1_judge_52 : decode cX1_judge 52 = .ok (.getfield 29, 3) := by decide +kernel
theorem dX1_judge_55 : decode cX1_judge 55 = .ok (.iconst 0, 1) := by decide +kernel
theorem dX1_judge_56 : decode cX1_judge 56 = .ok (.iload_n 2, 1) := by decide +kernel
theorem dX1_judge_57 : decode cX1_judge 57 = .ok (.iastore, 1) := by decide +kernel
theorem dX1_judge_58 : decode cX1_judge 58 = .ok (.aload_n 0, 1) := by decide +kernel
theorem dX1_judge_59 : decode cX1_judge 59 = .ok (.getfield 29, 3) := by decide +kernel
theorem dX1_judge_62 : decode cX1_judge 62 = .ok (.iconst 1, 1) := by decide +kernel
theorem dX1_judge_63 : decode cX1_judge 63 = .ok (.iload_n 3, 1) := by decide +kernel
theorem dX1_judge_64 : decode cX1_judge 64 = .ok (.iastore, 1) := by decide +kernel
theorem dX1_judge_65 : decode cX1_judge 65 = .ok (.aload_n 0, 1) := by decide +kernel
theorem dX1_judge_66 : decode cX1_judge 66 = .ok (.getfield 29, 3) := by decide +kernel
theorem dX1_judge_69 : decode cX1_judge 69 = .ok (.iconst 2, 1) := by decide +kernel
theorem dX1_judge_70 : decode cX1_judge 70 = .ok (.aload_n 0, 1) := by decide +kernel
theorem dX1_judge_71 : decode cX1_judge 71 = .ok (.getfield 25, 3) := by decide +kernel
theorem dX1_judge_74 : decode cX1_judge 74 = .ok (.getfield 140, 3) := by decide +kernel
theorem dX1_judge_77 : decode cX1_judge 77 = .ok (.iastore, 1) := by decide +kernel
theorem dX1_judge_78 : decode cX1_judge 78 = .ok (.aload_n 0, 1) := by decide +kernel
theorem dX1_judge_79 : decode cX1_judge 79 = .ok (.getfield 29, 3) := by decide +kernel
theorem dX1_judge_82 : decode cX1_judge 82 = .ok (.iconst 3, 1) := by decide +kernel
theorem dX1_judge_83 : decode cX1_judge 83 = .ok (.aload_n 0, 1) := by decide +kernel
theorem dX1_judge_84 : decode cX1_judge 84 = .ok (.getfield 25, 3) := by decide +kernel
theorem dX1_judge_87 : decode cX1_judge 87 = .ok (.invokevirtual 143, 3) := by decide +kernel
theorem dX1_judge_90 : decode cX1_judge 90 = .ok (.iastore, 1) := by decide +kernel
theorem dX1_judge_91 : decode cX1_judge 91 = .ok (.iload_n 2, 1) := by decide +kernel
theorem dX1_judge_92 : decode cX1_judge 92 = .ok (.ifCond .ne 7, 3) := by decide +kernel
theorem dX1_judge_95 : decode cX1_judge 95 = .ok (.iconst (-1), 1) := by decide +kernel
theorem dX1_judge_96 : decode cX1_judge 96 = .ok (.goto 4, 3) := by decide +kernel
theorem dX1_judge_99 : decode cX1_judge 99 = .ok (.iload_n 3, 1) := by decide +kernel
theorem dX1_judge_100 : decode cX1_judge 100 = .ok (.ireturn, 1) := by decide +kernel
theorem bX1_judge_0 {G : Gt} {d bc bs : Nat} {Q : QT} {l : Ls} {z : List Value} {h : Hp} (k : (tAld 0 (tGetf 0 4 (tAld 1 (tCV1 G d 0 0 9 mX11_copyFrom (fun l z h => T G d bc bs mX1_judge 8 l z h Q))))) l z h) : T G d bc bs mX1_judge 0 l z h Q := by
  refine R_aload_n dX1_judge_0 rfl (fun l z h k => ?_) k
  refine R_getf (ci := 0) (f := 4) (C := RX1) (N := 6) (Tt := TX1) dX1_judge_1 rfl i_X1 (by decide) w_347 (fun l z h k => ?_) k
  refine R_aload_n dX1_judge_4 rfl (fun l z h k => ?_) k
  exact R_cv1 (M := mX1_judge) (pc := 5) (bc := bc) (bs := bs) (cb := 0) (cs := 0) (M' := mX11_copyFrom) dX1_judge_5 rfl (by decide) w_787 w_136 w_1254 w_785 w_786 (by decide +kernel) (fun _ _ _ k => k) k
theorem bX1_judge_8 {G : Gt} {d bc bs : Nat} {Q : QT} {l : Ls} {z : List Value} {h : Hp} (k : (tPush (.int 0) (tIst 2 (tPush (.int 0) (tIst 3 ((fun l z h => T G d bc bs mX1_judge 12 l z h Q)))))) l z h) : T G d bc bs mX1_judge 8 l z h Q := by
  refine R_iconst dX1_judge_8 (by decide) (fun l z h k => ?_) k
  refine R_istore_n dX1_judge_9 rfl (by decide) (fun l z h k => ?_) k
  refine R_iconst dX1_judge_10 (by decide) (fun l z h k => ?_) k
  refine R_istore_n dX1_judge_11 rfl (by decide) (fun l z h k => ?_) k
  exact k
theorem bX1_judge_12 {G : Gt} {d bc bs : Nat} {Q : QT} {l : Ls} {z : List Value} {h : Hp} (k : (tIld 3 (tAld 0 (tGetf 0 3 (tIf2 (fun x y => y ≤ x) (fun l z h => T G d bc bs mX1_judge 51 l z h Q) (fun l z h => T G d bc bs mX1_judge 20 l z h Q))))) l z h) : T G d bc bs mX1_judge 12 l z h Q := by
  refine R_iload_n dX1_judge_12 rfl (fun l z h k => ?_) k
  refine R_aload_n dX1_judge_13 rfl (fun l z h k => ?_) k
  refine R_getf (ci := 0) (f := 3) (C := RX1) (N := 6) (Tt := TX1) dX1_judge_14 rfl i_X1 (by decide) w_346 (fun l z h k => ?_) k
  exact R_icmp_ge dX1_judge_17 (by decide) (fun _ _ _ k => k) (fun _ _ _ k => k) k
theorem bX1_judge_20 {G : Gt} {d bc bs : Nat} {Q : QT} {l : Ls} {z : List Value} {h : Hp} (k : (tIld 2 (tIf (fun x => x = 0) (fun l z h => T G d bc bs mX1_judge 24 l z h Q) (fun l z h => T G d bc bs mX1_judge 51 l z h Q))) l z h) : T G d bc bs mX1_judge 20 l z h Q := by
  refine R_iload_n dX1_judge_20 rfl (fun l z h k => ?_) k
  exact R_if_ne dX1_judge_21 (by decide) (fun _ _ _ k => k) (fun _ _ _ k => k) k
theorem bX1_judge_24 {G : Gt} {d bc bs : Nat} {Q : QT} {l : Ls} {z : List Value} {h : Hp} (k : (tAld 0 (tAld 0 (tGetf 0 1 (tIld 3 (tRald (tAld 0 (tGetf 0 2 (tIld 3 (tRald (tCV2 G d 0 0 0 mX1_liveLine (fun l z h => T G d bc bs mX1_judge 40 l z h Q))))))))))) l z h) : T G d bc bs mX1_judge 24 l z h Q := by
  refine R_aload_n dX1_judge_24 rfl (fun l z h k => ?_) k
  refine R_aload_n dX1_judge_25 rfl (fun l z h k => ?_) k
  refine R_getf (ci := 0) (f := 1) (C := RX1) (N := 6) (Tt := TX1) dX1_judge_26 rfl i_X1 (by decide) w_344 (fun l z h k => ?_) k
  refine R_iload_n dX1_judge_29 rfl (fun l z h k => ?_) k
  refine R_aaload dX1_judge_30 (fun l z h k => ?_) k
  refine R_aload_n dX1_judge_31 rfl (fun l z h k => ?_) k
  refine R_getf (ci := 0) (f := 2) (C := RX1) (N := 6) (Tt := TX1) dX1_judge_32 rfl i_X1 (by decide) w_345 (fun l z h k => ?_) k
  refine R_iload_n dX1_judge_35 rfl (fun l z h k => ?_) k
  refine R_aaload dX1_judge_36 (fun l z h k => ?_) k
  exact R_cv2 (M := mX1_judge) (pc := 37) (bc := bc) (bs := bs) (cb := 0) (cs := 0) (M' := mX1_liveLine) dX1_judge_37 rfl (by decide) w_1258 w_137 w_1255 w_1257 w_32 (by decide +kernel) (fun _ _ _ k => k) k
theorem bX1_judge_40 {G : Gt} {d bc bs : Nat} {Q : QT} {l : Ls} {z : List Value} {h : Hp} (k : (tIst 2 (tIld 2 (tIf (fun x => x = 0) (fun l z h => T G d bc bs mX1_judge 45 l z h Q) (fun l z h => T G d bc bs mX1_judge 12 l z h Q)))) l z h) : T G d bc bs mX1_judge 40 l z h Q := by
  refine R_istore_n dX1_judge_40 rfl (by decide) (fun l z h k => ?_) k
  refine R_iload_n dX1_judge_41 rfl (fun l z h k => ?_) k
  exact R_if_ne dX1_judge_42 (by decide) (fun _ _ _ k => k) (fun _ _ _ k => k) k
theorem bX1_judge_45 {G : Gt} {d bc bs : Nat} {Q : QT} {l : Ls} {z : List Value} {h : Hp} (k : (tInc 3 1 ((fun l z h => T G d bc bs mX1_judge 12 l z h Q))) l z h) : T G d bc bs mX1_judge 45 l z h Q := by
  refine R_iinc dX1_judge_45 (by decide) (by decide) (fun l z h k => ?_) k
  exact R_goto dX1_judge_48 (by decide) (fun _ _ _ k => k) k
theorem bX1_judge_51 {G : Gt} {d bc bs : Nat} {Q : QT} {l : Ls} {z : List Value} {h : Hp} (k : (tAld 0 (tGetf 0 5 (tPush (.int 0) (tIld 2 (tXast 0 (tAld 0 (tGetf 0 5 (tPush (.int 1) (tIld 3 (tXast 0 (tAld 0 (tGetf 0 5 (tPush (.int 2) (tAld 0 (tGetf 0 4 (tGetf 9 2 (tXast 0 (tAld 0 (tGetf 0 5 (tPush (.int 3) (tAld 0 (tGetf 0 4 (tCV0 G d 0 0 9 mX11_whoCouldPay (fun l z h => T G d bc bs mX1_judge 90 l z h Q)))))))))))))))))))))))) l z h) : T G d bc bs mX1_judge 51 l z h Q := by
  refine R_aload_n dX1_judge_51 rfl (fun l z h k => ?_) k
  refine R_getf (ci := 0) (f := 5) (C := RX1) (N := 6) (Tt := TX1) dX1_judge_52 rfl i_X1 (by decide) w_349 (fun l z h k => ?_) k
  refine R_iconst dX1_judge_55 (by decide) (fun l z h k => ?_) k
  refine R_iload_n dX1_judge_56 rfl (fun l z h k => ?_) k
  refine R_iastore dX1_judge_57 (fun l z h k => ?_) k
  refine R_aload_n dX1_judge_58 rfl (fun l z h k => ?_) k
  refine R_getf (ci := 0) (f := 5) (C := RX1) (N := 6) (Tt := TX1) dX1_judge_59 rfl i_X1 (by decide) w_349 (fun l z h k => ?_) k
  refine R_iconst dX1_judge_62 (by decide) (fun l z h k => ?_) k
  refine R_iload_n dX1_judge_63 rfl (fun l z h k => ?_) k
  refine R_iastore dX1_judge_64 (fun l z h k => ?_) k
  refine R_aload_n dX1_judge_65 rfl (fun l z h k => ?_) k
  refine R_getf (ci := 0) (f := 5) (C := RX1) (N := 6) (Tt := TX1) dX1_judge_66 rfl i_X1 (by decide) w_349 (fun l z h k => ?_) k
  refine R_iconst dX1_judge_69 (by decide) (fun l z h k => ?_) k
  refine R_aload_n dX1_judge_70 rfl (fun l z h k => ?_) k
  refine R_getf (ci := 0) (f := 4) (C := RX1) (N := 6) (Tt := TX1) dX1_judge_71 rfl i_X1 (by decide) w_347 (fun l z h k => ?_) k
  refine R_getf (ci := 9) (f := 2) (C := RX11) (N := 14) (Tt := TX11) dX1_judge_74 rfl i_X11 (by decide) w_261 (fun l z h k => ?_) k
  refine R_iastore dX1_judge_77 (fun l z h k => ?_) k
  refine R_aload_n dX1_judge_78 rfl (fun l z h k => ?_) k
  refine R_getf (ci := 0) (f := 5) (C := RX1) (N := 6) (Tt := TX1) dX1_judge_79 rfl i_X1 (by decide) w_349 (fun l z h k => ?_) k
  refine R_iconst dX1_judge_82 (by decide) (fun l z h k => ?_) k
  refine R_aload_n dX1_judge_83 rfl (fun l z h k => ?_) k
  refine R_getf (ci := 0) (f := 4) (C := RX1) (N := 6) (Tt := TX1) dX1_judge_84 rfl i_X1 (by decide) w_347 (fun l z h k => ?_) k
  exact R_cv0 (M := mX1_judge) (pc := 87) (bc := bc) (bs := bs) (cb := 0) (cs := 0) (M' := mX11_whoCouldPay) dX1_judge_87 rfl (by decide) w_844 w_136 w_1277 w_842 w_843 (by decide +kernel) (fun _ _ _ k => k) k
theorem bX1_judge_90 {G : Gt} {d bc bs : Nat} {Q : QT} {l : Ls} {z : List Value} {h : Hp} (k : (tXast 0 (tIld 2 (tIf (fun x => x = 0) (fun l z h => T G d bc bs mX1_judge 95 l z h Q) (fun l z h => T G d bc bs mX1_judge 99 l z h Q)))) l z h) : T G d bc bs mX1_judge 90 l z h Q := by
  refine R_iastore dX1_judge_90 (fun l z h k => ?_) k
  refine R_iload_n dX1_judge_91 rfl (fun l z h k => ?_) k
  exact R_if_ne dX1_judge_92 (by decide) (fun _ _ _ k => k) (fun _ _ _ k => k) k
theorem bX1_judge_95 {G : Gt} {d bc bs : Nat} {Q : QT} {l : Ls} {z : List Value} {h : Hp} (k : (tPush (.int (-1)) ((fun l z h => T G d bc bs mX1_judge 100 l z h Q))) l z h) : T G d bc bs mX1_judge 95 l z h Q := by
  refine R_iconst dX1_judge_95 (by decide) (fun l z h k => ?_) k
  exact R_goto dX1_judge_96 (by decide) (fun _ _ _ k => k) k
theorem bX1_judge_99 {G : Gt} {d bc bs : Nat} {Q : QT} {l : Ls} {z : List Value} {h : Hp} (k : (tIld 3 ((fun l z h => T G d bc bs mX1_judge 100 l z h Q))) l z h) : T G d bc bs mX1_judge 99 l z h Q := by
  refine R_iload_n dX1_judge_99 rfl (fun l z h k => ?_) k
  exact k
theorem bX1_judge_100 {G : Gt} {d bc bs : Nat} {Q : QT} {l : Ls} {z : List Value} {h : Hp} (k : (tRetI Q) l z h) : T G d bc bs mX1_judge 100 l z h Q := by
  exact R_iret dX1_judge_100 rfl k
theorem dX1_hasRightLines_0 : decode cX1_hasRightLines 0 = .ok (.aload_n 0, 1) := by decide +kernel
theorem dX1_hasRightLines_1 : decode cX1_hasRightLines 1 = .ok (.getfield 29, 3) := by decide +kernel
theorem dX1_hasRightLines_4 : decode cX1_hasRightLines 4 = .ok (.iconst 1, 1) := by decide +kernel
theorem dX1_hasRightLines_5 : decode cX1_hasRightLines 5 = .ok (.iaload, 1) := by decide +kernel
theorem dX1_hasRightLines_6 : decode cX1_hasRightLines 6 = .ok (.ifCond .le 7, 3) := by decide +kernel
theorem dX1_hasRightLines_9 : decode cX1_hasRightLines 9 = .ok (.iconst 1, 1) := by decide +kernel
theorem dX1_hasRightLines_10 : decode cX1_hasRightLines 10 = .ok (.goto 4, 3) := by decide +kernel
theorem dX1_hasRightLines_13 : decode cX1_hasRightLines 13 = .ok (.iconst 0, 1) := by decide +kernel
theorem dX1_hasRightLines_14 : decode cX1_hasRightLines 14 = .ok (.ireturn, 1) := by decide +kernel
theorem bX1_hasRightLines_0 {G : Gt} {d bc bs : Nat} {Q : QT} {l : Ls} {z : List Value} {h : Hp} (k : (tAld 0 (tGetf 0 5 (tPush (.int 1) (tXald 0 (tIf (fun x => x ≤ 0) (fun l z h => T G d bc bs mX1_hasRightLines 13 l z h Q) (fun l z h => T G d bc bs mX1_hasRightLines 9 l z h Q)))))) l z h) : T G d bc bs mX1_hasRightLines 0 l z h Q := by
  refine R_aload_n dX1_hasRightLines_0 rfl (fun l z h k => ?_) k
  refine R_getf (ci := 0) (f := 5) (C := RX1) (N := 6) (Tt := TX1) dX1_hasRightLines_1 rfl i_X1 (by decide) w_349 (fun l z h k => ?_) k
  refine R_iconst dX1_hasRightLines_4 (by decide) (fun l z h k => ?_) k
  refine R_iaload dX1_hasRightLines_5 (fun l z h k => ?_) k
  exact R_if_le dX1_hasRightLines_6 (by decide) (fun _ _ _ k => k) (fun _ _ _ k => k) k
theorem bX1_hasRightLines_9 {G : Gt} {d bc bs : Nat} {Q : QT} {l : Ls} {z : List Value} {h : Hp} (k : (tPush (.int 1) ((fun l z h => T G d bc bs mX1_hasRightLines 14 l z h Q))) l z h) : T G d bc bs mX1_hasRightLines 9 l z h Q := by
  refine R_iconst dX1_hasRightLines_9 (by decide) (fun l z h k => ?_) k
  exact R_goto dX1_hasRightLines_10 (by decide) (fun _ _ _ k => k) k
theorem bX1_hasRightLines_13 {G : Gt} {d bc bs : Nat} {Q : QT} {l : Ls} {z : List Value} {h : Hp} (k : (tPush (.int 0) ((fun l z h => T G d bc bs mX1_hasRightLines 14 l z h Q))) l z h) : T G d bc bs mX1_hasRightLines 13 l z h Q := by
  refine R_iconst dX1_hasRightLines_13 (by decide) (fun l z h k => ?_) k
  exact k
theorem bX1_hasRightLines_14 {G : Gt} {d bc bs : Nat} {Q : QT} {l : Ls} {z : List Value} {h : Hp} (k : (tRetZ Q) l z h) : T G d bc bs mX1_hasRightLines 14 l z h Q := by
  exact R_zret dX1_hasRightLines_14 rfl k
theorem dX1_liveLine_0 : decode cX1_liveLine 0 = .ok (.getstatic 146, 3) := by decide +kernel
theorem dX1_liveLine_3 : decode cX1_liveLine 3 = .ok (.aload_n 1, 1) := by decide +kernel
theorem dX1_liveLine_4 : decode cX1_liveLine 4 = .ok (.invokevirtual 151, 3) := by decide +kernel
theorem dX1_liveLine_7 : decode cX1_liveLine 7 = .ok (.iaload, 1) := by decide +kernel
theorem dX1_liveLine_8 : decode cX1_liveLine 8 = .ok (.tableswitch 132 1 5 #[36, 50, 69, 85, 110], 36) := by decide +kernel
theorem dX1_liveLine_44 : decode cX1_liveLine 44 = .ok (.aload_n 0, 1) := by decide +kernel
theorem dX1_liveLine_45 : decode cX1_liveLine 45 = .ok (.getfield 25, 3) := by decide +kernel
theorem dX1_liveLine_48 : decode cX1_liveLine 48 = .ok (.aload_n 2, 1) := by decide +kernel
theorem dX1_liveLine_49 : decode cX1_liveLine 49 = .ok (.iconst 0, 1) := by decide +kernel
theorem dX1_liveLine_50 : decode cX1_liveLine 50 = .ok (.iaload, 1) := by decide +kernel
theorem dX1_liveLine_51 : decode cX1_liveLine 51 = .ok (.aload_n 2, 1) := by decide +kernel
theorem dX1_liveLine_52 : decode cX1_liveLine 52 = .ok (.iconst 1, 1) := by decide +kernel
theorem dX1_liveLine_53 : decode cX1_liveLine 53 = .ok (.iaload, 1) := by decide +kernel
theorem dX1_liveLine_54 : decode cX1_liveLine 54 = .ok (.invokevirtual 154, 3) := by decide +kernel
theorem dX1_liveLine_57 : decode cX1_liveLine 57 = .ok (.ireturn, 1) := by decide +kernel
theorem dX1_liveLine_58 : decode cX1_liveLine 58 = .ok (.aload_n 0, 1) := by decide +kernel
theorem dX1_liveLine_59 : decode cX1_liveLine 59 = .ok (.getfield 25, 3) := by decide +kernel
theorem dX1_liveLine_62 : decode cX1_liveLine 62 = .ok (.aload_n 2, 1) := by decide +kernel
theorem dX1_liveLine_63 : decode cX1_liveLine 63 = .ok (.iconst 0, 1) := by decide +kernel
theorem dX1_liveLine_64 : decode cX1_liveLine 64 = .ok (.iaload, 1) := by decide +kernel
theorem dX1_liveLine_65 : decode cX1_liveLine 65 = .ok (.aload_n 2, 1) := by decide +kernel
theorem dX1_liveLine_66 : decode cX1_liveLine 66 = .ok (.iconst 1, 1) := by decide +kernel
theorem dX1_liveLine_67 : decode cX1_liveLine 67 = .ok (.iaload, 1) := by decide +kernel
theorem dX1_liveLine_68 : decode cX1_liveLine 68 = .ok (.invokevirtual 157, 3) := by decide +kernel
theorem dX1_liveLine_71 : decode cX1_liveLine 71 = .ok (.bipush 10, 2) := by decide +kernel
theorem dX1_liveLine_73 : decode cX1_liveLine 73 = .ok (.invokestatic 160, 3) := by decide +kernel
theorem dX1_liveLine_76 : decode cX1_liveLine 76 = .ok (.ireturn, 1) := by decide +kernel
theorem dX1_liveLine_77 : decode cX1_liveLine 77 = .ok (.aload_n 0, 1) := by decide +kernel
theorem dX1_liveLine_78 : decode cX1_liveLine 78 = .ok (.getfield 25, 3) := by decide +kernel
theorem dX1_liveLine_81 : decode cX1_liveLine 81 = .ok (.aload_n 2, 1) := by decide +kernel
theorem dX1_liveLine_82 : decode cX1_liveLine 82 = .ok (.iconst 0, 1) := by decide +kernel
theorem dX1_liveLine_83 : decode cX1_liveLine 83 = .ok (.iaload, 1) := by decide +kernel
theorem dX1_liveLine_84 : decode cX1_liveLine 84 = .ok (.invokevirtual 163, 3) := by decide +kernel
theorem dX1_liveLine_87 : decode cX1_liveLine 87 = .ok (.bipush 20, 2) := by decide +kernel
theorem dX1_liveLine_89 : decode cX1_liveLine 89 = .ok (.invokestatic 160, 3) := by decide +kernel
theorem dX1_liveLine_92 : decode cX1_liveLine 92 = .ok (.ireturn, 1) := by decide +kernel
theorem dX1_liveLine_93 : decode cX1_liveLine 93 = .ok (.aload_n 0, 1) := by decide +kernel
theorem dX1_liveLine_94 : decode cX1_liveLine 94 = .ok (.getfield 25, 3) := by decide +kernel
theorem dX1_liveLine_97 : decode cX1_liveLine 97 = .ok (.aload_n 2, 1) := by decide +kernel
theorem dX1_liveLine_98 : decode cX1_liveLine 98 = .ok (.iconst 0, 1) := by decide +kernel
theorem dX1_liveLine_99 : decode cX1_liveLine 99 = .ok (.iaload, 1) := by decide +kernel
theorem dX1_liveLine_100 : decode cX1_liveLine 100 = .ok (.aload_n 2, 1) := by decide +kernel
theorem dX1_liveLine_101 : decode cX1_liveLine 101 = .ok (.iconst 1, 1) := by decide +kernel
theorem dX1_liveLine_102 : decode cX1_liveLine 102 = .ok (.iaload, 1) := by decide +kernel
theorem dX1_liveLine_103 : decode cX1_liveLine 103 = .ok (.aload_n 2, 1) := by decide +kernel
theorem dX1_liveLine_104 : decode cX1_liveLine 104 = .ok (.iconst 2, 1) := by decide +kernel
theorem dX1_liveLine_105 : decode cX1_liveLine 105 = .ok (.iaload, 1) := by decide +kernel
theorem dX1_liveLine_106 : decode cX1_liveLine 106 = .ok (.aload_n 2, 1) := by decide +kernel
theorem dX1_liveLine_107 : decode cX1_liveLine 107 = .ok (.iconst 3, 1) := by decide +kernel
theorem dX1_liveLine_108 : decode cX1_liveLine 108 = .ok (.iaload, 1) := by decide +kernel
theorem dX1_liveLine_109 : decode cX1_liveLine 109 = .ok (.invokevirtual 167, 3) := by decide +kernel
theorem dX1_liveLine_112 : decode cX1_liveLine 112 = .ok (.bipush 30, 2) := by decide +kernel
theorem dX1_liveLine_114 : decode cX1_liveLine 114 = .ok (.invokestatic 160, 3) := by decide +kernel
theorem dX1_liveLine_117 : decode cX1_liveLine 117 = .ok (.ireturn, 1) := by decide +kernel
theorem dX1_liveLine_118 : decode cX1_liveLine 118 = .ok (.aload_n 0, 1) := by decide +kernel
theorem dX1_liveLine_119 : decode cX1_liveLine 119 = .ok (.getfield 25, 3) := by decide +kernel
theorem dX1_liveLine_122 : decode cX1_liveLine 122 = .ok (.aload_n 2, 1) := by decide +kernel
theorem dX1_liveLine_123 : decode cX1_liveLine 123 = .ok (.iconst 0, 1) := by decide +kernel
theorem dX1_liveLine_124 : decode cX1_liveLine 124 = .ok (.iaload, 1) := by decide +kernel
theorem dX1_liveLine_125 : decode cX1_liveLine 125 = .ok (.aload_n 2, 1) := by decide +kernel
theorem dX1_liveLine_126 : decode cX1_liveLine 126 = .ok (.iconst 1, 1) := by decide +kernel
theorem dX1_liveLine_127 : decode cX1_liveLine 127 = .ok (.iaload, 1) := by decide +kernel
theorem dX1_liveLine_128 : decode cX1_liveLine 128 = .ok (.aload_n 2, 1) := by decide +kernel
theorem dX1_liveLine_129 : decode cX1_liveLine 129 = .ok (.iconst 2, 1) := by decide +kernel
theorem dX1_liveLine_130 : decode cX1_liveLine 130 = .ok (.iaload, 1) := by decide +kernel
theorem dX1_liveLine_131 : decode cX1_liveLine 131 = .ok (.invokevirtual 171, 3) := by decide +kernel
theorem dX1_liveLine_134 : decode cX1_liveLine 134 = .ok (.bipush 40, 2) := by decide +kernel
theorem dX1_liveLine_136 : decode cX1_liveLine 136 = .ok (.invokestatic 160, 3) := by decide +kernel
theorem dX1_liveLine_139 : decode cX1_liveLine 139 = .ok (.ireturn, 1) := by decide +kernel
theorem dX1_liveLine_140 : decode cX1_liveLine 140 = .ok (.aload_n 0, 1) := by decide +kernel
theorem dX1_liveLine_141 : decode cX1_liveLine 141 = .ok (.getfield 25, 3) := by decide +kernel
theorem dX1_liveLine_144 : decode cX1_liveLine 144 = .ok (.invokevirtual 175, 3) := by decide +kernel
theorem dX1_liveLine_147 : decode cX1_liveLine 147 = .ok (.aload_n 2, 1) := by decide +kernel
theorem dX1_liveLine_148 : decode cX1_liveLine 148 = .ok (.iconst 0, 1) := by decide +kernel
theorem dX1_liveLine_149 : decode cX1_liveLine 149 = .ok (.iaload, 1) := by decide +kernel
theorem dX1_liveLine_150 : decode cX1_liveLine 150 = .ok (.if_icmp .ge 6, 3) := by decide +kernel
theorem dX1_liveLine_153 : decode cX1_liveLine 153 = .ok (.bipush 51, 2) := by decide +kernel
theorem dX1_liveLine_155 : decode cX1_liveLine 155 = .ok (.ireturn, 1) := by decide +kernel
theorem dX1_liveLine_156 : decode cX1_liveLine 156 = .ok (.aload_n 0, 1) := by decide +kernel
theorem dX1_liveLine_157 : decode cX1_liveLine 157 = .ok (.getfield 25, 3) := by decide +kernel
theorem dX1_liveLine_160 : decode cX1_liveLine 160 = .ok (.aload_n 2, 1) := by decide +kernel
theorem dX1_liveLine_161 : decode cX1_liveLine 161 = .ok (.iconst 0, 1) := by decide +kernel
theorem dX1_liveLine_162 : decode cX1_liveLine 162 = .ok (.iaload, 1) := by decide +kernel
theorem dX1_liveLine_163 : decode cX1_liveLine 163 = .ok (.invokevirtual 178, 3) := by decide +kernel
theorem dX1_liveLine_166 : decode cX1_liveLine 166 = .ok (.pop, 1) := by decide +kernel
theorem dX1_liveLine_167 : decode cX1_liveLine 167 = .ok (.iconst 0, 1) := by decide +kernel
theorem dX1_liveLine_168 : decode cX1_liveLine 168 = .ok (.ireturn, 1) := by decide +kernel
theorem bX1_liveLine_0 {G : Gt} {d bc bs : Nat} {Q : QT} {l : Ls} {z : List Value} {h : Hp} (k : (tPush (.ref (G.2.2.2 51)) (tAld 1 (tOrd G d (fun l z h => T G d bc bs mX1_liveLine 7 l z h Q)))) l z h) : T G d bc bs mX1_liveLine 0 l z h Q := by
  refine R_swm dX1_liveLine_0 w_1259 (fun l z h k => ?_) k
  refine R_aload_n dX1_liveLine_3 rfl (fun l z h k => ?_) k
  exact R_ord dX1_liveLine_4 w_1261 (fun _ _ _ k => k) k
theorem bX1_liveLine_7 {G : Gt} {d bc bs : Nat} {Q : QT} {l : Ls} {z : List Value} {h : Hp} (k : (tTald (ySwm G) (tSw 1 [44, 58, 77, 93, 118] 140 (fun t l z h => T G d bc bs mX1_liveLine t l z h Q))) l z h) : T G d bc bs mX1_liveLine 7 l z h Q := by
  refine R_smald dX1_liveLine_7 (fun l z h k => ?_) k
  exact R_table dX1_liveLine_8 (by decide) (by decide) (by decide) (by decide) (by decide) (fun _ _ _ _ k => k) k
theorem bX1_liveLine_44 {G : Gt} {d bc bs : Nat} {Q : QT} {l : Ls} {z : List Value} {h : Hp} (k : (tAld 0 (tGetf 0 4 (tAld 2 (tPush (.int 0) (tXald 0 (tAld 2 (tPush (.int 1) (tXald 0 (tCV2 G d 0 0 9 mX11_walk (fun l z h => T G d bc bs mX1_liveLine 57 l z h Q)))))))))) l z h) : T G d bc bs mX1_liveLine 44 l z h Q := by
  refine R_aload_n dX1_liveLine_44 rfl (fun l z h k => ?_) k
  refine R_getf (ci := 0) (f := 4) (C := RX1) (N := 6) (Tt := TX1) dX1_liveLine_45 rfl i_X1 (by decide) w_347 (fun l z h k => ?_) k
  refine R_aload_n dX1_liveLine_48 rfl (fun l z h k => ?_) k
  refine R_iconst dX1_liveLine_49 (by decide) (fun l z h k => ?_) k
  refine R_iaload dX1_liveLine_50 (fun l z h k => ?_) k
  refine R_aload_n dX1_liveLine_51 rfl (fun l z h k => ?_) k
  refine R_iconst dX1_liveLine_52 (by decide) (fun l z h k => ?_) k
  refine R_iaload dX1_liveLine_53 (fun l z h k => ?_) k
  exact R_cv2 (M := mX1_liveLine) (pc := 54) (bc := bc) (bs := bs) (cb := 0) (cs := 0) (M' := mX11_walk) dX1_liveLine_54 rfl (by decide) w_882 w_136 w_1267 w_880 w_881 (by decide +kernel) (fun _ _ _ k => k) k
theorem bX1_liveLine_57 {G : Gt} {d bc bs : Nat} {Q : QT} {l : Ls} {z : List Value} {h : Hp} (k : (tRetI Q) l z h) : T G d bc bs mX1_liveLine 57 l z h Q := by
  exact R_iret dX1_liveLine_57 rfl k
theorem bX1_liveLine_58 {G : Gt} {d bc bs : Nat} {Q : QT} {l : Ls} {z : List Value} {h : Hp} (k : (tAld 0 (tGetf 0 4 (tAld 2 (tPush (.int 0) (tXald 0 (tAld 2 (tPush (.int 1) (tXald 0 (tCV2 G d 0 0 9 mX11_pair (fun l z h => T G d bc bs mX1_liveLine 71 l z h Q)))))))))) l z h) : T G d bc bs mX1_liveLine 58 l z h Q := by
  refine R_aload_n dX1_liveLine_58 rfl (fun l z h k => ?_) k
  refine R_getf (ci := 0) (f := 4) (C := RX1) (N := 6) (Tt := TX1) dX1_liveLine_59 rfl i_X1 (by decide) w_347 (fun l z h k => ?_) k
  refine R_aload_n dX1_liveLine_62 rfl (fun l z h k => ?_) k
  refine R_iconst dX1_liveLine_63 (by decide) (fun l z h k => ?_) k
  refine R_iaload dX1_liveLine_64 (fun l z h k => ?_) k
  refine R_aload_n dX1_liveLine_65 rfl (fun l z h k => ?_) k
  refine R_iconst dX1_liveLine_66 (by decide) (fun l z h k => ?_) k
  refine R_iaload dX1_liveLine_67 (fun l z h k => ?_) k
  exact R_cv2 (M := mX1_liveLine) (pc := 68) (bc := bc) (bs := bs) (cb := 0) (cs := 0) (M' := mX11_pair) dX1_liveLine_68 rfl (by decide) w_771 w_136 w_1268 w_769 w_770 (by decide +kernel) (fun _ _ _ k => k) k
theorem bX1_liveLine_71 {G : Gt} {d bc bs : Nat} {Q : QT} {l : Ls} {z : List Value} {h : Hp} (k : (tPush (.int 10) (tCS2 G d 0 0 mX1_raised (fun l z h => T G d bc bs mX1_liveLine 76 l z h Q))) l z h) : T G d bc bs mX1_liveLine 71 l z h Q := by
  refine R_bipush dX1_liveLine_71 (by decide) (fun l z h k => ?_) k
  exact R_cs2 (M := mX1_liveLine) (pc := 73) (bc := bc) (bs := bs) (cb := 0) (cs := 0) (M' := mX1_raised) dX1_liveLine_73 (by decide) w_1271 w_137 w_1269 w_1270 (by decide +kernel) (fun _ _ _ k => k) k
theorem bX1_liveLine_76 {G : Gt} {d bc bs : Nat} {Q : QT} {l : Ls} {z : List Value} {h : Hp} (k : (tRetI Q) l z h) : T G d bc bs mX1_liveLine 76 l z h Q := by
  exact R_iret dX1_liveLine_76 rfl k
theorem bX1_liveLine_77 {G : Gt} {d bc bs : Nat} {Q : QT} {l : Ls} {z : List Value} {h : Hp} (k : (tAld 0 (tGetf 0 4 (tAld 2 (tPush (.int 0) (tXald 0 (tCV1 G d 0 0 9 mX11_unpair (fun l z h => T G d bc bs mX1_liveLine 87 l z h Q))))))) l z h) : T G d bc bs mX1_liveLine 77 l z h Q := by
  refine R_aload_n dX1_liveLine_77 rfl (fun l z h k => ?_) k
  refine R_getf (ci := 0) (f := 4) (C := RX1) (N := 6) (Tt := TX1) dX1_liveLine_78 rfl i_X1 (by decide) w_347 (fun l z h k => ?_) k
  refine R_aload_n dX1_liveLine_81 rfl (fun l z h k => ?_) k
  refine R_iconst dX1_liveLine_82 (by decide) (fun l z h k => ?_) k
  refine R_iaload dX1_liveLine_83 (fun l z h k => ?_) k
  exact R_cv1 (M := mX1_liveLine) (pc := 84) (bc := bc) (bs := bs) (cb := 0) (cs := 0) (M' := mX11_unpair) dX1_liveLine_84 rfl (by decide) w_912 w_136 w_1272 w_910 w_911 (by decide +kernel) (fun _ _ _ k => k) k
theorem bX1_liveLine_87 {G : Gt} {d bc bs : Nat} {Q : QT} {l : Ls} {z : List Value} {h : Hp} (k : (tPush (.int 20) (tCS2 G d 0 0 mX1_raised (fun l z h => T G d bc bs mX1_liveLine 92 l z h Q))) l z h) : T G d bc bs mX1_liveLine 87 l z h Q := by
  refine R_bipush dX1_liveLine_87 (by decide) (fun l z h k => ?_) k
  exact R_cs2 (M := mX1_liveLine) (pc := 89) (bc := bc) (bs := bs) (cb := 0) (cs := 0) (M' := mX1_raised) dX1_liveLine_89 (by decide) w_1271 w_137 w_1269 w_1270 (by decide +kernel) (fun _ _ _ k => k) k
theorem bX1_liveLine_92 {G : Gt} {d bc bs : Nat} {Q : QT} {l : Ls} {z : List Value} {h : Hp} (k : (tRetI Q) l z h) : T G d bc bs mX1_liveLine 92 l z h Q := by
  exact R_iret dX1_liveLine_92 rfl k
theorem bX1_liveLine_93 {G : Gt} {d bc bs : Nat} {Q : QT} {l : Ls} {z : List Value} {h : Hp} (k : (tAld 0 (tGetf 0 4 (tAld 2 (tPush (.int 0) (tXald 0 (tAld 2 (tPush (.int 1) (tXald 0 (tAld 2 (tPush (.int 2) (tXald 0 (tAld 2 (tPush (.int 3) (tXald 0 (tCV4 G d 0 0 9 mX11_swapHalves (fun l z h => T G d bc bs mX1_liveLine 112 l z h Q)))))))))))))))) l z h) : T G d bc bs mX1_liveLine 93 l z h Q := by
  refine R_aload_n dX1_liveLine_93 rfl (fun l z h k => ?_) k
  refine R_getf (ci := 0) (f := 4) (C := RX1) (N := 6) (Tt := TX1) dX1_liveLine_94 rfl i_X1 (by decide) w_347 (fun l z h k => ?_) k
  refine R_aload_n dX1_liveLine_97 rfl (fun l z h k => ?_) k
  refine R_iconst dX1_liveLine_98 (by decide) (fun l z h k => ?_) k
  refine R_iaload dX1_liveLine_99 (fun l z h k => ?_) k
  refine R_aload_n dX1_liveLine_100 rfl (fun l z h k => ?_) k
  refine R_iconst dX1_liveLine_101 (by decide) (fun l z h k => ?_) k
  refine R_iaload dX1_liveLine_102 (fun l z h k => ?_) k
  refine R_aload_n dX1_liveLine_103 rfl (fun l z h k => ?_) k
  refine R_iconst dX1_liveLine_104 (by decide) (fun l z h k => ?_) k
  refine R_iaload dX1_liveLine_105 (fun l z h k => ?_) k
  refine R_aload_n dX1_liveLine_106 rfl (fun l z h k => ?_) k
  refine R_iconst dX1_liveLine_107 (by decide) (fun l z h k => ?_) k
  refine R_iaload dX1_liveLine_108 (fun l z h k => ?_) k
  exact R_cv4 (M := mX1_liveLine) (pc := 109) (bc := bc) (bs := bs) (cb := 0) (cs := 0) (M' := mX11_swapHalves) dX1_liveLine_109 rfl (by decide) w_921 w_136 w_1273 w_919 w_920 (by decide +kernel) (fun _ _ _ k => k) k
theorem bX1_liveLine_112 {G : Gt} {d bc bs : Nat} {Q : QT} {l : Ls} {z : List Value} {h : Hp} (k : (tPush (.int 30) (tCS2 G d 0 0 mX1_raised (fun l z h => T G d bc bs mX1_liveLine 117 l z h Q))) l z h) : T G d bc bs mX1_liveLine 112 l z h Q := by
  refine R_bipush dX1_liveLine_112 (by decide) (fun l z h k => ?_) k
  exact R_cs2 (M := mX1_liveLine) (pc := 114) (bc := bc) (bs := bs) (cb := 0) (cs := 0) (M' := mX1_raised) dX1_liveLine_114 (by decide) w_1271 w_137 w_1269 w_1270 (by decide +kernel) (fun _ _ _ k => k) k
theorem bX1_liveLine_117 {G : Gt} {d bc bs : Nat} {Q : QT} {l : Ls} {z : List Value} {h : Hp} (k : (tRetI Q) l z h) : T G d bc bs mX1_liveLine 117 l z h Q := by
  exact R_iret dX1_liveLine_117 rfl k
theorem bX1_liveLine_118 {G : Gt} {d bc bs : Nat} {Q : QT} {l : Ls} {z : List Value} {h : Hp} (k : (tAld 0 (tGetf 0 4 (tAld 2 (tPush (.int 0) (tXald 0 (tAld 2 (tPush (.int 1) (tXald 0 (tAld 2 (tPush (.int 2) (tXald 0 (tCV3 G d 0 0 9 mX11_demand (fun l z h => T G d bc bs mX1_liveLine 134 l z h Q))))))))))))) l z h) : T G d bc bs mX1_liveLine 118 l z h Q := by
  refine R_aload_n dX1_liveLine_118 rfl (fun l z h k => ?_) k
  refine R_getf (ci := 0) (f := 4) (C := RX1) (N := 6) (Tt := TX1) dX1_liveLine_119 rfl i_X1 (by decide) w_347 (fun l z h k => ?_) k
  refine R_aload_n dX1_liveLine_122 rfl (fun l z h k => ?_) k
  refine R_iconst dX1_liveLine_123 (by decide) (fun l z h k => ?_) k
  refine R_iaload dX1_liveLine_124 (fun l z h k => ?_) k
  refine R_aload_n dX1_liveLine_125 rfl (fun l z h k => ?_) k
  refine R_iconst dX1_liveLine_126 (by decide) (fun l z h k => ?_) k
  refine R_iaload dX1_liveLine_127 (fun l z h k => ?_) k
  refine R_aload_n dX1_liveLine_128 rfl (fun l z h k => ?_) k
  refine R_iconst dX1_liveLine_129 (by decide) (fun l z h k => ?_) k
  refine R_iaload dX1_liveLine_130 (fun l z h k => ?_) k
  exact R_cv3 (M := mX1_liveLine) (pc := 131) (bc := bc) (bs := bs) (cb := 0) (cs := 0) (M' := mX11_demand) dX1_liveLine_131 rfl (by decide) w_930 w_136 w_1274 w_928 w_929 (by decide +kernel) (fun _ _ _ k => k) k
theorem bX1_liveLine_134 {G : Gt} {d bc bs : Nat} {Q : QT} {l : Ls} {z : List Value} {h : Hp} (k : (tPush (.int 40) (tCS2 G d 0 0 mX1_raised (fun l z h => T G d bc bs mX1_liveLine 139 l z h Q))) l z h) : T G d bc bs mX1_liveLine 134 l z h Q := by
  refine R_bipush dX1_liveLine_134 (by decide) (fun l z h k => ?_) k
  exact R_cs2 (M := mX1_liveLine) (pc := 136) (bc := bc) (bs := bs) (cb := 0) (cs := 0) (M' := mX1_raised) dX1_liveLine_136 (by decide) w_1271 w_137 w_1269 w_1270 (by decide +kernel) (fun _ _ _ k => k) k
theorem bX1_liveLine_139 {G : Gt} {d bc bs : Nat} {Q : QT} {l : Ls} {z : List Value} {h : Hp} (k : (tRetI Q) l z h) : T G d bc bs mX1_liveLine 139 l z h Q := by
  exact R_iret dX1_liveLine_139 rfl k
theorem bX1_liveLine_140 {G : Gt} {d bc bs : Nat} {Q : QT} {l : Ls} {z : List Value} {h : Hp} (k : (tAld 0 (tGetf 0 4 (tCV0 G d 0 0 9 mX11_daysLeft (fun l z h => T G d bc bs mX1_liveLine 147 l z h Q)))) l z h) : T G d bc bs mX1_liveLine 140 l z h Q := by
  refine R_aload_n dX1_liveLine_140 rfl (fun l z h k => ?_) k
  refine R_getf (ci := 0) (f := 4) (C := RX1) (N := 6) (Tt := TX1) dX1_liveLine_141 rfl i_X1 (by decide) w_347 (fun l z h k => ?_) k
  exact R_cv0 (M := mX1_liveLine) (pc := 144) (bc := bc) (bs := bs) (cb := 0) (cs := 0) (M' := mX11_daysLeft) dX1_liveLine_144 rfl (by decide) w_946 w_136 w_1275 w_944 w_945 (by decide +kernel) (fun _ _ _ k => k) k
theorem bX1_liveLine_147 {G : Gt} {d bc bs : Nat} {Q : QT} {l : Ls} {z : List Value} {h : Hp} (k : (tAld 2 (tPush (.int 0) (tXald 0 (tIf2 (fun x y => y ≤ x) (fun l z h => T G d bc bs mX1_liveLine 156 l z h Q) (fun l z h => T G d bc bs mX1_liveLine 153 l z h Q))))) l z h) : T G d bc bs mX1_liveLine 147 l z h Q := by
  refine R_aload_n dX1_liveLine_147 rfl (fun l z h k => ?_) k
  refine R_iconst dX1_liveLine_148 (by decide) (fun l z h k => ?_) k
  refine R_iaload dX1_liveLine_149 (fun l z h k => ?_) k
  exact R_icmp_ge dX1_liveLine_150 (by decide) (fun _ _ _ k => k) (fun _ _ _ k => k) k
theorem bX1_liveLine_153 {G : Gt} {d bc bs : Nat} {Q : QT} {l : Ls} {z : List Value} {h : Hp} (k : (tPush (.int 51) (tRetI Q)) l z h) : T G d bc bs mX1_liveLine 153 l z h Q := by
  refine R_bipush dX1_liveLine_153 (by decide) (fun l z h k => ?_) k
  exact R_iret dX1_liveLine_155 rfl k
theorem bX1_liveLine_156 {G : Gt} {d bc bs : Nat} {Q : QT} {l : Ls} {z : List Value} {h : Hp} (k : (tAld 0 (tGetf 0 4 (tAld 2 (tPush (.int 0) (tXald 0 (tCV1 G d 0 0 9 mX11_liveDays (fun l z h => T G d bc bs mX1_liveLine 166 l z h Q))))))) l z h) : T G d bc bs mX1_liveLine 156 l z h Q := by
  refine R_aload_n dX1_liveLine_156 rfl (fun l z h k => ?_) k
  refine R_getf (ci := 0) (f := 4) (C := RX1) (N := 6) (Tt := TX1) dX1_liveLine_157 rfl i_X1 (by decide) w_347 (fun l z h k => ?_) k
  refine R_aload_n dX1_liveLine_160 rfl (fun l z h k => ?_) k
  refine R_iconst dX1_liveLine_161 (by decide) (fun l z h k => ?_) k
  refine R_iaload dX1_liveLine_162 (fun l z h k => ?_) k
  exact R_cv1 (M := mX1_liveLine) (pc := 163) (bc := bc) (bs := bs) (cb := 0) (cs := 0) (M' := mX11_liveDays) dX1_liveLine_163 rfl (by decide) w_942 w_136 w_1276 w_940 w_941 (by decide +kernel) (fun _ _ _ k => k) k
theorem bX1_liveLine_166 {G : Gt} {d bc bs : Nat} {Q : QT} {l : Ls} {z : List Value} {h : Hp} (k : (tPop (tPush (.int 0) (tRetI Q))) l z h) : T G d bc bs mX1_liveLine 166 l z h Q := by
  refine R_pop dX1_liveLine_166 (fun l z h k => ?_) k
  refine R_iconst dX1_liveLine_167 (by decide) (fun l z h k => ?_) k
  exact R_iret dX1_liveLine_168 rfl k
theorem dX1_raised_0 : decode cX1_raised 0 = .ok (.iload_n 0, 1) := by decide +kernel
theorem dX1_raised_1 : decode cX1_raised 1 = .ok (.ifCond .ne 7, 3) := by decide +kernel
theorem dX1_raised_4 : decode cX1_raised 4 = .ok (.iconst 0, 1) := by decide +kernel
theorem dX1_raised_5 : decode cX1_raised 5 = .ok (.goto 6, 3) := by decide +kernel
theorem dX1_raised_8 : decode cX1_raised 8 = .ok (.iload_n 0, 1) := by decide +kernel
theorem dX1_raised_9 : decode cX1_raised 9 = .ok (.iload_n 1, 1) := by decide +kernel
theorem dX1_raised_10 : decode cX1_raised 10 = .ok (.iadd, 1) := by decide +kernel
theorem dX1_raised_11 : decode cX1_raised 11 = .ok (.ireturn, 1) := by decide +kernel
theorem bX1_raised_0 {G : Gt} {d bc bs : Nat} {Q : QT} {l : Ls} {z : List Value} {h : Hp} (k : (tIld 0 (tIf (fun x => x = 0) (fun l z h => T G d bc bs mX1_raised 4 l z h Q) (fun l z h => T G d bc bs mX1_raised 8 l z h Q))) l z h) : T G d bc bs mX1_raised 0 l z h Q := by
  refine R_iload_n dX1_raised_0 rfl (fun l z h k => ?_) k
  exact R_if_ne dX1_raised_1 (by decide) (fun _ _ _ k => k) (fun _ _ _ k => k) k
theorem bX1_raised_4 {G : Gt} {d bc bs : Nat} {Q : QT} {l : Ls} {z : List Value} {h : Hp} (k : (tPush (.int 0) ((fun l z h => T G d bc bs mX1_raised 11 l z h Q))) l z h) : T G d bc bs mX1_raised 4 l z h Q := by
  refine R_iconst dX1_raised_4 (by decide) (fun l z h k => ?_) k
  exact R_goto dX1_raised_5 (by decide) (fun _ _ _ k => k) k
theorem bX1_raised_8 {G : Gt} {d bc bs : Nat} {Q : QT} {l : Ls} {z : List Value} {h : Hp} (k : (tIld 0 (tIld 1 (tB (fun x y => x + y) ((fun l z h => T G d bc bs mX1_raised 11 l z h Q))))) l z h) : T G d bc bs mX1_raised 8 l z h Q := by
  refine R_iload_n dX1_raised_8 rfl (fun l z h k => ?_) k
  refine R_iload_n dX1_raised_9 rfl (fun l z h k => ?_) k
  refine R_iadd dX1_raised_10 (fun l z h k => ?_) k
  exact k
theorem bX1_raised_11 {G : Gt} {d bc bs : Nat} {Q : QT} {l : Ls} {z : List Value} {h : Hp} (k : (tRetI Q) l z h) : T G d bc bs mX1_raised 11 l z h Q := by
  exact R_iret dX1_raised_11 rfl k
theorem dX7_init_0 : decode cX7_init 0 = .ok (.aload_n 0, 1) := by decide +kernel
theorem dX7_init_1 : decode cX7_init 1 = .ok (.invokespecial 3, 3) := by decide +kernel
theorem dX7_init_4 : decode cX7_init 4 = .ok (.aload_n 0, 1) := by decide +kernel
theorem dX7_init_5 : decode cX7_init 5 = .ok (.bipush 40, 2) := by decide +kernel
theorem dX7_init_7 : decode cX7_init 7 = .ok (.anewarray 11, 3) := by decide +kernel
theorem dX7_init_10 : decode cX7_init 10 = .ok (.putfield 13, 3) := by decide +kernel
theorem dX7_init_13 : decode cX7_init 13 = .ok (.aload_n 0, 1) := by decide +kernel
theorem dX7_init_14 : decode cX7_init 14 = .ok (.bipush 40, 2) := by decide +kernel
theorem dX7_init_16 : decode cX7_init 16 = .ok (.newarray .int, 2) := by decide +kernel
theorem dX7_init_18 : decode cX7_init 18 = .ok (.putfield 17, 3) := by decide +kernel
theorem dX7_init_21 : decode cX7_init 21 = .ok (.aload_n 0, 1) := by decide +kernel
theorem dX7_init_22 : decode cX7_init 22 = .ok (.bipush 40, 2) := by decide +kernel
theorem dX7_init_24 : decode cX7_init 24 = .ok (.newarray .int, 2) := by decide +kernel
theorem dX7_init_26 : decode cX7_init 26 = .ok (.putfield 21, 3) := by decide +kernel
theorem dX7_init_29 : decode cX7_init 29 = .ok (.aload_n 0, 1) := by decide +kernel
theorem dX7_init_30 : decode cX7_init 30 = .ok (.bipush 40, 2) := by decide +kernel
theorem dX7_init_32 : decode cX7_init 32 = .ok (.newarray .int, 2) := by decide +kernel
theorem dX7_init_34 : decode cX7_init 34 = .ok (.putfield 24, 3) := by decide +kernel
theorem dX7_init_37 : decode cX7_init 37 = .ok (.iconst 0, 1) := by decide +kernel
theorem dX7_init_38 : decode cX7_init 38 = .ok (.istore_n 1, 1) := by decide +kernel
theorem dX7_init_39 : decode cX7_init 39 = .ok (.iload_n 1, 1) := by decide +kernel
theorem dX7_init_40 : decode cX7_init 40 = .ok (.bipush 40, 2) := by decide +kernel
theorem dX7_init_42 : decode cX7_init 42 = .ok (.if_icmp .ge 18, 3) := by decide +kernel
theorem dX7_init_45 : decode cX7_init 45 = .ok (.aload_n 0, 1) := by decide +kernel
theorem dX7_init_46 : decode cX7_init 46 = .ok (.getfield 13, 3) := by decide +kernel
theorem dX7_init_49 : decode cX7_init 49 = .ok (.iload_n 1, 1) := by decide +kernel
theorem dX7_init_50 : decode cX7_init 50 = .ok (.getstatic 27, 3) := by decide +kernel
theorem dX7_init_53 : decode cX7_init 53 = .ok (.aastore, 1) := by decide +kernel
theorem dX7_init_54 : decode cX7_init 54 = .ok (.iinc 1 1, 3) := by decide +kernel
theorem dX7_init_57 : decode cX7_init 57 = .ok (.goto (-18), 3) := by decide +kernel
theorem dX7_init_60 : decode cX7_init 60 = .ok (.return_, 1) := by decide +kernel
theorem bX7_init_0 {G : Gt} {d bc bs : Nat} {Q : QT} {l : Ls} {z : List Value} {h : Hp} (hd1 : 1 ≤ d) (k : (tAld 0 (tObj ((fun l z h => T G d bc bs mX7_init 4 l z h Q)))) l z h) : T G d bc bs mX7_init 0 l z h Q := by
  refine R_aload_n dX7_init_0 rfl (fun l z h k => ?_) k
  refine R_obj dX7_init_1 hd1 w_390 w_163 w_164 (fun l z h k => ?_) k
  exact k
theorem bX7_init_4 {G : Gt} {d bc bs : Nat} {Q : QT} {l : Ls} {z : List Value} {h : Hp} (k : (tAld 0 (tPush (.int 40) (tNewR 0 40 (tPutf isA 6 2 (tAld 0 (tPush (.int 40) (tNewI 0 40 (tPutf isA 6 3 (tAld 0 (tPush (.int 40) (tNewI 0 40 (tPutf isA 6 4 (tAld 0 (tPush (.int 40) (tNewI 0 40 (tPutf isA 6 5 (tPush (.int 0) (tIst 1 ((fun l z h => T G d bc bs mX7_init 39 l z h Q)))))))))))))))))))) l z h) : T G d (bc + 1 + 1 + 1 + 1) (bs + 40 + 40 + 40 + 40) mX7_init 4 l z h Q := by
  refine R_aload_n dX7_init_4 rfl (fun l z h k => ?_) k
  refine R_bipush dX7_init_5 (by decide) (fun l z h k => ?_) k
  refine R_newR (C := "BridgeToll$Word") dX7_init_7 (by decide) rfl (fun _ _ h => h.2.2.2.2.2.1) w_391 (by decide) (fun l z h k => ?_) k
  refine R_putF (ci := 6) (f := 2) (C := RX7) (N := 7) (Tt := TX7) tyX7 tyX7_ok nmX7 dX7_init_10 rfl i_X7 (by decide) w_396 rfl rfl rfl (tyX7_ok 2 (by decide)) (p_ref rfl) (fun l z h k => ?_) k
  refine R_aload_n dX7_init_13 rfl (fun l z h k => ?_) k
  refine R_bipush dX7_init_14 (by decide) (fun l z h k => ?_) k
  refine R_newI (ty := .int) dX7_init_16 (by decide) rfl rfl (fun _ _ => rfl) rfl w_183 (by decide) (fun l z h k => ?_) k
  refine R_putF (ci := 6) (f := 3) (C := RX7) (N := 7) (Tt := TX7) tyX7 tyX7_ok nmX7 dX7_init_18 rfl i_X7 (by decide) w_397 rfl rfl rfl (tyX7_ok 3 (by decide)) (p_ref rfl) (fun l z h k => ?_) k
  refine R_aload_n dX7_init_21 rfl (fun l z h k => ?_) k
  refine R_bipush dX7_init_22 (by decide) (fun l z h k => ?_) k
  refine R_newI (ty := .int) dX7_init_24 (by decide) rfl rfl (fun _ _ => rfl) rfl w_183 (by decide) (fun l z h k => ?_) k
  refine R_putF (ci := 6) (f := 4) (C := RX7) (N := 7) (Tt := TX7) tyX7 tyX7_ok nmX7 dX7_init_26 rfl i_X7 (by decide) w_398 rfl rfl rfl (tyX7_ok 4 (by decide)) (p_ref rfl) (fun l z h k => ?_) k
  refine R_aload_n dX7_init_29 rfl (fun l z h k => ?_) k
  refine R_bipush dX7_init_30 (by decide) (fun l z h k => ?_) k
  refine R_newI (ty := .int) dX7_init_32 (by decide) rfl rfl (fun _ _ => rfl) rfl w_183 (by decide) (fun l z h k => ?_) k
  refine R_putF (ci := 6) (f := 5) (C := RX7) (N := 7) (Tt := TX7) tyX7 tyX7_ok nmX7 dX7_init_34 rfl i_X7 (by decide) w_399 rfl rfl rfl (tyX7_ok 5 (by decide)) (p_ref rfl) (fun l z h k => ?_) k
  refine R_iconst dX7_init_37 (by decide) (fun l z h k => ?_) k
  refine R_istore_n dX7_init_38 rfl (by decide) (fun l z h k => ?_) k
  exact k
theorem bX7_init_39 {G : Gt} {d bc bs : Nat} {Q : QT} {l : Ls} {z : List Value} {h : Hp} (k : (tIld 1 (tPush (.int 40) (tIf2 (fun x y => y ≤ x) (fun l z h => T G d bc bs mX7_init 60 l z h Q) (fun l z h => T G d bc bs mX7_init 45 l z h Q)))) l z h) : T G d bc bs mX7_init 39 l z h Q := by
  refine R_iload_n dX7_init_39 rfl (fun l z h k => ?_) k
  refine R_bipush dX7_init_40 (by decide) (fun l z h k => ?_) k
  exact R_icmp_ge dX7_init_42 (by decide) (fun _ _ _ k => k) (fun _ _ _ k => k) k
theorem bX7_init_45 {G : Gt} {d bc bs : Nat} {Q : QT} {l : Ls} {z : List Value} {h : Hp} (k : (tAld 0 (tGetf 6 2 (tIld 1 (tPush (.ref (adW G 0)) (tRast 0 (pWord G) (tInc 1 1 ((fun l z h => T G d bc bs mX7_init 39 l z h Q)))))))) l z h) : T G d bc bs mX7_init 45 l z h Q := by
  refine R_aload_n dX7_init_45 rfl (fun l z h k => ?_) k
  refine R_getf (ci := 6) (f := 2) (C := RX7) (N := 7) (Tt := TX7) dX7_init_46 rfl i_X7 (by decide) w_396 (fun l z h k => ?_) k
  refine R_iload_n dX7_init_49 rfl (fun l z h k => ?_) k
  refine R_word (k := 0) dX7_init_50 (by decide) rfl w_392 (fun l z h k => ?_) k
  refine R_aastore (C := "BridgeToll$Word") dX7_init_53 (by decide) rfl pWord_ok (fun l z h k => ?_) k
  refine R_iinc dX7_init_54 (by decide) (by decide) (fun l z h k => ?_) k
  exact R_goto dX7_init_57 (by decide) (fun _ _ _ k => k) k
theorem bX7_init_60 {G : Gt} {d bc bs : Nat} {Q : QT} {l : Ls} {z : List Value} {h : Hp} (k : (tRetV Q) l z h) : T G d bc bs mX7_init 60 l z h Q := by
  exact R_vret dX7_init_60 rfl k
theorem dX7_isTold_0 : decode cX7_isTold 0 = .ok (.aload_n 0, 1) := by decide +kernel
theorem dX7_isTold_1 : decode cX7_isTold 1 = .ok (.getfield 31, 3) := by decide +kernel
theorem dX7_isTold_4 : decode cX7_isTold 4 = .ok (.ifCond .le 7, 3) := by decide +kernel
theorem dX7_isTold_7 : decode cX7_isTold 7 = .ok (.iconst 1, 1) := by decide +kernel
theorem dX7_isTold_8 : decode cX7_isTold 8 = .ok (.goto 4, 3) := by decide +kernel
theorem dX7_isTold_11 : decode cX7_isTold 11 = .ok (.iconst 0, 1) := by decide +kernel
theorem dX7_isTold_12 : decode cX7_isTold 12 = .ok (.ireturn, 1) := by decide +kernel
theorem bX7_isTold_0 {G : Gt} {d bc bs : Nat} {Q : QT} {l : Ls} {z : List Value} {h : Hp} (k : (tAld 0 (tGetf 6 0 (tIf (fun x => x ≤ 0) (fun l z h => T G d bc bs mX7_isTold 11 l z h Q) (fun l z h => T G d bc bs mX7_isTold 7 l z h Q)))) l z h) : T G d bc bs mX7_isTold 0 l z h Q := by
  refine R_aload_n dX7_isTold_0 rfl (fun l z h k => ?_) k
  refine R_getf (ci := 6) (f := 0) (C := RX7) (N := 7) (Tt := TX7) dX7_isTold_1 rfl i_X7 (by decide) w_393 (fun l z h k => ?_) k
  exact R_if_le dX7_isTold_4 (by decide) (fun _ _ _ k => k) (fun _ _ _ k => k) k
theorem bX7_isTold_7 {G : Gt} {d bc bs : Nat} {Q : QT} {l : Ls} {z : List Value} {h : Hp} (k : (tPush (.int 1) ((fun l z h => T G d bc bs mX7_isTold 12 l z h Q))) l z h) : T G d bc bs mX7_isTold 7 l z h Q := by
  refine R_iconst dX7_isTold_7 (by decide) (fun l z h k => ?_) k
  exact R_goto dX7_isTold_8 (by decide) (fun _ _ _ k => k) k
theorem bX7_isTold_11 {G : Gt} {d bc bs : Nat} {Q : QT} {l : Ls} {z : List Value} {h : Hp} (k : (tPush (.int 0) ((fun l z h => T G d bc bs mX7_isTold 12 l z h Q))) l z h) : T G d bc bs mX7_isTold 11 l z h Q := by
  refine R_iconst dX7_isTold_11 (by decide) (fun l z h k => ?_) k
  exact k
theorem bX7_isTold_12 {G : Gt} {d bc bs : Nat} {Q : QT} {l : Ls} {z : List Value} {h : Hp} (k : (tRetZ Q) l z h) : T G d bc bs mX7_isTold 12 l z h Q := by
  exact R_zret dX7_isTold_12 rfl k
theorem dX7_forget_0 : decode cX7_forget 0 = .ok (.aload_n 0, 1) := by decide +kernel
theorem dX7_forget_1 : decode cX7_forget 1 = .ok (.iconst 0, 1) := by decide +kernel
theorem dX7_forget_2 : decode cX7_forget 2 = .ok (.putfield 31, 3) := by decide +kernel
theorem dX7_forget_5 : decode cX7_forget 5 = .ok (.aload_n 0, 1) := by decide +kernel
theorem dX7_forget_6 : decode cX7_forget 6 = .ok (.iconst 0, 1) := by decide +kernel
theorem dX7_forget_7 : decode cX7_forget 7 = .ok (.putfield 35, 3) := by decide +kernel
theorem dX7_forget_10 : decode cX7_forget 10 = .ok (.return_, 1) := by decide +kernel
theorem bX7_forget_0 {G : Gt} {d bc bs : Nat} {Q : QT} {l : Ls} {z : List Value} {h : Hp} (k : (tAld 0 (tPush (.int 0) (tPutf isI 6 0 (tAld 0 (tPush (.int 0) (tPutf isI 6 1 (tRetV Q))))))) l z h) : T G d bc bs mX7_forget 0 l z h Q := by
  refine R_aload_n dX7_forget_0 rfl (fun l z h k => ?_) k
  refine R_iconst dX7_forget_1 (by decide) (fun l z h k => ?_) k
  refine R_putf (ci := 6) (f := 0) (C := RX7) (N := 7) (Tt := TX7) tyX7 tyX7_ok nmX7 dX7_forget_2 rfl i_X7 (by decide) w_393 rfl (tyX7_ok 0 (by decide)) p_int (fun l z h k => ?_) k
  refine R_aload_n dX7_forget_5 rfl (fun l z h k => ?_) k
  refine R_iconst dX7_forget_6 (by decide) (fun l z h k => ?_) k
  refine R_putf (ci := 6) (f := 1) (C := RX7) (N := 7) (Tt := TX7) tyX7 tyX7_ok nmX7 dX7_forget_7 rfl i_X7 (by decide) w_395 rfl (tyX7_ok 1 (by decide)) p_int (fun l z h k => ?_) k
  exact R_vret dX7_forget_10 rfl k
theorem dX7_copyFrom_0 : decode cX7_copyFrom 0 = .ok (.aload_n 0, 1) := by decide +kernel
theorem dX7_copyFrom_1 : decode cX7_copyFrom 1 = .ok (.aload_n 1, 1) := by decide +kernel
theorem dX7_copyFrom_2 : decode cX7_copyFrom 2 = .ok (.getfield 31, 3) := by decide +kernel
theorem dX7_copyFrom_5 : decode cX7_copyFrom 5 = .ok (.putfield 31, 3) := by decide +kernel
theorem dX7_copyFrom_8 : decode cX7_copyFrom 8 = .ok (.aload_n 0, 1) := by decide +kernel
theorem dX7_copyFrom_9 : decode cX7_copyFrom 9 = .ok (.aload_n 1, 1) := by decide +kernel
theorem dX7_copyFrom_10 : decode cX7_copyFrom 10 = .ok (.getfield 35, 3) := by decide +kernel
theorem dX7_copyFrom_13 : decode cX7_copyFrom 13 = .ok (.putfield 35, 3) := by decide +kernel
theorem dX7_copyFrom_16 : decode cX7_copyFrom 16 = .ok (.iconst 0, 1) := by decide +kernel
theorem dX7_copyFrom_17 : decode cX7_copyFrom 17 = .ok (.istore_n 2, 1) := by decide +kernel
theorem dX7_copyFrom_18 : decode cX7_copyFrom 18 = .ok (.iload_n 2, 1) := by decide +kernel
theorem dX7_copyFrom_19 : decode cX7_copyFrom 19 = .ok (.bipush 40, 2) := by decide +kernel
theorem dX7_copyFrom_21 : decode cX7_copyFrom 21 = .ok (.if_icmp .ge 21, 3) := by decide +kernel
theorem dX7_copyFrom_24 : decode cX7_copyFrom 24 = .ok (.aload_n 0, 1) := by decide +kernel
theorem dX7_copyFrom_25 : decode cX7_copyFrom 25 = .ok (.getfield 13, 3) := by decide +kernel
theorem dX7_copyFrom_28 : decode cX7_copyFrom 28 = .ok (.iload_n 2, 1) := by decide +kernel
theorem dX7_copyFrom_29 : decode cX7_copyFrom 29 = .ok (.aload_n 1, 1) := by decide +kernel
theorem dX7_copyFrom_30 : decode cX7_copyFrom 30 = .ok (.getfield 13, 3) := by decide +kernel
theorem dX7_copyFrom_33 : decode cX7_copyFrom 33 = .ok (.iload_n 2, 1) := by decide +kernel
theorem dX7_copyFrom_34 : decode cX7_copyFrom 34 = .ok (.aaload, 1) := by decide +kernel
theorem dX7_copyFrom_35 : decode cX7_copyFrom 35 = .ok (.aastore, 1) := by decide +kernel
theorem dX7_copyFrom_36 : decode cX7_copyFrom 36 = .ok (.iinc 2 1, 3) := by decide +kernel
theorem dX7_copyFrom_39 : decode cX7_copyFrom 39 = .ok (.goto (-21), 3) := by decide +kernel
theorem dX7_copyFrom_42 : decode cX7_copyFrom 42 = .ok (.aload_n 1, 1) := by decide +kernel
theorem dX7_copyFrom_43 : decode cX7_copyFrom 43 = .ok (.getfield 17, 3) := by decide +kernel
theorem dX7_copyFrom_46 : decode cX7_copyFrom 46 = .ok (.iconst 0, 1) := by decide +kernel
theorem dX7_copyFrom_47 : decode cX7_copyFrom 47 = .ok (.aload_n 0, 1) := by decide +kernel
theorem dX7_copyFrom_48 : decode cX7_copyFrom 48 = .ok (.getfield 17, 3) := by decide +kernel
theorem dX7_copyFrom_51 : decode cX7_copyFrom 51 = .ok (.iconst 0, 1) := by decide +kernel
theorem dX7_copyFrom_52 : decode cX7_copyFrom 52 = .ok (.bipush 40, 2) := by decide +kernel
theorem dX7_copyFrom_54 : decode cX7_copyFrom 54 = .ok (.invokestatic 38, 3) := by decide +kernel
theorem dX7_copyFrom_57 : decode cX7_copyFrom 57 = .ok (.aload_n 1, 1) := by decide +kernel
theorem dX7_copyFrom_58 : decode cX7_copyFrom 58 = .ok (.getfield 21, 3) := by decide +kernel
theorem dX7_copyFrom_61 : decode cX7_copyFrom 61 = .ok (.iconst 0, 1) := by decide +kernel
theorem dX7_copyFrom_62 : decode cX7_copyFrom 62 = .ok (.aload_n 0, 1) := by decide +kernel
theorem dX7_copyFrom_63 : decode cX7_copyFrom 63 = .ok (.getfield 21, 3) := by decide +kernel
theorem dX7_copyFrom_66 : decode cX7_copyFrom 66 = .ok (.iconst 0, 1) := by decide +kernel
theorem dX7_copyFrom_67 : decode cX7_copyFrom 67 = .ok (.bipush 40, 2) := by decide +kernel
theorem dX7_copyFrom_69 : decode cX7_copyFrom 69 = .ok (.invokestatic 38, 3) := by decide +kernel
theorem dX7_copyFrom_72 : decode cX7_copyFrom 72 = .ok (.return_, 1) := by decide +kernel
theorem bX7_copyFrom_0 {G : Gt} {d bc bs : Nat} {Q : QT} {l : Ls} {z : List Value} {h : Hp} (k : (tAld 0 (tAld 1 (tGetf 6 0 (tPutf isI 6 0 (tAld 0 (tAld 1 (tGetf 6 1 (tPutf isI 6 1 (tPush (.int 0) (tIst 2 ((fun l z h => T G d bc bs mX7_copyFrom 18 l z h Q)))))))))))) l z h) : T G d bc bs mX7_copyFrom 0 l z h Q := by
  refine R_aload_n dX7_copyFrom_0 rfl (fun l z h k => ?_) k
  refine R_aload_n dX7_copyFrom_1 rfl (fun l z h k => ?_) k
  refine R_getf (ci := 6) (f := 0) (C := RX7) (N := 7) (Tt := TX7) dX7_copyFrom_2 rfl i_X7 (by decide) w_393 (fun l z h k => ?_) k
  refine R_putf (ci := 6) (f := 0) (C := RX7) (N := 7) (Tt := TX7) tyX7 tyX7_ok nmX7 dX7_copyFrom_5 rfl i_X7 (by decide) w_393 rfl (tyX7_ok 0 (by decide)) p_int (fun l z h k => ?_) k
  refine R_aload_n dX7_copyFrom_8 rfl (fun l z h k => ?_) k
  refine R_aload_n dX7_copyFrom_9 rfl (fun l z h k => ?_) k
  refine R_getf (ci := 6) (f := 1) (C := RX7) (N := 7) (Tt := TX7) dX7_copyFrom_10 rfl i_X7 (by decide) w_395 (fun l z h k => ?_) k
  refine R_putf (ci := 6) (f := 1) (C := RX7) (N := 7) (Tt := TX7) tyX7 tyX7_ok nmX7 dX7_copyFrom_13 rfl i_X7 (by decide) w_395 rfl (tyX7_ok 1 (by decide)) p_int (fun l z h k => ?_) k
  refine R_iconst dX7_copyFrom_16 (by decide) (fun l z h k => ?_) k
  refine R_istore_n dX7_copyFrom_17 rfl (by decide) (fun l z h k => ?_) k
  exact k
theorem bX7_copyFrom_18 {G : Gt} {d bc bs : Nat} {Q : QT} {l : Ls} {z : List Value} {h : Hp} (k : (tIld 2 (tPush (.int 40) (tIf2 (fun x y => y ≤ x) (fun l z h => T G d bc bs mX7_copyFrom 42 l z h Q) (fun l z h => T G d bc bs mX7_copyFrom 24 l z h Q)))) l z h) : T G d bc bs mX7_copyFrom 18 l z h Q := by
  refine R_iload_n dX7_copyFrom_18 rfl (fun l z h k => ?_) k
  refine R_bipush dX7_copyFrom_19 (by decide) (fun l z h k => ?_) k
  exact R_icmp_ge dX7_copyFrom_21 (by decide) (fun _ _ _ k => k) (fun _ _ _ k => k) k
theorem bX7_copyFrom_24 {G : Gt} {d bc bs : Nat} {Q : QT} {l : Ls} {z : List Value} {h : Hp} (k : (tAld 0 (tGetf 6 2 (tIld 2 (tAld 1 (tGetf 6 2 (tIld 2 (tRald (tRast 0 (pWord G) (tInc 2 1 ((fun l z h => T G d bc bs mX7_copyFrom 18 l z h Q))))))))))) l z h) : T G d bc bs mX7_copyFrom 24 l z h Q := by
  refine R_aload_n dX7_copyFrom_24 rfl (fun l z h k => ?_) k
  refine R_getf (ci := 6) (f := 2) (C := RX7) (N := 7) (Tt := TX7) dX7_copyFrom_25 rfl i_X7 (by decide) w_396 (fun l z h k => ?_) k
  refine R_iload_n dX7_copyFrom_28 rfl (fun l z h k => ?_) k
  refine R_aload_n dX7_copyFrom_29 rfl (fun l z h k => ?_) k
  refine R_getf (ci := 6) (f := 2) (C := RX7) (N := 7) (Tt := TX7) dX7_copyFrom_30 rfl i_X7 (by decide) w_396 (fun l z h k => ?_) k
  refine R_iload_n dX7_copyFrom_33 rfl (fun l z h k => ?_) k
  refine R_aaload dX7_copyFrom_34 (fun l z h k => ?_) k
  refine R_aastore (C := "BridgeToll$Word") dX7_copyFrom_35 (by decide) rfl pWord_ok (fun l z h k => ?_) k
  refine R_iinc dX7_copyFrom_36 (by decide) (by decide) (fun l z h k => ?_) k
  exact R_goto dX7_copyFrom_39 (by decide) (fun _ _ _ k => k) k
theorem bX7_copyFrom_42 {G : Gt} {d bc bs : Nat} {Q : QT} {l : Ls} {z : List Value} {h : Hp} (hd1 : 1 ≤ d) (k : (tAld 1 (tGetf 6 3 (tPush (.int 0) (tAld 0 (tGetf 6 3 (tPush (.int 0) (tPush (.int 40) (tCpyI ((fun l z h => T G d bc bs mX7_copyFrom 57 l z h Q)))))))))) l z h) : T G d bc bs mX7_copyFrom 42 l z h Q := by
  refine R_aload_n dX7_copyFrom_42 rfl (fun l z h k => ?_) k
  refine R_getf (ci := 6) (f := 3) (C := RX7) (N := 7) (Tt := TX7) dX7_copyFrom_43 rfl i_X7 (by decide) w_397 (fun l z h k => ?_) k
  refine R_iconst dX7_copyFrom_46 (by decide) (fun l z h k => ?_) k
  refine R_aload_n dX7_copyFrom_47 rfl (fun l z h k => ?_) k
  refine R_getf (ci := 6) (f := 3) (C := RX7) (N := 7) (Tt := TX7) dX7_copyFrom_48 rfl i_X7 (by decide) w_397 (fun l z h k => ?_) k
  refine R_iconst dX7_copyFrom_51 (by decide) (fun l z h k => ?_) k
  refine R_bipush dX7_copyFrom_52 (by decide) (fun l z h k => ?_) k
  refine R_copyI dX7_copyFrom_54 hd1 w_1343 w_790 w_789 w_150 (fun l z h k => ?_) k
  exact k
theorem bX7_copyFrom_57 {G : Gt} {d bc bs : Nat} {Q : QT} {l : Ls} {z : List Value} {h : Hp} (hd1 : 1 ≤ d) (k : (tAld 1 (tGetf 6 4 (tPush (.int 0) (tAld 0 (tGetf 6 4 (tPush (.int 0) (tPush (.int 40) (tCpyI ((fun l z h => T G d bc bs mX7_copyFrom 72 l z h Q)))))))))) l z h) : T G d bc bs mX7_copyFrom 57 l z h Q := by
  refine R_aload_n dX7_copyFrom_57 rfl (fun l z h k => ?_) k
  refine R_getf (ci := 6) (f := 4) (C := RX7) (N := 7) (Tt := TX7) dX7_copyFrom_58 rfl i_X7 (by decide) w_398 (fun l z h k => ?_) k
  refine R_iconst dX7_copyFrom_61 (by decide) (fun l z h k => ?_) k
  refine R_aload_n dX7_copyFrom_62 rfl (fun l z h k => ?_) k
  refine R_getf (ci := 6) (f := 4) (C := RX7) (N := 7) (Tt := TX7) dX7_copyFrom_63 rfl i_X7 (by decide) w_398 (fun l z h k => ?_) k
  refine R_iconst dX7_copyFrom_66 (by decide) (fun l z h k => ?_) k
  refine R_bipush dX7_copyFrom_67 (by decide) (fun l z h k => ?_) k
  refine R_copyI dX7_copyFrom_69 hd1 w_1343 w_790 w_789 w_150 (fun l z h k => ?_) k
  exact k
theorem bX7_copyFrom_72 {G : Gt} {d bc bs : Nat} {Q : QT} {l : Ls} {z : List Value} {h : Hp} (k : (tRetV Q) l z h) : T G d bc bs mX7_copyFrom 72 l z h Q := by
  exact R_vret dX7_copyFrom_72 rfl k
theorem dX7_read_0 : decode cX7_read 0 = .ok (.aload_n 0, 1) := by decide +kernel
theorem dX7_read_1 : decode cX7_read 1 = .ok (.invokevirtual 44, 3) := by decide +kernel
theorem dX7_read_4 : decode cX7_read 4 = .ok (.aload_n 1, 1) := by decide +kernel
theorem dX7_read_5 : decode cX7_read 5 = .ok (.sipush 200, 3) := by decide +kernel
theorem dX7_read_8 : decode cX7_read 8 = .ok (.invokevirtual 47, 3) := by decide +kernel
theorem dX7_read_11 : decode cX7_read 11 = .ok (.aload_n 0, 1) := by decide +kernel
theorem dX7_read_12 : decode cX7_read 12 = .ok (.aload_n 1, 1) := by decide +kernel
theorem dX7_read_13 : decode cX7_read 13 = .ok (.iconst 1, 1) := by decide +kernel
theorem dX7_read_14 : decode cX7_read 14 = .ok (.invokevirtual 53, 3) := by decide +kernel
theorem dX7_read_17 : decode cX7_read 17 = .ok (.aload_n 1, 1) := by decide +kernel
theorem dX7_read_18 : decode cX7_read 18 = .ok (.getfield 57, 3) := by decide +kernel
theorem dX7_read_21 : decode cX7_read 21 = .ok (.iconst 1, 1) := by decide +kernel
theorem dX7_read_22 : decode cX7_read 22 = .ok (.if_icmp .eq 8, 3) := by decide +kernel
theorem dX7_read_25 : decode cX7_read 25 = .ok (.aload_n 1, 1) := by decide +kernel
theorem dX7_read_26 : decode cX7_read 26 = .ok (.iconst 1, 1) := by decide +kernel
theorem dX7_read_27 : decode cX7_read 27 = .ok (.invokevirtual 60, 3) := by decide +kernel
theorem dX7_read_30 : decode cX7_read 30 = .ok (.return_, 1) := by decide +kernel
theorem bX7_read_0 {G : Gt} {d bc bs : Nat} {Q : QT} {l : Ls} {z : List Value} {h : Hp} (k : (tAld 0 (tCV0 G d 0 0 6 mX7_forget (fun l z h => T G d bc bs mX7_read 4 l z h Q))) l z h) : T G d bc bs mX7_read 0 l z h Q := by
  refine R_aload_n dX7_read_0 rfl (fun l z h k => ?_) k
  exact R_cv0 (M := mX7_read) (pc := 1) (bc := bc) (bs := bs) (cb := 0) (cs := 0) (M' := mX7_forget) dX7_read_1 rfl (by decide) w_794 w_140 w_1294 w_792 w_793 (by decide +kernel) (fun _ _ _ k => k) k
theorem bX7_read_4 {G : Gt} {d bc bs : Nat} {Q : QT} {l : Ls} {z : List Value} {h : Hp} (k : (tAld 1 (tPush (.int 200) (tCV1 G d 0 0 8 mX9_begin (fun l z h => T G d bc bs mX7_read 11 l z h Q)))) l z h) : T G d bc bs mX7_read 4 l z h Q := by
  refine R_aload_n dX7_read_4 rfl (fun l z h k => ?_) k
  refine R_sipush dX7_read_5 (by decide) (fun l z h k => ?_) k
  exact R_cv1 (M := mX7_read) (pc := 8) (bc := bc) (bs := bs) (cb := 0) (cs := 0) (M' := mX9_begin) dX7_read_8 rfl (by decide) w_566 w_132 w_1295 w_564 w_565 (by decide +kernel) (fun _ _ _ k => k) k
theorem bX7_read_11 {G : Gt} {d bc bs : Nat} {Q : QT} {l : Ls} {z : List Value} {h : Hp} (k : (tAld 0 (tAld 1 (tPush (.int 1) (tCV2 G d 0 0 6 mX7_readCond (fun l z h => T G d bc bs mX7_read 17 l z h Q))))) l z h) : T G d bc bs mX7_read 11 l z h Q := by
  refine R_aload_n dX7_read_11 rfl (fun l z h k => ?_) k
  refine R_aload_n dX7_read_12 rfl (fun l z h k => ?_) k
  refine R_iconst dX7_read_13 (by decide) (fun l z h k => ?_) k
  exact R_cv2 (M := mX7_read) (pc := 14) (bc := bc) (bs := bs) (cb := 0) (cs := 0) (M' := mX7_readCond) dX7_read_14 rfl (by decide) w_1299 w_140 w_1296 w_1298 w_33 (by decide +kernel) (fun _ _ _ k => k) k
theorem bX7_read_17 {G : Gt} {d bc bs : Nat} {Q : QT} {l : Ls} {z : List Value} {h : Hp} (k : (tAld 1 (tGetf 8 7 (tPush (.int 1) (tIf2 (fun x y => x = y) (fun l z h => T G d bc bs mX7_read 30 l z h Q) (fun l z h => T G d bc bs mX7_read 25 l z h Q))))) l z h) : T G d bc bs mX7_read 17 l z h Q := by
  refine R_aload_n dX7_read_17 rfl (fun l z h k => ?_) k
  refine R_getf (ci := 8) (f := 7) (C := RX9) (N := 11) (Tt := TX9) dX7_read_18 rfl i_X9 (by decide) w_203 (fun l z h k => ?_) k
  refine R_iconst dX7_read_21 (by decide) (fun l z h k => ?_) k
  exact R_icmp_eq dX7_read_22 (by decide) (fun _ _ _ k => k) (fun _ _ _ k => k) k
theorem bX7_read_25 {G : Gt} {d bc bs : Nat} {Q : QT} {l : Ls} {z : List Value} {h : Hp} (k : (tAld 1 (tPush (.int 1) (tCV1 G d 0 0 8 mX9_fail (fun l z h => T G d bc bs mX7_read 30 l z h Q)))) l z h) : T G d bc bs mX7_read 25 l z h Q := by
  refine R_aload_n dX7_read_25 rfl (fun l z h k => ?_) k
  refine R_iconst dX7_read_26 (by decide) (fun l z h k => ?_) k
  exact R_cv1 (M := mX7_read) (pc := 27) (bc := bc) (bs := bs) (cb := 0) (cs := 0) (M' := mX9_fail) dX7_read_27 rfl (by decide) w_674 w_132 w_1314 w_672 w_673 (by decide +kernel) (fun _ _ _ k => k) k
theorem bX7_read_30 {G : Gt} {d bc bs : Nat} {Q : QT} {l : Ls} {z : List Value} {h : Hp} (k : (tRetV Q) l z h) : T G d bc bs mX7_read 30 l z h Q := by
  exact R_vret dX7_read_30 rfl k
theorem dX7_readCond_0 : decode cX7_readCond 0 = .ok (.aload_n 0, 1) := by decide +kernel
theorem dX7_readCond_1 : decode cX7_readCond 1 = .ok (.aload_n 1, 1) := by decide +kernel
theorem dX7_readCond_2 : decode cX7_readCond 2 = .ok (.iload_n 2, 1) := by decide +kernel
theorem dX7_readCond_3 : decode cX7_readCond 3 = .ok (.invokevirtual 63, 3) := by decide +kernel
theorem dX7_readCond_6 : decode cX7_readCond 6 = .ok (.iconst 0, 1) := by decide +kernel
theorem dX7_readCond_7 : decode cX7_readCond 7 = .ok (.istore_n 3, 1) := by decide +kernel
theorem dX7_readCond_8 : decode cX7_readCond 8 = .ok (.iload_n 3, 1) := by decide +kernel
theorem dX7_readCond_9 : decode cX7_readCond 9 = .ok (.bipush 20, 2) := by decide +kernel
theorem dX7_readCond_11 : decode cX7_readCond 11 = .ok (.if_icmp .ge 38, 3) := by decide +kernel
theorem dX7_readCond_14 : decode cX7_readCond 14 = .ok (.aload_n 1, 1) := by decide +kernel
theorem dX7_readCond_15 : decode cX7_readCond 15 = .ok (.getstatic 66, 3) := by decide +kernel
theorem dX7_readCond_18 : decode cX7_readCond 18 = .ok (.invokevirtual 69, 3) := by decide +kernel
theorem dX7_readCond_21 : decode cX7_readCond 21 = .ok (.ifCond .eq 28, 3) := by decide +kernel
theorem dX7_readCond_24 : decode cX7_readCond 24 = .ok (.aload_n 1, 1) := by decide +kernel
theorem dX7_readCond_25 : decode cX7_readCond 25 = .ok (.invokevirtual 73, 3) := by decide +kernel
theorem dX7_readCond_28 : decode cX7_readCond 28 = .ok (.aload_n 0, 1) := by decide +kernel
theorem dX7_readCond_29 : decode cX7_readCond 29 = .ok (.aload_n 1, 1) := by decide +kernel
theorem dX7_readCond_30 : decode cX7_readCond 30 = .ok (.iload_n 2, 1) := by decide +kernel
theorem dX7_readCond_31 : decode cX7_readCond 31 = .ok (.invokevirtual 63, 3) := by decide +kernel
theorem dX7_readCond_34 : decode cX7_readCond 34 = .ok (.aload_n 0, 1) := by decide +kernel
theorem dX7_readCond_35 : decode cX7_readCond 35 = .ok (.getstatic 66, 3) := by decide +kernel
theorem dX7_readCond_38 : decode cX7_readCond 38 = .ok (.iconst 0, 1) := by decide +kernel
theorem dX7_readCond_39 : decode cX7_readCond 39 = .ok (.iconst 0, 1) := by decide +kernel
theorem dX7_readCond_40 : decode cX7_readCond 40 = .ok (.invokevirtual 76, 3) := by decide +kernel
theorem dX7_readCond_43 : decode cX7_readCond 43 = .ok (.iinc 3 1, 3) := by decide +kernel
theorem dX7_readCond_46 : decode cX7_readCond 46 = .ok (.goto (-38), 3) := by decide +kernel
theorem dX7_readCond_49 : decode cX7_readCond 49 = .ok (.return_, 1) := by decide +kernel
theorem bX7_readCond_0 {G : Gt} {d bc bs : Nat} {Q : QT} {l : Ls} {z : List Value} {h : Hp} (k : (tAld 0 (tAld 1 (tIld 2 (tCV2 G d 0 0 6 mX7_readAll (fun l z h => T G d bc bs mX7_readCond 6 l z h Q))))) l z h) : T G d bc bs mX7_readCond 0 l z h Q := by
  refine R_aload_n dX7_readCond_0 rfl (fun l z h k => ?_) k
  refine R_aload_n dX7_readCond_1 rfl (fun l z h k => ?_) k
  refine R_iload_n dX7_readCond_2 rfl (fun l z h k => ?_) k
  exact R_cv2 (M := mX7_readCond) (pc := 3) (bc := bc) (bs := bs) (cb := 0) (cs := 0) (M' := mX7_readAll) dX7_readCond_3 rfl (by decide) w_1303 w_140 w_1300 w_1302 w_34 (by decide +kernel) (fun _ _ _ k => k) k
theorem bX7_readCond_6 {G : Gt} {d bc bs : Nat} {Q : QT} {l : Ls} {z : List Value} {h : Hp} (k : (tPush (.int 0) (tIst 3 ((fun l z h => T G d bc bs mX7_readCond 8 l z h Q)))) l z h) : T G d bc bs mX7_readCond 6 l z h Q := by
  refine R_iconst dX7_readCond_6 (by decide) (fun l z h k => ?_) k
  refine R_istore_n dX7_readCond_7 rfl (by decide) (fun l z h k => ?_) k
  exact k
theorem bX7_readCond_8 {G : Gt} {d bc bs : Nat} {Q : QT} {l : Ls} {z : List Value} {h : Hp} (k : (tIld 3 (tPush (.int 20) (tIf2 (fun x y => y ≤ x) (fun l z h => T G d bc bs mX7_readCond 49 l z h Q) (fun l z h => T G d bc bs mX7_readCond 14 l z h Q)))) l z h) : T G d bc bs mX7_readCond 8 l z h Q := by
  refine R_iload_n dX7_readCond_8 rfl (fun l z h k => ?_) k
  refine R_bipush dX7_readCond_9 (by decide) (fun l z h k => ?_) k
  exact R_icmp_ge dX7_readCond_11 (by decide) (fun _ _ _ k => k) (fun _ _ _ k => k) k
theorem bX7_readCond_14 {G : Gt} {d bc bs : Nat} {Q : QT} {l : Ls} {z : List Value} {h : Hp} (k : (tAld 1 (tPush (.ref (adW G 15)) (tCV1 G d 0 0 8 mX9_isAt (fun l z h => T G d bc bs mX7_readCond 21 l z h Q)))) l z h) : T G d bc bs mX7_readCond 14 l z h Q := by
  refine R_aload_n dX7_readCond_14 rfl (fun l z h k => ?_) k
  refine R_word (k := 15) dX7_readCond_15 (by decide) rfl w_1337 (fun l z h k => ?_) k
  exact R_cv1 (M := mX7_readCond) (pc := 18) (bc := bc) (bs := bs) (cb := 0) (cs := 0) (M' := mX9_isAt) dX7_readCond_18 rfl (by decide) w_666 w_132 w_1336 w_664 w_665 (by decide +kernel) (fun _ _ _ k => k) k
theorem bX7_readCond_21 {G : Gt} {d bc bs : Nat} {Q : QT} {l : Ls} {z : List Value} {h : Hp} (k : (tIf (fun x => x = 0) (fun l z h => T G d bc bs mX7_readCond 49 l z h Q) (fun l z h => T G d bc bs mX7_readCond 24 l z h Q)) l z h) : T G d bc bs mX7_readCond 21 l z h Q := by
  exact R_if_eq dX7_readCond_21 (by decide) (fun _ _ _ k => k) (fun _ _ _ k => k) k
theorem bX7_readCond_24 {G : Gt} {d bc bs : Nat} {Q : QT} {l : Ls} {z : List Value} {h : Hp} (k : (tAld 1 (tCV0 G d 0 0 8 mX9_step (fun l z h => T G d bc bs mX7_readCond 28 l z h Q))) l z h) : T G d bc bs mX7_readCond 24 l z h Q := by
  refine R_aload_n dX7_readCond_24 rfl (fun l z h k => ?_) k
  exact R_cv0 (M := mX7_readCond) (pc := 25) (bc := bc) (bs := bs) (cb := 0) (cs := 0) (M' := mX9_step) dX7_readCond_25 rfl (by decide) w_652 w_132 w_1316 w_650 w_651 (by decide +kernel) (fun _ _ _ k => k) k
theorem bX7_readCond_28 {G : Gt} {d bc bs : Nat} {Q : QT} {l : Ls} {z : List Value} {h : Hp} (k : (tAld 0 (tAld 1 (tIld 2 (tCV2 G d 0 0 6 mX7_readAll (fun l z h => T G d bc bs mX7_readCond 34 l z h Q))))) l z h) : T G d bc bs mX7_readCond 28 l z h Q := by
  refine R_aload_n dX7_readCond_28 rfl (fun l z h k => ?_) k
  refine R_aload_n dX7_readCond_29 rfl (fun l z h k => ?_) k
  refine R_iload_n dX7_readCond_30 rfl (fun l z h k => ?_) k
  exact R_cv2 (M := mX7_readCond) (pc := 31) (bc := bc) (bs := bs) (cb := 0) (cs := 0) (M' := mX7_readAll) dX7_readCond_31 rfl (by decide) w_1303 w_140 w_1300 w_1302 w_34 (by decide +kernel) (fun _ _ _ k => k) k
theorem bX7_readCond_34 {G : Gt} {d bc bs : Nat} {Q : QT} {l : Ls} {z : List Value} {h : Hp} (k : (tAld 0 (tPush (.ref (adW G 15)) (tPush (.int 0) (tPush (.int 0) (tCV3 G d 0 0 6 mX7_put (fun l z h => T G d bc bs mX7_readCond 43 l z h Q)))))) l z h) : T G d bc bs mX7_readCond 34 l z h Q := by
  refine R_aload_n dX7_readCond_34 rfl (fun l z h k => ?_) k
  refine R_word (k := 15) dX7_readCond_35 (by decide) rfl w_1337 (fun l z h k => ?_) k
  refine R_iconst dX7_readCond_38 (by decide) (fun l z h k => ?_) k
  refine R_iconst dX7_readCond_39 (by decide) (fun l z h k => ?_) k
  exact R_cv3 (M := mX7_readCond) (pc := 40) (bc := bc) (bs := bs) (cb := 0) (cs := 0) (M' := mX7_put) dX7_readCond_40 rfl (by decide) w_1323 w_140 w_1320 w_1322 w_36 (by decide +kernel) (fun _ _ _ k => k) k
theorem bX7_readCond_43 {G : Gt} {d bc bs : Nat} {Q : QT} {l : Ls} {z : List Value} {h : Hp} (k : (tInc 3 1 ((fun l z h => T G d bc bs mX7_readCond 8 l z h Q))) l z h) : T G d bc bs mX7_readCond 43 l z h Q := by
  refine R_iinc dX7_readCond_43 (by decide) (by decide) (fun l z h k => ?_) k
  exact R_goto dX7_readCond_46 (by decide) (fun _ _ _ k => k) k
theorem bX7_readCond_49 {G : Gt} {d bc bs : Nat} {Q : QT} {l : Ls} {z : List Value} {h : Hp} (k : (tRetV Q) l z h) : T G d bc bs mX7_readCond 49 l z h Q := by
  exact R_vret dX7_readCond_49 rfl k
theorem dX7_readAll_0 : decode cX7_readAll 0 = .ok (.aload_n 0, 1) := by decide +kernel
theorem dX7_readAll_1 : decode cX7_readAll 1 = .ok (.aload_n 1, 1) := by decide +kernel
theorem dX7_readAll_2 : decode cX7_readAll 2 = .ok (.iload_n 2, 1) := by decide +kernel
theorem dX7_readAll_3 : decode cX7_readAll 3 = .ok (.invokevirtual 80, 3) := by decide +kernel
theorem dX7_readAll_6 : decode cX7_readAll 6 = .ok (.iconst 0, 1) := by decide +kernel
theorem dX7_readAll_7 : decode cX7_readAll 7 = .ok (.istore_n 3, 1) := by decide +kernel
theorem dX7_readAll_8 : decode cX7_readAll 8 = .ok (.iload_n 3, 1) := by decide +kernel
theorem dX7_readAll_9 : decode cX7_readAll 9 = .ok (.bipush 20, 2) := by decide +kernel
theorem dX7_readAll_11 : decode cX7_readAll 11 = .ok (.if_icmp .ge 38, 3) := by decide +kernel
theorem dX7_readAll_14 : decode cX7_readAll 14 = .ok (.aload_n 1, 1) := by decide +kernel
theorem dX7_readAll_15 : decode cX7_readAll 15 = .ok (.getstatic 83, 3) := by decide +kernel
theorem dX7_readAll_18 : decode cX7_readAll 18 = .ok (.invokevirtual 69, 3) := by decide +kernel
theorem dX7_readAll_21 : decode cX7_readAll 21 = .ok (.ifCond .eq 28, 3) := by decide +kernel
theorem dX7_readAll_24 : decode cX7_readAll 24 = .ok (.aload_n 1, 1) := by decide +kernel
theorem dX7_readAll_25 : decode cX7_readAll 25 = .ok (.invokevirtual 73, 3) := by decide +kernel
theorem dX7_readAll_28 : decode cX7_readAll 28 = .ok (.aload_n 0, 1) := by decide +kernel
theorem dX7_readAll_29 : decode cX7_readAll 29 = .ok (.aload_n 1, 1) := by decide +kernel
theorem dX7_readAll_30 : decode cX7_readAll 30 = .ok (.iload_n 2, 1) := by decide +kernel
theorem dX7_readAll_31 : decode cX7_readAll 31 = .ok (.invokevirtual 80, 3) := by decide +kernel
theorem dX7_readAll_34 : decode cX7_readAll 34 = .ok (.aload_n 0, 1) := by decide +kernel
theorem dX7_readAll_35 : decode cX7_readAll 35 = .ok (.getstatic 83, 3) := by decide +kernel
theorem dX7_readAll_38 : decode cX7_readAll 38 = .ok (.iconst 0, 1) := by decide +kernel
theorem dX7_readAll_39 : decode cX7_readAll 39 = .ok (.iconst 0, 1) := by decide +kernel
theorem dX7_readAll_40 : decode cX7_readAll 40 = .ok (.invokevirtual 76, 3) := by decide +kernel
theorem dX7_readAll_43 : decode cX7_readAll 43 = .ok (.iinc 3 1, 3) := by decide +kernel
theorem dX7_readAll_46 : decode cX7_readAll 46 = .ok (.goto (-38), 3) := by decide +kernel
theorem dX7_readAll_49 : decode cX7_readAll 49 = .ok (.return_, 1) := by decide +kernel
theorem bX7_readAll_0 {G : Gt} {d bc bs : Nat} {Q : QT} {l : Ls} {z : List Value} {h : Hp} (k : (tAld 0 (tAld 1 (tIld 2 (tCV2 G d 0 0 6 mX7_readOne (fun l z h => T G d bc bs mX7_readAll 6 l z h Q))))) l z h) : T G d bc bs mX7_readAll 0 l z h Q := by
  refine R_aload_n dX7_readAll_0 rfl (fun l z h k => ?_) k
  refine R_aload_n dX7_readAll_1 rfl (fun l z h k => ?_) k
  refine R_iload_n dX7_readAll_2 rfl (fun l z h k => ?_) k
  exact R_cv2 (M := mX7_readAll) (pc := 3) (bc := bc) (bs := bs) (cb := 0) (cs := 0) (M' := mX7_readOne) dX7_readAll_3 rfl (by decide) w_1307 w_140 w_1304 w_1306 w_35 (by decide +kernel) (fun _ _ _ k => k) k
theorem bX7_readAll_6 {G : Gt} {d bc bs : Nat} {Q : QT} {l : Ls} {z : List Value} {h : Hp} (k : (tPush (.int 0) (tIst 3 ((fun l z h => T G d bc bs mX7_readAll 8 l z h Q)))) l z h) : T G d bc bs mX7_readAll 6 l z h Q := by
  refine R_iconst dX7_readAll_6 (by decide) (fun l z h k => ?_) k
  refine R_istore_n dX7_readAll_7 rfl (by decide) (fun l z h k => ?_) k
  exact k
theorem bX7_readAll_8 {G : Gt} {d bc bs : Nat} {Q : QT} {l : Ls} {z : List Value} {h : Hp} (k : (tIld 3 (tPush (.int 20) (tIf2 (fun x y => y ≤ x) (fun l z h => T G d bc bs mX7_readAll 49 l z h Q) (fun l z h => T G d bc bs mX7_readAll 14 l z h Q)))) l z h) : T G d bc bs mX7_readAll 8 l z h Q := by
  refine R_iload_n dX7_readAll_8 rfl (fun l z h k => ?_) k
  refine R_bipush dX7_readAll_9 (by decide) (fun l z h k => ?_) k
  exact R_icmp_ge dX7_readAll_11 (by decide) (fun _ _ _ k => k) (fun _ _ _ k => k) k
theorem bX7_readAll_14 {G : Gt} {d bc bs : Nat} {Q : QT} {l : Ls} {z : List Value} {h : Hp} (k : (tAld 1 (tPush (.ref (adW G 16)) (tCV1 G d 0 0 8 mX9_isAt (fun l z h => T G d bc bs mX7_readAll 21 l z h Q)))) l z h) : T G d bc bs mX7_readAll 14 l z h Q := by
  refine R_aload_n dX7_readAll_14 rfl (fun l z h k => ?_) k
  refine R_word (k := 16) dX7_readAll_15 (by decide) rfl w_1334 (fun l z h k => ?_) k
  exact R_cv1 (M := mX7_readAll) (pc := 18) (bc := bc) (bs := bs) (cb := 0) (cs := 0) (M' := mX9_isAt) dX7_readAll_18 rfl (by decide) w_666 w_132 w_1336 w_664 w_665 (by decide +kernel) (fun _ _ _ k => k) k
theorem bX7_readAll_21 {G : Gt} {d bc bs : Nat} {Q : QT} {l : Ls} {z : List Value} {h : Hp} (k : (tIf (fun x => x = 0) (fun l z h => T G d bc bs mX7_readAll 49 l z h Q) (fun l z h => T G d bc bs mX7_readAll 24 l z h Q)) l z h) : T G d bc bs mX7_readAll 21 l z h Q := by
  exact R_if_eq dX7_readAll_21 (by decide) (fun _ _ _ k => k) (fun _ _ _ k => k) k
theorem bX7_readAll_24 {G : Gt} {d bc bs : Nat} {Q : QT} {l : Ls} {z : List Value} {h : Hp} (k : (tAld 1 (tCV0 G d 0 0 8 mX9_step (fun l z h => T G d bc bs mX7_readAll 28 l z h Q))) l z h) : T G d bc bs mX7_readAll 24 l z h Q := by
  refine R_aload_n dX7_readAll_24 rfl (fun l z h k => ?_) k
  exact R_cv0 (M := mX7_readAll) (pc := 25) (bc := bc) (bs := bs) (cb := 0) (cs := 0) (M' := mX9_step) dX7_readAll_25 rfl (by decide) w_652 w_132 w_1316 w_650 w_651 (by decide +kernel) (fun _ _ _ k => k) k
theorem bX7_readAll_28 {G : Gt} {d bc bs : Nat} {Q : QT} {l : Ls} {z : List Value} {h : Hp} (k : (tAld 0 (tAld 1 (tIld 2 (tCV2 G d 0 0 6 mX7_readOne (fun l z h => T G d bc bs mX7_readAll 34 l z h Q))))) l z h) : T G d bc bs mX7_readAll 28 l z h Q := by
  refine R_aload_n dX7_readAll_28 rfl (fun l z h k => ?_) k
  refine R_aload_n dX7_readAll_29 rfl (fun l z h k => ?_) k
  refine R_iload_n dX7_readAll_30 rfl (fun l z h k => ?_) k
  exact R_cv2 (M := mX7_readAll) (pc := 31) (bc := bc) (bs := bs) (cb := 0) (cs := 0) (M' := mX7_readOne) dX7_readAll_31 rfl (by decide) w_1307 w_140 w_1304 w_1306 w_35 (by decide +kernel) (fun _ _ _ k => k) k
theorem bX7_readAll_34 {G : Gt} {d bc bs : Nat} {Q : QT} {l : Ls} {z : List Value} {h : Hp} (k : (tAld 0 (tPush (.ref (adW G 16)) (tPush (.int 0) (tPush (.int 0) (tCV3 G d 0 0 6 mX7_put (fun l z h => T G d bc bs mX7_readAll 43 l z h Q)))))) l z h) : T G d bc bs mX7_readAll 34 l z h Q := by
  refine R_aload_n dX7_readAll_34 rfl (fun l z h k => ?_) k
  refine R_word (k := 16) dX7_readAll_35 (by decide) rfl w_1334 (fun l z h k => ?_) k
  refine R_iconst dX7_readAll_38 (by decide) (fun l z h k => ?_) k
  refine R_iconst dX7_readAll_39 (by decide) (fun l z h k => ?_) k
  exact R_cv3 (M := mX7_readAll) (pc := 40) (bc := bc) (bs := bs) (cb := 0) (cs := 0) (M' := mX7_put) dX7_readAll_40 rfl (by decide) w_1323 w_140 w_1320 w_1322 w_36 (by decide +kernel) (fun _ _ _ k => k) k
theorem bX7_readAll_43 {G : Gt} {d bc bs : Nat} {Q : QT} {l : Ls} {z : List Value} {h : Hp} (k : (tInc 3 1 ((fun l z h => T G d bc bs mX7_readAll 8 l z h Q))) l z h) : T G d bc bs mX7_readAll 43 l z h Q := by
  refine R_iinc dX7_readAll_43 (by decide) (by decide) (fun l z h k => ?_) k
  exact R_goto dX7_readAll_46 (by decide) (fun _ _ _ k => k) k
theorem bX7_readAll_49 {G : Gt} {d bc bs : Nat} {Q : QT} {l : Ls} {z : List Value} {h : Hp} (k : (tRetV Q) l z h) : T G d bc bs mX7_readAll 49 l z h Q := by
  exact R_vret dX7_readAll_49 rfl k
theorem dX7_readOne_0 : decode cX7_readOne 0 = .ok (.aload_n 1, 1) := by decide +kernel
theorem dX7_readOne_1 : decode cX7_readOne 1 = .ok (.bipush 40, 2) := by decide +kernel
theorem dX7_readOne_3 : decode cX7_readOne 3 = .ok (.invokevirtual 86, 3) := by decide +kernel
theorem dX7_readOne_6 : decode cX7_readOne 6 = .ok (.istore_n 3, 1) := by decide +kernel
theorem dX7_readOne_7 : decode cX7_readOne 7 = .ok (.iload_n 3, 1) := by decide +kernel
theorem dX7_readOne_8 : decode cX7_readOne 8 = .ok (.ifCond .ne 29, 3) := by decide +kernel
theorem dX7_readOne_11 : decode cX7_readOne 11 = .ok (.aload_n 1, 1) := by decide +kernel
theorem dX7_readOne_12 : decode cX7_readOne 12 = .ok (.getfield 57, 3) := by decide +kernel
theorem dX7_readOne_15 : decode cX7_readOne 15 = .ok (.iconst 2, 1) := by decide +kernel
theorem dX7_readOne_16 : decode cX7_readOne 16 = .ok (.if_icmp .ne 13, 3) := by decide +kernel
theorem dX7_readOne_19 : decode cX7_readOne 19 = .ok (.aload_n 1, 1) := by decide +kernel
theorem dX7_readOne_20 : decode cX7_readOne 20 = .ok (.getfield 90, 3) := by decide +kernel
theorem dX7_readOne_23 : decode cX7_readOne 23 = .ok (.invokestatic 93, 3) := by decide +kernel
theorem dX7_readOne_26 : decode cX7_readOne 26 = .ok (.ifCond .ne 11, 3) := by decide +kernel
theorem dX7_readOne_29 : decode cX7_readOne 29 = .ok (.aload_n 1, 1) := by decide +kernel
theorem dX7_readOne_30 : decode cX7_readOne 30 = .ok (.iconst 1, 1) := by decide +kernel
theorem dX7_readOne_31 : decode cX7_readOne 31 = .ok (.invokevirtual 60, 3) := by decide +kernel
theorem dX7_readOne_34 : decode cX7_readOne 34 = .ok (.goto 23, 3) := by decide +kernel
theorem dX7_readOne_37 : decode cX7_readOne 37 = .ok (.aload_n 0, 1) := by decide +kernel
theorem dX7_readOne_38 : decode cX7_readOne 38 = .ok (.getfield 31, 3) := by decide +kernel
theorem dX7_readOne_41 : decode cX7_readOne 41 = .ok (.bipush 20, 2) := by decide +kernel
theorem dX7_readOne_43 : decode cX7_readOne 43 = .ok (.if_icmp .ge 9, 3) := by decide +kernel
theorem dX7_readOne_46 : decode cX7_readOne 46 = .ok (.iload_n 2, 1) := by decide +kernel
theorem dX7_readOne_47 : decode cX7_readOne 47 = .ok (.bipush 8, 2) := by decide +kernel
theorem dX7_readOne_49 : decode cX7_readOne 49 = .ok (.if_icmp .le 8, 3) := by decide +kernel
theorem dX7_readOne_52 : decode cX7_readOne 52 = .ok (.aload_n 1, 1) := by decide +kernel
theorem dX7_readOne_53 : decode cX7_readOne 53 = .ok (.iconst 4, 1) := by decide +kernel
theorem dX7_readOne_54 : decode cX7_readOne 54 = .ok (.invokevirtual 60, 3) := by decide +kernel
theorem dX7_readOne_57 : decode cX7_readOne 57 = .ok (.aload_n 1, 1) := by decide +kernel
theorem dX7_readOne_58 : decode cX7_readOne 58 = .ok (.invokevirtual 96, 3) := by decide +kernel
theorem dX7_readOne_61 : decode cX7_readOne 61 = .ok (.ifCond .ne 4, 3) := by decide +kernel
theorem dX7_readOne_64 : decode cX7_readOne 64 = .ok (.return_, 1) := by decide +kernel
theorem dX7_readOne_65 : decode cX7_readOne 65 = .ok (.aload_n 0, 1) := by decide +kernel
theorem dX7_readOne_66 : decode cX7_readOne 66 = .ok (.dup, 1) := by decide +kernel
theorem dX7_readOne_67 : decode cX7_readOne 67 = .ok (.getfield 31, 3) := by decide +kernel
theorem dX7_readOne_70 : decode cX7_readOne 70 = .ok (.iconst 1, 1) := by decide +kernel
theorem dX7_readOne_71 : decode cX7_readOne 71 = .ok (.iadd, 1) := by decide +kernel
theorem dX7_readOne_72 : decode cX7_readOne 72 = .ok (.putfield 31, 3) := by decide +kernel
theorem dX7_readOne_75 : decode cX7_readOne 75 = .ok (.aload_n 1, 1) := by decide +kernel
theorem dX7_readOne_76 : decode cX7_readOne 76 = .ok (.getfield 90, 3) := by decide +kernel
theorem dX7_readOne_79 : decode cX7_readOne 79 = .ok (.astore 4, 2) := by decide +kernel
theorem dX7_readOne_81 : decode cX7_readOne 81 = .ok (.aload_n 1, 1) := by decide +kernel
theorem dX7_readOne_82 : decode cX7_readOne 82 = .ok (.invokevirtual 73, 3) := by decide +kernel
theorem dX7_readOne_85 : decode cX7_readOne 85 = .ok (.iload_n 3, 1) := by decide +kernel
theorem dX7_readOne_86 : decode cX7_readOne 86 = .ok (.ifCond .eq 20, 3) := by decide +kernel
theorem dX7_readOne_89 : decode cX7_readOne 89 = .ok (.aload_n 0, 1) := by decide +kernel
theorem dX7_readOne_90 : decode cX7_readOne 90 = .ok (.aload_n 1, 1) := by decide +kernel
theorem dX7_readOne_91 : decode cX7_readOne 91 = .ok (.iload_n 2, 1) := by decide +kernel
theorem dX7_readOne_92 : decode cX7_readOne 92 = .ok (.iconst 1, 1) := by decide +kernel
theorem dX7_readOne_93 : decode cX7_readOne 93 = .ok (.iadd, 1) := by decide +kernel
theorem dX7_readOne_94 : decode cX7_readOne 94 = .ok (.invokevirtual 53, 3) := by decide +kernel
theorem dX7_readOne_97 : decode cX7_readOne 97 = .ok (.aload_n 1, 1) := by decide +kernel
theorem dX7_readOne_98 : decode cX7_readOne 98 = .ok (.bipush 41, 2) := by decide +kernel
theorem dX7_readOne_100 : decode cX7_readOne 100 = .ok (.invokevirtual 100, 3) := by decide +kernel
theorem dX7_readOne_103 : decode cX7_readOne 103 = .ok (.goto 38, 3) := by decide +kernel
theorem dX7_readOne_106 : decode cX7_readOne 106 = .ok (.aload 4, 2) := by decide +kernel
theorem dX7_readOne_108 : decode cX7_readOne 108 = .ok (.getstatic 103, 3) := by decide +kernel
theorem dX7_readOne_111 : decode cX7_readOne 111 = .ok (.if_acmp .ne 23, 3) := by decide +kernel
theorem dX7_readOne_114 : decode cX7_readOne 114 = .ok (.aload_n 0, 1) := by decide +kernel
theorem dX7_readOne_115 : decode cX7_readOne 115 = .ok (.aload_n 1, 1) := by decide +kernel
theorem dX7_readOne_116 : decode cX7_readOne 116 = .ok (.iload_n 2, 1) := by decide +kernel
theorem dX7_readOne_117 : decode cX7_readOne 117 = .ok (.iconst 1, 1) := by decide +kernel
theorem dX7_readOne_118 : decode cX7_readOne 118 = .ok (.iadd, 1) := by decide +kernel
theorem dX7_readOne_119 : decode cX7_readOne 119 = .ok (.invokevirtual 80, 3) := by decide +kernel
theorem dX7_readOne_122 : decode cX7_readOne 122 = .ok (.aload_n 0, 1) := by decide +kernel
theorem dX7_readOne_123 : decode cX7_readOne 123 = .ok (.getstatic 103, 3) := by decide +kernel
theorem dX7_readOne_126 : decode cX7_readOne 126 = .ok (.iconst 0, 1) := by decide +kernel
theorem dX7_readOne_127 : decode cX7_readOne 127 = .ok (.iconst 0, 1) := by decide +kernel
theorem dX7_readOne_128 : decode cX7_readOne 128 = .ok (.invokevirtual 76, 3) := by decide +kernel
theorem dX7_readOne_131 : decode cX7_readOne 131 = .ok (.goto 10, 3) := by decide +kernel
theorem dX7_readOne_134 : decode cX7_readOne 134 = .ok (.aload_n 0, 1) := by decide +kernel
theorem dX7_readOne_135 : decode cX7_readOne 135 = .ok (.aload_n 1, 1) := by decide +kernel
theorem dX7_readOne_136 : decode cX7_readOne 136 = .ok (.aload 4, 2) := by decide +kernel
theorem dX7_readOne_138 : decode cX7_readOne 138 = .ok (.invokevirtual 106, 3) := by decide +kernel
theorem dX7_readOne_141 : decode cX7_readOne 141 = .ok (.return_, 1) := by decide +kernel
theorem bX7_readOne_0 {G : Gt} {d bc bs : Nat} {Q : QT} {l : Ls} {z : List Value} {h : Hp} (k : (tAld 1 (tPush (.int 40) (tCV1 G d 0 0 8 mX9_isAtSign (fun l z h => T G d bc bs mX7_readOne 6 l z h Q)))) l z h) : T G d bc bs mX7_readOne 0 l z h Q := by
  refine R_aload_n dX7_readOne_0 rfl (fun l z h k => ?_) k
  refine R_bipush dX7_readOne_1 (by decide) (fun l z h k => ?_) k
  exact R_cv1 (M := mX7_readOne) (pc := 3) (bc := bc) (bs := bs) (cb := 0) (cs := 0) (M' := mX9_isAtSign) dX7_readOne_3 rfl (by decide) w_779 w_132 w_1308 w_777 w_778 (by decide +kernel) (fun _ _ _ k => k) k
theorem bX7_readOne_6 {G : Gt} {d bc bs : Nat} {Q : QT} {l : Ls} {z : List Value} {h : Hp} (k : (tIst 3 (tIld 3 (tIf (fun x => x = 0) (fun l z h => T G d bc bs mX7_readOne 11 l z h Q) (fun l z h => T G d bc bs mX7_readOne 37 l z h Q)))) l z h) : T G d bc bs mX7_readOne 6 l z h Q := by
  refine R_istore_n dX7_readOne_6 rfl (by decide) (fun l z h k => ?_) k
  refine R_iload_n dX7_readOne_7 rfl (fun l z h k => ?_) k
  exact R_if_ne dX7_readOne_8 (by decide) (fun _ _ _ k => k) (fun _ _ _ k => k) k
theorem bX7_readOne_11 {G : Gt} {d bc bs : Nat} {Q : QT} {l : Ls} {z : List Value} {h : Hp} (k : (tAld 1 (tGetf 8 7 (tPush (.int 2) (tIf2 (fun x y => x = y) (fun l z h => T G d bc bs mX7_readOne 19 l z h Q) (fun l z h => T G d bc bs mX7_readOne 29 l z h Q))))) l z h) : T G d bc bs mX7_readOne 11 l z h Q := by
  refine R_aload_n dX7_readOne_11 rfl (fun l z h k => ?_) k
  refine R_getf (ci := 8) (f := 7) (C := RX9) (N := 11) (Tt := TX9) dX7_readOne_12 rfl i_X9 (by decide) w_203 (fun l z h k => ?_) k
  refine R_iconst dX7_readOne_15 (by decide) (fun l z h k => ?_) k
  exact R_icmp_ne dX7_readOne_16 (by decide) (fun _ _ _ k => k) (fun _ _ _ k => k) k
theorem bX7_readOne_19 {G : Gt} {d bc bs : Nat} {Q : QT} {l : Ls} {z : List Value} {h : Hp} (k : (tAld 1 (tGetf 8 8 (tCS1 G d 0 0 mX7_opensOne (fun l z h => T G d bc bs mX7_readOne 26 l z h Q)))) l z h) : T G d bc bs mX7_readOne 19 l z h Q := by
  refine R_aload_n dX7_readOne_19 rfl (fun l z h k => ?_) k
  refine R_getf (ci := 8) (f := 8) (C := RX9) (N := 11) (Tt := TX9) dX7_readOne_20 rfl i_X9 (by decide) w_207 (fun l z h k => ?_) k
  exact R_cs1 (M := mX7_readOne) (pc := 23) (bc := bc) (bs := bs) (cb := 0) (cs := 0) (M' := mX7_opensOne) dX7_readOne_23 (by decide) w_1311 w_140 w_1309 w_1310 (by decide +kernel) (fun _ _ _ k => k) k
theorem bX7_readOne_26 {G : Gt} {d bc bs : Nat} {Q : QT} {l : Ls} {z : List Value} {h : Hp} (k : (tIf (fun x => x = 0) (fun l z h => T G d bc bs mX7_readOne 29 l z h Q) (fun l z h => T G d bc bs mX7_readOne 37 l z h Q)) l z h) : T G d bc bs mX7_readOne 26 l z h Q := by
  exact R_if_ne dX7_readOne_26 (by decide) (fun _ _ _ k => k) (fun _ _ _ k => k) k
theorem bX7_readOne_29 {G : Gt} {d bc bs : Nat} {Q : QT} {l : Ls} {z : List Value} {h : Hp} (k : (tAld 1 (tPush (.int 1) (tCV1 G d 0 0 8 mX9_fail (fun l z h => T G d bc bs mX7_readOne 34 l z h Q)))) l z h) : T G d bc bs mX7_readOne 29 l z h Q := by
  refine R_aload_n dX7_readOne_29 rfl (fun l z h k => ?_) k
  refine R_iconst dX7_readOne_30 (by decide) (fun l z h k => ?_) k
  exact R_cv1 (M := mX7_readOne) (pc := 31) (bc := bc) (bs := bs) (cb := 0) (cs := 0) (M' := mX9_fail) dX7_readOne_31 rfl (by decide) w_674 w_132 w_1314 w_672 w_673 (by decide +kernel) (fun _ _ _ k => k) k
theorem bX7_readOne_34 {G : Gt} {d bc bs : Nat} {Q : QT} {l : Ls} {z : List Value} {h : Hp} (k : (fun l z h => T G d bc bs mX7_readOne 57 l z h Q) l z h) : T G d bc bs mX7_readOne 34 l z h Q := by
  exact R_goto dX7_readOne_34 (by decide) (fun _ _ _ k => k) k
theorem bX7_readOne_37 {G : Gt} {d bc bs : Nat} {Q : QT} {l : Ls} {z : List Value} {h : Hp} (k : (tAld 0 (tGetf 6 0 (tPush (.int 20) (tIf2 (fun x y => y ≤ x) (fun l z h => T G d bc bs mX7_readOne 52 l z h Q) (fun l z h => T G d bc bs mX7_readOne 46 l z h Q))))) l z h) : T G d bc bs mX7_readOne 37 l z h Q := by
  refine R_aload_n dX7_readOne_37 rfl (fun l z h k => ?_) k
  refine R_getf (ci := 6) (f := 0) (C := RX7) (N := 7) (Tt := TX7) dX7_readOne_38 rfl i_X7 (by decide) w_393 (fun l z h k => ?_) k
  refine R_bipush dX7_readOne_41 (by decide) (fun l z h k => ?_) k
  exact R_icmp_ge dX7_readOne_43 (by decide) (fun _ _ _ k => k) (fun _ _ _ k => k) k
theorem bX7_readOne_46 {G : Gt} {d bc bs : Nat} {Q : QT} {l : Ls} {z : List Value} {h : Hp} (k : (tIld 2 (tPush (.int 8) (tIf2 (fun x y => x ≤ y) (fun l z h => T G d bc bs mX7_readOne 57 l z h Q) (fun l z h => T G d bc bs mX7_readOne 52 l z h Q)))) l z h) : T G d bc bs mX7_readOne 46 l z h Q := by
  refine R_iload_n dX7_readOne_46 rfl (fun l z h k => ?_) k
  refine R_bipush dX7_readOne_47 (by decide) (fun l z h k => ?_) k
  exact R_icmp_le dX7_readOne_49 (by decide) (fun _ _ _ k => k) (fun _ _ _ k => k) k
theorem bX7_readOne_52 {G : Gt} {d bc bs : Nat} {Q : QT} {l : Ls} {z : List Value} {h : Hp} (k : (tAld 1 (tPush (.int 4) (tCV1 G d 0 0 8 mX9_fail (fun l z h => T G d bc bs mX7_readOne 57 l z h Q)))) l z h) : T G d bc bs mX7_readOne 52 l z h Q := by
  refine R_aload_n dX7_readOne_52 rfl (fun l z h k => ?_) k
  refine R_iconst dX7_readOne_53 (by decide) (fun l z h k => ?_) k
  exact R_cv1 (M := mX7_readOne) (pc := 54) (bc := bc) (bs := bs) (cb := 0) (cs := 0) (M' := mX9_fail) dX7_readOne_54 rfl (by decide) w_674 w_132 w_1314 w_672 w_673 (by decide +kernel) (fun _ _ _ k => k) k
theorem bX7_readOne_57 {G : Gt} {d bc bs : Nat} {Q : QT} {l : Ls} {z : List Value} {h : Hp} (k : (tAld 1 (tCV0 G d 0 0 8 mX9_isSound (fun l z h => T G d bc bs mX7_readOne 61 l z h Q))) l z h) : T G d bc bs mX7_readOne 57 l z h Q := by
  refine R_aload_n dX7_readOne_57 rfl (fun l z h k => ?_) k
  exact R_cv0 (M := mX7_readOne) (pc := 58) (bc := bc) (bs := bs) (cb := 0) (cs := 0) (M' := mX9_isSound) dX7_readOne_58 rfl (by decide) w_656 w_132 w_1315 w_654 w_655 (by decide +kernel) (fun _ _ _ k => k) k
theorem bX7_readOne_61 {G : Gt} {d bc bs : Nat} {Q : QT} {l : Ls} {z : List Value} {h : Hp} (k : (tIf (fun x => x = 0) (fun l z h => T G d bc bs mX7_readOne 64 l z h Q) (fun l z h => T G d bc bs mX7_readOne 65 l z h Q)) l z h) : T G d bc bs mX7_readOne 61 l z h Q := by
  exact R_if_ne dX7_readOne_61 (by decide) (fun _ _ _ k => k) (fun _ _ _ k => k) k
theorem bX7_readOne_64 {G : Gt} {d bc bs : Nat} {Q : QT} {l : Ls} {z : List Value} {h : Hp} (k : (tRetV Q) l z h) : T G d bc bs mX7_readOne 64 l z h Q := by
  exact R_vret dX7_readOne_64 rfl k
theorem bX7_readOne_65 {G : Gt} {d bc bs : Nat} {Q : QT} {l : Ls} {z : List Value} {h : Hp} (k : (tAld 0 (tDup (tGetf 6 0 (tPush (.int 1) (tB (fun x y => x + y) (tPutf isI 6 0 (tAld 1 (tGetf 8 8 (tAst 4 (tAld 1 (tCV0 G d 0 0 8 mX9_step (fun l z h => T G d bc bs mX7_readOne 85 l z h Q)))))))))))) l z h) : T G d bc bs mX7_readOne 65 l z h Q := by
  refine R_aload_n dX7_readOne_65 rfl (fun l z h k => ?_) k
  refine R_dup dX7_readOne_66 (fun l z h k => ?_) k
  refine R_getf (ci := 6) (f := 0) (C := RX7) (N := 7) (Tt := TX7) dX7_readOne_67 rfl i_X7 (by decide) w_393 (fun l z h k => ?_) k
  refine R_iconst dX7_readOne_70 (by decide) (fun l z h k => ?_) k
  refine R_iadd dX7_readOne_71 (fun l z h k => ?_) k
  refine R_putf (ci := 6) (f := 0) (C := RX7) (N := 7) (Tt := TX7) tyX7 tyX7_ok nmX7 dX7_readOne_72 rfl i_X7 (by decide) w_393 rfl (tyX7_ok 0 (by decide)) p_int (fun l z h k => ?_) k
  refine R_aload_n dX7_readOne_75 rfl (fun l z h k => ?_) k
  refine R_getf (ci := 8) (f := 8) (C := RX9) (N := 11) (Tt := TX9) dX7_readOne_76 rfl i_X9 (by decide) w_207 (fun l z h k => ?_) k
  refine R_astore dX7_readOne_79 (by decide) (fun l z h k => ?_) k
  refine R_aload_n dX7_readOne_81 rfl (fun l z h k => ?_) k
  exact R_cv0 (M := mX7_readOne) (pc := 82) (bc := bc) (bs := bs) (cb := 0) (cs := 0) (M' := mX9_step) dX7_readOne_82 rfl (by decide) w_652 w_132 w_1316 w_650 w_651 (by decide +kernel) (fun _ _ _ k => k) k
theorem bX7_readOne_85 {G : Gt} {d bc bs : Nat} {Q : QT} {l : Ls} {z : List Value} {h : Hp} (k : (tIld 3 (tIf (fun x => x = 0) (fun l z h => T G d bc bs mX7_readOne 106 l z h Q) (fun l z h => T G d bc bs mX7_readOne 89 l z h Q))) l z h) : T G d bc bs mX7_readOne 85 l z h Q := by
  refine R_iload_n dX7_readOne_85 rfl (fun l z h k => ?_) k
  exact R_if_eq dX7_readOne_86 (by decide) (fun _ _ _ k => k) (fun _ _ _ k => k) k
theorem bX7_readOne_89 {G : Gt} {d bc bs : Nat} {Q : QT} {l : Ls} {z : List Value} {h : Hp} (k : (tAld 0 (tAld 1 (tIld 2 (tPush (.int 1) (tB (fun x y => x + y) (tCV2 G d 0 0 6 mX7_readCond (fun l z h => T G d bc bs mX7_readOne 97 l z h Q))))))) l z h) : T G d bc bs mX7_readOne 89 l z h Q := by
  refine R_aload_n dX7_readOne_89 rfl (fun l z h k => ?_) k
  refine R_aload_n dX7_readOne_90 rfl (fun l z h k => ?_) k
  refine R_iload_n dX7_readOne_91 rfl (fun l z h k => ?_) k
  refine R_iconst dX7_readOne_92 (by decide) (fun l z h k => ?_) k
  refine R_iadd dX7_readOne_93 (fun l z h k => ?_) k
  exact R_cv2 (M := mX7_readOne) (pc := 94) (bc := bc) (bs := bs) (cb := 0) (cs := 0) (M' := mX7_readCond) dX7_readOne_94 rfl (by decide) w_1299 w_140 w_1296 w_1298 w_33 (by decide +kernel) (fun _ _ _ k => k) k
theorem bX7_readOne_97 {G : Gt} {d bc bs : Nat} {Q : QT} {l : Ls} {z : List Value} {h : Hp} (k : (tAld 1 (tPush (.int 41) (tCV1 G d 0 0 8 mX9_takeSign (fun l z h => T G d bc bs mX7_readOne 103 l z h Q)))) l z h) : T G d bc bs mX7_readOne 97 l z h Q := by
  refine R_aload_n dX7_readOne_97 rfl (fun l z h k => ?_) k
  refine R_bipush dX7_readOne_98 (by decide) (fun l z h k => ?_) k
  exact R_cv1 (M := mX7_readOne) (pc := 100) (bc := bc) (bs := bs) (cb := 0) (cs := 0) (M' := mX9_takeSign) dX7_readOne_100 rfl (by decide) w_775 w_132 w_1317 w_773 w_774 (by decide +kernel) (fun _ _ _ k => k) k
theorem bX7_readOne_103 {G : Gt} {d bc bs : Nat} {Q : QT} {l : Ls} {z : List Value} {h : Hp} (k : (fun l z h => T G d bc bs mX7_readOne 141 l z h Q) l z h) : T G d bc bs mX7_readOne 103 l z h Q := by
  exact R_goto dX7_readOne_103 (by decide) (fun _ _ _ k => k) k
theorem bX7_readOne_106 {G : Gt} {d bc bs : Nat} {Q : QT} {l : Ls} {z : List Value} {h : Hp} (k : (tAld 4 (tPush (.ref (adW G 17)) (tAcm (fun l z h => T G d bc bs mX7_readOne 114 l z h Q) (fun l z h => T G d bc bs mX7_readOne 134 l z h Q)))) l z h) : T G d bc bs mX7_readOne 106 l z h Q := by
  refine R_aload dX7_readOne_106 (fun l z h k => ?_) k
  refine R_word (k := 17) dX7_readOne_108 (by decide) rfl w_1318 (fun l z h k => ?_) k
  exact R_acmp_ne dX7_readOne_111 (by decide) (fun _ _ _ k => k) (fun _ _ _ k => k) k
theorem bX7_readOne_114 {G : Gt} {d bc bs : Nat} {Q : QT} {l : Ls} {z : List Value} {h : Hp} (k : (tAld 0 (tAld 1 (tIld 2 (tPush (.int 1) (tB (fun x y => x + y) (tCV2 G d 0 0 6 mX7_readOne (fun l z h => T G d bc bs mX7_readOne 122 l z h Q))))))) l z h) : T G d bc bs mX7_readOne 114 l z h Q := by
  refine R_aload_n dX7_readOne_114 rfl (fun l z h k => ?_) k
  refine R_aload_n dX7_readOne_115 rfl (fun l z h k => ?_) k
  refine R_iload_n dX7_readOne_116 rfl (fun l z h k => ?_) k
  refine R_iconst dX7_readOne_117 (by decide) (fun l z h k => ?_) k
  refine R_iadd dX7_readOne_118 (fun l z h k => ?_) k
  exact R_cv2 (M := mX7_readOne) (pc := 119) (bc := bc) (bs := bs) (cb := 0) (cs := 0) (M' := mX7_readOne) dX7_readOne_119 rfl (by decide) w_1307 w_140 w_1304 w_1306 w_35 (by decide +kernel) (fun _ _ _ k => k) k
theorem bX7_readOne_122 {G : Gt} {d bc bs : Nat} {Q : QT} {l : Ls} {z : List Value} {h : Hp} (k : (tAld 0 (tPush (.ref (adW G 17)) (tPush (.int 0) (tPush (.int 0) (tCV3 G d 0 0 6 mX7_put (fun l z h => T G d bc bs mX7_readOne 131 l z h Q)))))) l z h) : T G d bc bs mX7_readOne 122 l z h Q := by
  refine R_aload_n dX7_readOne_122 rfl (fun l z h k => ?_) k
  refine R_word (k := 17) dX7_readOne_123 (by decide) rfl w_1318 (fun l z h k => ?_) k
  refine R_iconst dX7_readOne_126 (by decide) (fun l z h k => ?_) k
  refine R_iconst dX7_readOne_127 (by decide) (fun l z h k => ?_) k
  exact R_cv3 (M := mX7_readOne) (pc := 128) (bc := bc) (bs := bs) (cb := 0) (cs := 0) (M' := mX7_put) dX7_readOne_128 rfl (by decide) w_1323 w_140 w_1320 w_1322 w_36 (by decide +kernel) (fun _ _ _ k => k) k
theorem bX7_readOne_131 {G : Gt} {d bc bs : Nat} {Q : QT} {l : Ls} {z : List Value} {h : Hp} (k : (fun l z h => T G d bc bs mX7_readOne 141 l z h Q) l z h) : T G d bc bs mX7_readOne 131 l z h Q := by
  exact R_goto dX7_readOne_131 (by decide) (fun _ _ _ k => k) k
theorem bX7_readOne_134 {G : Gt} {d bc bs : Nat} {Q : QT} {l : Ls} {z : List Value} {h : Hp} (k : (tAld 0 (tAld 1 (tAld 4 (tCV2 G d 0 0 6 mX7_readPlainOne (fun l z h => T G d bc bs mX7_readOne 141 l z h Q))))) l z h) : T G d bc bs mX7_readOne 134 l z h Q := by
  refine R_aload_n dX7_readOne_134 rfl (fun l z h k => ?_) k
  refine R_aload_n dX7_readOne_135 rfl (fun l z h k => ?_) k
  refine R_aload dX7_readOne_136 (fun l z h k => ?_) k
  exact R_cv2 (M := mX7_readOne) (pc := 138) (bc := bc) (bs := bs) (cb := 0) (cs := 0) (M' := mX7_readPlainOne) dX7_readOne_138 rfl (by decide) w_1327 w_140 w_1324 w_1326 w_37 (by decide +kernel) (fun _ _ _ k => k) k
theorem bX7_readOne_141 {G : Gt} {d bc bs : Nat} {Q : QT} {l : Ls} {z : List Value} {h : Hp} (k : (tRetV Q) l z h) : T G d bc bs mX7_readOne 141 l z h Q := by
  exact R_vret dX7_readOne_141 rfl k
theorem dX7_readPlainOne_0 : decode cX7_readPlainOne 0 = .ok (.getstatic 110, 3) := by decide +kernel
theorem dX7_readPlainOne_3 : decode cX7_readPlainOne 3 = .ok (.aload_n 2, 1) := by decide +kernel
theorem dX7_readPlainOne_4 : decode cX7_readPlainOne 4 = .ok (.invokevirtual 115, 3) := by decide +kernel
theorem dX7_readPlainOne_7 : decode cX7_readPlainOne 7 = .ok (.iaload, 1) := by decide +kernel
theorem dX7_readPlainOne_8 : decode cX7_readPlainOne 8 = .ok (.tableswitch 75 6 11 #[40, 40, 53, 53, 53, 53], 40) := by decide +kernel
theorem dX7_readPlainOne_48 : decode cX7_readPlainOne 48 = .ok (.aload_n 0, 1) := by decide +kernel
theorem dX7_readPlainOne_49 : decode cX7_readPlainOne 49 = .ok (.aload_n 2, 1) := by decide +kernel
theorem dX7_readPlainOne_50 : decode cX7_readPlainOne 50 = .ok (.iconst 0, 1) := by decide +kernel
theorem dX7_readPlainOne_51 : decode cX7_readPlainOne 51 = .ok (.aload_n 1, 1) := by decide +kernel
theorem dX7_readPlainOne_52 : decode cX7_readPlainOne 52 = .ok (.invokevirtual 119, 3) := by decide +kernel
theorem dX7_readPlainOne_55 : decode cX7_readPlainOne 55 = .ok (.invokevirtual 76, 3) := by decide +kernel
theorem dX7_readPlainOne_58 : decode cX7_readPlainOne 58 = .ok (.goto 32, 3) := by decide +kernel
theorem dX7_readPlainOne_61 : decode cX7_readPlainOne 61 = .ok (.aload_n 1, 1) := by decide +kernel
theorem dX7_readPlainOne_62 : decode cX7_readPlainOne 62 = .ok (.invokevirtual 122, 3) := by decide +kernel
theorem dX7_readPlainOne_65 : decode cX7_readPlainOne 65 = .ok (.istore_n 3, 1) := by decide +kernel
theorem dX7_readPlainOne_66 : decode cX7_readPlainOne 66 = .ok (.aload_n 0, 1) := by decide +kernel
theorem dX7_readPlainOne_67 : decode cX7_readPlainOne 67 = .ok (.aload_n 2, 1) := by decide +kernel
theorem dX7_readPlainOne_68 : decode cX7_readPlainOne 68 = .ok (.iload_n 3, 1) := by decide +kernel
theorem dX7_readPlainOne_69 : decode cX7_readPlainOne 69 = .ok (.aload_n 1, 1) := by decide +kernel
theorem dX7_readPlainOne_70 : decode cX7_readPlainOne 70 = .ok (.iconst 0, 1) := by decide +kernel
theorem dX7_readPlainOne_71 : decode cX7_readPlainOne 71 = .ok (.sipush 999, 3) := by decide +kernel
theorem dX7_readPlainOne_74 : decode cX7_readPlainOne 74 = .ok (.invokevirtual 125, 3) := by decide +kernel
theorem dX7_readPlainOne_77 : decode cX7_readPlainOne 77 = .ok (.invokevirtual 76, 3) := by decide +kernel
theorem dX7_readPlainOne_80 : decode cX7_readPlainOne 80 = .ok (.goto 10, 3) := by decide +kernel
theorem dX7_readPlainOne_83 : decode cX7_readPlainOne 83 = .ok (.aload_n 0, 1) := by decide +kernel
theorem dX7_readPlainOne_84 : decode cX7_readPlainOne 84 = .ok (.aload_n 2, 1) := by decide +kernel
theorem dX7_readPlainOne_85 : decode cX7_readPlainOne 85 = .ok (.iconst 0, 1) := by decide +kernel
theorem dX7_readPlainOne_86 : decode cX7_readPlainOne 86 = .ok (.iconst 0, 1) := by decide +kernel
theorem dX7_readPlainOne_87 : decode cX7_readPlainOne 87 = .ok (.invokevirtual 76, 3) := by decide +kernel
theorem dX7_readPlainOne_90 : decode cX7_readPlainOne 90 = .ok (.return_, 1) := by decide +kernel
theorem bX7_readPlainOne_0 {G : Gt} {d bc bs : Nat} {Q : QT} {l : Ls} {z : List Value} {h : Hp} (k : (tPush (.ref (G.2.2.2 51)) (tAld 2 (tOrd G d (fun l z h => T G d bc bs mX7_readPlainOne 7 l z h Q)))) l z h) : T G d bc bs mX7_readPlainOne 0 l z h Q := by
  refine R_swm dX7_readPlainOne_0 w_1312 (fun l z h k => ?_) k
  refine R_aload_n dX7_readPlainOne_3 rfl (fun l z h k => ?_) k
  exact R_ord dX7_readPlainOne_4 w_1313 (fun _ _ _ k => k) k
theorem bX7_readPlainOne_7 {G : Gt} {d bc bs : Nat} {Q : QT} {l : Ls} {z : List Value} {h : Hp} (k : (tTald (ySwm G) (tSw 6 [48, 48, 61, 61, 61, 61] 83 (fun t l z h => T G d bc bs mX7_readPlainOne t l z h Q))) l z h) : T G d bc bs mX7_readPlainOne 7 l z h Q := by
  refine R_smald dX7_readPlainOne_7 (fun l z h k => ?_) k
  exact R_table dX7_readPlainOne_8 (by decide) (by decide) (by decide) (by decide) (by decide) (fun _ _ _ _ k => k) k
theorem bX7_readPlainOne_48 {G : Gt} {d bc bs : Nat} {Q : QT} {l : Ls} {z : List Value} {h : Hp} (k : (tAld 0 (tAld 2 (tPush (.int 0) (tAld 1 (tCV0 G d 0 0 8 mX9_takeEnd (fun l z h => T G d bc bs mX7_readPlainOne 55 l z h Q)))))) l z h) : T G d bc bs mX7_readPlainOne 48 l z h Q := by
  refine R_aload_n dX7_readPlainOne_48 rfl (fun l z h k => ?_) k
  refine R_aload_n dX7_readPlainOne_49 rfl (fun l z h k => ?_) k
  refine R_iconst dX7_readPlainOne_50 (by decide) (fun l z h k => ?_) k
  refine R_aload_n dX7_readPlainOne_51 rfl (fun l z h k => ?_) k
  exact R_cv0 (M := mX7_readPlainOne) (pc := 52) (bc := bc) (bs := bs) (cb := 0) (cs := 0) (M' := mX9_takeEnd) dX7_readPlainOne_52 rfl (by decide) w_693 w_132 w_1328 w_691 w_692 (by decide +kernel) (fun _ _ _ k => k) k
theorem bX7_readPlainOne_55 {G : Gt} {d bc bs : Nat} {Q : QT} {l : Ls} {z : List Value} {h : Hp} (k : (tCV3 G d 0 0 6 mX7_put (fun l z h => T G d bc bs mX7_readPlainOne 58 l z h Q)) l z h) : T G d bc bs mX7_readPlainOne 55 l z h Q := by
  exact R_cv3 (M := mX7_readPlainOne) (pc := 55) (bc := bc) (bs := bs) (cb := 0) (cs := 0) (M' := mX7_put) dX7_readPlainOne_55 rfl (by decide) w_1323 w_140 w_1320 w_1322 w_36 (by decide +kernel) (fun _ _ _ k => k) k
theorem bX7_readPlainOne_58 {G : Gt} {d bc bs : Nat} {Q : QT} {l : Ls} {z : List Value} {h : Hp} (k : (fun l z h => T G d bc bs mX7_readPlainOne 90 l z h Q) l z h) : T G d bc bs mX7_readPlainOne 58 l z h Q := by
  exact R_goto dX7_readPlainOne_58 (by decide) (fun _ _ _ k => k) k
theorem bX7_readPlainOne_61 {G : Gt} {d bc bs : Nat} {Q : QT} {l : Ls} {z : List Value} {h : Hp} (k : (tAld 1 (tCV0 G d 0 0 8 mX9_takeComparison (fun l z h => T G d bc bs mX7_readPlainOne 65 l z h Q))) l z h) : T G d bc bs mX7_readPlainOne 61 l z h Q := by
  refine R_aload_n dX7_readPlainOne_61 rfl (fun l z h k => ?_) k
  exact R_cv0 (M := mX7_readPlainOne) (pc := 62) (bc := bc) (bs := bs) (cb := 0) (cs := 0) (M' := mX9_takeComparison) dX7_readPlainOne_62 rfl (by decide) w_1332 w_132 w_1329 w_1330 w_1331 (by decide +kernel) (fun _ _ _ k => k) k
theorem bX7_readPlainOne_65 {G : Gt} {d bc bs : Nat} {Q : QT} {l : Ls} {z : List Value} {h : Hp} (k : (tIst 3 (tAld 0 (tAld 2 (tIld 3 (tAld 1 (tPush (.int 0) (tPush (.int 999) (tCV2 G d 0 0 8 mX9_takeNumber (fun l z h => T G d bc bs mX7_readPlainOne 77 l z h Q))))))))) l z h) : T G d bc bs mX7_readPlainOne 65 l z h Q := by
  refine R_istore_n dX7_readPlainOne_65 rfl (by decide) (fun l z h k => ?_) k
  refine R_aload_n dX7_readPlainOne_66 rfl (fun l z h k => ?_) k
  refine R_aload_n dX7_readPlainOne_67 rfl (fun l z h k => ?_) k
  refine R_iload_n dX7_readPlainOne_68 rfl (fun l z h k => ?_) k
  refine R_aload_n dX7_readPlainOne_69 rfl (fun l z h k => ?_) k
  refine R_iconst dX7_readPlainOne_70 (by decide) (fun l z h k => ?_) k
  refine R_sipush dX7_readPlainOne_71 (by decide) (fun l z h k => ?_) k
  exact R_cv2 (M := mX7_readPlainOne) (pc := 74) (bc := bc) (bs := bs) (cb := 0) (cs := 0) (M' := mX9_takeNumber) dX7_readPlainOne_74 rfl (by decide) w_701 w_132 w_1333 w_699 w_700 (by decide +kernel) (fun _ _ _ k => k) k
theorem bX7_readPlainOne_77 {G : Gt} {d bc bs : Nat} {Q : QT} {l : Ls} {z : List Value} {h : Hp} (k : (tCV3 G d 0 0 6 mX7_put (fun l z h => T G d bc bs mX7_readPlainOne 80 l z h Q)) l z h) : T G d bc bs mX7_readPlainOne 77 l z h Q := by
  exact R_cv3 (M := mX7_readPlainOne) (pc := 77) (bc := bc) (bs := bs) (cb := 0) (cs := 0) (M' := mX7_put) dX7_readPlainOne_77 rfl (by decide) w_1323 w_140 w_1320 w_1322 w_36 (by decide +kernel) (fun _ _ _ k => k) k
theorem bX7_readPlainOne_80 {G : Gt} {d bc bs : Nat} {Q : QT} {l : Ls} {z : List Value} {h : Hp} (k : (fun l z h => T G d bc bs mX7_readPlainOne 90 l z h Q) l z h) : T G d bc bs mX7_readPlainOne 80 l z h Q := by
  exact R_goto dX7_readPlainOne_80 (by decide) (fun _ _ _ k => k) k
theorem bX7_readPlainOne_83 {G : Gt} {d bc bs : Nat} {Q : QT} {l : Ls} {z : List Value} {h : Hp} (k : (tAld 0 (tAld 2 (tPush (.int 0) (tPush (.int 0) (tCV3 G d 0 0 6 mX7_put (fun l z h => T G d bc bs mX7_readPlainOne 90 l z h Q)))))) l z h) : T G d bc bs mX7_readPlainOne 83 l z h Q := by
  refine R_aload_n dX7_readPlainOne_83 rfl (fun l z h k => ?_) k
  refine R_aload_n dX7_readPlainOne_84 rfl (fun l z h k => ?_) k
  refine R_iconst dX7_readPlainOne_85 (by decide) (fun l z h k => ?_) k
  refine R_iconst dX7_readPlainOne_86 (by decide) (fun l z h k => ?_) k
  exact R_cv3 (M := mX7_readPlainOne) (pc := 87) (bc := bc) (bs := bs) (cb := 0) (cs := 0) (M' := mX7_put) dX7_readPlainOne_87 rfl (by decide) w_1323 w_140 w_1320 w_1322 w_36 (by decide +kernel) (fun _ _ _ k => k) k
theorem bX7_readPlainOne_90 {G : Gt} {d bc bs : Nat} {Q : QT} {l : Ls} {z : List Value} {h : Hp} (k : (tRetV Q) l z h) : T G d bc bs mX7_readPlainOne 90 l z h Q := by
  exact R_vret dX7_readPlainOne_90 rfl k
theorem dX7_opensOne_0 : decode cX7_opensOne 0 = .ok (.getstatic 110, 3) := by decide +kernel
theorem dX7_opensOne_3 : decode cX7_opensOne 3 = .ok (.aload_n 0, 1) := by decide +kernel
theorem dX7_opensOne_4 : decode cX7_opensOne 4 = .ok (.invokevirtual 115, 3) := by decide +kernel
theorem dX7_opensOne_7 : decode cX7_opensOne 7 = .ok (.iaload, 1) := by decide +kernel
theorem dX7_opensOne_8 : decode cX7_opensOne 8 = .ok (.tableswitch 62 6 16 #[60, 60, 60, 60, 60, 60, 60, 60, 60, 60, 60], 60) := by decide +kernel
theorem dX7_opensOne_68 : decode cX7_opensOne 68 = .ok (.iconst 1, 1) := by decide +kernel
theorem dX7_opensOne_69 : decode cX7_opensOne 69 = .ok (.ireturn, 1) := by decide +kernel
theorem dX7_opensOne_70 : decode cX7_opensOne 70 = .ok (.iconst 0, 1) := by decide +kernel
theorem dX7_opensOne_71 : decode cX7_opensOne 71 = .ok (.ireturn, 1) := by decide +kernel
theorem bX7_opensOne_0 {G : Gt} {d bc bs : Nat} {Q : QT} {l : Ls} {z : List Value} {h : Hp} (k : (tPush (.ref (G.2.2.2 51)) (tAld 0 (tOrd G d (fun l z h => T G d bc bs mX7_opensOne 7 l z h Q)))) l z h) : T G d bc bs mX7_opensOne 0 l z h Q := by
  refine R_swm dX7_opensOne_0 w_1312 (fun l z h k => ?_) k
  refine R_aload_n dX7_opensOne_3 rfl (fun l z h k => ?_) k
  exact R_ord dX7_opensOne_4 w_1313 (fun _ _ _ k => k) k
theorem bX7_opensOne_7 {G : Gt} {d bc bs : Nat} {Q : QT} {l : Ls} {z : List Value} {h : Hp} (k : (tTald (ySwm G) (tSw 6 [68, 68, 68, 68, 68, 68, 68, 68, 68, 68, 68] 70 (fun t l z h => T G d bc bs mX7_opensOne t l z h Q))) l z h) : T G d bc bs mX7_opensOne 7 l z h Q := by
  refine R_smald dX7_opensOne_7 (fun l z h k => ?_) k
  exact R_table dX7_opensOne_8 (by decide) (by decide) (by decide) (by decide) (by decide) (fun _ _ _ _ k => k) k
theorem bX7_opensOne_68 {G : Gt} {d bc bs : Nat} {Q : QT} {l : Ls} {z : List Value} {h : Hp} (k : (tPush (.int 1) (tRetZ Q)) l z h) : T G d bc bs mX7_opensOne 68 l z h Q := by
  refine R_iconst dX7_opensOne_68 (by decide) (fun l z h k => ?_) k
  exact R_zret dX7_opensOne_69 rfl k
theorem bX7_opensOne_70 {G : Gt} {d bc bs : Nat} {Q : QT} {l : Ls} {z : List Value} {h : Hp} (k : (tPush (.int 0) (tRetZ Q)) l z h) : T G d bc bs mX7_opensOne 70 l z h Q := by
  refine R_iconst dX7_opensOne_70 (by decide) (fun l z h k => ?_) k
  exact R_zret dX7_opensOne_71 rfl k
theorem dX7_put_0 : decode cX7_put 0 = .ok (.aload_n 0, 1) := by decide +kernel
theorem dX7_put_1 : decode cX7_put 1 = .ok (.getfield 35, 3) := by decide +kernel
theorem dX7_put_4 : decode cX7_put 4 = .ok (.bipush 40, 2) := by decide +kernel
theorem dX7_put_6 : decode cX7_put 6 = .ok (.if_icmp .ge 43, 3) := by decide +kernel
theorem dX7_put_9 : decode cX7_put 9 = .ok (.aload_n 0, 1) := by decide +kernel
theorem dX7_put_10 : decode cX7_put 10 = .ok (.getfield 13, 3) := by decide +kernel
theorem dX7_put_13 : decode cX7_put 13 = .ok (.aload_n 0, 1) := by decide +kernel
theorem dX7_put_14 : decode cX7_put 14 = .ok (.getfield 35, 3) := by decide +kernel
theorem dX7_put_17 : decode cX7_put 17 = .ok (.aload_n 1, 1) := by decide +kernel
theorem dX7_put_18 : decode cX7_put 18 = .ok (.aastore, 1) := by decide +kernel
theorem dX7_put_19 : decode cX7_put 19 = .ok (.aload_n 0, 1) := by decide +kernel
theorem dX7_put_20 : decode cX7_put 20 = .ok (.getfield 17, 3) := by decide +kernel
theorem dX7_put_23 : decode cX7_put 23 = .ok (.aload_n 0, 1) := by decide +kernel
theorem dX7_put_24 : decode cX7_put 24 = .ok (.getfield 35, 3) := by decide +kernel
theorem dX7_put_27 : decode cX7_put 27 = .ok (.iload_n 2, 1) := by decide +kernel
theorem dX7_put_28 : decode cX7_put 28 = .ok (.iastore, 1) := by decide +kernel
theorem dX7_put_29 : decode cX7_put 29 = .ok (.aload_n 0, 1) := by decide +kernel
theorem dX7_put_30 : decode cX7_put 30 = .ok (.getfield 21, 3) := by decide +kernel
theorem dX7_put_33 : decode cX7_put 33 = .ok (.aload_n 0, 1) := by decide +kernel
theorem dX7_put_34 : decode cX7_put 34 = .ok (.getfield 35, 3) := by decide +kernel
theorem dX7_put_37 : decode cX7_put 37 = .ok (.iload_n 3, 1) := by decide +kernel
theorem dX7_put_38 : decode cX7_put 38 = .ok (.iastore, 1) := by decide +kernel
theorem dX7_put_39 : decode cX7_put 39 = .ok (.aload_n 0, 1) := by decide +kernel
theorem dX7_put_40 : decode cX7_put 40 = .ok (.dup, 1) := by decide +kernel
theorem dX7_put_41 : decode cX7_put 41 = .ok (.getfield 35, 3) := by decide +kernel
theorem dX7_put_44 : decode cX7_put 44 = .ok (.iconst 1, 1) := by decide +kernel
theorem dX7_put_45 : decode cX7_put 45 = .ok (.iadd, 1) := by decide +kernel
theorem dX7_put_46 : decode cX7_put 46 = .ok (.putfield 35, 3) := by decide +kernel
theorem dX7_put_49 : decode cX7_put 49 = .ok (.return_, 1) := by decide +kernel
theorem bX7_put_0 {G : Gt} {d bc bs : Nat} {Q : QT} {l : Ls} {z : List Value} {h : Hp} (k : (tAld 0 (tGetf 6 1 (tPush (.int 40) (tIf2 (fun x y => y ≤ x) (fun l z h => T G d bc bs mX7_put 49 l z h Q) (fun l z h => T G d bc bs mX7_put 9 l z h Q))))) l z h) : T G d bc bs mX7_put 0 l z h Q := by
  refine R_aload_n dX7_put_0 rfl (fun l z h k => ?_) k
  refine R_getf (ci := 6) (f := 1) (C := RX7) (N := 7) (Tt := TX7) dX7_put_1 rfl i_X7 (by decide) w_395 (fun l z h k => ?_) k
  refine R_bipush dX7_put_4 (by decide) (fun l z h k => ?_) k
  exact R_icmp_ge dX7_put_6 (by decide) (fun _ _ _ k => k) (fun _ _ _ k => k) k
theorem bX7_put_9 {G : Gt} {d bc bs : Nat} {Q : QT} {l : Ls} {z : List Value} {h : Hp} (k : (tAld 0 (tGetf 6 2 (tAld 0 (tGetf 6 1 (tAld 1 (tRast 0 (pWord G) (tAld 0 (tGetf 6 3 (tAld 0 (tGetf 6 1 (tIld 2 (tXast 0 (tAld 0 (tGetf 6 4 (tAld 0 (tGetf 6 1 (tIld 3 (tXast 0 (tAld 0 (tDup (tGetf 6 1 (tPush (.int 1) (tB (fun x y => x + y) (tPutf isI 6 1 ((fun l z h => T G d bc bs mX7_put 49 l z h Q)))))))))))))))))))))))))) l z h) : T G d bc bs mX7_put 9 l z h Q := by
  refine R_aload_n dX7_put_9 rfl (fun l z h k => ?_) k
  refine R_getf (ci := 6) (f := 2) (C := RX7) (N := 7) (Tt := TX7) dX7_put_10 rfl i_X7 (by decide) w_396 (fun l z h k => ?_) k
  refine R_aload_n dX7_put_13 rfl (fun l z h k => ?_) k
  refine R_getf (ci := 6) (f := 1) (C := RX7) (N := 7) (Tt := TX7) dX7_put_14 rfl i_X7 (by decide) w_395 (fun l z h k => ?_) k
  refine R_aload_n dX7_put_17 rfl (fun l z h k => ?_) k
  refine R_aastore (C := "BridgeToll$Word") dX7_put_18 (by decide) rfl pWord_ok (fun l z h k => ?_) k
  refine R_aload_n dX7_put_19 rfl (fun l z h k => ?_) k
  refine R_getf (ci := 6) (f := 3) (C := RX7) (N := 7) (Tt := TX7) dX7_put_20 rfl i_X7 (by decide) w_397 (fun l z h k => ?_) k
  refine R_aload_n dX7_put_23 rfl (fun l z h k => ?_) k
  refine R_getf (ci := 6) (f := 1) (C := RX7) (N := 7) (Tt := TX7) dX7_put_24 rfl i_X7 (by decide) w_395 (fun l z h k => ?_) k
  refine R_iload_n dX7_put_27 rfl (fun l z h k => ?_) k
  refine R_iastore dX7_put_28 (fun l z h k => ?_) k
  refine R_aload_n dX7_put_29 rfl (fun l z h k => ?_) k
  refine R_getf (ci := 6) (f := 4) (C := RX7) (N := 7) (Tt := TX7) dX7_put_30 rfl i_X7 (by decide) w_398 (fun l z h k => ?_) k
  refine R_aload_n dX7_put_33 rfl (fun l z h k => ?_) k
  refine R_getf (ci := 6) (f := 1) (C := RX7) (N := 7) (Tt := TX7) dX7_put_34 rfl i_X7 (by decide) w_395 (fun l z h k => ?_) k
  refine R_iload_n dX7_put_37 rfl (fun l z h k => ?_) k
  refine R_iastore dX7_put_38 (fun l z h k => ?_) k
  refine R_aload_n dX7_put_39 rfl (fun l z h k => ?_) k
  refine R_dup dX7_put_40 (fun l z h k => ?_) k
  refine R_getf (ci := 6) (f := 1) (C := RX7) (N := 7) (Tt := TX7) dX7_put_41 rfl i_X7 (by decide) w_395 (fun l z h k => ?_) k
  refine R_iconst dX7_put_44 (by decide) (fun l z h k => ?_) k
  refine R_iadd dX7_put_45 (fun l z h k => ?_) k
  refine R_putf (ci := 6) (f := 1) (C := RX7) (N := 7) (Tt := TX7) tyX7 tyX7_ok nmX7 dX7_put_46 rfl i_X7 (by decide) w_395 rfl (tyX7_ok 1 (by decide)) p_int (fun l z h k => ?_) k
  exact k
theorem bX7_put_49 {G : Gt} {d bc bs : Nat} {Q : QT} {l : Ls} {z : List Value} {h : Hp} (k : (tRetV Q) l z h) : T G d bc bs mX7_put 49 l z h Q := by
  exact R_vret dX7_put_49 rfl k
theorem dX7_ofWhom_0 : decode cX7_ofWhom 0 = .ok (.iconst 1, 1) := by decide +kernel
theorem dX7_ofWhom_1 : decode cX7_ofWhom 1 = .ok (.aload_n 1, 1) := by decide +kernel
theorem dX7_ofWhom_2 : decode cX7_ofWhom 2 = .ok (.getfield 129, 3) := by decide +kernel
theorem dX7_ofWhom_5 : decode cX7_ofWhom 5 = .ok (.ishl, 1) := by decide +kernel
theorem dX7_ofWhom_6 : decode cX7_ofWhom 6 = .ok (.iconst 1, 1) := by decide +kernel
theorem dX7_ofWhom_7 : decode cX7_ofWhom 7 = .ok (.isub, 1) := by decide +kernel
theorem dX7_ofWhom_8 : decode cX7_ofWhom 8 = .ok (.istore_n 2, 1) := by decide +kernel
theorem dX7_ofWhom_9 : decode cX7_ofWhom 9 = .ok (.aload_n 0, 1) := by decide +kernel
theorem dX7_ofWhom_10 : decode cX7_ofWhom 10 = .ok (.iconst 0, 1) := by decide +kernel
theorem dX7_ofWhom_11 : decode cX7_ofWhom 11 = .ok (.putfield 134, 3) := by decide +kernel
theorem dX7_ofWhom_14 : decode cX7_ofWhom 14 = .ok (.iconst 0, 1) := by decide +kernel
theorem dX7_ofWhom_15 : decode cX7_ofWhom 15 = .ok (.istore_n 3, 1) := by decide +kernel
theorem dX7_ofWhom_16 : decode cX7_ofWhom 16 = .ok (.iload_n 3, 1) := by decide +kernel
theorem dX7_ofWhom_17 : decode cX7_ofWhom 17 = .ok (.aload_n 0, 1) := by decide +kernel
theorem dX7_ofWhom_18 : decode cX7_ofWhom 18 = .ok (.getfield 35, 3) := by decide +kernel
theorem dX7_ofWhom_21 : decode cX7_ofWhom 21 = .ok (.if_icmp .ge 102, 3) := by decide +kernel
theorem dX7_ofWhom_24 : decode cX7_ofWhom 24 = .ok (.aload_n 0, 1) := by decide +kernel
theorem dX7_ofWhom_25 : decode cX7_ofWhom 25 = .ok (.getfield 13, 3) := by decide +kernel
theorem dX7_ofWhom_28 : decode cX7_ofWhom 28 = .ok (.iload_n 3, 1) := by decide +kernel
theorem dX7_ofWhom_29 : decode cX7_ofWhom 29 = .ok (.aaload, 1) := by decide +kernel
theorem dX7_ofWhom_30 : decode cX7_ofWhom 30 = .ok (.getstatic 103, 3) := by decide +kernel
theorem dX7_ofWhom_33 : decode cX7_ofWhom 33 = .ok (.if_acmp .ne 18, 3) := by decide +kernel
theorem dX7_ofWhom_36 : decode cX7_ofWhom 36 = .ok (.aload_n 0, 1) := by decide +kernel
theorem dX7_ofWhom_37 : decode cX7_ofWhom 37 = .ok (.iload_n 2, 1) := by decide +kernel
theorem dX7_ofWhom_38 : decode cX7_ofWhom 38 = .ok (.aload_n 0, 1) := by decide +kernel
theorem dX7_ofWhom_39 : decode cX7_ofWhom 39 = .ok (.invokevirtual 137, 3) := by decide +kernel
theorem dX7_ofWhom_42 : decode cX7_ofWhom 42 = .ok (.iconst (-1), 1) := by decide +kernel
theorem dX7_ofWhom_43 : decode cX7_ofWhom 43 = .ok (.ixor, 1) := by decide +kernel
theorem dX7_ofWhom_44 : decode cX7_ofWhom 44 = .ok (.iand, 1) := by decide +kernel
theorem dX7_ofWhom_45 : decode cX7_ofWhom 45 = .ok (.invokevirtual 140, 3) := by decide +kernel
theorem dX7_ofWhom_48 : decode cX7_ofWhom 48 = .ok (.goto 69, 3) := by decide +kernel
theorem dX7_ofWhom_51 : decode cX7_ofWhom 51 = .ok (.aload_n 0, 1) := by decide +kernel
theorem dX7_ofWhom_52 : decode cX7_ofWhom 52 = .ok (.getfield 13, 3) := by decide +kernel
theorem dX7_ofWhom_55 : decode cX7_ofWhom 55 = .ok (.iload_n 3, 1) := by decide +kernel
theorem dX7_ofWhom_56 : decode cX7_ofWhom 56 = .ok (.aaload, 1) := by decide +kernel
theorem dX7_ofWhom_57 : decode cX7_ofWhom 57 = .ok (.getstatic 83, 3) := by decide +kernel
theorem dX7_ofWhom_60 : decode cX7_ofWhom 60 = .ok (.if_acmp .ne 19, 3) := by decide +kernel
theorem dX7_ofWhom_63 : decode cX7_ofWhom 63 = .ok (.aload_n 0, 1) := by decide +kernel
theorem dX7_ofWhom_64 : decode cX7_ofWhom 64 = .ok (.aload_n 0, 1) := by decide +kernel
theorem dX7_ofWhom_65 : decode cX7_ofWhom 65 = .ok (.invokevirtual 137, 3) := by decide +kernel
theorem dX7_ofWhom_68 : decode cX7_ofWhom 68 = .ok (.aload_n 0, 1) := by decide +kernel
theorem dX7_ofWhom_69 : decode cX7_ofWhom 69 = .ok (.invokevirtual 137, 3) := by decide +kernel
theorem dX7_ofWhom_72 : decode cX7_ofWhom 72 = .ok (.iand, 1) := by decide +kernel
theorem dX7_ofWhom_73 : decode cX7_ofWhom 73 = .ok (.invokevirtual 140, 3) := by decide +kernel
theorem dX7_ofWhom_76 : decode cX7_ofWhom 76 = .ok (.goto 41, 3) := by decide +kernel
theorem dX7_ofWhom_79 : decode cX7_ofWhom 79 = .ok (.aload_n 0, 1) := by decide +kernel
theorem dX7_ofWhom_80 : decode cX7_ofWhom 80 = .ok (.getfield 13, 3) := by decide +kernel
theorem dX7_ofWhom_83 : decode cX7_ofWhom 83 = .ok (.iload_n 3, 1) := by decide +kernel
theorem dX7_ofWhom_84 : decode cX7_ofWhom 84 = .ok (.aaload, 1) := by decide +kernel
theorem dX7_ofWhom_85 : decode cX7_ofWhom 85 = .ok (.getstatic 66, 3) := by decide +kernel
theorem dX7_ofWhom_88 : decode cX7_ofWhom 88 = .ok (.if_acmp .ne 19, 3) := by decide +kernel
theorem dX7_ofWhom_91 : decode cX7_ofWhom 91 = .ok (.aload_n 0, 1) := by decide +kernel
theorem dX7_ofWhom_92 : decode cX7_ofWhom 92 = .ok (.aload_n 0, 1) := by decide +kernel
theorem dX7_ofWhom_93 : decode cX7_ofWhom 93 = .ok (.invokevirtual 137, 3) := by decide +kernel
theorem dX7_ofWhom_96 : decode cX7_ofWhom 96 = .ok (.aload_n 0, 1) := by decide +kernel
theorem dX7_ofWhom_97 : decode cX7_ofWhom 97 = .ok (.invokevirtual 137, 3) := by decide +kernel
theorem dX7_ofWhom_100 : decode cX7_ofWhom 100 = .ok (.ior, 1) := by decide +kernel
theorem dX7_ofWhom_101 : decode cX7_ofWhom 101 = .ok (.invokevirtual 140, 3) := by decide +kernel
theorem dX7_ofWhom_104 : decode cX7_ofWhom 104 = .ok (.goto 13, 3) := by decide +kernel
theorem dX7_ofWhom_107 : decode cX7_ofWhom 107 = .ok (.aload_n 0, 1) := by decide +kernel
theorem dX7_ofWhom_108 : decode cX7_ofWhom 108 = .ok (.aload_n 0, 1) := by decide +kernel
theorem dX7_ofWhom_109 : decode cX7_ofWhom 109 = .ok (.aload_n 1, 1) := by decide +kernel
theorem dX7_ofWhom_110 : decode cX7_ofWhom 110 = .ok (.iload_n 3, 1) := by decide +kernel
theorem dX7_ofWhom_111 : decode cX7_ofWhom 111 = .ok (.invokevirtual 143, 3) := by decide +kernel
theorem dX7_ofWhom_114 : decode cX7_ofWhom 114 = .ok (.invokevirtual 140, 3) := by decide +kernel
theorem dX7_ofWhom_117 : decode cX7_ofWhom 117 = .ok (.iinc 3 1, 3) := by decide +kernel
theorem dX7_ofWhom_120 : decode cX7_ofWhom 120 = .ok (.goto (-104), 3) := by decide +kernel
theorem dX7_ofWhom_123 : decode cX7_ofWhom 123 = .ok (.aload_n 0, 1) := by decide +kernel
theorem dX7_ofWhom_124 : decode cX7_ofWhom 124 = .ok (.invokevirtual 137, 3) := by decide +kernel
theorem dX7_ofWhom_127 : decode cX7_ofWhom 127 = .ok (.ireturn, 1) := by decide +kernel
theorem bX7_ofWhom_0 {G : Gt} {d bc bs : Nat} {Q : QT} {l : Ls} {z : List Value} {h : Hp} (k : (tPush (.int 1) (tAld 1 (tGetf 9 1 (tB (fun x y => x <<< (y &&& 31)) (tPush (.int 1) (tB (fun x y => x - y) (tIst 2 (tAld 0 (tPush (.int 0) (tPutf isI 6 6 (tPush (.int 0) (tIst 3 ((fun l z h => T G d bc bs mX7_ofWhom 16 l z h Q)))))))))))))) l z h) : T G d bc bs mX7_ofWhom 0 l z h Q := by
  refine R_iconst dX7_ofWhom_0 (by decide) (fun l z h k => ?_) k
  refine R_aload_n dX7_ofWhom_1 rfl (fun l z h k => ?_) k
  refine R_getf (ci := 9) (f := 1) (C := RX11) (N := 14) (Tt := TX11) dX7_ofWhom_2 rfl i_X11 (by decide) w_257 (fun l z h k => ?_) k
  refine R_ishl dX7_ofWhom_5 (fun l z h k => ?_) k
  refine R_iconst dX7_ofWhom_6 (by decide) (fun l z h k => ?_) k
  refine R_isub dX7_ofWhom_7 (fun l z h k => ?_) k
  refine R_istore_n dX7_ofWhom_8 rfl (by decide) (fun l z h k => ?_) k
  refine R_aload_n dX7_ofWhom_9 rfl (fun l z h k => ?_) k
  refine R_iconst dX7_ofWhom_10 (by decide) (fun l z h k => ?_) k
  refine R_putf (ci := 6) (f := 6) (C := RX7) (N := 7) (Tt := TX7) tyX7 tyX7_ok nmX7 dX7_ofWhom_11 rfl i_X7 (by decide) w_400 rfl (tyX7_ok 6 (by decide)) p_int (fun l z h k => ?_) k
  refine R_iconst dX7_ofWhom_14 (by decide) (fun l z h k => ?_) k
  refine R_istore_n dX7_ofWhom_15 rfl (by decide) (fun l z h k => ?_) k
  exact k
theorem bX7_ofWhom_16 {G : Gt} {d bc bs : Nat} {Q : QT} {l : Ls} {z : List Value} {h : Hp} (k : (tIld 3 (tAld 0 (tGetf 6 1 (tIf2 (fun x y => y ≤ x) (fun l z h => T G d bc bs mX7_ofWhom 123 l z h Q) (fun l z h => T G d bc bs mX7_ofWhom 24 l z h Q))))) l z h) : T G d bc bs mX7_ofWhom 16 l z h Q := by
  refine R_iload_n dX7_ofWhom_16 rfl (fun l z h k => ?_) k
  refine R_aload_n dX7_ofWhom_17 rfl (fun l z h k => ?_) k
  refine R_getf (ci := 6) (f := 1) (C := RX7) (N := 7) (Tt := TX7) dX7_ofWhom_18 rfl i_X7 (by decide) w_395 (fun l z h k => ?_) k
  exact R_icmp_ge dX7_ofWhom_21 (by decide) (fun _ _ _ k => k) (fun _ _ _ k => k) k
theorem bX7_ofWhom_24 {G : Gt} {d bc bs : Nat} {Q : QT} {l : Ls} {z : List Value} {h : Hp} (k : (tAld 0 (tGetf 6 2 (tIld 3 (tRald (tPush (.ref (adW G 17)) (tAcm (fun l z h => T G d bc bs mX7_ofWhom 36 l z h Q) (fun l z h => T G d bc bs mX7_ofWhom 51 l z h Q))))))) l z h) : T G d bc bs mX7_ofWhom 24 l z h Q := by
  refine R_aload_n dX7_ofWhom_24 rfl (fun l z h k => ?_) k
  refine R_getf (ci := 6) (f := 2) (C := RX7) (N := 7) (Tt := TX7) dX7_ofWhom_25 rfl i_X7 (by decide) w_396 (fun l z h k => ?_) k
  refine R_iload_n dX7_ofWhom_28 rfl (fun l z h k => ?_) k
  refine R_aaload dX7_ofWhom_29 (fun l z h k => ?_) k
  refine R_word (k := 17) dX7_ofWhom_30 (by decide) rfl w_1318 (fun l z h k => ?_) k
  exact R_acmp_ne dX7_ofWhom_33 (by decide) (fun _ _ _ k => k) (fun _ _ _ k => k) k
theorem bX7_ofWhom_36 {G : Gt} {d bc bs : Nat} {Q : QT} {l : Ls} {z : List Value} {h : Hp} (k : (tAld 0 (tIld 2 (tAld 0 (tCV0 G d 0 0 6 mX7_pop (fun l z h => T G d bc bs mX7_ofWhom 42 l z h Q))))) l z h) : T G d bc bs mX7_ofWhom 36 l z h Q := by
  refine R_aload_n dX7_ofWhom_36 rfl (fun l z h k => ?_) k
  refine R_iload_n dX7_ofWhom_37 rfl (fun l z h k => ?_) k
  refine R_aload_n dX7_ofWhom_38 rfl (fun l z h k => ?_) k
  exact R_cv0 (M := mX7_ofWhom) (pc := 39) (bc := bc) (bs := bs) (cb := 0) (cs := 0) (M' := mX7_pop) dX7_ofWhom_39 rfl (by decide) w_1359 w_140 w_1356 w_1358 w_38 (by decide +kernel) (fun _ _ _ k => k) k
theorem bX7_ofWhom_42 {G : Gt} {d bc bs : Nat} {Q : QT} {l : Ls} {z : List Value} {h : Hp} (k : (tPush (.int (-1)) (tB (fun x y => x ^^^ y) (tB (fun x y => x &&& y) (tCV1 G d 0 0 6 mX7_push (fun l z h => T G d bc bs mX7_ofWhom 48 l z h Q))))) l z h) : T G d bc bs mX7_ofWhom 42 l z h Q := by
  refine R_iconst dX7_ofWhom_42 (by decide) (fun l z h k => ?_) k
  refine R_ixor dX7_ofWhom_43 (fun l z h k => ?_) k
  refine R_iand dX7_ofWhom_44 (fun l z h k => ?_) k
  exact R_cv1 (M := mX7_ofWhom) (pc := 45) (bc := bc) (bs := bs) (cb := 0) (cs := 0) (M' := mX7_push) dX7_ofWhom_45 rfl (by decide) w_1363 w_140 w_1360 w_1362 w_39 (by decide +kernel) (fun _ _ _ k => k) k
theorem bX7_ofWhom_48 {G : Gt} {d bc bs : Nat} {Q : QT} {l : Ls} {z : List Value} {h : Hp} (k : (fun l z h => T G d bc bs mX7_ofWhom 117 l z h Q) l z h) : T G d bc bs mX7_ofWhom 48 l z h Q := by
  exact R_goto dX7_ofWhom_48 (by decide) (fun _ _ _ k => k) k
theorem bX7_ofWhom_51 {G : Gt} {d bc bs : Nat} {Q : QT} {l : Ls} {z : List Value} {h : Hp} (k : (tAld 0 (tGetf 6 2 (tIld 3 (tRald (tPush (.ref (adW G 16)) (tAcm (fun l z h => T G d bc bs mX7_ofWhom 63 l z h Q) (fun l z h => T G d bc bs mX7_ofWhom 79 l z h Q))))))) l z h) : T G d bc bs mX7_ofWhom 51 l z h Q := by
  refine R_aload_n dX7_ofWhom_51 rfl (fun l z h k => ?_) k
  refine R_getf (ci := 6) (f := 2) (C := RX7) (N := 7) (Tt := TX7) dX7_ofWhom_52 rfl i_X7 (by decide) w_396 (fun l z h k => ?_) k
  refine R_iload_n dX7_ofWhom_55 rfl (fun l z h k => ?_) k
  refine R_aaload dX7_ofWhom_56 (fun l z h k => ?_) k
  refine R_word (k := 16) dX7_ofWhom_57 (by decide) rfl w_1334 (fun l z h k => ?_) k
  exact R_acmp_ne dX7_ofWhom_60 (by decide) (fun _ _ _ k => k) (fun _ _ _ k => k) k
theorem bX7_ofWhom_63 {G : Gt} {d bc bs : Nat} {Q : QT} {l : Ls} {z : List Value} {h : Hp} (k : (tAld 0 (tAld 0 (tCV0 G d 0 0 6 mX7_pop (fun l z h => T G d bc bs mX7_ofWhom 68 l z h Q)))) l z h) : T G d bc bs mX7_ofWhom 63 l z h Q := by
  refine R_aload_n dX7_ofWhom_63 rfl (fun l z h k => ?_) k
  refine R_aload_n dX7_ofWhom_64 rfl (fun l z h k => ?_) k
  exact R_cv0 (M := mX7_ofWhom) (pc := 65) (bc := bc) (bs := bs) (cb := 0) (cs := 0) (M' := mX7_pop) dX7_ofWhom_65 rfl (by decide) w_1359 w_140 w_1356 w_1358 w_38 (by decide +kernel) (fun _ _ _ k => k) k
theorem bX7_ofWhom_68 {G : Gt} {d bc bs : Nat} {Q : QT} {l : Ls} {z : List Value} {h : Hp} (k : (tAld 0 (tCV0 G d 0 0 6 mX7_pop (fun l z h => T G d bc bs mX7_ofWhom 72 l z h Q))) l z h) : T G d bc bs mX7_ofWhom 68 l z h Q := by
  refine R_aload_n dX7_ofWhom_68 rfl (fun l z h k => ?_) k
  exact R_cv0 (M := mX7_ofWhom) (pc := 69) (bc := bc) (bs := bs) (cb := 0) (cs := 0) (M' := mX7_pop) dX7_ofWhom_69 rfl (by decide) w_1359 w_140 w_1356 w_1358 w_38 (by decide +kernel) (fun _ _ _ k => k) k
theorem bX7_ofWhom_72 {G : Gt} {d bc bs : Nat} {Q : QT} {l : Ls} {z : List Value} {h : Hp} (k : (tB (fun x y => x &&& y) (tCV1 G d 0 0 6 mX7_push (fun l z h => T G d bc bs mX7_ofWhom 76 l z h Q))) l z h) : T G d bc bs mX7_ofWhom 72 l z h Q := by
  refine R_iand dX7_ofWhom_72 (fun l z h k => ?_) k
  exact R_cv1 (M := mX7_ofWhom) (pc := 73) (bc := bc) (bs := bs) (cb := 0) (cs := 0) (M' := mX7_push) dX7_ofWhom_73 rfl (by decide) w_1363 w_140 w_1360 w_1362 w_39 (by decide +kernel) (fun _ _ _ k => k) k
theorem bX7_ofWhom_76 {G : Gt} {d bc bs : Nat} {Q : QT} {l : Ls} {z : List Value} {h : Hp} (k : (fun l z h => T G d bc bs mX7_ofWhom 117 l z h Q) l z h) : T G d bc bs mX7_ofWhom 76 l z h Q := by
  exact R_goto dX7_ofWhom_76 (by decide) (fun _ _ _ k => k) k
theorem bX7_ofWhom_79 {G : Gt} {d bc bs : Nat} {Q : QT} {l : Ls} {z : List Value} {h : Hp} (k : (tAld 0 (tGetf 6 2 (tIld 3 (tRald (tPush (.ref (adW G 15)) (tAcm (fun l z h => T G d bc bs mX7_ofWhom 91 l z h Q) (fun l z h => T G d bc bs mX7_ofWhom 107 l z h Q))))))) l z h) : T G d bc bs mX7_ofWhom 79 l z h Q := by
  refine R_aload_n dX7_ofWhom_79 rfl (fun l z h k => ?_) k
  refine R_getf (ci := 6) (f := 2) (C := RX7) (N := 7) (Tt := TX7) dX7_ofWhom_80 rfl i_X7 (by decide) w_396 (fun l z h k => ?_) k
  refine R_iload_n dX7_ofWhom_83 rfl (fun l z h k => ?_) k
  refine R_aaload dX7_ofWhom_84 (fun l z h k => ?_) k
  refine R_word (k := 15) dX7_ofWhom_85 (by decide) rfl w_1337 (fun l z h k => ?_) k
  exact R_acmp_ne dX7_ofWhom_88 (by decide) (fun _ _ _ k => k) (fun _ _ _ k => k) k
theorem bX7_ofWhom_91 {G : Gt} {d bc bs : Nat} {Q : QT} {l : Ls} {z : List Value} {h : Hp} (k : (tAld 0 (tAld 0 (tCV0 G d 0 0 6 mX7_pop (fun l z h => T G d bc bs mX7_ofWhom 96 l z h Q)))) l z h) : T G d bc bs mX7_ofWhom 91 l z h Q := by
  refine R_aload_n dX7_ofWhom_91 rfl (fun l z h k => ?_) k
  refine R_aload_n dX7_ofWhom_92 rfl (fun l z h k => ?_) k
  exact R_cv0 (M := mX7_ofWhom) (pc := 93) (bc := bc) (bs := bs) (cb := 0) (cs := 0) (M' := mX7_pop) dX7_ofWhom_93 rfl (by decide) w_1359 w_140 w_1356 w_1358 w_38 (by decide +kernel) (fun _ _ _ k => k) k
theorem bX7_ofWhom_96 {G : Gt} {d bc bs : Nat} {Q : QT} {l : Ls} {z : List Value} {h : Hp} (k : (tAld 0 (tCV0 G d 0 0 6 mX7_pop (fun l z h => T G d bc bs mX7_ofWhom 100 l z h Q))) l z h) : T G d bc bs mX7_ofWhom 96 l z h Q := by
  refine R_aload_n dX7_ofWhom_96 rfl (fun l z h k => ?_) k
  exact R_cv0 (M := mX7_ofWhom) (pc := 97) (bc := bc) (bs := bs) (cb := 0) (cs := 0) (M' := mX7_pop) dX7_ofWhom_97 rfl (by decide) w_1359 w_140 w_1356 w_1358 w_38 (by decide +kernel) (fun _ _ _ k => k) k
theorem bX7_ofWhom_100 {G : Gt} {d bc bs : Nat} {Q : QT} {l : Ls} {z : List Value} {h : Hp} (k : (tB (fun x y => x ||| y) (tCV1 G d 0 0 6 mX7_push (fun l z h => T G d bc bs mX7_ofWhom 104 l z h Q))) l z h) : T G d bc bs mX7_ofWhom 100 l z h Q := by
  refine R_ior dX7_ofWhom_100 (fun l z h k => ?_) k
  exact R_cv1 (M := mX7_ofWhom) (pc := 101) (bc := bc) (bs := bs) (cb := 0) (cs := 0) (M' := mX7_push) dX7_ofWhom_101 rfl (by decide) w_1363 w_140 w_1360 w_1362 w_39 (by decide +kernel) (fun _ _ _ k => k) k
theorem bX7_ofWhom_104 {G : Gt} {d bc bs : Nat} {Q : QT} {l : Ls} {z : List Value} {h : Hp} (k : (fun l z h => T G d bc bs mX7_ofWhom 117 l z h Q) l z h) : T G d bc bs mX7_ofWhom 104 l z h Q := by
  exact R_goto dX7_ofWhom_104 (by decide) (fun _ _ _ k => k) k
theorem bX7_ofWhom_107 {G : Gt} {d bc bs : Nat} {Q : QT} {l : Ls} {z : List Value} {h : Hp} (k : (tAld 0 (tAld 0 (tAld 1 (tIld 3 (tCV2 G d 0 0 6 mX7_plainBits (fun l z h => T G d bc bs mX7_ofWhom 114 l z h Q)))))) l z h) : T G d bc bs mX7_ofWhom 107 l z h Q := by
  refine R_aload_n dX7_ofWhom_107 rfl (fun l z h k => ?_) k
  refine R_aload_n dX7_ofWhom_108 rfl (fun l z h k => ?_) k
  refine R_aload_n dX7_ofWhom_109 rfl (fun l z h k => ?_) k
  refine R_iload_n dX7_ofWhom_110 rfl (fun l z h k => ?_) k
  exact R_cv2 (M := mX7_ofWhom) (pc := 111) (bc := bc) (bs := bs) (cb := 0) (cs := 0) (M' := mX7_plainBits) dX7_ofWhom_111 rfl (by decide) w_1367 w_140 w_1364 w_1366 w_40 (by decide +kernel) (fun _ _ _ k => k) k
theorem bX7_ofWhom_114 {G : Gt} {d bc bs : Nat} {Q : QT} {l : Ls} {z : List Value} {h : Hp} (k : (tCV1 G d 0 0 6 mX7_push (fun l z h => T G d bc bs mX7_ofWhom 117 l z h Q)) l z h) : T G d bc bs mX7_ofWhom 114 l z h Q := by
  exact R_cv1 (M := mX7_ofWhom) (pc := 114) (bc := bc) (bs := bs) (cb := 0) (cs := 0) (M' := mX7_push) dX7_ofWhom_114 rfl (by decide) w_1363 w_140 w_1360 w_1362 w_39 (by decide +kernel) (fun _ _ _ k => k) k
theorem bX7_ofWhom_117 {G : Gt} {d bc bs : Nat} {Q : QT} {l : Ls} {z : List Value} {h : Hp} (k : (tInc 3 1 ((fun l z h => T G d bc bs mX7_ofWhom 16 l z h Q))) l z h) : T G d bc bs mX7_ofWhom 117 l z h Q := by
  refine R_iinc dX7_ofWhom_117 (by decide) (by decide) (fun l z h k => ?_) k
  exact R_goto dX7_ofWhom_120 (by decide) (fun _ _ _ k => k) k
theorem bX7_ofWhom_123 {G : Gt} {d bc bs : Nat} {Q : QT} {l : Ls} {z : List Value} {h : Hp} (k : (tAld 0 (tCV0 G d 0 0 6 mX7_pop (fun l z h => T G d bc bs mX7_ofWhom 127 l z h Q))) l z h) : T G d bc bs mX7_ofWhom 123 l z h Q := by
  refine R_aload_n dX7_ofWhom_123 rfl (fun l z h k => ?_) k
  exact R_cv0 (M := mX7_ofWhom) (pc := 124) (bc := bc) (bs := bs) (cb := 0) (cs := 0) (M' := mX7_pop) dX7_ofWhom_124 rfl (by decide) w_1359 w_140 w_1356 w_1358 w_38 (by decide +kernel) (fun _ _ _ k => k) k
theorem bX7_ofWhom_127 {G : Gt} {d bc bs : Nat} {Q : QT} {l : Ls} {z : List Value} {h : Hp} (k : (tRetI Q) l z h) : T G d bc bs mX7_ofWhom 127 l z h Q := by
  exact R_iret dX7_ofWhom_127 rfl k
theorem dX7_push_0 : decode cX7_push 0 = .ok (.aload_n 0, 1) := by decide +kernel
theorem dX7_push_1 : decode cX7_push 1 = .ok (.getfield 134, 3) := by decide +kernel
theorem dX7_push_4 : decode cX7_push 4 = .ok (.bipush 40, 2) := by decide +kernel
theorem dX7_push_6 : decode cX7_push 6 = .ok (.if_icmp .ge 23, 3) := by decide +kernel
theorem dX7_push_9 : decode cX7_push 9 = .ok (.aload_n 0, 1) := by decide +kernel
theorem dX7_push_10 : decode cX7_push 10 = .ok (.getfield 24, 3) := by decide +kernel
theorem dX7_push_13 : decode cX7_push 13 = .ok (.aload_n 0, 1) := by decide +kernel
theorem dX7_push_14 : decode cX7_push 14 = .ok (.getfield 134, 3) := by decide +kernel
theorem dX7_push_17 : decode cX7_push 17 = .ok (.iload_n 1, 1) := by decide +kernel
theorem dX7_push_18 : decode cX7_push 18 = .ok (.iastore, 1) := by decide +kernel
theorem dX7_push_19 : decode cX7_push 19 = .ok (.aload_n 0, 1) := by decide +kernel
theorem dX7_push_20 : decode cX7_push 20 = .ok (.dup, 1) := by decide +kernel
theorem dX7_push_21 : decode cX7_push 21 = .ok (.getfield 134, 3) := by decide +kernel
theorem dX7_push_24 : decode cX7_push 24 = .ok (.iconst 1, 1) := by decide +kernel
theorem dX7_push_25 : decode cX7_push 25 = .ok (.iadd, 1) := by decide +kernel
theorem dX7_push_26 : decode cX7_push 26 = .ok (.putfield 134, 3) := by decide +kernel
theorem dX7_push_29 : decode cX7_push 29 = .ok (.return_, 1) := by decide +kernel
theorem bX7_push_0 {G : Gt} {d bc bs : Nat} {Q : QT} {l : Ls} {z : List Value} {h : Hp} (k : (tAld 0 (tGetf 6 6 (tPush (.int 40) (tIf2 (fun x y => y ≤ x) (fun l z h => T G d bc bs mX7_push 29 l z h Q) (fun l z h => T G d bc bs mX7_push 9 l z h Q))))) l z h) : T G d bc bs mX7_push 0 l z h Q := by
  refine R_aload_n dX7_push_0 rfl (fun l z h k => ?_) k
  refine R_getf (ci := 6) (f := 6) (C := RX7) (N := 7) (Tt := TX7) dX7_push_1 rfl i_X7 (by decide) w_400 (fun l z h k => ?_) k
  refine R_bipush dX7_push_4 (by decide) (fun l z h k => ?_) k
  exact R_icmp_ge dX7_push_6 (by decide) (fun _ _ _ k => k) (fun _ _ _ k => k) k
theorem bX7_push_9 {G : Gt} {d bc bs : Nat} {Q : QT} {l : Ls} {z : List Value} {h : Hp} (k : (tAld 0 (tGetf 6 5 (tAld 0 (tGetf 6 6 (tIld 1 (tXast 0 (tAld 0 (tDup (tGetf 6 6 (tPush (.int 1) (tB (fun x y => x + y) (tPutf isI 6 6 ((fun l z h => T G d bc bs mX7_push 29 l z h Q)))))))))))))) l z h) : T G d bc bs mX7_push 9 l z h Q := by
  refine R_aload_n dX7_push_9 rfl (fun l z h k => ?_) k
  refine R_getf (ci := 6) (f := 5) (C := RX7) (N := 7) (Tt := TX7) dX7_push_10 rfl i_X7 (by decide) w_399 (fun l z h k => ?_) k
  refine R_aload_n dX7_push_13 rfl (fun l z h k => ?_) k
  refine R_getf (ci := 6) (f := 6) (C := RX7) (N := 7) (Tt := TX7) dX7_push_14 rfl i_X7 (by decide) w_400 (fun l z h k => ?_) k
  refine R_iload_n dX7_push_17 rfl (fun l z h k => ?_) k
  refine R_iastore dX7_push_18 (fun l z h k => ?_) k
  refine R_aload_n dX7_push_19 rfl (fun l z h k => ?_) k
  refine R_dup dX7_push_20 (fun l z h k => ?_) k
  refine R_getf (ci := 6) (f := 6) (C := RX7) (N := 7) (Tt := TX7) dX7_push_21 rfl i_X7 (by decide) w_400 (fun l z h k => ?_) k
  refine R_iconst dX7_push_24 (by decide) (fun l z h k => ?_) k
  refine R_iadd dX7_push_25 (fun l z h k => ?_) k
  refine R_putf (ci := 6) (f := 6) (C := RX7) (N := 7) (Tt := TX7) tyX7 tyX7_ok nmX7 dX7_push_26 rfl i_X7 (by decide) w_400 rfl (tyX7_ok 6 (by decide)) p_int (fun l z h k => ?_) k
  exact k
theorem bX7_push_29 {G : Gt} {d bc bs : Nat} {Q : QT} {l : Ls} {z : List Value} {h : Hp} (k : (tRetV Q) l z h) : T G d bc bs mX7_push 29 l z h Q := by
  exact R_vret dX7_push_29 rfl k
theorem dX7_pop_0 : decode cX7_pop 0 = .ok (.aload_n 0, 1) := by decide +kernel
theorem dX7_pop_1 : decode cX7_pop 1 = .ok (.getfield 134, 3) := by decide +kernel
theorem dX7_pop_4 : decode cX7_pop 4 = .ok (.ifCond .ne 5, 3) := by decide +kernel
theorem dX7_pop_7 : decode cX7_pop 7 = .ok (.iconst 0, 1) := by decide +kernel
theorem dX7_pop_8 : decode cX7_pop 8 = .ok (.ireturn, 1) := by decide +kernel
theorem dX7_pop_9 : decode cX7_pop 9 = .ok (.aload_n 0, 1) := by decide +kernel
theorem dX7_pop_10 : decode cX7_pop 10 = .ok (.dup, 1) := by decide +kernel
theorem dX7_pop_11 : decode cX7_pop 11 = .ok (.getfield 134, 3) := by decide +kernel
theorem dX7_pop_14 : decode cX7_pop 14 = .ok (.iconst 1, 1) := by decide +kernel
theorem dX7_pop_15 : decode cX7_pop 15 = .ok (.isub, 1) := by decide +kernel
theorem dX7_pop_16 : decode cX7_pop 16 = .ok (.putfield 134, 3) := by decide +kernel
theorem dX7_pop_19 : decode cX7_pop 19 = .ok (.aload_n 0, 1) := by decide +kernel
theorem dX7_pop_20 : decode cX7_pop 20 = .ok (.getfield 24, 3) := by decide +kernel
theorem dX7_pop_23 : decode cX7_pop 23 = .ok (.aload_n 0, 1) := by decide +kernel
theorem dX7_pop_24 : decode cX7_pop 24 = .ok (.getfield 134, 3) := by decide +kernel
theorem dX7_pop_27 : decode cX7_pop 27 = .ok (.iaload, 1) := by decide +kernel
theorem dX7_pop_28 : decode cX7_pop 28 = .ok (.ireturn, 1) := by decide +kernel
theorem bX7_pop_0 {G : Gt} {d bc bs : Nat} {Q : QT} {l : Ls} {z : List Value} {h : Hp} (k : (tAld 0 (tGetf 6 6 (tIf (fun x => x = 0) (fun l z h => T G d bc bs mX7_pop 7 l z h Q) (fun l z h => T G d bc bs mX7_pop 9 l z h Q)))) l z h) : T G d bc bs mX7_pop 0 l z h Q := by
  refine R_aload_n dX7_pop_0 rfl (fun l z h k => ?_) k
  refine R_getf (ci := 6) (f := 6) (C := RX7) (N := 7) (Tt := TX7) dX7_pop_1 rfl i_X7 (by decide) w_400 (fun l z h k => ?_) k
  exact R_if_ne dX7_pop_4 (by decide) (fun _ _ _ k => k) (fun _ _ _ k => k) k
theorem bX7_pop_7 {G : Gt} {d bc bs : Nat} {Q : QT} {l : Ls} {z : List Value} {h : Hp} (k : (tPush (.int 0) (tRetI Q)) l z h) : T G d bc bs mX7_pop 7 l z h Q := by
  refine R_iconst dX7_pop_7 (by decide) (fun l z h k => ?_) k
  exact R_iret dX7_pop_8 rfl k
theorem bX7_pop_9 {G : Gt} {d bc bs : Nat} {Q : QT} {l : Ls} {z : List Value} {h : Hp} (k : (tAld 0 (tDup (tGetf 6 6 (tPush (.int 1) (tB (fun x y => x - y) (tPutf isI 6 6 (tAld 0 (tGetf 6 5 (tAld 0 (tGetf 6 6 (tXald 0 (tRetI Q)))))))))))) l z h) : T G d bc bs mX7_pop 9 l z h Q := by
  refine R_aload_n dX7_pop_9 rfl (fun l z h k => ?_) k
  refine R_dup dX7_pop_10 (fun l z h k => ?_) k
  refine R_getf (ci := 6) (f := 6) (C := RX7) (N := 7) (Tt := TX7) dX7_pop_11 rfl i_X7 (by decide) w_400 (fun l z h k => ?_) k
  refine R_iconst dX7_pop_14 (by decide) (fun l z h k => ?_) k
  refine R_isub dX7_pop_15 (fun l z h k => ?_) k
  refine R_putf (ci := 6) (f := 6) (C := RX7) (N := 7) (Tt := TX7) tyX7 tyX7_ok nmX7 dX7_pop_16 rfl i_X7 (by decide) w_400 rfl (tyX7_ok 6 (by decide)) p_int (fun l z h k => ?_) k
  refine R_aload_n dX7_pop_19 rfl (fun l z h k => ?_) k
  refine R_getf (ci := 6) (f := 5) (C := RX7) (N := 7) (Tt := TX7) dX7_pop_20 rfl i_X7 (by decide) w_399 (fun l z h k => ?_) k
  refine R_aload_n dX7_pop_23 rfl (fun l z h k => ?_) k
  refine R_getf (ci := 6) (f := 6) (C := RX7) (N := 7) (Tt := TX7) dX7_pop_24 rfl i_X7 (by decide) w_400 (fun l z h k => ?_) k
  refine R_iaload dX7_pop_27 (fun l z h k => ?_) k
  exact R_iret dX7_pop_28 rfl k
theorem dX7_plainBits_0 : decode cX7_plainBits 0 = .ok (.iconst 0, 1) := by decide +kernel
theorem dX7_plainBits_1 : decode cX7_plainBits 1 = .ok (.istore_n 3, 1) := by decide +kernel
theorem dX7_plainBits_2 : decode cX7_plainBits 2 = .ok (.iconst 0, 1) := by decide +kernel
theorem dX7_plainBits_3 : decode cX7_plainBits 3 = .ok (.istore 4, 2) := by decide +kernel
theorem dX7_plainBits_5 : decode cX7_plainBits 5 = .ok (.iload 4, 2) := by decide +kernel
theorem dX7_plainBits_7 : decode cX7_plainBits 7 = .ok (.aload_n 1, 1) := by decide +kernel
theorem dX7_plainBits_8 : decode cX7_plainBits 8 = .ok (.getfield 129, 3) := by decide +kernel
theorem dX7_plainBits_11 : decode cX7_plainBits 11 = .ok (.if_icmp .ge 27, 3) := by decide +kernel
theorem dX7_plainBits_14 : decode cX7_plainBits 14 = .ok (.aload_n 0, 1) := by decide +kernel
theorem dX7_plainBits_15 : decode cX7_plainBits 15 = .ok (.aload_n 1, 1) := by decide +kernel
theorem dX7_plainBits_16 : decode cX7_plainBits 16 = .ok (.iload 4, 2) := by decide +kernel
theorem dX7_plainBits_18 : decode cX7_plainBits 18 = .ok (.iload_n 2, 1) := by decide +kernel
theorem dX7_plainBits_19 : decode cX7_plainBits 19 = .ok (.invokevirtual 147, 3) := by decide +kernel
theorem dX7_plainBits_22 : decode cX7_plainBits 22 = .ok (.ifCond .eq 10, 3) := by decide +kernel
theorem dX7_plainBits_25 : decode cX7_plainBits 25 = .ok (.iload_n 3, 1) := by decide +kernel
theorem dX7_plainBits_26 : decode cX7_plainBits 26 = .ok (.iconst 1, 1) := by decide +kernel
theorem dX7_plainBits_27 : decode cX7_plainBits 27 = .ok (.iload 4, 2) := by decide +kernel
theorem dX7_plainBits_29 : decode cX7_plainBits 29 = .ok (.ishl, 1) := by decide +kernel
theorem dX7_plainBits_30 : decode cX7_plainBits 30 = .ok (.ior, 1) := by decide +kernel
theorem dX7_plainBits_31 : decode cX7_plainBits 31 = .ok (.istore_n 3, 1) := by decide +kernel
theorem dX7_plainBits_32 : decode cX7_plainBits 32 = .ok (.iinc 4 1, 3) := by decide +kernel
theorem dX7_plainBits_35 : decode cX7_plainBits 35 = .ok (.goto (-30), 3) := by decide +kernel
theorem dX7_plainBits_38 : decode cX7_plainBits 38 = .ok (.iload_n 3, 1) := by decide +kernel
theorem dX7_plainBits_39 : decode cX7_plainBits 39 = .ok (.ireturn, 1) := by decide +kernel
theorem bX7_plainBits_0 {G : Gt} {d bc bs : Nat} {Q : QT} {l : Ls} {z : List Value} {h : Hp} (k : (tPush (.int 0) (tIst 3 (tPush (.int 0) (tIst 4 ((fun l z h => T G d bc bs mX7_plainBits 5 l z h Q)))))) l z h) : T G d bc bs mX7_plainBits 0 l z h Q := by
  refine R_iconst dX7_plainBits_0 (by decide) (fun l z h k => ?_) k
  refine R_istore_n dX7_plainBits_1 rfl (by decide) (fun l z h k => ?_) k
  refine R_iconst dX7_plainBits_2 (by decide) (fun l z h k => ?_) k
  refine R_istore dX7_plainBits_3 (by decide) (fun l z h k => ?_) k
  exact k
theorem bX7_plainBits_5 {G : Gt} {d bc bs : Nat} {Q : QT} {l : Ls} {z : List Value} {h : Hp} (k : (tIld 4 (tAld 1 (tGetf 9 1 (tIf2 (fun x y => y ≤ x) (fun l z h => T G d bc bs mX7_plainBits 38 l z h Q) (fun l z h => T G d bc bs mX7_plainBits 14 l z h Q))))) l z h) : T G d bc bs mX7_plainBits 5 l z h Q := by
  refine R_iload dX7_plainBits_5 (fun l z h k => ?_) k
  refine R_aload_n dX7_plainBits_7 rfl (fun l z h k => ?_) k
  refine R_getf (ci := 9) (f := 1) (C := RX11) (N := 14) (Tt := TX11) dX7_plainBits_8 rfl i_X11 (by decide) w_257 (fun l z h k => ?_) k
  exact R_icmp_ge dX7_plainBits_11 (by decide) (fun _ _ _ k => k) (fun _ _ _ k => k) k
theorem bX7_plainBits_14 {G : Gt} {d bc bs : Nat} {Q : QT} {l : Ls} {z : List Value} {h : Hp} (k : (tAld 0 (tAld 1 (tIld 4 (tIld 2 (tCV3 G d 0 0 6 mX7_holdsOf (fun l z h => T G d bc bs mX7_plainBits 22 l z h Q)))))) l z h) : T G d bc bs mX7_plainBits 14 l z h Q := by
  refine R_aload_n dX7_plainBits_14 rfl (fun l z h k => ?_) k
  refine R_aload_n dX7_plainBits_15 rfl (fun l z h k => ?_) k
  refine R_iload dX7_plainBits_16 (fun l z h k => ?_) k
  refine R_iload_n dX7_plainBits_18 rfl (fun l z h k => ?_) k
  exact R_cv3 (M := mX7_plainBits) (pc := 19) (bc := bc) (bs := bs) (cb := 0) (cs := 0) (M' := mX7_holdsOf) dX7_plainBits_19 rfl (by decide) w_1371 w_140 w_1368 w_1370 w_41 (by decide +kernel) (fun _ _ _ k => k) k
theorem bX7_plainBits_22 {G : Gt} {d bc bs : Nat} {Q : QT} {l : Ls} {z : List Value} {h : Hp} (k : (tIf (fun x => x = 0) (fun l z h => T G d bc bs mX7_plainBits 32 l z h Q) (fun l z h => T G d bc bs mX7_plainBits 25 l z h Q)) l z h) : T G d bc bs mX7_plainBits 22 l z h Q := by
  exact R_if_eq dX7_plainBits_22 (by decide) (fun _ _ _ k => k) (fun _ _ _ k => k) k
theorem bX7_plainBits_25 {G : Gt} {d bc bs : Nat} {Q : QT} {l : Ls} {z : List Value} {h : Hp} (k : (tIld 3 (tPush (.int 1) (tIld 4 (tB (fun x y => x <<< (y &&& 31)) (tB (fun x y => x ||| y) (tIst 3 ((fun l z h => T G d bc bs mX7_plainBits 32 l z h Q)))))))) l z h) : T G d bc bs mX7_plainBits 25 l z h Q := by
  refine R_iload_n dX7_plainBits_25 rfl (fun l z h k => ?_) k
  refine R_iconst dX7_plainBits_26 (by decide) (fun l z h k => ?_) k
  refine R_iload dX7_plainBits_27 (fun l z h k => ?_) k
  refine R_ishl dX7_plainBits_29 (fun l z h k => ?_) k
  refine R_ior dX7_plainBits_30 (fun l z h k => ?_) k
  refine R_istore_n dX7_plainBits_31 rfl (by decide) (fun l z h k => ?_) k
  exact k
theorem bX7_plainBits_32 {G : Gt} {d bc bs : Nat} {Q : QT} {l : Ls} {z : List Value} {h : Hp} (k : (tInc 4 1 ((fun l z h => T G d bc bs mX7_plainBits 5 l z h Q))) l z h) : T G d bc bs mX7_plainBits 32 l z h Q := by
  refine R_iinc dX7_plainBits_32 (by decide) (by decide) (fun l z h k => ?_) k
  exact R_goto dX7_plainBits_35 (by decide) (fun _ _ _ k => k) k
theorem bX7_plainBits_38 {G : Gt} {d bc bs : Nat} {Q : QT} {l : Ls} {z : List Value} {h : Hp} (k : (tIld 3 (tRetI Q)) l z h) : T G d bc bs mX7_plainBits 38 l z h Q := by
  refine R_iload_n dX7_plainBits_38 rfl (fun l z h k => ?_) k
  exact R_iret dX7_plainBits_39 rfl k
theorem dX7_holdsOf_0 : decode cX7_holdsOf 0 = .ok (.getstatic 110, 3) := by decide +kernel
theorem dX7_holdsOf_3 : decode cX7_holdsOf 3 = .ok (.aload_n 0, 1) := by decide +kernel
theorem dX7_holdsOf_4 : decode cX7_holdsOf 4 = .ok (.getfield 13, 3) := by decide +kernel
theorem dX7_holdsOf_7 : decode cX7_holdsOf 7 = .ok (.iload_n 3, 1) := by decide +kernel
theorem dX7_holdsOf_8 : decode cX7_holdsOf 8 = .ok (.aaload, 1) := by decide +kernel
theorem dX7_holdsOf_9 : decode cX7_holdsOf 9 = .ok (.invokevirtual 115, 3) := by decide +kernel
theorem dX7_holdsOf_12 : decode cX7_holdsOf 12 = .ok (.iaload, 1) := by decide +kernel
theorem dX7_holdsOf_13 : decode cX7_holdsOf 13 = .ok (.tableswitch 190 6 16 #[106, 134, 155, 166, 178, 190, 190, 59, 74, 90, 118], 59) := by decide +kernel
theorem dX7_holdsOf_72 : decode cX7_holdsOf 72 = .ok (.aload_n 1, 1) := by decide +kernel
theorem dX7_holdsOf_73 : decode cX7_holdsOf 73 = .ok (.getfield 151, 3) := by decide +kernel
theorem dX7_holdsOf_76 : decode cX7_holdsOf 76 = .ok (.iload_n 2, 1) := by decide +kernel
theorem dX7_holdsOf_77 : decode cX7_holdsOf 77 = .ok (.iaload, 1) := by decide +kernel
theorem dX7_holdsOf_78 : decode cX7_holdsOf 78 = .ok (.ifCond .ne 7, 3) := by decide +kernel
theorem dX7_holdsOf_81 : decode cX7_holdsOf 81 = .ok (.iconst 1, 1) := by decide +kernel
theorem dX7_holdsOf_82 : decode cX7_holdsOf 82 = .ok (.goto 4, 3) := by decide +kernel
theorem dX7_holdsOf_85 : decode cX7_holdsOf 85 = .ok (.iconst 0, 1) := by decide +kernel
theorem dX7_holdsOf_86 : decode cX7_holdsOf 86 = .ok (.ireturn, 1) := by decide +kernel
theorem dX7_holdsOf_87 : decode cX7_holdsOf 87 = .ok (.aload_n 1, 1) := by decide +kernel
theorem dX7_holdsOf_88 : decode cX7_holdsOf 88 = .ok (.getfield 151, 3) := by decide +kernel
theorem dX7_holdsOf_91 : decode cX7_holdsOf 91 = .ok (.iload_n 2, 1) := by decide +kernel
theorem dX7_holdsOf_92 : decode cX7_holdsOf 92 = .ok (.iaload, 1) := by decide +kernel
theorem dX7_holdsOf_93 : decode cX7_holdsOf 93 = .ok (.iconst 1, 1) := by decide +kernel
theorem dX7_holdsOf_94 : decode cX7_holdsOf 94 = .ok (.if_icmp .ne 7, 3) := by decide +kernel
theorem dX7_holdsOf_97 : decode cX7_holdsOf 97 = .ok (.iconst 1, 1) := by decide +kernel
theorem dX7_holdsOf_98 : decode cX7_holdsOf 98 = .ok (.goto 4, 3) := by decide +kernel
theorem dX7_holdsOf_101 : decode cX7_holdsOf 101 = .ok (.iconst 0, 1) := by decide +kernel
theorem dX7_holdsOf_102 : decode cX7_holdsOf 102 = .ok (.ireturn, 1) := by decide +kernel
theorem dX7_holdsOf_103 : decode cX7_holdsOf 103 = .ok (.aload_n 1, 1) := by decide +kernel
theorem dX7_holdsOf_104 : decode cX7_holdsOf 104 = .ok (.getfield 151, 3) := by decide +kernel
theorem dX7_holdsOf_107 : decode cX7_holdsOf 107 = .ok (.iload_n 2, 1) := by decide +kernel
theorem dX7_holdsOf_108 : decode cX7_holdsOf 108 = .ok (.iaload, 1) := by decide +kernel
theorem dX7_holdsOf_109 : decode cX7_holdsOf 109 = .ok (.iconst 2, 1) := by decide +kernel
theorem dX7_holdsOf_110 : decode cX7_holdsOf 110 = .ok (.if_icmp .ne 7, 3) := by decide +kernel
theorem dX7_holdsOf_113 : decode cX7_holdsOf 113 = .ok (.iconst 1, 1) := by decide +kernel
theorem dX7_holdsOf_114 : decode cX7_holdsOf 114 = .ok (.goto 4, 3) := by decide +kernel
theorem dX7_holdsOf_117 : decode cX7_holdsOf 117 = .ok (.iconst 0, 1) := by decide +kernel
theorem dX7_holdsOf_118 : decode cX7_holdsOf 118 = .ok (.ireturn, 1) := by decide +kernel
theorem dX7_holdsOf_119 : decode cX7_holdsOf 119 = .ok (.aload_n 1, 1) := by decide +kernel
theorem dX7_holdsOf_120 : decode cX7_holdsOf 120 = .ok (.iload_n 2, 1) := by decide +kernel
theorem dX7_holdsOf_121 : decode cX7_holdsOf 121 = .ok (.aload_n 0, 1) := by decide +kernel
theorem dX7_holdsOf_122 : decode cX7_holdsOf 122 = .ok (.getfield 21, 3) := by decide +kernel
theorem dX7_holdsOf_125 : decode cX7_holdsOf 125 = .ok (.iload_n 3, 1) := by decide +kernel
theorem dX7_holdsOf_126 : decode cX7_holdsOf 126 = .ok (.iaload, 1) := by decide +kernel
theorem dX7_holdsOf_127 : decode cX7_holdsOf 127 = .ok (.invokevirtual 154, 3) := by decide +kernel
theorem dX7_holdsOf_130 : decode cX7_holdsOf 130 = .ok (.ireturn, 1) := by decide +kernel
theorem dX7_holdsOf_131 : decode cX7_holdsOf 131 = .ok (.aload_n 1, 1) := by decide +kernel
theorem dX7_holdsOf_132 : decode cX7_holdsOf 132 = .ok (.getfield 158, 3) := by decide +kernel
theorem dX7_holdsOf_135 : decode cX7_holdsOf 135 = .ok (.iload_n 2, 1) := by decide +kernel
theorem dX7_holdsOf_136 : decode cX7_holdsOf 136 = .ok (.iaload, 1) := by decide +kernel
theorem dX7_holdsOf_137 : decode cX7_holdsOf 137 = .ok (.iconst (-1), 1) := by decide +kernel
theorem dX7_holdsOf_138 : decode cX7_holdsOf 138 = .ok (.if_icmp .eq 7, 3) := by decide +kernel
theorem dX7_holdsOf_141 : decode cX7_holdsOf 141 = .ok (.iconst 1, 1) := by decide +kernel
theorem dX7_holdsOf_142 : decode cX7_holdsOf 142 = .ok (.goto 4, 3) := by decide +kernel
theorem dX7_holdsOf_145 : decode cX7_holdsOf 145 = .ok (.iconst 0, 1) := by decide +kernel
theorem dX7_holdsOf_146 : decode cX7_holdsOf 146 = .ok (.ireturn, 1) := by decide +kernel
theorem dX7_holdsOf_147 : decode cX7_holdsOf 147 = .ok (.aload_n 1, 1) := by decide +kernel
theorem dX7_holdsOf_148 : decode cX7_holdsOf 148 = .ok (.getfield 161, 3) := by decide +kernel
theorem dX7_holdsOf_151 : decode cX7_holdsOf 151 = .ok (.iload_n 2, 1) := by decide +kernel
theorem dX7_holdsOf_152 : decode cX7_holdsOf 152 = .ok (.iaload, 1) := by decide +kernel
theorem dX7_holdsOf_153 : decode cX7_holdsOf 153 = .ok (.aload_n 0, 1) := by decide +kernel
theorem dX7_holdsOf_154 : decode cX7_holdsOf 154 = .ok (.getfield 21, 3) := by decide +kernel
theorem dX7_holdsOf_157 : decode cX7_holdsOf 157 = .ok (.iload_n 3, 1) := by decide +kernel
theorem dX7_holdsOf_158 : decode cX7_holdsOf 158 = .ok (.iaload, 1) := by decide +kernel
theorem dX7_holdsOf_159 : decode cX7_holdsOf 159 = .ok (.if_icmp .ne 7, 3) := by decide +kernel
theorem dX7_holdsOf_162 : decode cX7_holdsOf 162 = .ok (.iconst 1, 1) := by decide +kernel
theorem dX7_holdsOf_163 : decode cX7_holdsOf 163 = .ok (.goto 4, 3) := by decide +kernel
theorem dX7_holdsOf_166 : decode cX7_holdsOf 166 = .ok (.iconst 0, 1) := by decide +kernel
theorem dX7_holdsOf_167 : decode cX7_holdsOf 167 = .ok (.ireturn, 1) := by decide +kernel
theorem dX7_holdsOf_168 : decode cX7_holdsOf 168 = .ok (.aload_n 0, 1) := by decide +kernel
theorem dX7_holdsOf_169 : decode cX7_holdsOf 169 = .ok (.aload_n 1, 1) := by decide +kernel
theorem dX7_holdsOf_170 : decode cX7_holdsOf 170 = .ok (.iload_n 2, 1) := by decide +kernel
theorem dX7_holdsOf_171 : decode cX7_holdsOf 171 = .ok (.invokevirtual 164, 3) := by decide +kernel
theorem dX7_holdsOf_174 : decode cX7_holdsOf 174 = .ok (.iload_n 3, 1) := by decide +kernel
theorem dX7_holdsOf_175 : decode cX7_holdsOf 175 = .ok (.invokevirtual 168, 3) := by decide +kernel
theorem dX7_holdsOf_178 : decode cX7_holdsOf 178 = .ok (.ireturn, 1) := by decide +kernel
theorem dX7_holdsOf_179 : decode cX7_holdsOf 179 = .ok (.aload_n 0, 1) := by decide +kernel
theorem dX7_holdsOf_180 : decode cX7_holdsOf 180 = .ok (.aload_n 1, 1) := by decide +kernel
theorem dX7_holdsOf_181 : decode cX7_holdsOf 181 = .ok (.getfield 171, 3) := by decide +kernel
theorem dX7_holdsOf_184 : decode cX7_holdsOf 184 = .ok (.iload_n 2, 1) := by decide +kernel
theorem dX7_holdsOf_185 : decode cX7_holdsOf 185 = .ok (.iaload, 1) := by decide +kernel
theorem dX7_holdsOf_186 : decode cX7_holdsOf 186 = .ok (.iload_n 3, 1) := by decide +kernel
theorem dX7_holdsOf_187 : decode cX7_holdsOf 187 = .ok (.invokevirtual 168, 3) := by decide +kernel
theorem dX7_holdsOf_190 : decode cX7_holdsOf 190 = .ok (.ireturn, 1) := by decide +kernel
theorem dX7_holdsOf_191 : decode cX7_holdsOf 191 = .ok (.aload_n 0, 1) := by decide +kernel
theorem dX7_holdsOf_192 : decode cX7_holdsOf 192 = .ok (.aload_n 1, 1) := by decide +kernel
theorem dX7_holdsOf_193 : decode cX7_holdsOf 193 = .ok (.getfield 174, 3) := by decide +kernel
theorem dX7_holdsOf_196 : decode cX7_holdsOf 196 = .ok (.iload_n 2, 1) := by decide +kernel
theorem dX7_holdsOf_197 : decode cX7_holdsOf 197 = .ok (.iaload, 1) := by decide +kernel
theorem dX7_holdsOf_198 : decode cX7_holdsOf 198 = .ok (.iload_n 3, 1) := by decide +kernel
theorem dX7_holdsOf_199 : decode cX7_holdsOf 199 = .ok (.invokevirtual 168, 3) := by decide +kernel
theorem dX7_holdsOf_202 : decode cX7_holdsOf 202 = .ok (.ireturn, 1) := by decide +kernel
theorem dX7_holdsOf_203 : decode cX7_holdsOf 203 = .ok (.aload_n 0, 1) := by decide +kernel
theorem dX7_holdsOf_204 : decode cX7_holdsOf 204 = .ok (.iload_n 2, 1) := by decide +kernel
theorem dX7_holdsOf_205 : decode cX7_holdsOf 205 = .ok (.iload_n 3, 1) := by decide +kernel
theorem dX7_holdsOf_206 : decode cX7_holdsOf 206 = .ok (.invokevirtual 168, 3) := by decide +kernel
theorem dX7_holdsOf_209 : decode cX7_holdsOf 209 = .ok (.ireturn, 1) := by decide +kernel
theorem bX7_holdsOf_0 {G : Gt} {d bc bs : Nat} {Q : QT} {l : Ls} {z : List Value} {h : Hp} (k : (tPush (.ref (G.2.2.2 51)) (tAld 0 (tGetf 6 2 (tIld 3 (tRald (tOrd G d (fun l z h => T G d bc bs mX7_holdsOf 12 l z h Q))))))) l z h) : T G d bc bs mX7_holdsOf 0 l z h Q := by
  refine R_swm dX7_holdsOf_0 w_1312 (fun l z h k => ?_) k
  refine R_aload_n dX7_holdsOf_3 rfl (fun l z h k => ?_) k
  refine R_getf (ci := 6) (f := 2) (C := RX7) (N := 7) (Tt := TX7) dX7_holdsOf_4 rfl i_X7 (by decide) w_396 (fun l z h k => ?_) k
  refine R_iload_n dX7_holdsOf_7 rfl (fun l z h k => ?_) k
  refine R_aaload dX7_holdsOf_8 (fun l z h k => ?_) k
  exact R_ord dX7_holdsOf_9 w_1313 (fun _ _ _ k => k) k
theorem bX7_holdsOf_12 {G : Gt} {d bc bs : Nat} {Q : QT} {l : Ls} {z : List Value} {h : Hp} (k : (tTald (ySwm G) (tSw 6 [119, 147, 168, 179, 191, 203, 203, 72, 87, 103, 131] 203 (fun t l z h => T G d bc bs mX7_holdsOf t l z h Q))) l z h) : T G d bc bs mX7_holdsOf 12 l z h Q := by
  refine R_smald dX7_holdsOf_12 (fun l z h k => ?_) k
  exact R_table dX7_holdsOf_13 (by decide) (by decide) (by decide) (by decide) (by decide) (fun _ _ _ _ k => k) k
theorem bX7_holdsOf_72 {G : Gt} {d bc bs : Nat} {Q : QT} {l : Ls} {z : List Value} {h : Hp} (k : (tAld 1 (tGetf 9 8 (tIld 2 (tXald 0 (tIf (fun x => x = 0) (fun l z h => T G d bc bs mX7_holdsOf 81 l z h Q) (fun l z h => T G d bc bs mX7_holdsOf 85 l z h Q)))))) l z h) : T G d bc bs mX7_holdsOf 72 l z h Q := by
  refine R_aload_n dX7_holdsOf_72 rfl (fun l z h k => ?_) k
  refine R_getf (ci := 9) (f := 8) (C := RX11) (N := 14) (Tt := TX11) dX7_holdsOf_73 rfl i_X11 (by decide) w_278 (fun l z h k => ?_) k
  refine R_iload_n dX7_holdsOf_76 rfl (fun l z h k => ?_) k
  refine R_iaload dX7_holdsOf_77 (fun l z h k => ?_) k
  exact R_if_ne dX7_holdsOf_78 (by decide) (fun _ _ _ k => k) (fun _ _ _ k => k) k
theorem bX7_holdsOf_81 {G : Gt} {d bc bs : Nat} {Q : QT} {l : Ls} {z : List Value} {h : Hp} (k : (tPush (.int 1) ((fun l z h => T G d bc bs mX7_holdsOf 86 l z h Q))) l z h) : T G d bc bs mX7_holdsOf 81 l z h Q := by
  refine R_iconst dX7_holdsOf_81 (by decide) (fun l z h k => ?_) k
  exact R_goto dX7_holdsOf_82 (by decide) (fun _ _ _ k => k) k
theorem bX7_holdsOf_85 {G : Gt} {d bc bs : Nat} {Q : QT} {l : Ls} {z : List Value} {h : Hp} (k : (tPush (.int 0) ((fun l z h => T G d bc bs mX7_holdsOf 86 l z h Q))) l z h) : T G d bc bs mX7_holdsOf 85 l z h Q := by
  refine R_iconst dX7_holdsOf_85 (by decide) (fun l z h k => ?_) k
  exact k
theorem bX7_holdsOf_86 {G : Gt} {d bc bs : Nat} {Q : QT} {l : Ls} {z : List Value} {h : Hp} (k : (tRetZ Q) l z h) : T G d bc bs mX7_holdsOf 86 l z h Q := by
  exact R_zret dX7_holdsOf_86 rfl k
theorem bX7_holdsOf_87 {G : Gt} {d bc bs : Nat} {Q : QT} {l : Ls} {z : List Value} {h : Hp} (k : (tAld 1 (tGetf 9 8 (tIld 2 (tXald 0 (tPush (.int 1) (tIf2 (fun x y => x = y) (fun l z h => T G d bc bs mX7_holdsOf 97 l z h Q) (fun l z h => T G d bc bs mX7_holdsOf 101 l z h Q))))))) l z h) : T G d bc bs mX7_holdsOf 87 l z h Q := by
  refine R_aload_n dX7_holdsOf_87 rfl (fun l z h k => ?_) k
  refine R_getf (ci := 9) (f := 8) (C := RX11) (N := 14) (Tt := TX11) dX7_holdsOf_88 rfl i_X11 (by decide) w_278 (fun l z h k => ?_) k
  refine R_iload_n dX7_holdsOf_91 rfl (fun l z h k => ?_) k
  refine R_iaload dX7_holdsOf_92 (fun l z h k => ?_) k
  refine R_iconst dX7_holdsOf_93 (by decide) (fun l z h k => ?_) k
  exact R_icmp_ne dX7_holdsOf_94 (by decide) (fun _ _ _ k => k) (fun _ _ _ k => k) k
theorem bX7_holdsOf_97 {G : Gt} {d bc bs : Nat} {Q : QT} {l : Ls} {z : List Value} {h : Hp} (k : (tPush (.int 1) ((fun l z h => T G d bc bs mX7_holdsOf 102 l z h Q))) l z h) : T G d bc bs mX7_holdsOf 97 l z h Q := by
  refine R_iconst dX7_holdsOf_97 (by decide) (fun l z h k => ?_) k
  exact R_goto dX7_holdsOf_98 (by decide) (fun _ _ _ k => k) k
theorem bX7_holdsOf_101 {G : Gt} {d bc bs : Nat} {Q : QT} {l : Ls} {z : List Value} {h : Hp} (k : (tPush (.int 0) ((fun l z h => T G d bc bs mX7_holdsOf 102 l z h Q))) l z h) : T G d bc bs mX7_holdsOf 101 l z h Q := by
  refine R_iconst dX7_holdsOf_101 (by decide) (fun l z h k => ?_) k
  exact k
theorem bX7_holdsOf_102 {G : Gt} {d bc bs : Nat} {Q : QT} {l : Ls} {z : List Value} {h : Hp} (k : (tRetZ Q) l z h) : T G d bc bs mX7_holdsOf 102 l z h Q := by
  exact R_zret dX7_holdsOf_102 rfl k
theorem bX7_holdsOf_103 {G : Gt} {d bc bs : Nat} {Q : QT} {l : Ls} {z : List Value} {h : Hp} (k : (tAld 1 (tGetf 9 8 (tIld 2 (tXald 0 (tPush (.int 2) (tIf2 (fun x y => x = y) (fun l z h => T G d bc bs mX7_holdsOf 113 l z h Q) (fun l z h => T G d bc bs mX7_holdsOf 117 l z h Q))))))) l z h) : T G d bc bs mX7_holdsOf 103 l z h Q := by
  refine R_aload_n dX7_holdsOf_103 rfl (fun l z h k => ?_) k
  refine R_getf (ci := 9) (f := 8) (C := RX11) (N := 14) (Tt := TX11) dX7_holdsOf_104 rfl i_X11 (by decide) w_278 (fun l z h k => ?_) k
  refine R_iload_n dX7_holdsOf_107 rfl (fun l z h k => ?_) k
  refine R_iaload dX7_holdsOf_108 (fun l z h k => ?_) k
  refine R_iconst dX7_holdsOf_109 (by decide) (fun l z h k => ?_) k
  exact R_icmp_ne dX7_holdsOf_110 (by decide) (fun _ _ _ k => k) (fun _ _ _ k => k) k
theorem bX7_holdsOf_113 {G : Gt} {d bc bs : Nat} {Q : QT} {l : Ls} {z : List Value} {h : Hp} (k : (tPush (.int 1) ((fun l z h => T G d bc bs mX7_holdsOf 118 l z h Q))) l z h) : T G d bc bs mX7_holdsOf 113 l z h Q := by
  refine R_iconst dX7_holdsOf_113 (by decide) (fun l z h k => ?_) k
  exact R_goto dX7_holdsOf_114 (by decide) (fun _ _ _ k => k) k
theorem bX7_holdsOf_117 {G : Gt} {d bc bs : Nat} {Q : QT} {l : Ls} {z : List Value} {h : Hp} (k : (tPush (.int 0) ((fun l z h => T G d bc bs mX7_holdsOf 118 l z h Q))) l z h) : T G d bc bs mX7_holdsOf 117 l z h Q := by
  refine R_iconst dX7_holdsOf_117 (by decide) (fun l z h k => ?_) k
  exact k
theorem bX7_holdsOf_118 {G : Gt} {d bc bs : Nat} {Q : QT} {l : Ls} {z : List Value} {h : Hp} (k : (tRetZ Q) l z h) : T G d bc bs mX7_holdsOf 118 l z h Q := by
  exact R_zret dX7_holdsOf_118 rfl k
theorem bX7_holdsOf_119 {G : Gt} {d bc bs : Nat} {Q : QT} {l : Ls} {z : List Value} {h : Hp} (k : (tAld 1 (tIld 2 (tAld 0 (tGetf 6 4 (tIld 3 (tXald 0 (tCV2 G d 0 0 9 mX11_couldPay (fun l z h => T G d bc bs mX7_holdsOf 130 l z h Q)))))))) l z h) : T G d bc bs mX7_holdsOf 119 l z h Q := by
  refine R_aload_n dX7_holdsOf_119 rfl (fun l z h k => ?_) k
  refine R_iload_n dX7_holdsOf_120 rfl (fun l z h k => ?_) k
  refine R_aload_n dX7_holdsOf_121 rfl (fun l z h k => ?_) k
  refine R_getf (ci := 6) (f := 4) (C := RX7) (N := 7) (Tt := TX7) dX7_holdsOf_122 rfl i_X7 (by decide) w_398 (fun l z h k => ?_) k
  refine R_iload_n dX7_holdsOf_125 rfl (fun l z h k => ?_) k
  refine R_iaload dX7_holdsOf_126 (fun l z h k => ?_) k
  exact R_cv2 (M := mX7_holdsOf) (pc := 127) (bc := bc) (bs := bs) (cb := 0) (cs := 0) (M' := mX11_couldPay) dX7_holdsOf_127 rfl (by decide) w_848 w_136 w_1372 w_846 w_847 (by decide +kernel) (fun _ _ _ k => k) k
theorem bX7_holdsOf_130 {G : Gt} {d bc bs : Nat} {Q : QT} {l : Ls} {z : List Value} {h : Hp} (k : (tRetZ Q) l z h) : T G d bc bs mX7_holdsOf 130 l z h Q := by
  exact R_zret dX7_holdsOf_130 rfl k
theorem bX7_holdsOf_131 {G : Gt} {d bc bs : Nat} {Q : QT} {l : Ls} {z : List Value} {h : Hp} (k : (tAld 1 (tGetf 9 11 (tIld 2 (tXald 0 (tPush (.int (-1)) (tIf2 (fun x y => x = y) (fun l z h => T G d bc bs mX7_holdsOf 145 l z h Q) (fun l z h => T G d bc bs mX7_holdsOf 141 l z h Q))))))) l z h) : T G d bc bs mX7_holdsOf 131 l z h Q := by
  refine R_aload_n dX7_holdsOf_131 rfl (fun l z h k => ?_) k
  refine R_getf (ci := 9) (f := 11) (C := RX11) (N := 14) (Tt := TX11) dX7_holdsOf_132 rfl i_X11 (by decide) w_288 (fun l z h k => ?_) k
  refine R_iload_n dX7_holdsOf_135 rfl (fun l z h k => ?_) k
  refine R_iaload dX7_holdsOf_136 (fun l z h k => ?_) k
  refine R_iconst dX7_holdsOf_137 (by decide) (fun l z h k => ?_) k
  exact R_icmp_eq dX7_holdsOf_138 (by decide) (fun _ _ _ k => k) (fun _ _ _ k => k) k
theorem bX7_holdsOf_141 {G : Gt} {d bc bs : Nat} {Q : QT} {l : Ls} {z : List Value} {h : Hp} (k : (tPush (.int 1) ((fun l z h => T G d bc bs mX7_holdsOf 146 l z h Q))) l z h) : T G d bc bs mX7_holdsOf 141 l z h Q := by
  refine R_iconst dX7_holdsOf_141 (by decide) (fun l z h k => ?_) k
  exact R_goto dX7_holdsOf_142 (by decide) (fun _ _ _ k => k) k
theorem bX7_holdsOf_145 {G : Gt} {d bc bs : Nat} {Q : QT} {l : Ls} {z : List Value} {h : Hp} (k : (tPush (.int 0) ((fun l z h => T G d bc bs mX7_holdsOf 146 l z h Q))) l z h) : T G d bc bs mX7_holdsOf 145 l z h Q := by
  refine R_iconst dX7_holdsOf_145 (by decide) (fun l z h k => ?_) k
  exact k
theorem bX7_holdsOf_146 {G : Gt} {d bc bs : Nat} {Q : QT} {l : Ls} {z : List Value} {h : Hp} (k : (tRetZ Q) l z h) : T G d bc bs mX7_holdsOf 146 l z h Q := by
  exact R_zret dX7_holdsOf_146 rfl k
theorem bX7_holdsOf_147 {G : Gt} {d bc bs : Nat} {Q : QT} {l : Ls} {z : List Value} {h : Hp} (k : (tAld 1 (tGetf 9 7 (tIld 2 (tXald 0 (tAld 0 (tGetf 6 4 (tIld 3 (tXald 0 (tIf2 (fun x y => x = y) (fun l z h => T G d bc bs mX7_holdsOf 162 l z h Q) (fun l z h => T G d bc bs mX7_holdsOf 166 l z h Q)))))))))) l z h) : T G d bc bs mX7_holdsOf 147 l z h Q := by
  refine R_aload_n dX7_holdsOf_147 rfl (fun l z h k => ?_) k
  refine R_getf (ci := 9) (f := 7) (C := RX11) (N := 14) (Tt := TX11) dX7_holdsOf_148 rfl i_X11 (by decide) w_274 (fun l z h k => ?_) k
  refine R_iload_n dX7_holdsOf_151 rfl (fun l z h k => ?_) k
  refine R_iaload dX7_holdsOf_152 (fun l z h k => ?_) k
  refine R_aload_n dX7_holdsOf_153 rfl (fun l z h k => ?_) k
  refine R_getf (ci := 6) (f := 4) (C := RX7) (N := 7) (Tt := TX7) dX7_holdsOf_154 rfl i_X7 (by decide) w_398 (fun l z h k => ?_) k
  refine R_iload_n dX7_holdsOf_157 rfl (fun l z h k => ?_) k
  refine R_iaload dX7_holdsOf_158 (fun l z h k => ?_) k
  exact R_icmp_ne dX7_holdsOf_159 (by decide) (fun _ _ _ k => k) (fun _ _ _ k => k) k
theorem bX7_holdsOf_162 {G : Gt} {d bc bs : Nat} {Q : QT} {l : Ls} {z : List Value} {h : Hp} (k : (tPush (.int 1) ((fun l z h => T G d bc bs mX7_holdsOf 167 l z h Q))) l z h) : T G d bc bs mX7_holdsOf 162 l z h Q := by
  refine R_iconst dX7_holdsOf_162 (by decide) (fun l z h k => ?_) k
  exact R_goto dX7_holdsOf_163 (by decide) (fun _ _ _ k => k) k
theorem bX7_holdsOf_166 {G : Gt} {d bc bs : Nat} {Q : QT} {l : Ls} {z : List Value} {h : Hp} (k : (tPush (.int 0) ((fun l z h => T G d bc bs mX7_holdsOf 167 l z h Q))) l z h) : T G d bc bs mX7_holdsOf 166 l z h Q := by
  refine R_iconst dX7_holdsOf_166 (by decide) (fun l z h k => ?_) k
  exact k
theorem bX7_holdsOf_167 {G : Gt} {d bc bs : Nat} {Q : QT} {l : Ls} {z : List Value} {h : Hp} (k : (tRetZ Q) l z h) : T G d bc bs mX7_holdsOf 167 l z h Q := by
  exact R_zret dX7_holdsOf_167 rfl k
theorem bX7_holdsOf_168 {G : Gt} {d bc bs : Nat} {Q : QT} {l : Ls} {z : List Value} {h : Hp} (k : (tAld 0 (tAld 1 (tIld 2 (tCV1 G d 0 0 9 mX11_allOf (fun l z h => T G d bc bs mX7_holdsOf 174 l z h Q))))) l z h) : T G d bc bs mX7_holdsOf 168 l z h Q := by
  refine R_aload_n dX7_holdsOf_168 rfl (fun l z h k => ?_) k
  refine R_aload_n dX7_holdsOf_169 rfl (fun l z h k => ?_) k
  refine R_iload_n dX7_holdsOf_170 rfl (fun l z h k => ?_) k
  exact R_cv1 (M := mX7_holdsOf) (pc := 171) (bc := bc) (bs := bs) (cb := 0) (cs := 0) (M' := mX11_allOf) dX7_holdsOf_171 rfl (by decide) w_865 w_136 w_1373 w_863 w_864 (by decide +kernel) (fun _ _ _ k => k) k
theorem bX7_holdsOf_174 {G : Gt} {d bc bs : Nat} {Q : QT} {l : Ls} {z : List Value} {h : Hp} (k : (tIld 3 (tCV2 G d 0 0 6 mX7_compares (fun l z h => T G d bc bs mX7_holdsOf 178 l z h Q))) l z h) : T G d bc bs mX7_holdsOf 174 l z h Q := by
  refine R_iload_n dX7_holdsOf_174 rfl (fun l z h k => ?_) k
  exact R_cv2 (M := mX7_holdsOf) (pc := 175) (bc := bc) (bs := bs) (cb := 0) (cs := 0) (M' := mX7_compares) dX7_holdsOf_175 rfl (by decide) w_1377 w_140 w_1374 w_1376 w_42 (by decide +kernel) (fun _ _ _ k => k) k
theorem bX7_holdsOf_178 {G : Gt} {d bc bs : Nat} {Q : QT} {l : Ls} {z : List Value} {h : Hp} (k : (tRetZ Q) l z h) : T G d bc bs mX7_holdsOf 178 l z h Q := by
  exact R_zret dX7_holdsOf_178 rfl k
theorem bX7_holdsOf_179 {G : Gt} {d bc bs : Nat} {Q : QT} {l : Ls} {z : List Value} {h : Hp} (k : (tAld 0 (tAld 1 (tGetf 9 9 (tIld 2 (tXald 0 (tIld 3 (tCV2 G d 0 0 6 mX7_compares (fun l z h => T G d bc bs mX7_holdsOf 190 l z h Q)))))))) l z h) : T G d bc bs mX7_holdsOf 179 l z h Q := by
  refine R_aload_n dX7_holdsOf_179 rfl (fun l z h k => ?_) k
  refine R_aload_n dX7_holdsOf_180 rfl (fun l z h k => ?_) k
  refine R_getf (ci := 9) (f := 9) (C := RX11) (N := 14) (Tt := TX11) dX7_holdsOf_181 rfl i_X11 (by decide) w_281 (fun l z h k => ?_) k
  refine R_iload_n dX7_holdsOf_184 rfl (fun l z h k => ?_) k
  refine R_iaload dX7_holdsOf_185 (fun l z h k => ?_) k
  refine R_iload_n dX7_holdsOf_186 rfl (fun l z h k => ?_) k
  exact R_cv2 (M := mX7_holdsOf) (pc := 187) (bc := bc) (bs := bs) (cb := 0) (cs := 0) (M' := mX7_compares) dX7_holdsOf_187 rfl (by decide) w_1377 w_140 w_1374 w_1376 w_42 (by decide +kernel) (fun _ _ _ k => k) k
theorem bX7_holdsOf_190 {G : Gt} {d bc bs : Nat} {Q : QT} {l : Ls} {z : List Value} {h : Hp} (k : (tRetZ Q) l z h) : T G d bc bs mX7_holdsOf 190 l z h Q := by
  exact R_zret dX7_holdsOf_190 rfl k
theorem bX7_holdsOf_191 {G : Gt} {d bc bs : Nat} {Q : QT} {l : Ls} {z : List Value} {h : Hp} (k : (tAld 0 (tAld 1 (tGetf 9 10 (tIld 2 (tXald 0 (tIld 3 (tCV2 G d 0 0 6 mX7_compares (fun l z h => T G d bc bs mX7_holdsOf 202 l z h Q)))))))) l z h) : T G d bc bs mX7_holdsOf 191 l z h Q := by
  refine R_aload_n dX7_holdsOf_191 rfl (fun l z h k => ?_) k
  refine R_aload_n dX7_holdsOf_192 rfl (fun l z h k => ?_) k
  refine R_getf (ci := 9) (f := 10) (C := RX11) (N := 14) (Tt := TX11) dX7_holdsOf_193 rfl i_X11 (by decide) w_284 (fun l z h k => ?_) k
  refine R_iload_n dX7_holdsOf_196 rfl (fun l z h k => ?_) k
  refine R_iaload dX7_holdsOf_197 (fun l z h k => ?_) k
  refine R_iload_n dX7_holdsOf_198 rfl (fun l z h k => ?_) k
  exact R_cv2 (M := mX7_holdsOf) (pc := 199) (bc := bc) (bs := bs) (cb := 0) (cs := 0) (M' := mX7_compares) dX7_holdsOf_199 rfl (by decide) w_1377 w_140 w_1374 w_1376 w_42 (by decide +kernel) (fun _ _ _ k => k) k
theorem bX7_holdsOf_202 {G : Gt} {d bc bs : Nat} {Q : QT} {l : Ls} {z : List Value} {h : Hp} (k : (tRetZ Q) l z h) : T G d bc bs mX7_holdsOf 202 l z h Q := by
  exact R_zret dX7_holdsOf_202 rfl k
theorem bX7_holdsOf_203 {G : Gt} {d bc bs : Nat} {Q : QT} {l : Ls} {z : List Value} {h : Hp} (k : (tAld 0 (tIld 2 (tIld 3 (tCV2 G d 0 0 6 mX7_compares (fun l z h => T G d bc bs mX7_holdsOf 209 l z h Q))))) l z h) : T G d bc bs mX7_holdsOf 203 l z h Q := by
  refine R_aload_n dX7_holdsOf_203 rfl (fun l z h k => ?_) k
  refine R_iload_n dX7_holdsOf_204 rfl (fun l z h k => ?_) k
  refine R_iload_n dX7_holdsOf_205 rfl (fun l z h k => ?_) k
  exact R_cv2 (M := mX7_holdsOf) (pc := 206) (bc := bc) (bs := bs) (cb := 0) (cs := 0) (M' := mX7_compares) dX7_holdsOf_206 rfl (by decide) w_1377 w_140 w_1374 w_1376 w_42 (by decide +kernel) (fun _ _ _ k => k) k
theorem bX7_holdsOf_209 {G : Gt} {d bc bs : Nat} {Q : QT} {l : Ls} {z : List Value} {h : Hp} (k : (tRetZ Q) l z h) : T G d bc bs mX7_holdsOf 209 l z h Q := by
  exact R_zret dX7_holdsOf_209 rfl k
theorem dX7_compares_0 : decode cX7_compares 0 = .ok (.aload_n 0, 1) := by decide +kernel
theorem dX7_compares_1 : decode cX7_compares 1 = .ok (.getfield 17, 3) := by decide +kernel
theorem dX7_compares_4 : decode cX7_compares 4 = .ok (.iload_n 2, 1) := by decide +kernel
theorem dX7_compares_5 : decode cX7_compares 5 = .ok (.iaload, 1) := by decide +kernel
theorem dX7_compares_6 : decode cX7_compares 6 = .ok (.bipush 60, 2) := by decide +kernel
theorem dX7_compares_8 : decode cX7_compares 8 = .ok (.if_icmp .ne 19, 3) := by decide +kernel
theorem dX7_compares_11 : decode cX7_compares 11 = .ok (.iload_n 1, 1) := by decide +kernel
theorem dX7_compares_12 : decode cX7_compares 12 = .ok (.aload_n 0, 1) := by decide +kernel
theorem dX7_compares_13 : decode cX7_compares 13 = .ok (.getfield 21, 3) := by decide +kernel
theorem dX7_compares_16 : decode cX7_compares 16 = .ok (.iload_n 2, 1) := by decide +kernel
theorem dX7_compares_17 : decode cX7_compares 17 = .ok (.iaload, 1) := by decide +kernel
theorem dX7_compares_18 : decode cX7_compares 18 = .ok (.if_icmp .ge 7, 3) := by decide +kernel
theorem dX7_compares_21 : decode cX7_compares 21 = .ok (.iconst 1, 1) := by decide +kernel
theorem dX7_compares_22 : decode cX7_compares 22 = .ok (.goto 4, 3) := by decide +kernel
theorem dX7_compares_25 : decode cX7_compares 25 = .ok (.iconst 0, 1) := by decide +kernel
theorem dX7_compares_26 : decode cX7_compares 26 = .ok (.ireturn, 1) := by decide +kernel
theorem dX7_compares_27 : decode cX7_compares 27 = .ok (.aload_n 0, 1) := by decide +kernel
theorem dX7_compares_28 : decode cX7_compares 28 = .ok (.getfield 17, 3) := by decide +kernel
theorem dX7_compares_31 : decode cX7_compares 31 = .ok (.iload_n 2, 1) := by decide +kernel
theorem dX7_compares_32 : decode cX7_compares 32 = .ok (.iaload, 1) := by decide +kernel
theorem dX7_compares_33 : decode cX7_compares 33 = .ok (.bipush 62, 2) := by decide +kernel
theorem dX7_compares_35 : decode cX7_compares 35 = .ok (.if_icmp .ne 19, 3) := by decide +kernel
theorem dX7_compares_38 : decode cX7_compares 38 = .ok (.iload_n 1, 1) := by decide +kernel
theorem dX7_compares_39 : decode cX7_compares 39 = .ok (.aload_n 0, 1) := by decide +kernel
theorem dX7_compares_40 : decode cX7_compares 40 = .ok (.getfield 21, 3) := by decide +kernel
theorem dX7_compares_43 : decode cX7_compares 43 = .ok (.iload_n 2, 1) := by decide +kernel
theorem dX7_compares_44 : decode cX7_compares 44 = .ok (.iaload, 1) := by decide +kernel
theorem dX7_compares_45 : decode cX7_compares 45 = .ok (.if_icmp .le 7, 3) := by decide +kernel
theorem dX7_compares_48 : decode cX7_compares 48 = .ok (.iconst 1, 1) := by decide +kernel
theorem dX7_compares_49 : decode cX7_compares 49 = .ok (.goto 4, 3) := by decide +kernel
theorem dX7_compares_52 : decode cX7_compares 52 = .ok (.iconst 0, 1) := by decide +kernel
theorem dX7_compares_53 : decode cX7_compares 53 = .ok (.ireturn, 1) := by decide +kernel
theorem dX7_compares_54 : decode cX7_compares 54 = .ok (.iload_n 1, 1) := by decide +kernel
theorem dX7_compares_55 : decode cX7_compares 55 = .ok (.aload_n 0, 1) := by decide +kernel
theorem dX7_compares_56 : decode cX7_compares 56 = .ok (.getfield 21, 3) := by decide +kernel
theorem dX7_compares_59 : decode cX7_compares 59 = .ok (.iload_n 2, 1) := by decide +kernel
theorem dX7_compares_60 : decode cX7_compares 60 = .ok (.iaload, 1) := by decide +kernel
theorem dX7_compares_61 : decode cX7_compares 61 = .ok (.if_icmp .ne 7, 3) := by decide +kernel
theorem dX7_compares_64 : decode cX7_compares 64 = .ok (.iconst 1, 1) := by decide +kernel
theorem dX7_compares_65 : decode cX7_compares 65 = .ok (.goto 4, 3) := by decide +kernel
theorem dX7_compares_68 : decode cX7_compares 68 = .ok (.iconst 0, 1) := by decide +kernel
theorem dX7_compares_69 : decode cX7_compares 69 = .ok (.ireturn, 1) := by decide +kernel
theorem bX7_compares_0 {G : Gt} {d bc bs : Nat} {Q : QT} {l : Ls} {z : List Value} {h : Hp} (k : (tAld 0 (tGetf 6 3 (tIld 2 (tXald 0 (tPush (.int 60) (tIf2 (fun x y => x = y) (fun l z h => T G d bc bs mX7_compares 11 l z h Q) (fun l z h => T G d bc bs mX7_compares 27 l z h Q))))))) l z h) : T G d bc bs mX7_compares 0 l z h Q := by
  refine R_aload_n dX7_compares_0 rfl (fun l z h k => ?_) k
  refine R_getf (ci := 6) (f := 3) (C := RX7) (N := 7) (Tt := TX7) dX7_compares_1 rfl i_X7 (by decide) w_397 (fun l z h k => ?_) k
  refine R_iload_n dX7_compares_4 rfl (fun l z h k => ?_) k
  refine R_iaload dX7_compares_5 (fun l z h k => ?_) k
  refine R_bipush dX7_compares_6 (by decide) (fun l z h k => ?_) k
  exact R_icmp_ne dX7_compares_8 (by decide) (fun _ _ _ k => k) (fun _ _ _ k => k) k
theorem bX7_compares_11 {G : Gt} {d bc bs : Nat} {Q : QT} {l : Ls} {z : List Value} {h : Hp} (k : (tIld 1 (tAld 0 (tGetf 6 4 (tIld 2 (tXald 0 (tIf2 (fun x y => y ≤ x) (fun l z h => T G d bc bs mX7_compares 25 l z h Q) (fun l z h => T G d bc bs mX7_compares 21 l z h Q))))))) l z h) : T G d bc bs mX7_compares 11 l z h Q := by
  refine R_iload_n dX7_compares_11 rfl (fun l z h k => ?_) k
  refine R_aload_n dX7_compares_12 rfl (fun l z h k => ?_) k
  refine R_getf (ci := 6) (f := 4) (C := RX7) (N := 7) (Tt := TX7) dX7_compares_13 rfl i_X7 (by decide) w_398 (fun l z h k => ?_) k
  refine R_iload_n dX7_compares_16 rfl (fun l z h k => ?_) k
  refine R_iaload dX7_compares_17 (fun l z h k => ?_) k
  exact R_icmp_ge dX7_compares_18 (by decide) (fun _ _ _ k => k) (fun _ _ _ k => k) k
theorem bX7_compares_21 {G : Gt} {d bc bs : Nat} {Q : QT} {l : Ls} {z : List Value} {h : Hp} (k : (tPush (.int 1) ((fun l z h => T G d bc bs mX7_compares 26 l z h Q))) l z h) : T G d bc bs mX7_compares 21 l z h Q := by
  refine R_iconst dX7_compares_21 (by decide) (fun l z h k => ?_) k
  exact R_goto dX7_compares_22 (by decide) (fun _ _ _ k => k) k
theorem bX7_compares_25 {G : Gt} {d bc bs : Nat} {Q : QT} {l : Ls} {z : List Value} {h : Hp} (k : (tPush (.int 0) ((fun l z h => T G d bc bs mX7_compares 26 l z h Q))) l z h) : T G d bc bs mX7_compares 25 l z h Q := by
  refine R_iconst dX7_compares_25 (by decide) (fun l z h k => ?_) k
  exact k
theorem bX7_compares_26 {G : Gt} {d bc bs : Nat} {Q : QT} {l : Ls} {z : List Value} {h : Hp} (k : (tRetZ Q) l z h) : T G d bc bs mX7_compares 26 l z h Q := by
  exact R_zret dX7_compares_26 rfl k
theorem bX7_compares_27 {G : Gt} {d bc bs : Nat} {Q : QT} {l : Ls} {z : List Value} {h : Hp} (k : (tAld 0 (tGetf 6 3 (tIld 2 (tXald 0 (tPush (.int 62) (tIf2 (fun x y => x = y) (fun l z h => T G d bc bs mX7_compares 38 l z h Q) (fun l z h => T G d bc bs mX7_compares 54 l z h Q))))))) l z h) : T G d bc bs mX7_compares 27 l z h Q := by
  refine R_aload_n dX7_compares_27 rfl (fun l z h k => ?_) k
  refine R_getf (ci := 6) (f := 3) (C := RX7) (N := 7) (Tt := TX7) dX7_compares_28 rfl i_X7 (by decide) w_397 (fun l z h k => ?_) k
  refine R_iload_n dX7_compares_31 rfl (fun l z h k => ?_) k
  refine R_iaload dX7_compares_32 (fun l z h k => ?_) k
  refine R_bipush dX7_compares_33 (by decide) (fun l z h k => ?_) k
  exact R_icmp_ne dX7_compares_35 (by decide) (fun _ _ _ k => k) (fun _ _ _ k => k) k
theorem bX7_compares_38 {G : Gt} {d bc bs : Nat} {Q : QT} {l : Ls} {z : List Value} {h : Hp} (k : (tIld 1 (tAld 0 (tGetf 6 4 (tIld 2 (tXald 0 (tIf2 (fun x y => x ≤ y) (fun l z h => T G d bc bs mX7_compares 52 l z h Q) (fun l z h => T G d bc bs mX7_compares 48 l z h Q))))))) l z h) : T G d bc bs mX7_compares 38 l z h Q := by
  refine R_iload_n dX7_compares_38 rfl (fun l z h k => ?_) k
  refine R_aload_n dX7_compares_39 rfl (fun l z h k => ?_) k
  refine R_getf (ci := 6) (f := 4) (C := RX7) (N := 7) (Tt := TX7) dX7_compares_40 rfl i_X7 (by decide) w_398 (fun l z h k => ?_) k
  refine R_iload_n dX7_compares_43 rfl (fun l z h k => ?_) k
  refine R_iaload dX7_compares_44 (fun l z h k => ?_) k
  exact R_icmp_le dX7_compares_45 (by decide) (fun _ _ _ k => k) (fun _ _ _ k => k) k
theorem bX7_compares_48 {G : Gt} {d bc bs : Nat} {Q : QT} {l : Ls} {z : List Value} {h : Hp} (k : (tPush (.int 1) ((fun l z h => T G d bc bs mX7_compares 53 l z h Q))) l z h) : T G d bc bs mX7_compares 48 l z h Q := by
  refine R_iconst dX7_compares_48 (by decide) (fun l z h k => ?_) k
  exact R_goto dX7_compares_49 (by decide) (fun _ _ _ k => k) k
theorem bX7_compares_52 {G : Gt} {d bc bs : Nat} {Q : QT} {l : Ls} {z : List Value} {h : Hp} (k : (tPush (.int 0) ((fun l z h => T G d bc bs mX7_compares 53 l z h Q))) l z h) : T G d bc bs mX7_compares 52 l z h Q := by
  refine R_iconst dX7_compares_52 (by decide) (fun l z h k => ?_) k
  exact k
theorem bX7_compares_53 {G : Gt} {d bc bs : Nat} {Q : QT} {l : Ls} {z : List Value} {h : Hp} (k : (tRetZ Q) l z h) : T G d bc bs mX7_compares 53 l z h Q := by
  exact R_zret dX7_compares_53 rfl k
theorem bX7_compares_54 {G : Gt} {d bc bs : Nat} {Q : QT} {l : Ls} {z : List Value} {h : Hp} (k : (tIld 1 (tAld 0 (tGetf 6 4 (tIld 2 (tXald 0 (tIf2 (fun x y => x = y) (fun l z h => T G d bc bs mX7_compares 64 l z h Q) (fun l z h => T G d bc bs mX7_compares 68 l z h Q))))))) l z h) : T G d bc bs mX7_compares 54 l z h Q := by
  refine R_iload_n dX7_compares_54 rfl (fun l z h k => ?_) k
  refine R_aload_n dX7_compares_55 rfl (fun l z h k => ?_) k
  refine R_getf (ci := 6) (f := 4) (C := RX7) (N := 7) (Tt := TX7) dX7_compares_56 rfl i_X7 (by decide) w_398 (fun l z h k => ?_) k
  refine R_iload_n dX7_compares_59 rfl (fun l z h k => ?_) k
  refine R_iaload dX7_compares_60 (fun l z h k => ?_) k
  exact R_icmp_ne dX7_compares_61 (by decide) (fun _ _ _ k => k) (fun _ _ _ k => k) k
theorem bX7_compares_64 {G : Gt} {d bc bs : Nat} {Q : QT} {l : Ls} {z : List Value} {h : Hp} (k : (tPush (.int 1) ((fun l z h => T G d bc bs mX7_compares 69 l z h Q))) l z h) : T G d bc bs mX7_compares 64 l z h Q := by
  refine R_iconst dX7_compares_64 (by decide) (fun l z h k => ?_) k
  exact R_goto dX7_compares_65 (by decide) (fun _ _ _ k => k) k
theorem bX7_compares_68 {G : Gt} {d bc bs : Nat} {Q : QT} {l : Ls} {z : List Value} {h : Hp} (k : (tPush (.int 0) ((fun l z h => T G d bc bs mX7_compares 69 l z h Q))) l z h) : T G d bc bs mX7_compares 68 l z h Q := by
  refine R_iconst dX7_compares_68 (by decide) (fun l z h k => ?_) k
  exact k
theorem bX7_compares_69 {G : Gt} {d bc bs : Nat} {Q : QT} {l : Ls} {z : List Value} {h : Hp} (k : (tRetZ Q) l z h) : T G d bc bs mX7_compares 69 l z h Q := by
  exact R_zret dX7_compares_69 rfl k
