theorem dX13_teacher_0 : decode cX13_teacher 0 = .ok (.aload_n 0, 1) := by decide +kernel
theorem dX13_teacher_1 : decode cX13_teacher 1 = .ok (.iconst 0, 1) := by decide +kernel
theorem dX13_teacher_2 : decode cX13_teacher 2 = .ok (.putfield 85, 3) := by decide +kernel
theorem dX13_teacher_5 : decode cX13_teacher 5 = .ok (.aload_n 0, 1) := by decide +kernel
theorem dX13_teacher_6 : decode cX13_teacher 6 = .ok (.iload_n 1, 1) := by decide +kernel
theorem dX13_teacher_7 : decode cX13_teacher 7 = .ok (.invokevirtual 256, 3) := by decide +kernel
theorem dX13_teacher_10 : decode cX13_teacher 10 = .ok (.ifCond .ne 5, 3) := by decide +kernel
theorem dX13_teacher_13 : decode cX13_teacher 13 = .ok (.iconst (-1), 1) := by decide +kernel
theorem dX13_teacher_14 : decode cX13_teacher 14 = .ok (.ireturn, 1) := by decide +kernel
theorem dX13_teacher_15 : decode cX13_teacher 15 = .ok (.aload_n 0, 1) := by decide +kernel
theorem dX13_teacher_16 : decode cX13_teacher 16 = .ok (.invokevirtual 332, 3) := by decide +kernel
theorem dX13_teacher_19 : decode cX13_teacher 19 = .ok (.iconst (-1), 1) := by decide +kernel
theorem dX13_teacher_20 : decode cX13_teacher 20 = .ok (.istore_n 2, 1) := by decide +kernel
theorem dX13_teacher_21 : decode cX13_teacher 21 = .ok (.iconst (-1), 1) := by decide +kernel
theorem dX13_teacher_22 : decode cX13_teacher 22 = .ok (.istore_n 3, 1) := by decide +kernel
theorem dX13_teacher_23 : decode cX13_teacher 23 = .ok (.iload_n 3, 1) := by decide +kernel
theorem dX13_teacher_24 : decode cX13_teacher 24 = .ok (.aload_n 0, 1) := by decide +kernel
theorem dX13_teacher_25 : decode cX13_teacher 25 = .ok (.getfield 13, 3) := by decide +kernel
theorem dX13_teacher_28 : decode cX13_teacher 28 = .ok (.iconst 1, 1) := by decide +kernel
theorem dX13_teacher_29 : decode cX13_teacher 29 = .ok (.iaload, 1) := by decide +kernel
theorem dX13_teacher_30 : decode cX13_teacher 30 = .ok (.if_icmp .ge 81, 3) := by decide +kernel
theorem dX13_teacher_33 : decode cX13_teacher 33 = .ok (.iload_n 3, 1) := by decide +kernel
theorem dX13_teacher_34 : decode cX13_teacher 34 = .ok (.iload_n 1, 1) := by decide +kernel
theorem dX13_teacher_35 : decode cX13_teacher 35 = .ok (.if_icmp .ne 6, 3) := by decide +kernel
theorem dX13_teacher_38 : decode cX13_teacher 38 = .ok (.goto 67, 3) := by decide +kernel
theorem dX13_teacher_41 : decode cX13_teacher 41 = .ok (.aload_n 0, 1) := by decide +kernel
theorem dX13_teacher_42 : decode cX13_teacher 42 = .ok (.iload_n 1, 1) := by decide +kernel
theorem dX13_teacher_43 : decode cX13_teacher 43 = .ok (.invokevirtual 290, 3) := by decide +kernel
theorem dX13_teacher_46 : decode cX13_teacher 46 = .ok (.iload_n 3, 1) := by decide +kernel
theorem dX13_teacher_47 : decode cX13_teacher 47 = .ok (.iconst (-1), 1) := by decide +kernel
theorem dX13_teacher_48 : decode cX13_teacher 48 = .ok (.if_icmp .eq 14, 3) := by decide +kernel
theorem dX13_teacher_51 : decode cX13_teacher 51 = .ok (.aload_n 0, 1) := by decide +kernel
theorem dX13_teacher_52 : decode cX13_teacher 52 = .ok (.iload_n 3, 1) := by decide +kernel
theorem dX13_teacher_53 : decode cX13_teacher 53 = .ok (.invokevirtual 290, 3) := by decide +kernel
theorem dX13_teacher_56 : decode cX13_teacher 56 = .ok (.aload_n 0, 1) := by decide +kernel
theorem dX13_teacher_57 : decode cX13_teacher 57 = .ok (.iload_n 1, 1) := by decide +kernel
theorem dX13_teacher_58 : decode cX13_teacher 58 = .ok (.iload_n 3, 1) := by decide +kernel
theorem dX13_teacher_59 : decode cX13_teacher 59 = .ok (.invokevirtual 286, 3) := by decide +kernel
theorem dX13_teacher_62 : decode cX13_teacher 62 = .ok (.aload_n 0, 1) := by decide +kernel
theorem dX13_teacher_63 : decode cX13_teacher 63 = .ok (.iconst 1, 1) := by decide +kernel
theorem dX13_teacher_64 : decode cX13_teacher 64 = .ok (.iload_n 1, 1) := by decide +kernel
theorem dX13_teacher_65 : decode cX13_teacher 65 = .ok (.ishl, 1) := by decide +kernel
theorem dX13_teacher_66 : decode cX13_teacher 66 = .ok (.bipush 100, 2) := by decide +kernel
theorem dX13_teacher_68 : decode cX13_teacher 68 = .ok (.invokevirtual 329, 3) := by decide +kernel
theorem dX13_teacher_71 : decode cX13_teacher 71 = .ok (.istore 4, 2) := by decide +kernel
theorem dX13_teacher_73 : decode cX13_teacher 73 = .ok (.aload_n 0, 1) := by decide +kernel
theorem dX13_teacher_74 : decode cX13_teacher 74 = .ok (.invokevirtual 335, 3) := by decide +kernel
theorem dX13_teacher_77 : decode cX13_teacher 77 = .ok (.iload 4, 2) := by decide +kernel
theorem dX13_teacher_79 : decode cX13_teacher 79 = .ok (.iconst (-1), 1) := by decide +kernel
theorem dX13_teacher_80 : decode cX13_teacher 80 = .ok (.if_icmp .eq 25, 3) := by decide +kernel
theorem dX13_teacher_83 : decode cX13_teacher 83 = .ok (.iload_n 2, 1) := by decide +kernel
theorem dX13_teacher_84 : decode cX13_teacher 84 = .ok (.iconst (-1), 1) := by decide +kernel
theorem dX13_teacher_85 : decode cX13_teacher 85 = .ok (.if_icmp .eq 12, 3) := by decide +kernel
theorem dX13_teacher_88 : decode cX13_teacher 88 = .ok (.iload 4, 2) := by decide +kernel
theorem dX13_teacher_90 : decode cX13_teacher 90 = .ok (.iload_n 2, 1) := by decide +kernel
theorem dX13_teacher_91 : decode cX13_teacher 91 = .ok (.if_icmp .lt 6, 3) := by decide +kernel
theorem dX13_teacher_94 : decode cX13_teacher 94 = .ok (.goto 11, 3) := by decide +kernel
theorem dX13_teacher_97 : decode cX13_teacher 97 = .ok (.iload 4, 2) := by decide +kernel
theorem dX13_teacher_99 : decode cX13_teacher 99 = .ok (.istore_n 2, 1) := by decide +kernel
theorem dX13_teacher_100 : decode cX13_teacher 100 = .ok (.aload_n 0, 1) := by decide +kernel
theorem dX13_teacher_101 : decode cX13_teacher 101 = .ok (.iload_n 3, 1) := by decide +kernel
theorem dX13_teacher_102 : decode cX13_teacher 102 = .ok (.putfield 51, 3) := by decide +kernel
theorem dX13_teacher_105 : decode cX13_teacher 105 = .ok (.iinc 3 1, 3) := by decide +kernel
theorem dX13_teacher_108 : decode cX13_teacher 108 = .ok (.goto (-85), 3) := by decide +kernel
theorem dX13_teacher_111 : decode cX13_teacher 111 = .ok (.iload_n 2, 1) := by decide +kernel
theorem dX13_teacher_112 : decode cX13_teacher 112 = .ok (.ireturn, 1) := by decide +kernel
theorem bX13_teacher_0 {G : Gt} {d bc bs : Nat} {Q : QT} {l : Ls} {z : List Value} {h : Hp} (k : (tAld 0 (tPush (.int 0) (tPutf isI 11 0 (tAld 0 (tIld 1 (tCV1 G d 0 0 11 mX13_isPerson (fun l z h => T G d bc bs mX13_teacher 10 l z h Q))))))) l z h) : T G d bc bs mX13_teacher 0 l z h Q := by
  refine R_aload_n dX13_teacher_0 rfl (fun l z h k => ?_) k
  refine R_iconst dX13_teacher_1 (by decide) (fun l z h k => ?_) k
  refine R_putf (ci := 11) (f := 0) (C := RX13) (N := 49) (Tt := TX13) tyX13 tyX13_ok nmX13 dX13_teacher_2 rfl i_X13 (by decide) w_1467 rfl (tyX13_ok 0 (by decide)) p_int (fun l z h k => ?_) k
  refine R_aload_n dX13_teacher_5 rfl (fun l z h k => ?_) k
  refine R_iload_n dX13_teacher_6 rfl (fun l z h k => ?_) k
  exact R_cv1 (M := mX13_teacher) (pc := 7) (bc := bc) (bs := bs) (cb := 0) (cs := 0) (M' := mX13_isPerson) dX13_teacher_7 rfl (by decide) w_1767 w_144 w_1764 w_1766 w_70 (by decide +kernel) (fun _ _ _ k => k) k
theorem bX13_teacher_10 {G : Gt} {d bc bs : Nat} {Q : QT} {l : Ls} {z : List Value} {h : Hp} (k : (tIf (fun x => x = 0) (fun l z h => T G d bc bs mX13_teacher 13 l z h Q) (fun l z h => T G d bc bs mX13_teacher 15 l z h Q)) l z h) : T G d bc bs mX13_teacher 10 l z h Q := by
  exact R_if_ne dX13_teacher_10 (by decide) (fun _ _ _ k => k) (fun _ _ _ k => k) k
theorem bX13_teacher_13 {G : Gt} {d bc bs : Nat} {Q : QT} {l : Ls} {z : List Value} {h : Hp} (k : (tPush (.int (-1)) (tRetI Q)) l z h) : T G d bc bs mX13_teacher 13 l z h Q := by
  refine R_iconst dX13_teacher_13 (by decide) (fun l z h k => ?_) k
  exact R_iret dX13_teacher_14 rfl k
theorem bX13_teacher_15 {G : Gt} {d bc bs : Nat} {Q : QT} {l : Ls} {z : List Value} {h : Hp} (k : (tAld 0 (tCV0 G d 0 0 11 mX13_layAside (fun l z h => T G d bc bs mX13_teacher 19 l z h Q))) l z h) : T G d bc bs mX13_teacher 15 l z h Q := by
  refine R_aload_n dX13_teacher_15 rfl (fun l z h k => ?_) k
  exact R_cv0 (M := mX13_teacher) (pc := 16) (bc := bc) (bs := bs) (cb := 0) (cs := 0) (M' := mX13_layAside) dX13_teacher_16 rfl (by decide) w_1937 w_144 w_1934 w_1936 w_97 (by decide +kernel) (fun _ _ _ k => k) k
theorem bX13_teacher_19 {G : Gt} {d bc bs : Nat} {Q : QT} {l : Ls} {z : List Value} {h : Hp} (k : (tPush (.int (-1)) (tIst 2 (tPush (.int (-1)) (tIst 3 ((fun l z h => T G d bc bs mX13_teacher 23 l z h Q)))))) l z h) : T G d bc bs mX13_teacher 19 l z h Q := by
  refine R_iconst dX13_teacher_19 (by decide) (fun l z h k => ?_) k
  refine R_istore_n dX13_teacher_20 rfl (by decide) (fun l z h k => ?_) k
  refine R_iconst dX13_teacher_21 (by decide) (fun l z h k => ?_) k
  refine R_istore_n dX13_teacher_22 rfl (by decide) (fun l z h k => ?_) k
  exact k
theorem bX13_teacher_23 {G : Gt} {d bc bs : Nat} {Q : QT} {l : Ls} {z : List Value} {h : Hp} (k : (tIld 3 (tAld 0 (tGetf 11 14 (tPush (.int 1) (tXald 0 (tIf2 (fun x y => y ≤ x) (fun l z h => T G d bc bs mX13_teacher 111 l z h Q) (fun l z h => T G d bc bs mX13_teacher 33 l z h Q))))))) l z h) : T G d bc bs mX13_teacher 23 l z h Q := by
  refine R_iload_n dX13_teacher_23 rfl (fun l z h k => ?_) k
  refine R_aload_n dX13_teacher_24 rfl (fun l z h k => ?_) k
  refine R_getf (ci := 11) (f := 14) (C := RX13) (N := 49) (Tt := TX13) dX13_teacher_25 rfl i_X13 (by decide) w_1481 (fun l z h k => ?_) k
  refine R_iconst dX13_teacher_28 (by decide) (fun l z h k => ?_) k
  refine R_iaload dX13_teacher_29 (fun l z h k => ?_) k
  exact R_icmp_ge dX13_teacher_30 (by decide) (fun _ _ _ k => k) (fun _ _ _ k => k) k
theorem bX13_teacher_33 {G : Gt} {d bc bs : Nat} {Q : QT} {l : Ls} {z : List Value} {h : Hp} (k : (tIld 3 (tIld 1 (tIf2 (fun x y => x = y) (fun l z h => T G d bc bs mX13_teacher 38 l z h Q) (fun l z h => T G d bc bs mX13_teacher 41 l z h Q)))) l z h) : T G d bc bs mX13_teacher 33 l z h Q := by
  refine R_iload_n dX13_teacher_33 rfl (fun l z h k => ?_) k
  refine R_iload_n dX13_teacher_34 rfl (fun l z h k => ?_) k
  exact R_icmp_ne dX13_teacher_35 (by decide) (fun _ _ _ k => k) (fun _ _ _ k => k) k
theorem bX13_teacher_38 {G : Gt} {d bc bs : Nat} {Q : QT} {l : Ls} {z : List Value} {h : Hp} (k : (fun l z h => T G d bc bs mX13_teacher 105 l z h Q) l z h) : T G d bc bs mX13_teacher 38 l z h Q := by
  exact R_goto dX13_teacher_38 (by decide) (fun _ _ _ k => k) k
theorem bX13_teacher_41 {G : Gt} {d bc bs : Nat} {Q : QT} {l : Ls} {z : List Value} {h : Hp} (k : (tAld 0 (tIld 1 (tCV1 G d 0 0 11 mX13_doPart (fun l z h => T G d bc bs mX13_teacher 46 l z h Q)))) l z h) : T G d bc bs mX13_teacher 41 l z h Q := by
  refine R_aload_n dX13_teacher_41 rfl (fun l z h k => ?_) k
  refine R_iload_n dX13_teacher_42 rfl (fun l z h k => ?_) k
  exact R_cv1 (M := mX13_teacher) (pc := 43) (bc := bc) (bs := bs) (cb := 0) (cs := 0) (M' := mX13_doPart) dX13_teacher_43 rfl (by decide) w_1862 w_144 w_1859 w_1861 w_88 (by decide +kernel) (fun _ _ _ k => k) k
theorem bX13_teacher_46 {G : Gt} {d bc bs : Nat} {Q : QT} {l : Ls} {z : List Value} {h : Hp} (k : (tIld 3 (tPush (.int (-1)) (tIf2 (fun x y => x = y) (fun l z h => T G d bc bs mX13_teacher 62 l z h Q) (fun l z h => T G d bc bs mX13_teacher 51 l z h Q)))) l z h) : T G d bc bs mX13_teacher 46 l z h Q := by
  refine R_iload_n dX13_teacher_46 rfl (fun l z h k => ?_) k
  refine R_iconst dX13_teacher_47 (by decide) (fun l z h k => ?_) k
  exact R_icmp_eq dX13_teacher_48 (by decide) (fun _ _ _ k => k) (fun _ _ _ k => k) k
theorem bX13_teacher_51 {G : Gt} {d bc bs : Nat} {Q : QT} {l : Ls} {z : List Value} {h : Hp} (k : (tAld 0 (tIld 3 (tCV1 G d 0 0 11 mX13_doPart (fun l z h => T G d bc bs mX13_teacher 56 l z h Q)))) l z h) : T G d bc bs mX13_teacher 51 l z h Q := by
  refine R_aload_n dX13_teacher_51 rfl (fun l z h k => ?_) k
  refine R_iload_n dX13_teacher_52 rfl (fun l z h k => ?_) k
  exact R_cv1 (M := mX13_teacher) (pc := 53) (bc := bc) (bs := bs) (cb := 0) (cs := 0) (M' := mX13_doPart) dX13_teacher_53 rfl (by decide) w_1862 w_144 w_1859 w_1861 w_88 (by decide +kernel) (fun _ _ _ k => k) k
theorem bX13_teacher_56 {G : Gt} {d bc bs : Nat} {Q : QT} {l : Ls} {z : List Value} {h : Hp} (k : (tAld 0 (tIld 1 (tIld 3 (tCV2 G d 0 0 11 mX13_doMeet (fun l z h => T G d bc bs mX13_teacher 62 l z h Q))))) l z h) : T G d bc bs mX13_teacher 56 l z h Q := by
  refine R_aload_n dX13_teacher_56 rfl (fun l z h k => ?_) k
  refine R_iload_n dX13_teacher_57 rfl (fun l z h k => ?_) k
  refine R_iload_n dX13_teacher_58 rfl (fun l z h k => ?_) k
  exact R_cv2 (M := mX13_teacher) (pc := 59) (bc := bc) (bs := bs) (cb := 0) (cs := 0) (M' := mX13_doMeet) dX13_teacher_59 rfl (by decide) w_1858 w_144 w_1855 w_1857 w_87 (by decide +kernel) (fun _ _ _ k => k) k
theorem bX13_teacher_62 {G : Gt} {d bc bs : Nat} {Q : QT} {l : Ls} {z : List Value} {h : Hp} (k : (tAld 0 (tPush (.int 1) (tIld 1 (tB (fun x y => x <<< (y &&& 31)) (tPush (.int 100) (tCV2 G d 0 0 11 mX13_daysTill (fun l z h => T G d bc bs mX13_teacher 71 l z h Q))))))) l z h) : T G d bc bs mX13_teacher 62 l z h Q := by
  refine R_aload_n dX13_teacher_62 rfl (fun l z h k => ?_) k
  refine R_iconst dX13_teacher_63 (by decide) (fun l z h k => ?_) k
  refine R_iload_n dX13_teacher_64 rfl (fun l z h k => ?_) k
  refine R_ishl dX13_teacher_65 (fun l z h k => ?_) k
  refine R_bipush dX13_teacher_66 (by decide) (fun l z h k => ?_) k
  exact R_cv2 (M := mX13_teacher) (pc := 68) (bc := bc) (bs := bs) (cb := 0) (cs := 0) (M' := mX13_daysTill) dX13_teacher_68 rfl (by decide) w_1921 w_144 w_1918 w_1920 w_94 (by decide +kernel) (fun _ _ _ k => k) k
theorem bX13_teacher_71 {G : Gt} {d bc bs : Nat} {Q : QT} {l : Ls} {z : List Value} {h : Hp} (k : (tIst 4 (tAld 0 (tCV0 G d 0 0 11 mX13_takeBack (fun l z h => T G d bc bs mX13_teacher 77 l z h Q)))) l z h) : T G d bc bs mX13_teacher 71 l z h Q := by
  refine R_istore dX13_teacher_71 (by decide) (fun l z h k => ?_) k
  refine R_aload_n dX13_teacher_73 rfl (fun l z h k => ?_) k
  exact R_cv0 (M := mX13_teacher) (pc := 74) (bc := bc) (bs := bs) (cb := 0) (cs := 0) (M' := mX13_takeBack) dX13_teacher_74 rfl (by decide) w_1941 w_144 w_1938 w_1940 w_98 (by decide +kernel) (fun _ _ _ k => k) k
theorem bX13_teacher_77 {G : Gt} {d bc bs : Nat} {Q : QT} {l : Ls} {z : List Value} {h : Hp} (k : (tIld 4 (tPush (.int (-1)) (tIf2 (fun x y => x = y) (fun l z h => T G d bc bs mX13_teacher 105 l z h Q) (fun l z h => T G d bc bs mX13_teacher 83 l z h Q)))) l z h) : T G d bc bs mX13_teacher 77 l z h Q := by
  refine R_iload dX13_teacher_77 (fun l z h k => ?_) k
  refine R_iconst dX13_teacher_79 (by decide) (fun l z h k => ?_) k
  exact R_icmp_eq dX13_teacher_80 (by decide) (fun _ _ _ k => k) (fun _ _ _ k => k) k
theorem bX13_teacher_83 {G : Gt} {d bc bs : Nat} {Q : QT} {l : Ls} {z : List Value} {h : Hp} (k : (tIld 2 (tPush (.int (-1)) (tIf2 (fun x y => x = y) (fun l z h => T G d bc bs mX13_teacher 97 l z h Q) (fun l z h => T G d bc bs mX13_teacher 88 l z h Q)))) l z h) : T G d bc bs mX13_teacher 83 l z h Q := by
  refine R_iload_n dX13_teacher_83 rfl (fun l z h k => ?_) k
  refine R_iconst dX13_teacher_84 (by decide) (fun l z h k => ?_) k
  exact R_icmp_eq dX13_teacher_85 (by decide) (fun _ _ _ k => k) (fun _ _ _ k => k) k
theorem bX13_teacher_88 {G : Gt} {d bc bs : Nat} {Q : QT} {l : Ls} {z : List Value} {h : Hp} (k : (tIld 4 (tIld 2 (tIf2 (fun x y => x < y) (fun l z h => T G d bc bs mX13_teacher 97 l z h Q) (fun l z h => T G d bc bs mX13_teacher 94 l z h Q)))) l z h) : T G d bc bs mX13_teacher 88 l z h Q := by
  refine R_iload dX13_teacher_88 (fun l z h k => ?_) k
  refine R_iload_n dX13_teacher_90 rfl (fun l z h k => ?_) k
  exact R_icmp_lt dX13_teacher_91 (by decide) (fun _ _ _ k => k) (fun _ _ _ k => k) k
theorem bX13_teacher_94 {G : Gt} {d bc bs : Nat} {Q : QT} {l : Ls} {z : List Value} {h : Hp} (k : (fun l z h => T G d bc bs mX13_teacher 105 l z h Q) l z h) : T G d bc bs mX13_teacher 94 l z h Q := by
  exact R_goto dX13_teacher_94 (by decide) (fun _ _ _ k => k) k
theorem bX13_teacher_97 {G : Gt} {d bc bs : Nat} {Q : QT} {l : Ls} {z : List Value} {h : Hp} (k : (tIld 4 (tIst 2 (tAld 0 (tIld 3 (tPutf isI 11 27 ((fun l z h => T G d bc bs mX13_teacher 105 l z h Q))))))) l z h) : T G d bc bs mX13_teacher 97 l z h Q := by
  refine R_iload dX13_teacher_97 (fun l z h k => ?_) k
  refine R_istore_n dX13_teacher_99 rfl (by decide) (fun l z h k => ?_) k
  refine R_aload_n dX13_teacher_100 rfl (fun l z h k => ?_) k
  refine R_iload_n dX13_teacher_101 rfl (fun l z h k => ?_) k
  refine R_putf (ci := 11) (f := 27) (C := RX13) (N := 49) (Tt := TX13) tyX13 tyX13_ok nmX13 dX13_teacher_102 rfl i_X13 (by decide) w_1494 rfl (tyX13_ok 27 (by decide)) p_int (fun l z h k => ?_) k
  exact k
theorem bX13_teacher_105 {G : Gt} {d bc bs : Nat} {Q : QT} {l : Ls} {z : List Value} {h : Hp} (k : (tInc 3 1 ((fun l z h => T G d bc bs mX13_teacher 23 l z h Q))) l z h) : T G d bc bs mX13_teacher 105 l z h Q := by
  refine R_iinc dX13_teacher_105 (by decide) (by decide) (fun l z h k => ?_) k
  exact R_goto dX13_teacher_108 (by decide) (fun _ _ _ k => k) k
theorem bX13_teacher_111 {G : Gt} {d bc bs : Nat} {Q : QT} {l : Ls} {z : List Value} {h : Hp} (k : (tIld 2 (tRetI Q)) l z h) : T G d bc bs mX13_teacher 111 l z h Q := by
  refine R_iload_n dX13_teacher_111 rfl (fun l z h k => ?_) k
  exact R_iret dX13_teacher_112 rfl k
theorem dX13_taught_0 : decode cX13_taught 0 = .ok (.aload_n 0, 1) := by decide +kernel
theorem dX13_taught_1 : decode cX13_taught 1 = .ok (.iconst 0, 1) := by decide +kernel
theorem dX13_taught_2 : decode cX13_taught 2 = .ok (.putfield 85, 3) := by decide +kernel
theorem dX13_taught_5 : decode cX13_taught 5 = .ok (.aload_n 0, 1) := by decide +kernel
theorem dX13_taught_6 : decode cX13_taught 6 = .ok (.getfield 51, 3) := by decide +kernel
theorem dX13_taught_9 : decode cX13_taught 9 = .ok (.ireturn, 1) := by decide +kernel
theorem bX13_taught_0 {G : Gt} {d bc bs : Nat} {Q : QT} {l : Ls} {z : List Value} {h : Hp} (k : (tAld 0 (tPush (.int 0) (tPutf isI 11 0 (tAld 0 (tGetf 11 27 (tRetI Q)))))) l z h) : T G d bc bs mX13_taught 0 l z h Q := by
  refine R_aload_n dX13_taught_0 rfl (fun l z h k => ?_) k
  refine R_iconst dX13_taught_1 (by decide) (fun l z h k => ?_) k
  refine R_putf (ci := 11) (f := 0) (C := RX13) (N := 49) (Tt := TX13) tyX13 tyX13_ok nmX13 dX13_taught_2 rfl i_X13 (by decide) w_1467 rfl (tyX13_ok 0 (by decide)) p_int (fun l z h k => ?_) k
  refine R_aload_n dX13_taught_5 rfl (fun l z h k => ?_) k
  refine R_getf (ci := 11) (f := 27) (C := RX13) (N := 49) (Tt := TX13) dX13_taught_6 rfl i_X13 (by decide) w_1494 (fun l z h k => ?_) k
  exact R_iret dX13_taught_9 rfl k
theorem dX13_pairFrom_0 : decode cX13_pairFrom 0 = .ok (.iconst 0, 1) := by decide +kernel
theorem dX13_pairFrom_1 : decode cX13_pairFrom 1 = .ok (.istore_n 3, 1) := by decide +kernel
theorem dX13_pairFrom_2 : decode cX13_pairFrom 2 = .ok (.iload_n 3, 1) := by decide +kernel
theorem dX13_pairFrom_3 : decode cX13_pairFrom 3 = .ok (.bipush 8, 2) := by decide +kernel
theorem dX13_pairFrom_5 : decode cX13_pairFrom 5 = .ok (.if_icmp .ge 17, 3) := by decide +kernel
theorem dX13_pairFrom_8 : decode cX13_pairFrom 8 = .ok (.iload_n 1, 1) := by decide +kernel
theorem dX13_pairFrom_9 : decode cX13_pairFrom 9 = .ok (.iload_n 3, 1) := by decide +kernel
theorem dX13_pairFrom_10 : decode cX13_pairFrom 10 = .ok (.invokestatic 338, 3) := by decide +kernel
theorem dX13_pairFrom_13 : decode cX13_pairFrom 13 = .ok (.ifCond .ne 9, 3) := by decide +kernel
theorem dX13_pairFrom_16 : decode cX13_pairFrom 16 = .ok (.iinc 3 1, 3) := by decide +kernel
theorem dX13_pairFrom_19 : decode cX13_pairFrom 19 = .ok (.goto (-17), 3) := by decide +kernel
theorem dX13_pairFrom_22 : decode cX13_pairFrom 22 = .ok (.iload_n 3, 1) := by decide +kernel
theorem dX13_pairFrom_23 : decode cX13_pairFrom 23 = .ok (.bipush 8, 2) := by decide +kernel
theorem dX13_pairFrom_25 : decode cX13_pairFrom 25 = .ok (.if_icmp .ne 104, 3) := by decide +kernel
theorem dX13_pairFrom_28 : decode cX13_pairFrom 28 = .ok (.iconst 0, 1) := by decide +kernel
theorem dX13_pairFrom_29 : decode cX13_pairFrom 29 = .ok (.istore 4, 2) := by decide +kernel
theorem dX13_pairFrom_31 : decode cX13_pairFrom 31 = .ok (.iload 4, 2) := by decide +kernel
theorem dX13_pairFrom_33 : decode cX13_pairFrom 33 = .ok (.bipush 8, 2) := by decide +kernel
theorem dX13_pairFrom_35 : decode cX13_pairFrom 35 = .ok (.if_icmp .ge 27, 3) := by decide +kernel
theorem dX13_pairFrom_38 : decode cX13_pairFrom 38 = .ok (.aload_n 0, 1) := by decide +kernel
theorem dX13_pairFrom_39 : decode cX13_pairFrom 39 = .ok (.getfield 13, 3) := by decide +kernel
theorem dX13_pairFrom_42 : decode cX13_pairFrom 42 = .ok (.sipush 183, 3) := by decide +kernel
theorem dX13_pairFrom_45 : decode cX13_pairFrom 45 = .ok (.iload 4, 2) := by decide +kernel
theorem dX13_pairFrom_47 : decode cX13_pairFrom 47 = .ok (.iadd, 1) := by decide +kernel
theorem dX13_pairFrom_48 : decode cX13_pairFrom 48 = .ok (.aload_n 0, 1) := by decide +kernel
theorem dX13_pairFrom_49 : decode cX13_pairFrom 49 = .ok (.getfield 55, 3) := by decide +kernel
theorem dX13_pairFrom_52 : decode cX13_pairFrom 52 = .ok (.iload 4, 2) := by decide +kernel
theorem dX13_pairFrom_54 : decode cX13_pairFrom 54 = .ok (.iaload, 1) := by decide +kernel
theorem dX13_pairFrom_55 : decode cX13_pairFrom 55 = .ok (.iastore, 1) := by decide +kernel
theorem dX13_pairFrom_56 : decode cX13_pairFrom 56 = .ok (.iinc 4 1, 3) := by decide +kernel
theorem dX13_pairFrom_59 : decode cX13_pairFrom 59 = .ok (.goto (-28), 3) := by decide +kernel
theorem dX13_pairFrom_62 : decode cX13_pairFrom 62 = .ok (.aload_n 0, 1) := by decide +kernel
theorem dX13_pairFrom_63 : decode cX13_pairFrom 63 = .ok (.iload_n 2, 1) := by decide +kernel
theorem dX13_pairFrom_64 : decode cX13_pairFrom 64 = .ok (.aload_n 0, 1) := by decide +kernel
theorem dX13_pairFrom_65 : decode cX13_pairFrom 65 = .ok (.getfield 341, 3) := by decide +kernel
theorem dX13_pairFrom_68 : decode cX13_pairFrom 68 = .ok (.iconst 1, 1) := by decide +kernel
theorem dX13_pairFrom_69 : decode cX13_pairFrom 69 = .ok (.isub, 1) := by decide +kernel
theorem dX13_pairFrom_70 : decode cX13_pairFrom 70 = .ok (.invokevirtual 329, 3) := by decide +kernel
theorem dX13_pairFrom_73 : decode cX13_pairFrom 73 = .ok (.istore 4, 2) := by decide +kernel
theorem dX13_pairFrom_75 : decode cX13_pairFrom 75 = .ok (.iload 4, 2) := by decide +kernel
theorem dX13_pairFrom_77 : decode cX13_pairFrom 77 = .ok (.iconst (-1), 1) := by decide +kernel
theorem dX13_pairFrom_78 : decode cX13_pairFrom 78 = .ok (.if_icmp .ne 4, 3) := by decide +kernel
theorem dX13_pairFrom_81 : decode cX13_pairFrom 81 = .ok (.return_, 1) := by decide +kernel
theorem dX13_pairFrom_82 : decode cX13_pairFrom 82 = .ok (.aload_n 0, 1) := by decide +kernel
theorem dX13_pairFrom_83 : decode cX13_pairFrom 83 = .ok (.iload 4, 2) := by decide +kernel
theorem dX13_pairFrom_85 : decode cX13_pairFrom 85 = .ok (.putfield 341, 3) := by decide +kernel
theorem dX13_pairFrom_88 : decode cX13_pairFrom 88 = .ok (.iconst 0, 1) := by decide +kernel
theorem dX13_pairFrom_89 : decode cX13_pairFrom 89 = .ok (.istore 5, 2) := by decide +kernel
theorem dX13_pairFrom_91 : decode cX13_pairFrom 91 = .ok (.iload 5, 2) := by decide +kernel
theorem dX13_pairFrom_93 : decode cX13_pairFrom 93 = .ok (.bipush 8, 2) := by decide +kernel
theorem dX13_pairFrom_95 : decode cX13_pairFrom 95 = .ok (.if_icmp .ge 23, 3) := by decide +kernel
theorem dX13_pairFrom_98 : decode cX13_pairFrom 98 = .ok (.aload_n 0, 1) := by decide +kernel
theorem dX13_pairFrom_99 : decode cX13_pairFrom 99 = .ok (.getfield 58, 3) := by decide +kernel
theorem dX13_pairFrom_102 : decode cX13_pairFrom 102 = .ok (.iload 5, 2) := by decide +kernel
theorem dX13_pairFrom_104 : decode cX13_pairFrom 104 = .ok (.aload_n 0, 1) := by decide +kernel
theorem dX13_pairFrom_105 : decode cX13_pairFrom 105 = .ok (.getfield 55, 3) := by decide +kernel
theorem dX13_pairFrom_108 : decode cX13_pairFrom 108 = .ok (.iload 5, 2) := by decide +kernel
theorem dX13_pairFrom_110 : decode cX13_pairFrom 110 = .ok (.iaload, 1) := by decide +kernel
theorem dX13_pairFrom_111 : decode cX13_pairFrom 111 = .ok (.iastore, 1) := by decide +kernel
theorem dX13_pairFrom_112 : decode cX13_pairFrom 112 = .ok (.iinc 5 1, 3) := by decide +kernel
theorem dX13_pairFrom_115 : decode cX13_pairFrom 115 = .ok (.goto (-24), 3) := by decide +kernel
theorem dX13_pairFrom_118 : decode cX13_pairFrom 118 = .ok (.aload_n 0, 1) := by decide +kernel
theorem dX13_pairFrom_119 : decode cX13_pairFrom 119 = .ok (.aload_n 0, 1) := by decide +kernel
theorem dX13_pairFrom_120 : decode cX13_pairFrom 120 = .ok (.getfield 13, 3) := by decide +kernel
theorem dX13_pairFrom_123 : decode cX13_pairFrom 123 = .ok (.iconst 1, 1) := by decide +kernel
theorem dX13_pairFrom_124 : decode cX13_pairFrom 124 = .ok (.iaload, 1) := by decide +kernel
theorem dX13_pairFrom_125 : decode cX13_pairFrom 125 = .ok (.putfield 344, 3) := by decide +kernel
theorem dX13_pairFrom_128 : decode cX13_pairFrom 128 = .ok (.return_, 1) := by decide +kernel
theorem dX13_pairFrom_129 : decode cX13_pairFrom 129 = .ok (.iload_n 3, 1) := by decide +kernel
theorem dX13_pairFrom_130 : decode cX13_pairFrom 130 = .ok (.iconst 1, 1) := by decide +kernel
theorem dX13_pairFrom_131 : decode cX13_pairFrom 131 = .ok (.iadd, 1) := by decide +kernel
theorem dX13_pairFrom_132 : decode cX13_pairFrom 132 = .ok (.istore 4, 2) := by decide +kernel
theorem dX13_pairFrom_134 : decode cX13_pairFrom 134 = .ok (.iload 4, 2) := by decide +kernel
theorem dX13_pairFrom_136 : decode cX13_pairFrom 136 = .ok (.bipush 8, 2) := by decide +kernel
theorem dX13_pairFrom_138 : decode cX13_pairFrom 138 = .ok (.if_icmp .ge 64, 3) := by decide +kernel
theorem dX13_pairFrom_141 : decode cX13_pairFrom 141 = .ok (.iload_n 1, 1) := by decide +kernel
theorem dX13_pairFrom_142 : decode cX13_pairFrom 142 = .ok (.iload 4, 2) := by decide +kernel
theorem dX13_pairFrom_144 : decode cX13_pairFrom 144 = .ok (.invokestatic 338, 3) := by decide +kernel
theorem dX13_pairFrom_147 : decode cX13_pairFrom 147 = .ok (.ifCond .ne 6, 3) := by decide +kernel
theorem dX13_pairFrom_150 : decode cX13_pairFrom 150 = .ok (.goto 46, 3) := by decide +kernel
theorem dX13_pairFrom_153 : decode cX13_pairFrom 153 = .ok (.aload_n 0, 1) := by decide +kernel
theorem dX13_pairFrom_154 : decode cX13_pairFrom 154 = .ok (.getfield 55, 3) := by decide +kernel
theorem dX13_pairFrom_157 : decode cX13_pairFrom 157 = .ok (.iload_n 3, 1) := by decide +kernel
theorem dX13_pairFrom_158 : decode cX13_pairFrom 158 = .ok (.iload 4, 2) := by decide +kernel
theorem dX13_pairFrom_160 : decode cX13_pairFrom 160 = .ok (.iastore, 1) := by decide +kernel
theorem dX13_pairFrom_161 : decode cX13_pairFrom 161 = .ok (.aload_n 0, 1) := by decide +kernel
theorem dX13_pairFrom_162 : decode cX13_pairFrom 162 = .ok (.getfield 55, 3) := by decide +kernel
theorem dX13_pairFrom_165 : decode cX13_pairFrom 165 = .ok (.iload 4, 2) := by decide +kernel
theorem dX13_pairFrom_167 : decode cX13_pairFrom 167 = .ok (.iload_n 3, 1) := by decide +kernel
theorem dX13_pairFrom_168 : decode cX13_pairFrom 168 = .ok (.iastore, 1) := by decide +kernel
theorem dX13_pairFrom_169 : decode cX13_pairFrom 169 = .ok (.aload_n 0, 1) := by decide +kernel
theorem dX13_pairFrom_170 : decode cX13_pairFrom 170 = .ok (.iload_n 1, 1) := by decide +kernel
theorem dX13_pairFrom_171 : decode cX13_pairFrom 171 = .ok (.iconst 1, 1) := by decide +kernel
theorem dX13_pairFrom_172 : decode cX13_pairFrom 172 = .ok (.iload_n 3, 1) := by decide +kernel
theorem dX13_pairFrom_173 : decode cX13_pairFrom 173 = .ok (.ishl, 1) := by decide +kernel
theorem dX13_pairFrom_174 : decode cX13_pairFrom 174 = .ok (.iconst (-1), 1) := by decide +kernel
theorem dX13_pairFrom_175 : decode cX13_pairFrom 175 = .ok (.ixor, 1) := by decide +kernel
theorem dX13_pairFrom_176 : decode cX13_pairFrom 176 = .ok (.iand, 1) := by decide +kernel
theorem dX13_pairFrom_177 : decode cX13_pairFrom 177 = .ok (.iconst 1, 1) := by decide +kernel
theorem dX13_pairFrom_178 : decode cX13_pairFrom 178 = .ok (.iload 4, 2) := by decide +kernel
theorem dX13_pairFrom_180 : decode cX13_pairFrom 180 = .ok (.ishl, 1) := by decide +kernel
theorem dX13_pairFrom_181 : decode cX13_pairFrom 181 = .ok (.iconst (-1), 1) := by decide +kernel
theorem dX13_pairFrom_182 : decode cX13_pairFrom 182 = .ok (.ixor, 1) := by decide +kernel
theorem dX13_pairFrom_183 : decode cX13_pairFrom 183 = .ok (.iand, 1) := by decide +kernel
theorem dX13_pairFrom_184 : decode cX13_pairFrom 184 = .ok (.iload_n 2, 1) := by decide +kernel
theorem dX13_pairFrom_185 : decode cX13_pairFrom 185 = .ok (.invokevirtual 347, 3) := by decide +kernel
theorem dX13_pairFrom_188 : decode cX13_pairFrom 188 = .ok (.aload_n 0, 1) := by decide +kernel
theorem dX13_pairFrom_189 : decode cX13_pairFrom 189 = .ok (.getfield 55, 3) := by decide +kernel
theorem dX13_pairFrom_192 : decode cX13_pairFrom 192 = .ok (.iload 4, 2) := by decide +kernel
theorem dX13_pairFrom_194 : decode cX13_pairFrom 194 = .ok (.iconst (-1), 1) := by decide +kernel
theorem dX13_pairFrom_195 : decode cX13_pairFrom 195 = .ok (.iastore, 1) := by decide +kernel
theorem dX13_pairFrom_196 : decode cX13_pairFrom 196 = .ok (.iinc 4 1, 3) := by decide +kernel
theorem dX13_pairFrom_199 : decode cX13_pairFrom 199 = .ok (.goto (-65), 3) := by decide +kernel
theorem dX13_pairFrom_202 : decode cX13_pairFrom 202 = .ok (.aload_n 0, 1) := by decide +kernel
theorem dX13_pairFrom_203 : decode cX13_pairFrom 203 = .ok (.getfield 55, 3) := by decide +kernel
theorem dX13_pairFrom_206 : decode cX13_pairFrom 206 = .ok (.iload_n 3, 1) := by decide +kernel
theorem dX13_pairFrom_207 : decode cX13_pairFrom 207 = .ok (.iconst (-1), 1) := by decide +kernel
theorem dX13_pairFrom_208 : decode cX13_pairFrom 208 = .ok (.iastore, 1) := by decide +kernel
theorem dX13_pairFrom_209 : decode cX13_pairFrom 209 = .ok (.aload_n 0, 1) := by decide +kernel
theorem dX13_pairFrom_210 : decode cX13_pairFrom 210 = .ok (.iload_n 1, 1) := by decide +kernel
theorem dX13_pairFrom_211 : decode cX13_pairFrom 211 = .ok (.iconst 1, 1) := by decide +kernel
theorem dX13_pairFrom_212 : decode cX13_pairFrom 212 = .ok (.iload_n 3, 1) := by decide +kernel
theorem dX13_pairFrom_213 : decode cX13_pairFrom 213 = .ok (.ishl, 1) := by decide +kernel
theorem dX13_pairFrom_214 : decode cX13_pairFrom 214 = .ok (.iconst (-1), 1) := by decide +kernel
theorem dX13_pairFrom_215 : decode cX13_pairFrom 215 = .ok (.ixor, 1) := by decide +kernel
theorem dX13_pairFrom_216 : decode cX13_pairFrom 216 = .ok (.iand, 1) := by decide +kernel
theorem dX13_pairFrom_217 : decode cX13_pairFrom 217 = .ok (.iload_n 2, 1) := by decide +kernel
theorem dX13_pairFrom_218 : decode cX13_pairFrom 218 = .ok (.invokevirtual 347, 3) := by decide +kernel
theorem dX13_pairFrom_221 : decode cX13_pairFrom 221 = .ok (.return_, 1) := by decide +kernel
theorem bX13_pairFrom_0 {G : Gt} {d bc bs : Nat} {Q : QT} {l : Ls} {z : List Value} {h : Hp} (k : (tPush (.int 0) (tIst 3 ((fun l z h => T G d bc bs mX13_pairFrom 2 l z h Q)))) l z h) : T G d bc bs mX13_pairFrom 0 l z h Q := by
  refine R_iconst dX13_pairFrom_0 (by decide) (fun l z h k => ?_) k
  refine R_istore_n dX13_pairFrom_1 rfl (by decide) (fun l z h k => ?_) k
  exact k
theorem bX13_pairFrom_2 {G : Gt} {d bc bs : Nat} {Q : QT} {l : Ls} {z : List Value} {h : Hp} (k : (tIld 3 (tPush (.int 8) (tIf2 (fun x y => y ≤ x) (fun l z h => T G d bc bs mX13_pairFrom 22 l z h Q) (fun l z h => T G d bc bs mX13_pairFrom 8 l z h Q)))) l z h) : T G d bc bs mX13_pairFrom 2 l z h Q := by
  refine R_iload_n dX13_pairFrom_2 rfl (fun l z h k => ?_) k
  refine R_bipush dX13_pairFrom_3 (by decide) (fun l z h k => ?_) k
  exact R_icmp_ge dX13_pairFrom_5 (by decide) (fun _ _ _ k => k) (fun _ _ _ k => k) k
theorem bX13_pairFrom_8 {G : Gt} {d bc bs : Nat} {Q : QT} {l : Ls} {z : List Value} {h : Hp} (k : (tIld 1 (tIld 3 (tCS2 G d 0 0 mX13_has (fun l z h => T G d bc bs mX13_pairFrom 13 l z h Q)))) l z h) : T G d bc bs mX13_pairFrom 8 l z h Q := by
  refine R_iload_n dX13_pairFrom_8 rfl (fun l z h k => ?_) k
  refine R_iload_n dX13_pairFrom_9 rfl (fun l z h k => ?_) k
  exact R_cs2 (M := mX13_pairFrom) (pc := 10) (bc := bc) (bs := bs) (cb := 0) (cs := 0) (M' := mX13_has) dX13_pairFrom_10 (by decide) w_1956 w_144 w_1954 w_1955 (by decide +kernel) (fun _ _ _ k => k) k
theorem bX13_pairFrom_13 {G : Gt} {d bc bs : Nat} {Q : QT} {l : Ls} {z : List Value} {h : Hp} (k : (tIf (fun x => x = 0) (fun l z h => T G d bc bs mX13_pairFrom 16 l z h Q) (fun l z h => T G d bc bs mX13_pairFrom 22 l z h Q)) l z h) : T G d bc bs mX13_pairFrom 13 l z h Q := by
  exact R_if_ne dX13_pairFrom_13 (by decide) (fun _ _ _ k => k) (fun _ _ _ k => k) k
theorem bX13_pairFrom_16 {G : Gt} {d bc bs : Nat} {Q : QT} {l : Ls} {z : List Value} {h : Hp} (k : (tInc 3 1 ((fun l z h => T G d bc bs mX13_pairFrom 2 l z h Q))) l z h) : T G d bc bs mX13_pairFrom 16 l z h Q := by
  refine R_iinc dX13_pairFrom_16 (by decide) (by decide) (fun l z h k => ?_) k
  exact R_goto dX13_pairFrom_19 (by decide) (fun _ _ _ k => k) k
theorem bX13_pairFrom_22 {G : Gt} {d bc bs : Nat} {Q : QT} {l : Ls} {z : List Value} {h : Hp} (k : (tIld 3 (tPush (.int 8) (tIf2 (fun x y => x = y) (fun l z h => T G d bc bs mX13_pairFrom 28 l z h Q) (fun l z h => T G d bc bs mX13_pairFrom 129 l z h Q)))) l z h) : T G d bc bs mX13_pairFrom 22 l z h Q := by
  refine R_iload_n dX13_pairFrom_22 rfl (fun l z h k => ?_) k
  refine R_bipush dX13_pairFrom_23 (by decide) (fun l z h k => ?_) k
  exact R_icmp_ne dX13_pairFrom_25 (by decide) (fun _ _ _ k => k) (fun _ _ _ k => k) k
theorem bX13_pairFrom_28 {G : Gt} {d bc bs : Nat} {Q : QT} {l : Ls} {z : List Value} {h : Hp} (k : (tPush (.int 0) (tIst 4 ((fun l z h => T G d bc bs mX13_pairFrom 31 l z h Q)))) l z h) : T G d bc bs mX13_pairFrom 28 l z h Q := by
  refine R_iconst dX13_pairFrom_28 (by decide) (fun l z h k => ?_) k
  refine R_istore dX13_pairFrom_29 (by decide) (fun l z h k => ?_) k
  exact k
theorem bX13_pairFrom_31 {G : Gt} {d bc bs : Nat} {Q : QT} {l : Ls} {z : List Value} {h : Hp} (k : (tIld 4 (tPush (.int 8) (tIf2 (fun x y => y ≤ x) (fun l z h => T G d bc bs mX13_pairFrom 62 l z h Q) (fun l z h => T G d bc bs mX13_pairFrom 38 l z h Q)))) l z h) : T G d bc bs mX13_pairFrom 31 l z h Q := by
  refine R_iload dX13_pairFrom_31 (fun l z h k => ?_) k
  refine R_bipush dX13_pairFrom_33 (by decide) (fun l z h k => ?_) k
  exact R_icmp_ge dX13_pairFrom_35 (by decide) (fun _ _ _ k => k) (fun _ _ _ k => k) k
theorem bX13_pairFrom_38 {G : Gt} {d bc bs : Nat} {Q : QT} {l : Ls} {z : List Value} {h : Hp} (k : (tAld 0 (tGetf 11 14 (tPush (.int 183) (tIld 4 (tB (fun x y => x + y) (tAld 0 (tGetf 11 28 (tIld 4 (tXald 0 (tXast 0 (tInc 4 1 ((fun l z h => T G d bc bs mX13_pairFrom 31 l z h Q))))))))))))) l z h) : T G d bc bs mX13_pairFrom 38 l z h Q := by
  refine R_aload_n dX13_pairFrom_38 rfl (fun l z h k => ?_) k
  refine R_getf (ci := 11) (f := 14) (C := RX13) (N := 49) (Tt := TX13) dX13_pairFrom_39 rfl i_X13 (by decide) w_1481 (fun l z h k => ?_) k
  refine R_sipush dX13_pairFrom_42 (by decide) (fun l z h k => ?_) k
  refine R_iload dX13_pairFrom_45 (fun l z h k => ?_) k
  refine R_iadd dX13_pairFrom_47 (fun l z h k => ?_) k
  refine R_aload_n dX13_pairFrom_48 rfl (fun l z h k => ?_) k
  refine R_getf (ci := 11) (f := 28) (C := RX13) (N := 49) (Tt := TX13) dX13_pairFrom_49 rfl i_X13 (by decide) w_1495 (fun l z h k => ?_) k
  refine R_iload dX13_pairFrom_52 (fun l z h k => ?_) k
  refine R_iaload dX13_pairFrom_54 (fun l z h k => ?_) k
  refine R_iastore dX13_pairFrom_55 (fun l z h k => ?_) k
  refine R_iinc dX13_pairFrom_56 (by decide) (by decide) (fun l z h k => ?_) k
  exact R_goto dX13_pairFrom_59 (by decide) (fun _ _ _ k => k) k
theorem bX13_pairFrom_62 {G : Gt} {d bc bs : Nat} {Q : QT} {l : Ls} {z : List Value} {h : Hp} (k : (tAld 0 (tIld 2 (tAld 0 (tGetf 11 30 (tPush (.int 1) (tB (fun x y => x - y) (tCV2 G d 0 0 11 mX13_daysTill (fun l z h => T G d bc bs mX13_pairFrom 73 l z h Q)))))))) l z h) : T G d bc bs mX13_pairFrom 62 l z h Q := by
  refine R_aload_n dX13_pairFrom_62 rfl (fun l z h k => ?_) k
  refine R_iload_n dX13_pairFrom_63 rfl (fun l z h k => ?_) k
  refine R_aload_n dX13_pairFrom_64 rfl (fun l z h k => ?_) k
  refine R_getf (ci := 11) (f := 30) (C := RX13) (N := 49) (Tt := TX13) dX13_pairFrom_65 rfl i_X13 (by decide) w_1497 (fun l z h k => ?_) k
  refine R_iconst dX13_pairFrom_68 (by decide) (fun l z h k => ?_) k
  refine R_isub dX13_pairFrom_69 (fun l z h k => ?_) k
  exact R_cv2 (M := mX13_pairFrom) (pc := 70) (bc := bc) (bs := bs) (cb := 0) (cs := 0) (M' := mX13_daysTill) dX13_pairFrom_70 rfl (by decide) w_1921 w_144 w_1918 w_1920 w_94 (by decide +kernel) (fun _ _ _ k => k) k
theorem bX13_pairFrom_73 {G : Gt} {d bc bs : Nat} {Q : QT} {l : Ls} {z : List Value} {h : Hp} (k : (tIst 4 (tIld 4 (tPush (.int (-1)) (tIf2 (fun x y => x = y) (fun l z h => T G d bc bs mX13_pairFrom 81 l z h Q) (fun l z h => T G d bc bs mX13_pairFrom 82 l z h Q))))) l z h) : T G d bc bs mX13_pairFrom 73 l z h Q := by
  refine R_istore dX13_pairFrom_73 (by decide) (fun l z h k => ?_) k
  refine R_iload dX13_pairFrom_75 (fun l z h k => ?_) k
  refine R_iconst dX13_pairFrom_77 (by decide) (fun l z h k => ?_) k
  exact R_icmp_ne dX13_pairFrom_78 (by decide) (fun _ _ _ k => k) (fun _ _ _ k => k) k
theorem bX13_pairFrom_81 {G : Gt} {d bc bs : Nat} {Q : QT} {l : Ls} {z : List Value} {h : Hp} (k : (tRetV Q) l z h) : T G d bc bs mX13_pairFrom 81 l z h Q := by
  exact R_vret dX13_pairFrom_81 rfl k
theorem bX13_pairFrom_82 {G : Gt} {d bc bs : Nat} {Q : QT} {l : Ls} {z : List Value} {h : Hp} (k : (tAld 0 (tIld 4 (tPutf isI 11 30 (tPush (.int 0) (tIst 5 ((fun l z h => T G d bc bs mX13_pairFrom 91 l z h Q))))))) l z h) : T G d bc bs mX13_pairFrom 82 l z h Q := by
  refine R_aload_n dX13_pairFrom_82 rfl (fun l z h k => ?_) k
  refine R_iload dX13_pairFrom_83 (fun l z h k => ?_) k
  refine R_putf (ci := 11) (f := 30) (C := RX13) (N := 49) (Tt := TX13) tyX13 tyX13_ok nmX13 dX13_pairFrom_85 rfl i_X13 (by decide) w_1497 rfl (tyX13_ok 30 (by decide)) p_int (fun l z h k => ?_) k
  refine R_iconst dX13_pairFrom_88 (by decide) (fun l z h k => ?_) k
  refine R_istore dX13_pairFrom_89 (by decide) (fun l z h k => ?_) k
  exact k
theorem bX13_pairFrom_91 {G : Gt} {d bc bs : Nat} {Q : QT} {l : Ls} {z : List Value} {h : Hp} (k : (tIld 5 (tPush (.int 8) (tIf2 (fun x y => y ≤ x) (fun l z h => T G d bc bs mX13_pairFrom 118 l z h Q) (fun l z h => T G d bc bs mX13_pairFrom 98 l z h Q)))) l z h) : T G d bc bs mX13_pairFrom 91 l z h Q := by
  refine R_iload dX13_pairFrom_91 (fun l z h k => ?_) k
  refine R_bipush dX13_pairFrom_93 (by decide) (fun l z h k => ?_) k
  exact R_icmp_ge dX13_pairFrom_95 (by decide) (fun _ _ _ k => k) (fun _ _ _ k => k) k
theorem bX13_pairFrom_98 {G : Gt} {d bc bs : Nat} {Q : QT} {l : Ls} {z : List Value} {h : Hp} (k : (tAld 0 (tGetf 11 29 (tIld 5 (tAld 0 (tGetf 11 28 (tIld 5 (tXald 0 (tXast 0 (tInc 5 1 ((fun l z h => T G d bc bs mX13_pairFrom 91 l z h Q))))))))))) l z h) : T G d bc bs mX13_pairFrom 98 l z h Q := by
  refine R_aload_n dX13_pairFrom_98 rfl (fun l z h k => ?_) k
  refine R_getf (ci := 11) (f := 29) (C := RX13) (N := 49) (Tt := TX13) dX13_pairFrom_99 rfl i_X13 (by decide) w_1496 (fun l z h k => ?_) k
  refine R_iload dX13_pairFrom_102 (fun l z h k => ?_) k
  refine R_aload_n dX13_pairFrom_104 rfl (fun l z h k => ?_) k
  refine R_getf (ci := 11) (f := 28) (C := RX13) (N := 49) (Tt := TX13) dX13_pairFrom_105 rfl i_X13 (by decide) w_1495 (fun l z h k => ?_) k
  refine R_iload dX13_pairFrom_108 (fun l z h k => ?_) k
  refine R_iaload dX13_pairFrom_110 (fun l z h k => ?_) k
  refine R_iastore dX13_pairFrom_111 (fun l z h k => ?_) k
  refine R_iinc dX13_pairFrom_112 (by decide) (by decide) (fun l z h k => ?_) k
  exact R_goto dX13_pairFrom_115 (by decide) (fun _ _ _ k => k) k
theorem bX13_pairFrom_118 {G : Gt} {d bc bs : Nat} {Q : QT} {l : Ls} {z : List Value} {h : Hp} (k : (tAld 0 (tAld 0 (tGetf 11 14 (tPush (.int 1) (tXald 0 (tPutf isI 11 31 (tRetV Q))))))) l z h) : T G d bc bs mX13_pairFrom 118 l z h Q := by
  refine R_aload_n dX13_pairFrom_118 rfl (fun l z h k => ?_) k
  refine R_aload_n dX13_pairFrom_119 rfl (fun l z h k => ?_) k
  refine R_getf (ci := 11) (f := 14) (C := RX13) (N := 49) (Tt := TX13) dX13_pairFrom_120 rfl i_X13 (by decide) w_1481 (fun l z h k => ?_) k
  refine R_iconst dX13_pairFrom_123 (by decide) (fun l z h k => ?_) k
  refine R_iaload dX13_pairFrom_124 (fun l z h k => ?_) k
  refine R_putf (ci := 11) (f := 31) (C := RX13) (N := 49) (Tt := TX13) tyX13 tyX13_ok nmX13 dX13_pairFrom_125 rfl i_X13 (by decide) w_1498 rfl (tyX13_ok 31 (by decide)) p_int (fun l z h k => ?_) k
  exact R_vret dX13_pairFrom_128 rfl k
theorem bX13_pairFrom_129 {G : Gt} {d bc bs : Nat} {Q : QT} {l : Ls} {z : List Value} {h : Hp} (k : (tIld 3 (tPush (.int 1) (tB (fun x y => x + y) (tIst 4 ((fun l z h => T G d bc bs mX13_pairFrom 134 l z h Q)))))) l z h) : T G d bc bs mX13_pairFrom 129 l z h Q := by
  refine R_iload_n dX13_pairFrom_129 rfl (fun l z h k => ?_) k
  refine R_iconst dX13_pairFrom_130 (by decide) (fun l z h k => ?_) k
  refine R_iadd dX13_pairFrom_131 (fun l z h k => ?_) k
  refine R_istore dX13_pairFrom_132 (by decide) (fun l z h k => ?_) k
  exact k
theorem bX13_pairFrom_134 {G : Gt} {d bc bs : Nat} {Q : QT} {l : Ls} {z : List Value} {h : Hp} (k : (tIld 4 (tPush (.int 8) (tIf2 (fun x y => y ≤ x) (fun l z h => T G d bc bs mX13_pairFrom 202 l z h Q) (fun l z h => T G d bc bs mX13_pairFrom 141 l z h Q)))) l z h) : T G d bc bs mX13_pairFrom 134 l z h Q := by
  refine R_iload dX13_pairFrom_134 (fun l z h k => ?_) k
  refine R_bipush dX13_pairFrom_136 (by decide) (fun l z h k => ?_) k
  exact R_icmp_ge dX13_pairFrom_138 (by decide) (fun _ _ _ k => k) (fun _ _ _ k => k) k
theorem bX13_pairFrom_141 {G : Gt} {d bc bs : Nat} {Q : QT} {l : Ls} {z : List Value} {h : Hp} (k : (tIld 1 (tIld 4 (tCS2 G d 0 0 mX13_has (fun l z h => T G d bc bs mX13_pairFrom 147 l z h Q)))) l z h) : T G d bc bs mX13_pairFrom 141 l z h Q := by
  refine R_iload_n dX13_pairFrom_141 rfl (fun l z h k => ?_) k
  refine R_iload dX13_pairFrom_142 (fun l z h k => ?_) k
  exact R_cs2 (M := mX13_pairFrom) (pc := 144) (bc := bc) (bs := bs) (cb := 0) (cs := 0) (M' := mX13_has) dX13_pairFrom_144 (by decide) w_1956 w_144 w_1954 w_1955 (by decide +kernel) (fun _ _ _ k => k) k
theorem bX13_pairFrom_147 {G : Gt} {d bc bs : Nat} {Q : QT} {l : Ls} {z : List Value} {h : Hp} (k : (tIf (fun x => x = 0) (fun l z h => T G d bc bs mX13_pairFrom 150 l z h Q) (fun l z h => T G d bc bs mX13_pairFrom 153 l z h Q)) l z h) : T G d bc bs mX13_pairFrom 147 l z h Q := by
  exact R_if_ne dX13_pairFrom_147 (by decide) (fun _ _ _ k => k) (fun _ _ _ k => k) k
theorem bX13_pairFrom_150 {G : Gt} {d bc bs : Nat} {Q : QT} {l : Ls} {z : List Value} {h : Hp} (k : (fun l z h => T G d bc bs mX13_pairFrom 196 l z h Q) l z h) : T G d bc bs mX13_pairFrom 150 l z h Q := by
  exact R_goto dX13_pairFrom_150 (by decide) (fun _ _ _ k => k) k
theorem bX13_pairFrom_153 {G : Gt} {d bc bs : Nat} {Q : QT} {l : Ls} {z : List Value} {h : Hp} (k : (tAld 0 (tGetf 11 28 (tIld 3 (tIld 4 (tXast 0 (tAld 0 (tGetf 11 28 (tIld 4 (tIld 3 (tXast 0 (tAld 0 (tIld 1 (tPush (.int 1) (tIld 3 (tB (fun x y => x <<< (y &&& 31)) (tPush (.int (-1)) (tB (fun x y => x ^^^ y) (tB (fun x y => x &&& y) (tPush (.int 1) (tIld 4 (tB (fun x y => x <<< (y &&& 31)) (tPush (.int (-1)) (tB (fun x y => x ^^^ y) (tB (fun x y => x &&& y) (tIld 2 (tCV2 G d 0 0 11 mX13_pairFrom (fun l z h => T G d bc bs mX13_pairFrom 188 l z h Q))))))))))))))))))))))))))) l z h) : T G d bc bs mX13_pairFrom 153 l z h Q := by
  refine R_aload_n dX13_pairFrom_153 rfl (fun l z h k => ?_) k
  refine R_getf (ci := 11) (f := 28) (C := RX13) (N := 49) (Tt := TX13) dX13_pairFrom_154 rfl i_X13 (by decide) w_1495 (fun l z h k => ?_) k
  refine R_iload_n dX13_pairFrom_157 rfl (fun l z h k => ?_) k
  refine R_iload dX13_pairFrom_158 (fun l z h k => ?_) k
  refine R_iastore dX13_pairFrom_160 (fun l z h k => ?_) k
  refine R_aload_n dX13_pairFrom_161 rfl (fun l z h k => ?_) k
  refine R_getf (ci := 11) (f := 28) (C := RX13) (N := 49) (Tt := TX13) dX13_pairFrom_162 rfl i_X13 (by decide) w_1495 (fun l z h k => ?_) k
  refine R_iload dX13_pairFrom_165 (fun l z h k => ?_) k
  refine R_iload_n dX13_pairFrom_167 rfl (fun l z h k => ?_) k
  refine R_iastore dX13_pairFrom_168 (fun l z h k => ?_) k
  refine R_aload_n dX13_pairFrom_169 rfl (fun l z h k => ?_) k
  refine R_iload_n dX13_pairFrom_170 rfl (fun l z h k => ?_) k
  refine R_iconst dX13_pairFrom_171 (by decide) (fun l z h k => ?_) k
  refine R_iload_n dX13_pairFrom_172 rfl (fun l z h k => ?_) k
  refine R_ishl dX13_pairFrom_173 (fun l z h k => ?_) k
  refine R_iconst dX13_pairFrom_174 (by decide) (fun l z h k => ?_) k
  refine R_ixor dX13_pairFrom_175 (fun l z h k => ?_) k
  refine R_iand dX13_pairFrom_176 (fun l z h k => ?_) k
  refine R_iconst dX13_pairFrom_177 (by decide) (fun l z h k => ?_) k
  refine R_iload dX13_pairFrom_178 (fun l z h k => ?_) k
  refine R_ishl dX13_pairFrom_180 (fun l z h k => ?_) k
  refine R_iconst dX13_pairFrom_181 (by decide) (fun l z h k => ?_) k
  refine R_ixor dX13_pairFrom_182 (fun l z h k => ?_) k
  refine R_iand dX13_pairFrom_183 (fun l z h k => ?_) k
  refine R_iload_n dX13_pairFrom_184 rfl (fun l z h k => ?_) k
  exact R_cv2 (M := mX13_pairFrom) (pc := 185) (bc := bc) (bs := bs) (cb := 0) (cs := 0) (M' := mX13_pairFrom) dX13_pairFrom_185 rfl (by decide) w_1953 w_144 w_1950 w_1952 w_99 (by decide +kernel) (fun _ _ _ k => k) k
theorem bX13_pairFrom_188 {G : Gt} {d bc bs : Nat} {Q : QT} {l : Ls} {z : List Value} {h : Hp} (k : (tAld 0 (tGetf 11 28 (tIld 4 (tPush (.int (-1)) (tXast 0 ((fun l z h => T G d bc bs mX13_pairFrom 196 l z h Q))))))) l z h) : T G d bc bs mX13_pairFrom 188 l z h Q := by
  refine R_aload_n dX13_pairFrom_188 rfl (fun l z h k => ?_) k
  refine R_getf (ci := 11) (f := 28) (C := RX13) (N := 49) (Tt := TX13) dX13_pairFrom_189 rfl i_X13 (by decide) w_1495 (fun l z h k => ?_) k
  refine R_iload dX13_pairFrom_192 (fun l z h k => ?_) k
  refine R_iconst dX13_pairFrom_194 (by decide) (fun l z h k => ?_) k
  refine R_iastore dX13_pairFrom_195 (fun l z h k => ?_) k
  exact k
theorem bX13_pairFrom_196 {G : Gt} {d bc bs : Nat} {Q : QT} {l : Ls} {z : List Value} {h : Hp} (k : (tInc 4 1 ((fun l z h => T G d bc bs mX13_pairFrom 134 l z h Q))) l z h) : T G d bc bs mX13_pairFrom 196 l z h Q := by
  refine R_iinc dX13_pairFrom_196 (by decide) (by decide) (fun l z h k => ?_) k
  exact R_goto dX13_pairFrom_199 (by decide) (fun _ _ _ k => k) k
theorem bX13_pairFrom_202 {G : Gt} {d bc bs : Nat} {Q : QT} {l : Ls} {z : List Value} {h : Hp} (k : (tAld 0 (tGetf 11 28 (tIld 3 (tPush (.int (-1)) (tXast 0 (tAld 0 (tIld 1 (tPush (.int 1) (tIld 3 (tB (fun x y => x <<< (y &&& 31)) (tPush (.int (-1)) (tB (fun x y => x ^^^ y) (tB (fun x y => x &&& y) (tIld 2 (tCV2 G d 0 0 11 mX13_pairFrom (fun l z h => T G d bc bs mX13_pairFrom 221 l z h Q)))))))))))))))) l z h) : T G d bc bs mX13_pairFrom 202 l z h Q := by
  refine R_aload_n dX13_pairFrom_202 rfl (fun l z h k => ?_) k
  refine R_getf (ci := 11) (f := 28) (C := RX13) (N := 49) (Tt := TX13) dX13_pairFrom_203 rfl i_X13 (by decide) w_1495 (fun l z h k => ?_) k
  refine R_iload_n dX13_pairFrom_206 rfl (fun l z h k => ?_) k
  refine R_iconst dX13_pairFrom_207 (by decide) (fun l z h k => ?_) k
  refine R_iastore dX13_pairFrom_208 (fun l z h k => ?_) k
  refine R_aload_n dX13_pairFrom_209 rfl (fun l z h k => ?_) k
  refine R_iload_n dX13_pairFrom_210 rfl (fun l z h k => ?_) k
  refine R_iconst dX13_pairFrom_211 (by decide) (fun l z h k => ?_) k
  refine R_iload_n dX13_pairFrom_212 rfl (fun l z h k => ?_) k
  refine R_ishl dX13_pairFrom_213 (fun l z h k => ?_) k
  refine R_iconst dX13_pairFrom_214 (by decide) (fun l z h k => ?_) k
  refine R_ixor dX13_pairFrom_215 (fun l z h k => ?_) k
  refine R_iand dX13_pairFrom_216 (fun l z h k => ?_) k
  refine R_iload_n dX13_pairFrom_217 rfl (fun l z h k => ?_) k
  exact R_cv2 (M := mX13_pairFrom) (pc := 218) (bc := bc) (bs := bs) (cb := 0) (cs := 0) (M' := mX13_pairFrom) dX13_pairFrom_218 rfl (by decide) w_1953 w_144 w_1950 w_1952 w_99 (by decide +kernel) (fun _ _ _ k => k) k
theorem bX13_pairFrom_221 {G : Gt} {d bc bs : Nat} {Q : QT} {l : Ls} {z : List Value} {h : Hp} (k : (tRetV Q) l z h) : T G d bc bs mX13_pairFrom 221 l z h Q := by
  exact R_vret dX13_pairFrom_221 rfl k
theorem dX13_school_0 : decode cX13_school 0 = .ok (.aload_n 0, 1) := by decide +kernel
theorem dX13_school_1 : decode cX13_school 1 = .ok (.iconst 0, 1) := by decide +kernel
theorem dX13_school_2 : decode cX13_school 2 = .ok (.putfield 85, 3) := by decide +kernel
theorem dX13_school_5 : decode cX13_school 5 = .ok (.aload_n 0, 1) := by decide +kernel
theorem dX13_school_6 : decode cX13_school 6 = .ok (.invokevirtual 332, 3) := by decide +kernel
theorem dX13_school_9 : decode cX13_school 9 = .ok (.aload_n 0, 1) := by decide +kernel
theorem dX13_school_10 : decode cX13_school 10 = .ok (.iconst 1, 1) := by decide +kernel
theorem dX13_school_11 : decode cX13_school 11 = .ok (.invokevirtual 268, 3) := by decide +kernel
theorem dX13_school_14 : decode cX13_school 14 = .ok (.istore_n 1, 1) := by decide +kernel
theorem dX13_school_15 : decode cX13_school 15 = .ok (.iconst 0, 1) := by decide +kernel
theorem dX13_school_16 : decode cX13_school 16 = .ok (.istore_n 2, 1) := by decide +kernel
theorem dX13_school_17 : decode cX13_school 17 = .ok (.iload_n 2, 1) := by decide +kernel
theorem dX13_school_18 : decode cX13_school 18 = .ok (.bipush 8, 2) := by decide +kernel
theorem dX13_school_20 : decode cX13_school 20 = .ok (.if_icmp .ge 16, 3) := by decide +kernel
theorem dX13_school_23 : decode cX13_school 23 = .ok (.aload_n 0, 1) := by decide +kernel
theorem dX13_school_24 : decode cX13_school 24 = .ok (.getfield 55, 3) := by decide +kernel
theorem dX13_school_27 : decode cX13_school 27 = .ok (.iload_n 2, 1) := by decide +kernel
theorem dX13_school_28 : decode cX13_school 28 = .ok (.iconst (-1), 1) := by decide +kernel
theorem dX13_school_29 : decode cX13_school 29 = .ok (.iastore, 1) := by decide +kernel
theorem dX13_school_30 : decode cX13_school 30 = .ok (.iinc 2 1, 3) := by decide +kernel
theorem dX13_school_33 : decode cX13_school 33 = .ok (.goto (-16), 3) := by decide +kernel
theorem dX13_school_36 : decode cX13_school 36 = .ok (.aload_n 0, 1) := by decide +kernel
theorem dX13_school_37 : decode cX13_school 37 = .ok (.bipush 61, 2) := by decide +kernel
theorem dX13_school_39 : decode cX13_school 39 = .ok (.putfield 341, 3) := by decide +kernel
theorem dX13_school_42 : decode cX13_school 42 = .ok (.aload_n 0, 1) := by decide +kernel
theorem dX13_school_43 : decode cX13_school 43 = .ok (.iload_n 1, 1) := by decide +kernel
theorem dX13_school_44 : decode cX13_school 44 = .ok (.iload_n 1, 1) := by decide +kernel
theorem dX13_school_45 : decode cX13_school 45 = .ok (.invokevirtual 347, 3) := by decide +kernel
theorem dX13_school_48 : decode cX13_school 48 = .ok (.aload_n 0, 1) := by decide +kernel
theorem dX13_school_49 : decode cX13_school 49 = .ok (.invokevirtual 335, 3) := by decide +kernel
theorem dX13_school_52 : decode cX13_school 52 = .ok (.aload_n 0, 1) := by decide +kernel
theorem dX13_school_53 : decode cX13_school 53 = .ok (.getfield 341, 3) := by decide +kernel
theorem dX13_school_56 : decode cX13_school 56 = .ok (.bipush 60, 2) := by decide +kernel
theorem dX13_school_58 : decode cX13_school 58 = .ok (.if_icmp .le 5, 3) := by decide +kernel
theorem dX13_school_61 : decode cX13_school 61 = .ok (.iconst (-1), 1) := by decide +kernel
theorem dX13_school_62 : decode cX13_school 62 = .ok (.ireturn, 1) := by decide +kernel
theorem dX13_school_63 : decode cX13_school 63 = .ok (.aload_n 0, 1) := by decide +kernel
theorem dX13_school_64 : decode cX13_school 64 = .ok (.iconst 1, 1) := by decide +kernel
theorem dX13_school_65 : decode cX13_school 65 = .ok (.putfield 350, 3) := by decide +kernel
theorem dX13_school_68 : decode cX13_school 68 = .ok (.aload_n 0, 1) := by decide +kernel
theorem dX13_school_69 : decode cX13_school 69 = .ok (.getfield 341, 3) := by decide +kernel
theorem dX13_school_72 : decode cX13_school 72 = .ok (.ireturn, 1) := by decide +kernel
theorem bX13_school_0 {G : Gt} {d bc bs : Nat} {Q : QT} {l : Ls} {z : List Value} {h : Hp} (k : (tAld 0 (tPush (.int 0) (tPutf isI 11 0 (tAld 0 (tCV0 G d 0 0 11 mX13_layAside (fun l z h => T G d bc bs mX13_school 9 l z h Q)))))) l z h) : T G d bc bs mX13_school 0 l z h Q := by
  refine R_aload_n dX13_school_0 rfl (fun l z h k => ?_) k
  refine R_iconst dX13_school_1 (by decide) (fun l z h k => ?_) k
  refine R_putf (ci := 11) (f := 0) (C := RX13) (N := 49) (Tt := TX13) tyX13 tyX13_ok nmX13 dX13_school_2 rfl i_X13 (by decide) w_1467 rfl (tyX13_ok 0 (by decide)) p_int (fun l z h k => ?_) k
  refine R_aload_n dX13_school_5 rfl (fun l z h k => ?_) k
  exact R_cv0 (M := mX13_school) (pc := 6) (bc := bc) (bs := bs) (cb := 0) (cs := 0) (M' := mX13_layAside) dX13_school_6 rfl (by decide) w_1937 w_144 w_1934 w_1936 w_97 (by decide +kernel) (fun _ _ _ k => k) k
theorem bX13_school_9 {G : Gt} {d bc bs : Nat} {Q : QT} {l : Ls} {z : List Value} {h : Hp} (k : (tAld 0 (tPush (.int 1) (tCV1 G d 0 0 11 mX13_those (fun l z h => T G d bc bs mX13_school 14 l z h Q)))) l z h) : T G d bc bs mX13_school 9 l z h Q := by
  refine R_aload_n dX13_school_9 rfl (fun l z h k => ?_) k
  refine R_iconst dX13_school_10 (by decide) (fun l z h k => ?_) k
  exact R_cv1 (M := mX13_school) (pc := 11) (bc := bc) (bs := bs) (cb := 0) (cs := 0) (M' := mX13_those) dX13_school_11 rfl (by decide) w_1807 w_144 w_1804 w_1806 w_76 (by decide +kernel) (fun _ _ _ k => k) k
theorem bX13_school_14 {G : Gt} {d bc bs : Nat} {Q : QT} {l : Ls} {z : List Value} {h : Hp} (k : (tIst 1 (tPush (.int 0) (tIst 2 ((fun l z h => T G d bc bs mX13_school 17 l z h Q))))) l z h) : T G d bc bs mX13_school 14 l z h Q := by
  refine R_istore_n dX13_school_14 rfl (by decide) (fun l z h k => ?_) k
  refine R_iconst dX13_school_15 (by decide) (fun l z h k => ?_) k
  refine R_istore_n dX13_school_16 rfl (by decide) (fun l z h k => ?_) k
  exact k
theorem bX13_school_17 {G : Gt} {d bc bs : Nat} {Q : QT} {l : Ls} {z : List Value} {h : Hp} (k : (tIld 2 (tPush (.int 8) (tIf2 (fun x y => y ≤ x) (fun l z h => T G d bc bs mX13_school 36 l z h Q) (fun l z h => T G d bc bs mX13_school 23 l z h Q)))) l z h) : T G d bc bs mX13_school 17 l z h Q := by
  refine R_iload_n dX13_school_17 rfl (fun l z h k => ?_) k
  refine R_bipush dX13_school_18 (by decide) (fun l z h k => ?_) k
  exact R_icmp_ge dX13_school_20 (by decide) (fun _ _ _ k => k) (fun _ _ _ k => k) k
theorem bX13_school_23 {G : Gt} {d bc bs : Nat} {Q : QT} {l : Ls} {z : List Value} {h : Hp} (k : (tAld 0 (tGetf 11 28 (tIld 2 (tPush (.int (-1)) (tXast 0 (tInc 2 1 ((fun l z h => T G d bc bs mX13_school 17 l z h Q)))))))) l z h) : T G d bc bs mX13_school 23 l z h Q := by
  refine R_aload_n dX13_school_23 rfl (fun l z h k => ?_) k
  refine R_getf (ci := 11) (f := 28) (C := RX13) (N := 49) (Tt := TX13) dX13_school_24 rfl i_X13 (by decide) w_1495 (fun l z h k => ?_) k
  refine R_iload_n dX13_school_27 rfl (fun l z h k => ?_) k
  refine R_iconst dX13_school_28 (by decide) (fun l z h k => ?_) k
  refine R_iastore dX13_school_29 (fun l z h k => ?_) k
  refine R_iinc dX13_school_30 (by decide) (by decide) (fun l z h k => ?_) k
  exact R_goto dX13_school_33 (by decide) (fun _ _ _ k => k) k
theorem bX13_school_36 {G : Gt} {d bc bs : Nat} {Q : QT} {l : Ls} {z : List Value} {h : Hp} (k : (tAld 0 (tPush (.int 61) (tPutf isI 11 30 (tAld 0 (tIld 1 (tIld 1 (tCV2 G d 0 0 11 mX13_pairFrom (fun l z h => T G d bc bs mX13_school 48 l z h Q)))))))) l z h) : T G d bc bs mX13_school 36 l z h Q := by
  refine R_aload_n dX13_school_36 rfl (fun l z h k => ?_) k
  refine R_bipush dX13_school_37 (by decide) (fun l z h k => ?_) k
  refine R_putf (ci := 11) (f := 30) (C := RX13) (N := 49) (Tt := TX13) tyX13 tyX13_ok nmX13 dX13_school_39 rfl i_X13 (by decide) w_1497 rfl (tyX13_ok 30 (by decide)) p_int (fun l z h k => ?_) k
  refine R_aload_n dX13_school_42 rfl (fun l z h k => ?_) k
  refine R_iload_n dX13_school_43 rfl (fun l z h k => ?_) k
  refine R_iload_n dX13_school_44 rfl (fun l z h k => ?_) k
  exact R_cv2 (M := mX13_school) (pc := 45) (bc := bc) (bs := bs) (cb := 0) (cs := 0) (M' := mX13_pairFrom) dX13_school_45 rfl (by decide) w_1953 w_144 w_1950 w_1952 w_99 (by decide +kernel) (fun _ _ _ k => k) k
theorem bX13_school_48 {G : Gt} {d bc bs : Nat} {Q : QT} {l : Ls} {z : List Value} {h : Hp} (k : (tAld 0 (tCV0 G d 0 0 11 mX13_takeBack (fun l z h => T G d bc bs mX13_school 52 l z h Q))) l z h) : T G d bc bs mX13_school 48 l z h Q := by
  refine R_aload_n dX13_school_48 rfl (fun l z h k => ?_) k
  exact R_cv0 (M := mX13_school) (pc := 49) (bc := bc) (bs := bs) (cb := 0) (cs := 0) (M' := mX13_takeBack) dX13_school_49 rfl (by decide) w_1941 w_144 w_1938 w_1940 w_98 (by decide +kernel) (fun _ _ _ k => k) k
theorem bX13_school_52 {G : Gt} {d bc bs : Nat} {Q : QT} {l : Ls} {z : List Value} {h : Hp} (k : (tAld 0 (tGetf 11 30 (tPush (.int 60) (tIf2 (fun x y => x ≤ y) (fun l z h => T G d bc bs mX13_school 63 l z h Q) (fun l z h => T G d bc bs mX13_school 61 l z h Q))))) l z h) : T G d bc bs mX13_school 52 l z h Q := by
  refine R_aload_n dX13_school_52 rfl (fun l z h k => ?_) k
  refine R_getf (ci := 11) (f := 30) (C := RX13) (N := 49) (Tt := TX13) dX13_school_53 rfl i_X13 (by decide) w_1497 (fun l z h k => ?_) k
  refine R_bipush dX13_school_56 (by decide) (fun l z h k => ?_) k
  exact R_icmp_le dX13_school_58 (by decide) (fun _ _ _ k => k) (fun _ _ _ k => k) k
theorem bX13_school_61 {G : Gt} {d bc bs : Nat} {Q : QT} {l : Ls} {z : List Value} {h : Hp} (k : (tPush (.int (-1)) (tRetI Q)) l z h) : T G d bc bs mX13_school 61 l z h Q := by
  refine R_iconst dX13_school_61 (by decide) (fun l z h k => ?_) k
  exact R_iret dX13_school_62 rfl k
theorem bX13_school_63 {G : Gt} {d bc bs : Nat} {Q : QT} {l : Ls} {z : List Value} {h : Hp} (k : (tAld 0 (tPush (.int 1) (tPutf isZ 11 32 (tAld 0 (tGetf 11 30 (tRetI Q)))))) l z h) : T G d bc bs mX13_school 63 l z h Q := by
  refine R_aload_n dX13_school_63 rfl (fun l z h k => ?_) k
  refine R_iconst dX13_school_64 (by decide) (fun l z h k => ?_) k
  refine R_putf (ci := 11) (f := 32) (C := RX13) (N := 49) (Tt := TX13) tyX13 tyX13_ok nmX13 dX13_school_65 rfl i_X13 (by decide) w_1499 rfl (tyX13_ok 32 (by decide)) p_bool (fun l z h k => ?_) k
  refine R_aload_n dX13_school_68 rfl (fun l z h k => ?_) k
  refine R_getf (ci := 11) (f := 30) (C := RX13) (N := 49) (Tt := TX13) dX13_school_69 rfl i_X13 (by decide) w_1497 (fun l z h k => ?_) k
  exact R_iret dX13_school_72 rfl k
theorem dX13_schooled_0 : decode cX13_schooled 0 = .ok (.aload_n 0, 1) := by decide +kernel
theorem dX13_schooled_1 : decode cX13_schooled 1 = .ok (.iconst 0, 1) := by decide +kernel
theorem dX13_schooled_2 : decode cX13_schooled 2 = .ok (.putfield 85, 3) := by decide +kernel
theorem dX13_schooled_5 : decode cX13_schooled 5 = .ok (.aload_n 0, 1) := by decide +kernel
theorem dX13_schooled_6 : decode cX13_schooled 6 = .ok (.getfield 350, 3) := by decide +kernel
theorem dX13_schooled_9 : decode cX13_schooled 9 = .ok (.ifCond .eq 26, 3) := by decide +kernel
theorem dX13_schooled_12 : decode cX13_schooled 12 = .ok (.iload_n 1, 1) := by decide +kernel
theorem dX13_schooled_13 : decode cX13_schooled 13 = .ok (.iconst 0, 1) := by decide +kernel
theorem dX13_schooled_14 : decode cX13_schooled 14 = .ok (.aload_n 0, 1) := by decide +kernel
theorem dX13_schooled_15 : decode cX13_schooled 15 = .ok (.getfield 344, 3) := by decide +kernel
theorem dX13_schooled_18 : decode cX13_schooled 18 = .ok (.iconst 1, 1) := by decide +kernel
theorem dX13_schooled_19 : decode cX13_schooled 19 = .ok (.isub, 1) := by decide +kernel
theorem dX13_schooled_20 : decode cX13_schooled 20 = .ok (.invokestatic 152, 3) := by decide +kernel
theorem dX13_schooled_23 : decode cX13_schooled 23 = .ok (.ifCond .eq 12, 3) := by decide +kernel
theorem dX13_schooled_26 : decode cX13_schooled 26 = .ok (.aload_n 0, 1) := by decide +kernel
theorem dX13_schooled_27 : decode cX13_schooled 27 = .ok (.getfield 58, 3) := by decide +kernel
theorem dX13_schooled_30 : decode cX13_schooled 30 = .ok (.iload_n 1, 1) := by decide +kernel
theorem dX13_schooled_31 : decode cX13_schooled 31 = .ok (.iaload, 1) := by decide +kernel
theorem dX13_schooled_32 : decode cX13_schooled 32 = .ok (.goto 4, 3) := by decide +kernel
theorem dX13_schooled_35 : decode cX13_schooled 35 = .ok (.iconst (-1), 1) := by decide +kernel
theorem dX13_schooled_36 : decode cX13_schooled 36 = .ok (.ireturn, 1) := by decide +kernel
theorem bX13_schooled_0 {G : Gt} {d bc bs : Nat} {Q : QT} {l : Ls} {z : List Value} {h : Hp} (k : (tAld 0 (tPush (.int 0) (tPutf isI 11 0 (tAld 0 (tGetf 11 32 (tIf (fun x => x = 0) (fun l z h => T G d bc bs mX13_schooled 35 l z h Q) (fun l z h => T G d bc bs mX13_schooled 12 l z h Q))))))) l z h) : T G d bc bs mX13_schooled 0 l z h Q := by
  refine R_aload_n dX13_schooled_0 rfl (fun l z h k => ?_) k
  refine R_iconst dX13_schooled_1 (by decide) (fun l z h k => ?_) k
  refine R_putf (ci := 11) (f := 0) (C := RX13) (N := 49) (Tt := TX13) tyX13 tyX13_ok nmX13 dX13_schooled_2 rfl i_X13 (by decide) w_1467 rfl (tyX13_ok 0 (by decide)) p_int (fun l z h k => ?_) k
  refine R_aload_n dX13_schooled_5 rfl (fun l z h k => ?_) k
  refine R_getf (ci := 11) (f := 32) (C := RX13) (N := 49) (Tt := TX13) dX13_schooled_6 rfl i_X13 (by decide) w_1499 (fun l z h k => ?_) k
  exact R_if_eq dX13_schooled_9 (by decide) (fun _ _ _ k => k) (fun _ _ _ k => k) k
theorem bX13_schooled_12 {G : Gt} {d bc bs : Nat} {Q : QT} {l : Ls} {z : List Value} {h : Hp} (k : (tIld 1 (tPush (.int 0) (tAld 0 (tGetf 11 31 (tPush (.int 1) (tB (fun x y => x - y) (tCS3 G d 0 0 mX13_isIn (fun l z h => T G d bc bs mX13_schooled 23 l z h Q)))))))) l z h) : T G d bc bs mX13_schooled 12 l z h Q := by
  refine R_iload_n dX13_schooled_12 rfl (fun l z h k => ?_) k
  refine R_iconst dX13_schooled_13 (by decide) (fun l z h k => ?_) k
  refine R_aload_n dX13_schooled_14 rfl (fun l z h k => ?_) k
  refine R_getf (ci := 11) (f := 31) (C := RX13) (N := 49) (Tt := TX13) dX13_schooled_15 rfl i_X13 (by decide) w_1498 (fun l z h k => ?_) k
  refine R_iconst dX13_schooled_18 (by decide) (fun l z h k => ?_) k
  refine R_isub dX13_schooled_19 (fun l z h k => ?_) k
  exact R_cs3 (M := mX13_schooled) (pc := 20) (bc := bc) (bs := bs) (cb := 0) (cs := 0) (M' := mX13_isIn) dX13_schooled_20 (by decide) w_1711 w_144 w_1709 w_1710 (by decide +kernel) (fun _ _ _ k => k) k
theorem bX13_schooled_23 {G : Gt} {d bc bs : Nat} {Q : QT} {l : Ls} {z : List Value} {h : Hp} (k : (tIf (fun x => x = 0) (fun l z h => T G d bc bs mX13_schooled 35 l z h Q) (fun l z h => T G d bc bs mX13_schooled 26 l z h Q)) l z h) : T G d bc bs mX13_schooled 23 l z h Q := by
  exact R_if_eq dX13_schooled_23 (by decide) (fun _ _ _ k => k) (fun _ _ _ k => k) k
theorem bX13_schooled_26 {G : Gt} {d bc bs : Nat} {Q : QT} {l : Ls} {z : List Value} {h : Hp} (k : (tAld 0 (tGetf 11 29 (tIld 1 (tXald 0 ((fun l z h => T G d bc bs mX13_schooled 36 l z h Q)))))) l z h) : T G d bc bs mX13_schooled 26 l z h Q := by
  refine R_aload_n dX13_schooled_26 rfl (fun l z h k => ?_) k
  refine R_getf (ci := 11) (f := 29) (C := RX13) (N := 49) (Tt := TX13) dX13_schooled_27 rfl i_X13 (by decide) w_1496 (fun l z h k => ?_) k
  refine R_iload_n dX13_schooled_30 rfl (fun l z h k => ?_) k
  refine R_iaload dX13_schooled_31 (fun l z h k => ?_) k
  exact R_goto dX13_schooled_32 (by decide) (fun _ _ _ k => k) k
theorem bX13_schooled_35 {G : Gt} {d bc bs : Nat} {Q : QT} {l : Ls} {z : List Value} {h : Hp} (k : (tPush (.int (-1)) ((fun l z h => T G d bc bs mX13_schooled 36 l z h Q))) l z h) : T G d bc bs mX13_schooled 35 l z h Q := by
  refine R_iconst dX13_schooled_35 (by decide) (fun l z h k => ?_) k
  exact k
theorem bX13_schooled_36 {G : Gt} {d bc bs : Nat} {Q : QT} {l : Ls} {z : List Value} {h : Hp} (k : (tRetI Q) l z h) : T G d bc bs mX13_schooled 36 l z h Q := by
  exact R_iret dX13_schooled_36 rfl k
theorem dX13_isLetBy_0 : decode cX13_isLetBy 0 = .ok (.iconst 0, 1) := by decide +kernel
theorem dX13_isLetBy_1 : decode cX13_isLetBy 1 = .ok (.istore 4, 2) := by decide +kernel
theorem dX13_isLetBy_3 : decode cX13_isLetBy 3 = .ok (.iload 4, 2) := by decide +kernel
theorem dX13_isLetBy_5 : decode cX13_isLetBy 5 = .ok (.bipush 6, 2) := by decide +kernel
theorem dX13_isLetBy_7 : decode cX13_isLetBy 7 = .ok (.if_icmp .ge 31, 3) := by decide +kernel
theorem dX13_isLetBy_10 : decode cX13_isLetBy 10 = .ok (.iload_n 2, 1) := by decide +kernel
theorem dX13_isLetBy_11 : decode cX13_isLetBy 11 = .ok (.iload 4, 2) := by decide +kernel
theorem dX13_isLetBy_13 : decode cX13_isLetBy 13 = .ok (.invokestatic 338, 3) := by decide +kernel
theorem dX13_isLetBy_16 : decode cX13_isLetBy 16 = .ok (.ifCond .eq 16, 3) := by decide +kernel
theorem dX13_isLetBy_19 : decode cX13_isLetBy 19 = .ok (.aload_n 0, 1) := by decide +kernel
theorem dX13_isLetBy_20 : decode cX13_isLetBy 20 = .ok (.iload_n 1, 1) := by decide +kernel
theorem dX13_isLetBy_21 : decode cX13_isLetBy 21 = .ok (.iload 4, 2) := by decide +kernel
theorem dX13_isLetBy_23 : decode cX13_isLetBy 23 = .ok (.invokevirtual 240, 3) := by decide +kernel
theorem dX13_isLetBy_26 : decode cX13_isLetBy 26 = .ok (.iload_n 3, 1) := by decide +kernel
theorem dX13_isLetBy_27 : decode cX13_isLetBy 27 = .ok (.if_icmp .ge 5, 3) := by decide +kernel
theorem dX13_isLetBy_30 : decode cX13_isLetBy 30 = .ok (.iconst 0, 1) := by decide +kernel
theorem dX13_isLetBy_31 : decode cX13_isLetBy 31 = .ok (.ireturn, 1) := by decide +kernel
theorem dX13_isLetBy_32 : decode cX13_isLetBy 32 = .ok (.iinc 4 1, 3) := by decide +kernel
theorem dX13_isLetBy_35 : decode cX13_isLetBy 35 = .ok (.goto (-32), 3) := by decide +kernel
theorem dX13_isLetBy_38 : decode cX13_isLetBy 38 = .ok (.iconst 1, 1) := by decide +kernel
theorem dX13_isLetBy_39 : decode cX13_isLetBy 39 = .ok (.ireturn, 1) := by decide +kernel
theorem bX13_isLetBy_0 {G : Gt} {d bc bs : Nat} {Q : QT} {l : Ls} {z : List Value} {h : Hp} (k : (tPush (.int 0) (tIst 4 ((fun l z h => T G d bc bs mX13_isLetBy 3 l z h Q)))) l z h) : T G d bc bs mX13_isLetBy 0 l z h Q := by
  refine R_iconst dX13_isLetBy_0 (by decide) (fun l z h k => ?_) k
  refine R_istore dX13_isLetBy_1 (by decide) (fun l z h k => ?_) k
  exact k
theorem bX13_isLetBy_3 {G : Gt} {d bc bs : Nat} {Q : QT} {l : Ls} {z : List Value} {h : Hp} (k : (tIld 4 (tPush (.int 6) (tIf2 (fun x y => y ≤ x) (fun l z h => T G d bc bs mX13_isLetBy 38 l z h Q) (fun l z h => T G d bc bs mX13_isLetBy 10 l z h Q)))) l z h) : T G d bc bs mX13_isLetBy 3 l z h Q := by
  refine R_iload dX13_isLetBy_3 (fun l z h k => ?_) k
  refine R_bipush dX13_isLetBy_5 (by decide) (fun l z h k => ?_) k
  exact R_icmp_ge dX13_isLetBy_7 (by decide) (fun _ _ _ k => k) (fun _ _ _ k => k) k
theorem bX13_isLetBy_10 {G : Gt} {d bc bs : Nat} {Q : QT} {l : Ls} {z : List Value} {h : Hp} (k : (tIld 2 (tIld 4 (tCS2 G d 0 0 mX13_has (fun l z h => T G d bc bs mX13_isLetBy 16 l z h Q)))) l z h) : T G d bc bs mX13_isLetBy 10 l z h Q := by
  refine R_iload_n dX13_isLetBy_10 rfl (fun l z h k => ?_) k
  refine R_iload dX13_isLetBy_11 (fun l z h k => ?_) k
  exact R_cs2 (M := mX13_isLetBy) (pc := 13) (bc := bc) (bs := bs) (cb := 0) (cs := 0) (M' := mX13_has) dX13_isLetBy_13 (by decide) w_1956 w_144 w_1954 w_1955 (by decide +kernel) (fun _ _ _ k => k) k
theorem bX13_isLetBy_16 {G : Gt} {d bc bs : Nat} {Q : QT} {l : Ls} {z : List Value} {h : Hp} (k : (tIf (fun x => x = 0) (fun l z h => T G d bc bs mX13_isLetBy 32 l z h Q) (fun l z h => T G d bc bs mX13_isLetBy 19 l z h Q)) l z h) : T G d bc bs mX13_isLetBy 16 l z h Q := by
  exact R_if_eq dX13_isLetBy_16 (by decide) (fun _ _ _ k => k) (fun _ _ _ k => k) k
theorem bX13_isLetBy_19 {G : Gt} {d bc bs : Nat} {Q : QT} {l : Ls} {z : List Value} {h : Hp} (k : (tAld 0 (tIld 1 (tIld 4 (tCV2 G d 0 0 11 mX13_haveOf (fun l z h => T G d bc bs mX13_isLetBy 26 l z h Q))))) l z h) : T G d bc bs mX13_isLetBy 19 l z h Q := by
  refine R_aload_n dX13_isLetBy_19 rfl (fun l z h k => ?_) k
  refine R_iload_n dX13_isLetBy_20 rfl (fun l z h k => ?_) k
  refine R_iload dX13_isLetBy_21 (fun l z h k => ?_) k
  exact R_cv2 (M := mX13_isLetBy) (pc := 23) (bc := bc) (bs := bs) (cb := 0) (cs := 0) (M' := mX13_haveOf) dX13_isLetBy_23 rfl (by decide) w_1779 w_144 w_1776 w_1778 w_73 (by decide +kernel) (fun _ _ _ k => k) k
theorem bX13_isLetBy_26 {G : Gt} {d bc bs : Nat} {Q : QT} {l : Ls} {z : List Value} {h : Hp} (k : (tIld 3 (tIf2 (fun x y => y ≤ x) (fun l z h => T G d bc bs mX13_isLetBy 32 l z h Q) (fun l z h => T G d bc bs mX13_isLetBy 30 l z h Q))) l z h) : T G d bc bs mX13_isLetBy 26 l z h Q := by
  refine R_iload_n dX13_isLetBy_26 rfl (fun l z h k => ?_) k
  exact R_icmp_ge dX13_isLetBy_27 (by decide) (fun _ _ _ k => k) (fun _ _ _ k => k) k
theorem bX13_isLetBy_30 {G : Gt} {d bc bs : Nat} {Q : QT} {l : Ls} {z : List Value} {h : Hp} (k : (tPush (.int 0) (tRetZ Q)) l z h) : T G d bc bs mX13_isLetBy 30 l z h Q := by
  refine R_iconst dX13_isLetBy_30 (by decide) (fun l z h k => ?_) k
  exact R_zret dX13_isLetBy_31 rfl k
theorem bX13_isLetBy_32 {G : Gt} {d bc bs : Nat} {Q : QT} {l : Ls} {z : List Value} {h : Hp} (k : (tInc 4 1 ((fun l z h => T G d bc bs mX13_isLetBy 3 l z h Q))) l z h) : T G d bc bs mX13_isLetBy 32 l z h Q := by
  refine R_iinc dX13_isLetBy_32 (by decide) (by decide) (fun l z h k => ?_) k
  exact R_goto dX13_isLetBy_35 (by decide) (fun _ _ _ k => k) k
theorem bX13_isLetBy_38 {G : Gt} {d bc bs : Nat} {Q : QT} {l : Ls} {z : List Value} {h : Hp} (k : (tPush (.int 1) (tRetZ Q)) l z h) : T G d bc bs mX13_isLetBy 38 l z h Q := by
  refine R_iconst dX13_isLetBy_38 (by decide) (fun l z h k => ?_) k
  exact R_zret dX13_isLetBy_39 rfl k
theorem dX13_alikeBy_0 : decode cX13_alikeBy 0 = .ok (.iconst 0, 1) := by decide +kernel
theorem dX13_alikeBy_1 : decode cX13_alikeBy 1 = .ok (.istore 4, 2) := by decide +kernel
theorem dX13_alikeBy_3 : decode cX13_alikeBy 3 = .ok (.iconst 0, 1) := by decide +kernel
theorem dX13_alikeBy_4 : decode cX13_alikeBy 4 = .ok (.istore 5, 2) := by decide +kernel
theorem dX13_alikeBy_6 : decode cX13_alikeBy 6 = .ok (.iload 5, 2) := by decide +kernel
theorem dX13_alikeBy_8 : decode cX13_alikeBy 8 = .ok (.iload_n 2, 1) := by decide +kernel
theorem dX13_alikeBy_9 : decode cX13_alikeBy 9 = .ok (.if_icmp .ge 28, 3) := by decide +kernel
theorem dX13_alikeBy_12 : decode cX13_alikeBy 12 = .ok (.aload_n 0, 1) := by decide +kernel
theorem dX13_alikeBy_13 : decode cX13_alikeBy 13 = .ok (.iload_n 1, 1) := by decide +kernel
theorem dX13_alikeBy_14 : decode cX13_alikeBy 14 = .ok (.aload_n 0, 1) := by decide +kernel
theorem dX13_alikeBy_15 : decode cX13_alikeBy 15 = .ok (.getfield 61, 3) := by decide +kernel
theorem dX13_alikeBy_18 : decode cX13_alikeBy 18 = .ok (.iload 5, 2) := by decide +kernel
theorem dX13_alikeBy_20 : decode cX13_alikeBy 20 = .ok (.iaload, 1) := by decide +kernel
theorem dX13_alikeBy_21 : decode cX13_alikeBy 21 = .ok (.iload_n 3, 1) := by decide +kernel
theorem dX13_alikeBy_22 : decode cX13_alikeBy 22 = .ok (.invokevirtual 354, 3) := by decide +kernel
theorem dX13_alikeBy_25 : decode cX13_alikeBy 25 = .ok (.ifCond .eq 6, 3) := by decide +kernel
theorem dX13_alikeBy_28 : decode cX13_alikeBy 28 = .ok (.iinc 4 1, 3) := by decide +kernel
theorem dX13_alikeBy_31 : decode cX13_alikeBy 31 = .ok (.iinc 5 1, 3) := by decide +kernel
theorem dX13_alikeBy_34 : decode cX13_alikeBy 34 = .ok (.goto (-28), 3) := by decide +kernel
theorem dX13_alikeBy_37 : decode cX13_alikeBy 37 = .ok (.iload 4, 2) := by decide +kernel
theorem dX13_alikeBy_39 : decode cX13_alikeBy 39 = .ok (.iload_n 2, 1) := by decide +kernel
theorem dX13_alikeBy_40 : decode cX13_alikeBy 40 = .ok (.iload 4, 2) := by decide +kernel
theorem dX13_alikeBy_42 : decode cX13_alikeBy 42 = .ok (.isub, 1) := by decide +kernel
theorem dX13_alikeBy_43 : decode cX13_alikeBy 43 = .ok (.if_icmp .le 8, 3) := by decide +kernel
theorem dX13_alikeBy_46 : decode cX13_alikeBy 46 = .ok (.iload 4, 2) := by decide +kernel
theorem dX13_alikeBy_48 : decode cX13_alikeBy 48 = .ok (.goto 7, 3) := by decide +kernel
theorem dX13_alikeBy_51 : decode cX13_alikeBy 51 = .ok (.iload_n 2, 1) := by decide +kernel
theorem dX13_alikeBy_52 : decode cX13_alikeBy 52 = .ok (.iload 4, 2) := by decide +kernel
theorem dX13_alikeBy_54 : decode cX13_alikeBy 54 = .ok (.isub, 1) := by decide +kernel
theorem dX13_alikeBy_55 : decode cX13_alikeBy 55 = .ok (.ireturn, 1) := by decide +kernel
theorem bX13_alikeBy_0 {G : Gt} {d bc bs : Nat} {Q : QT} {l : Ls} {z : List Value} {h : Hp} (k : (tPush (.int 0) (tIst 4 (tPush (.int 0) (tIst 5 ((fun l z h => T G d bc bs mX13_alikeBy 6 l z h Q)))))) l z h) : T G d bc bs mX13_alikeBy 0 l z h Q := by
  refine R_iconst dX13_alikeBy_0 (by decide) (fun l z h k => ?_) k
  refine R_istore dX13_alikeBy_1 (by decide) (fun l z h k => ?_) k
  refine R_iconst dX13_alikeBy_3 (by decide) (fun l z h k => ?_) k
  refine R_istore dX13_alikeBy_4 (by decide) (fun l z h k => ?_) k
  exact k
theorem bX13_alikeBy_6 {G : Gt} {d bc bs : Nat} {Q : QT} {l : Ls} {z : List Value} {h : Hp} (k : (tIld 5 (tIld 2 (tIf2 (fun x y => y ≤ x) (fun l z h => T G d bc bs mX13_alikeBy 37 l z h Q) (fun l z h => T G d bc bs mX13_alikeBy 12 l z h Q)))) l z h) : T G d bc bs mX13_alikeBy 6 l z h Q := by
  refine R_iload dX13_alikeBy_6 (fun l z h k => ?_) k
  refine R_iload_n dX13_alikeBy_8 rfl (fun l z h k => ?_) k
  exact R_icmp_ge dX13_alikeBy_9 (by decide) (fun _ _ _ k => k) (fun _ _ _ k => k) k
theorem bX13_alikeBy_12 {G : Gt} {d bc bs : Nat} {Q : QT} {l : Ls} {z : List Value} {h : Hp} (k : (tAld 0 (tIld 1 (tAld 0 (tGetf 11 33 (tIld 5 (tXald 0 (tIld 3 (tCV3 G d 0 0 11 mX13_isLetBy (fun l z h => T G d bc bs mX13_alikeBy 25 l z h Q))))))))) l z h) : T G d bc bs mX13_alikeBy 12 l z h Q := by
  refine R_aload_n dX13_alikeBy_12 rfl (fun l z h k => ?_) k
  refine R_iload_n dX13_alikeBy_13 rfl (fun l z h k => ?_) k
  refine R_aload_n dX13_alikeBy_14 rfl (fun l z h k => ?_) k
  refine R_getf (ci := 11) (f := 33) (C := RX13) (N := 49) (Tt := TX13) dX13_alikeBy_15 rfl i_X13 (by decide) w_1500 (fun l z h k => ?_) k
  refine R_iload dX13_alikeBy_18 (fun l z h k => ?_) k
  refine R_iaload dX13_alikeBy_20 (fun l z h k => ?_) k
  refine R_iload_n dX13_alikeBy_21 rfl (fun l z h k => ?_) k
  exact R_cv3 (M := mX13_alikeBy) (pc := 22) (bc := bc) (bs := bs) (cb := 0) (cs := 0) (M' := mX13_isLetBy) dX13_alikeBy_22 rfl (by decide) w_1968 w_144 w_1965 w_1967 w_100 (by decide +kernel) (fun _ _ _ k => k) k
theorem bX13_alikeBy_25 {G : Gt} {d bc bs : Nat} {Q : QT} {l : Ls} {z : List Value} {h : Hp} (k : (tIf (fun x => x = 0) (fun l z h => T G d bc bs mX13_alikeBy 31 l z h Q) (fun l z h => T G d bc bs mX13_alikeBy 28 l z h Q)) l z h) : T G d bc bs mX13_alikeBy 25 l z h Q := by
  exact R_if_eq dX13_alikeBy_25 (by decide) (fun _ _ _ k => k) (fun _ _ _ k => k) k
theorem bX13_alikeBy_28 {G : Gt} {d bc bs : Nat} {Q : QT} {l : Ls} {z : List Value} {h : Hp} (k : (tInc 4 1 ((fun l z h => T G d bc bs mX13_alikeBy 31 l z h Q))) l z h) : T G d bc bs mX13_alikeBy 28 l z h Q := by
  refine R_iinc dX13_alikeBy_28 (by decide) (by decide) (fun l z h k => ?_) k
  exact k
theorem bX13_alikeBy_31 {G : Gt} {d bc bs : Nat} {Q : QT} {l : Ls} {z : List Value} {h : Hp} (k : (tInc 5 1 ((fun l z h => T G d bc bs mX13_alikeBy 6 l z h Q))) l z h) : T G d bc bs mX13_alikeBy 31 l z h Q := by
  refine R_iinc dX13_alikeBy_31 (by decide) (by decide) (fun l z h k => ?_) k
  exact R_goto dX13_alikeBy_34 (by decide) (fun _ _ _ k => k) k
theorem bX13_alikeBy_37 {G : Gt} {d bc bs : Nat} {Q : QT} {l : Ls} {z : List Value} {h : Hp} (k : (tIld 4 (tIld 2 (tIld 4 (tB (fun x y => x - y) (tIf2 (fun x y => x ≤ y) (fun l z h => T G d bc bs mX13_alikeBy 51 l z h Q) (fun l z h => T G d bc bs mX13_alikeBy 46 l z h Q)))))) l z h) : T G d bc bs mX13_alikeBy 37 l z h Q := by
  refine R_iload dX13_alikeBy_37 (fun l z h k => ?_) k
  refine R_iload_n dX13_alikeBy_39 rfl (fun l z h k => ?_) k
  refine R_iload dX13_alikeBy_40 (fun l z h k => ?_) k
  refine R_isub dX13_alikeBy_42 (fun l z h k => ?_) k
  exact R_icmp_le dX13_alikeBy_43 (by decide) (fun _ _ _ k => k) (fun _ _ _ k => k) k
theorem bX13_alikeBy_46 {G : Gt} {d bc bs : Nat} {Q : QT} {l : Ls} {z : List Value} {h : Hp} (k : (tIld 4 ((fun l z h => T G d bc bs mX13_alikeBy 55 l z h Q))) l z h) : T G d bc bs mX13_alikeBy 46 l z h Q := by
  refine R_iload dX13_alikeBy_46 (fun l z h k => ?_) k
  exact R_goto dX13_alikeBy_48 (by decide) (fun _ _ _ k => k) k
theorem bX13_alikeBy_51 {G : Gt} {d bc bs : Nat} {Q : QT} {l : Ls} {z : List Value} {h : Hp} (k : (tIld 2 (tIld 4 (tB (fun x y => x - y) ((fun l z h => T G d bc bs mX13_alikeBy 55 l z h Q))))) l z h) : T G d bc bs mX13_alikeBy 51 l z h Q := by
  refine R_iload_n dX13_alikeBy_51 rfl (fun l z h k => ?_) k
  refine R_iload dX13_alikeBy_52 (fun l z h k => ?_) k
  refine R_isub dX13_alikeBy_54 (fun l z h k => ?_) k
  exact k
theorem bX13_alikeBy_55 {G : Gt} {d bc bs : Nat} {Q : QT} {l : Ls} {z : List Value} {h : Hp} (k : (tRetI Q) l z h) : T G d bc bs mX13_alikeBy 55 l z h Q := by
  exact R_iret dX13_alikeBy_55 rfl k
theorem dX13_laws_0 : decode cX13_laws 0 = .ok (.aload_n 0, 1) := by decide +kernel
theorem dX13_laws_1 : decode cX13_laws 1 = .ok (.iconst 0, 1) := by decide +kernel
theorem dX13_laws_2 : decode cX13_laws 2 = .ok (.putfield 85, 3) := by decide +kernel
theorem dX13_laws_5 : decode cX13_laws 5 = .ok (.aload_n 0, 1) := by decide +kernel
theorem dX13_laws_6 : decode cX13_laws 6 = .ok (.invokevirtual 165, 3) := by decide +kernel
theorem dX13_laws_9 : decode cX13_laws 9 = .ok (.istore_n 1, 1) := by decide +kernel
theorem dX13_laws_10 : decode cX13_laws 10 = .ok (.iload_n 1, 1) := by decide +kernel
theorem dX13_laws_11 : decode cX13_laws 11 = .ok (.iconst 2, 1) := by decide +kernel
theorem dX13_laws_12 : decode cX13_laws 12 = .ok (.irem, 1) := by decide +kernel
theorem dX13_laws_13 : decode cX13_laws 13 = .ok (.iconst 1, 1) := by decide +kernel
theorem dX13_laws_14 : decode cX13_laws 14 = .ok (.if_icmp .ne 30, 3) := by decide +kernel
theorem dX13_laws_17 : decode cX13_laws 17 = .ok (.iload_n 1, 1) := by decide +kernel
theorem dX13_laws_18 : decode cX13_laws 18 = .ok (.iconst 2, 1) := by decide +kernel
theorem dX13_laws_19 : decode cX13_laws 19 = .ok (.idiv, 1) := by decide +kernel
theorem dX13_laws_20 : decode cX13_laws 20 = .ok (.iconst 1, 1) := by decide +kernel
theorem dX13_laws_21 : decode cX13_laws 21 = .ok (.bipush 8, 2) := by decide +kernel
theorem dX13_laws_23 : decode cX13_laws 23 = .ok (.invokestatic 152, 3) := by decide +kernel
theorem dX13_laws_26 : decode cX13_laws 26 = .ok (.ifCond .eq 18, 3) := by decide +kernel
theorem dX13_laws_29 : decode cX13_laws 29 = .ok (.aload_n 0, 1) := by decide +kernel
theorem dX13_laws_30 : decode cX13_laws 30 = .ok (.getfield 7, 3) := by decide +kernel
theorem dX13_laws_33 : decode cX13_laws 33 = .ok (.iconst 0, 1) := by decide +kernel
theorem dX13_laws_34 : decode cX13_laws 34 = .ok (.iaload, 1) := by decide +kernel
theorem dX13_laws_35 : decode cX13_laws 35 = .ok (.iconst 1, 1) := by decide +kernel
theorem dX13_laws_36 : decode cX13_laws 36 = .ok (.bipush 12, 2) := by decide +kernel
theorem dX13_laws_38 : decode cX13_laws 38 = .ok (.invokestatic 152, 3) := by decide +kernel
theorem dX13_laws_41 : decode cX13_laws 41 = .ok (.ifCond .ne 5, 3) := by decide +kernel
theorem dX13_laws_44 : decode cX13_laws 44 = .ok (.iconst (-1), 1) := by decide +kernel
theorem dX13_laws_45 : decode cX13_laws 45 = .ok (.ireturn, 1) := by decide +kernel
theorem dX13_laws_46 : decode cX13_laws 46 = .ok (.iconst 1, 1) := by decide +kernel
theorem dX13_laws_47 : decode cX13_laws 47 = .ok (.istore_n 2, 1) := by decide +kernel
theorem dX13_laws_48 : decode cX13_laws 48 = .ok (.iload_n 2, 1) := by decide +kernel
theorem dX13_laws_49 : decode cX13_laws 49 = .ok (.iload_n 1, 1) := by decide +kernel
theorem dX13_laws_50 : decode cX13_laws 50 = .ok (.if_icmp .ge 36, 3) := by decide +kernel
theorem dX13_laws_53 : decode cX13_laws 53 = .ok (.aload_n 0, 1) := by decide +kernel
theorem dX13_laws_54 : decode cX13_laws 54 = .ok (.aload_n 0, 1) := by decide +kernel
theorem dX13_laws_55 : decode cX13_laws 55 = .ok (.getfield 7, 3) := by decide +kernel
theorem dX13_laws_58 : decode cX13_laws 58 = .ok (.iload_n 2, 1) := by decide +kernel
theorem dX13_laws_59 : decode cX13_laws 59 = .ok (.iaload, 1) := by decide +kernel
theorem dX13_laws_60 : decode cX13_laws 60 = .ok (.invokevirtual 256, 3) := by decide +kernel
theorem dX13_laws_63 : decode cX13_laws 63 = .ok (.ifCond .eq 15, 3) := by decide +kernel
theorem dX13_laws_66 : decode cX13_laws 66 = .ok (.aload_n 0, 1) := by decide +kernel
theorem dX13_laws_67 : decode cX13_laws 67 = .ok (.getfield 7, 3) := by decide +kernel
theorem dX13_laws_70 : decode cX13_laws 70 = .ok (.iload_n 2, 1) := by decide +kernel
theorem dX13_laws_71 : decode cX13_laws 71 = .ok (.iconst 1, 1) := by decide +kernel
theorem dX13_laws_72 : decode cX13_laws 72 = .ok (.iadd, 1) := by decide +kernel
theorem dX13_laws_73 : decode cX13_laws 73 = .ok (.iaload, 1) := by decide +kernel
theorem dX13_laws_74 : decode cX13_laws 74 = .ok (.iconst 1, 1) := by decide +kernel
theorem dX13_laws_75 : decode cX13_laws 75 = .ok (.if_icmp .le 5, 3) := by decide +kernel
theorem dX13_laws_78 : decode cX13_laws 78 = .ok (.iconst (-1), 1) := by decide +kernel
theorem dX13_laws_79 : decode cX13_laws 79 = .ok (.ireturn, 1) := by decide +kernel
theorem dX13_laws_80 : decode cX13_laws 80 = .ok (.iinc 2 2, 3) := by decide +kernel
theorem dX13_laws_83 : decode cX13_laws 83 = .ok (.goto (-35), 3) := by decide +kernel
theorem dX13_laws_86 : decode cX13_laws 86 = .ok (.iconst 0, 1) := by decide +kernel
theorem dX13_laws_87 : decode cX13_laws 87 = .ok (.istore_n 2, 1) := by decide +kernel
theorem dX13_laws_88 : decode cX13_laws 88 = .ok (.iconst 0, 1) := by decide +kernel
theorem dX13_laws_89 : decode cX13_laws 89 = .ok (.istore_n 3, 1) := by decide +kernel
theorem dX13_laws_90 : decode cX13_laws 90 = .ok (.iload_n 3, 1) := by decide +kernel
theorem dX13_laws_91 : decode cX13_laws 91 = .ok (.iconst 1, 1) := by decide +kernel
theorem dX13_laws_92 : decode cX13_laws 92 = .ok (.aload_n 0, 1) := by decide +kernel
theorem dX13_laws_93 : decode cX13_laws 93 = .ok (.getfield 13, 3) := by decide +kernel
theorem dX13_laws_96 : decode cX13_laws 96 = .ok (.iconst 0, 1) := by decide +kernel
theorem dX13_laws_97 : decode cX13_laws 97 = .ok (.iaload, 1) := by decide +kernel
theorem dX13_laws_98 : decode cX13_laws 98 = .ok (.ishl, 1) := by decide +kernel
theorem dX13_laws_99 : decode cX13_laws 99 = .ok (.if_icmp .ge 96, 3) := by decide +kernel
theorem dX13_laws_102 : decode cX13_laws 102 = .ok (.iconst 1, 1) := by decide +kernel
theorem dX13_laws_103 : decode cX13_laws 103 = .ok (.istore 4, 2) := by decide +kernel
theorem dX13_laws_105 : decode cX13_laws 105 = .ok (.iconst 1, 1) := by decide +kernel
theorem dX13_laws_106 : decode cX13_laws 106 = .ok (.istore 5, 2) := by decide +kernel
theorem dX13_laws_108 : decode cX13_laws 108 = .ok (.iload 5, 2) := by decide +kernel
theorem dX13_laws_110 : decode cX13_laws 110 = .ok (.iload_n 1, 1) := by decide +kernel
theorem dX13_laws_111 : decode cX13_laws 111 = .ok (.if_icmp .ge 60, 3) := by decide +kernel
theorem dX13_laws_114 : decode cX13_laws 114 = .ok (.iload 4, 2) := by decide +kernel
theorem dX13_laws_116 : decode cX13_laws 116 = .ok (.ifCond .eq 46, 3) := by decide +kernel
theorem dX13_laws_119 : decode cX13_laws 119 = .ok (.aload_n 0, 1) := by decide +kernel
theorem dX13_laws_120 : decode cX13_laws 120 = .ok (.aload_n 0, 1) := by decide +kernel
theorem dX13_laws_121 : decode cX13_laws 121 = .ok (.getfield 7, 3) := by decide +kernel
theorem dX13_laws_124 : decode cX13_laws 124 = .ok (.iload 5, 2) := by decide +kernel
theorem dX13_laws_126 : decode cX13_laws 126 = .ok (.iaload, 1) := by decide +kernel
theorem dX13_laws_127 : decode cX13_laws 127 = .ok (.iload_n 3, 1) := by decide +kernel
theorem dX13_laws_128 : decode cX13_laws 128 = .ok (.aload_n 0, 1) := by decide +kernel
theorem dX13_laws_129 : decode cX13_laws 129 = .ok (.getfield 7, 3) := by decide +kernel
theorem dX13_laws_132 : decode cX13_laws 132 = .ok (.iconst 0, 1) := by decide +kernel
theorem dX13_laws_133 : decode cX13_laws 133 = .ok (.iaload, 1) := by decide +kernel
theorem dX13_laws_134 : decode cX13_laws 134 = .ok (.invokevirtual 354, 3) := by decide +kernel
theorem dX13_laws_137 : decode cX13_laws 137 = .ok (.aload_n 0, 1) := by decide +kernel
theorem dX13_laws_138 : decode cX13_laws 138 = .ok (.getfield 7, 3) := by decide +kernel
theorem dX13_laws_141 : decode cX13_laws 141 = .ok (.iload 5, 2) := by decide +kernel
theorem dX13_laws_143 : decode cX13_laws 143 = .ok (.iconst 1, 1) := by decide +kernel
theorem dX13_laws_144 : decode cX13_laws 144 = .ok (.iadd, 1) := by decide +kernel
theorem dX13_laws_145 : decode cX13_laws 145 = .ok (.iaload, 1) := by decide +kernel
theorem dX13_laws_146 : decode cX13_laws 146 = .ok (.iconst 1, 1) := by decide +kernel
theorem dX13_laws_147 : decode cX13_laws 147 = .ok (.if_icmp .ne 7, 3) := by decide +kernel
theorem dX13_laws_150 : decode cX13_laws 150 = .ok (.iconst 1, 1) := by decide +kernel
theorem dX13_laws_151 : decode cX13_laws 151 = .ok (.goto 4, 3) := by decide +kernel
theorem dX13_laws_154 : decode cX13_laws 154 = .ok (.iconst 0, 1) := by decide +kernel
theorem dX13_laws_155 : decode cX13_laws 155 = .ok (.if_icmp .ne 7, 3) := by decide +kernel
theorem dX13_laws_158 : decode cX13_laws 158 = .ok (.iconst 1, 1) := by decide +kernel
theorem dX13_laws_159 : decode cX13_laws 159 = .ok (.goto 4, 3) := by decide +kernel
theorem dX13_laws_162 : decode cX13_laws 162 = .ok (.iconst 0, 1) := by decide +kernel
theorem dX13_laws_163 : decode cX13_laws 163 = .ok (.istore 4, 2) := by decide +kernel
theorem dX13_laws_165 : decode cX13_laws 165 = .ok (.iinc 5 2, 3) := by decide +kernel
theorem dX13_laws_168 : decode cX13_laws 168 = .ok (.goto (-60), 3) := by decide +kernel
theorem dX13_laws_171 : decode cX13_laws 171 = .ok (.iload 4, 2) := by decide +kernel
theorem dX13_laws_173 : decode cX13_laws 173 = .ok (.ifCond .ne 6, 3) := by decide +kernel
theorem dX13_laws_176 : decode cX13_laws 176 = .ok (.goto 13, 3) := by decide +kernel
theorem dX13_laws_179 : decode cX13_laws 179 = .ok (.aload_n 0, 1) := by decide +kernel
theorem dX13_laws_180 : decode cX13_laws 180 = .ok (.getfield 61, 3) := by decide +kernel
theorem dX13_laws_183 : decode cX13_laws 183 = .ok (.iload_n 2, 1) := by decide +kernel
theorem dX13_laws_184 : decode cX13_laws 184 = .ok (.iload_n 3, 1) := by decide +kernel
theorem dX13_laws_185 : decode cX13_laws 185 = .ok (.iastore, 1) := by decide +kernel
theorem dX13_laws_186 : decode cX13_laws 186 = .ok (.iinc 2 1, 3) := by decide +kernel
theorem dX13_laws_189 : decode cX13_laws 189 = .ok (.iinc 3 1, 3) := by decide +kernel
theorem dX13_laws_192 : decode cX13_laws 192 = .ok (.goto (-102), 3) := by decide +kernel
theorem dX13_laws_195 : decode cX13_laws 195 = .ok (.iload_n 2, 1) := by decide +kernel
theorem dX13_laws_196 : decode cX13_laws 196 = .ok (.ifCond .ne 5, 3) := by decide +kernel
theorem dX13_laws_199 : decode cX13_laws 199 = .ok (.iconst 0, 1) := by decide +kernel
theorem dX13_laws_200 : decode cX13_laws 200 = .ok (.ireturn, 1) := by decide +kernel
theorem dX13_laws_201 : decode cX13_laws 201 = .ok (.aload_n 0, 1) := by decide +kernel
theorem dX13_laws_202 : decode cX13_laws 202 = .ok (.aload_n 0, 1) := by decide +kernel
theorem dX13_laws_203 : decode cX13_laws 203 = .ok (.getfield 61, 3) := by decide +kernel
theorem dX13_laws_206 : decode cX13_laws 206 = .ok (.iconst 0, 1) := by decide +kernel
theorem dX13_laws_207 : decode cX13_laws 207 = .ok (.iaload, 1) := by decide +kernel
theorem dX13_laws_208 : decode cX13_laws 208 = .ok (.putfield 64, 3) := by decide +kernel
theorem dX13_laws_211 : decode cX13_laws 211 = .ok (.iconst 1, 1) := by decide +kernel
theorem dX13_laws_212 : decode cX13_laws 212 = .ok (.istore_n 3, 1) := by decide +kernel
theorem dX13_laws_213 : decode cX13_laws 213 = .ok (.iload_n 3, 1) := by decide +kernel
theorem dX13_laws_214 : decode cX13_laws 214 = .ok (.iload_n 2, 1) := by decide +kernel
theorem dX13_laws_215 : decode cX13_laws 215 = .ok (.if_icmp .ge 38, 3) := by decide +kernel
theorem dX13_laws_218 : decode cX13_laws 218 = .ok (.aload_n 0, 1) := by decide +kernel
theorem dX13_laws_219 : decode cX13_laws 219 = .ok (.getfield 61, 3) := by decide +kernel
theorem dX13_laws_222 : decode cX13_laws 222 = .ok (.iload_n 3, 1) := by decide +kernel
theorem dX13_laws_223 : decode cX13_laws 223 = .ok (.iaload, 1) := by decide +kernel
theorem dX13_laws_224 : decode cX13_laws 224 = .ok (.invokestatic 357, 3) := by decide +kernel
theorem dX13_laws_227 : decode cX13_laws 227 = .ok (.aload_n 0, 1) := by decide +kernel
theorem dX13_laws_228 : decode cX13_laws 228 = .ok (.getfield 64, 3) := by decide +kernel
theorem dX13_laws_231 : decode cX13_laws 231 = .ok (.invokestatic 357, 3) := by decide +kernel
theorem dX13_laws_234 : decode cX13_laws 234 = .ok (.if_icmp .ge 13, 3) := by decide +kernel
theorem dX13_laws_237 : decode cX13_laws 237 = .ok (.aload_n 0, 1) := by decide +kernel
theorem dX13_laws_238 : decode cX13_laws 238 = .ok (.aload_n 0, 1) := by decide +kernel
theorem dX13_laws_239 : decode cX13_laws 239 = .ok (.getfield 61, 3) := by decide +kernel
theorem dX13_laws_242 : decode cX13_laws 242 = .ok (.iload_n 3, 1) := by decide +kernel
theorem dX13_laws_243 : decode cX13_laws 243 = .ok (.iaload, 1) := by decide +kernel
theorem dX13_laws_244 : decode cX13_laws 244 = .ok (.putfield 64, 3) := by decide +kernel
theorem dX13_laws_247 : decode cX13_laws 247 = .ok (.iinc 3 1, 3) := by decide +kernel
theorem dX13_laws_250 : decode cX13_laws 250 = .ok (.goto (-37), 3) := by decide +kernel
theorem dX13_laws_253 : decode cX13_laws 253 = .ok (.aload_n 0, 1) := by decide +kernel
theorem dX13_laws_254 : decode cX13_laws 254 = .ok (.iconst 0, 1) := by decide +kernel
theorem dX13_laws_255 : decode cX13_laws 255 = .ok (.putfield 67, 3) := by decide +kernel
theorem dX13_laws_258 : decode cX13_laws 258 = .ok (.iconst 1, 1) := by decide +kernel
theorem dX13_laws_259 : decode cX13_laws 259 = .ok (.istore_n 3, 1) := by decide +kernel
theorem dX13_laws_260 : decode cX13_laws 260 = .ok (.iload_n 3, 1) := by decide +kernel
theorem dX13_laws_261 : decode cX13_laws 261 = .ok (.aload_n 0, 1) := by decide +kernel
theorem dX13_laws_262 : decode cX13_laws 262 = .ok (.getfield 13, 3) := by decide +kernel
theorem dX13_laws_265 : decode cX13_laws 265 = .ok (.iconst 1, 1) := by decide +kernel
theorem dX13_laws_266 : decode cX13_laws 266 = .ok (.iaload, 1) := by decide +kernel
theorem dX13_laws_267 : decode cX13_laws 267 = .ok (.if_icmp .ge 44, 3) := by decide +kernel
theorem dX13_laws_270 : decode cX13_laws 270 = .ok (.aload_n 0, 1) := by decide +kernel
theorem dX13_laws_271 : decode cX13_laws 271 = .ok (.iload_n 3, 1) := by decide +kernel
theorem dX13_laws_272 : decode cX13_laws 272 = .ok (.iload_n 2, 1) := by decide +kernel
theorem dX13_laws_273 : decode cX13_laws 273 = .ok (.aload_n 0, 1) := by decide +kernel
theorem dX13_laws_274 : decode cX13_laws 274 = .ok (.getfield 7, 3) := by decide +kernel
theorem dX13_laws_277 : decode cX13_laws 277 = .ok (.iconst 0, 1) := by decide +kernel
theorem dX13_laws_278 : decode cX13_laws 278 = .ok (.iaload, 1) := by decide +kernel
theorem dX13_laws_279 : decode cX13_laws 279 = .ok (.invokevirtual 360, 3) := by decide +kernel
theorem dX13_laws_282 : decode cX13_laws 282 = .ok (.aload_n 0, 1) := by decide +kernel
theorem dX13_laws_283 : decode cX13_laws 283 = .ok (.aload_n 0, 1) := by decide +kernel
theorem dX13_laws_284 : decode cX13_laws 284 = .ok (.getfield 67, 3) := by decide +kernel
theorem dX13_laws_287 : decode cX13_laws 287 = .ok (.iload_n 2, 1) := by decide +kernel
theorem dX13_laws_288 : decode cX13_laws 288 = .ok (.aload_n 0, 1) := by decide +kernel
theorem dX13_laws_289 : decode cX13_laws 289 = .ok (.getfield 7, 3) := by decide +kernel
theorem dX13_laws_292 : decode cX13_laws 292 = .ok (.iconst 0, 1) := by decide +kernel
theorem dX13_laws_293 : decode cX13_laws 293 = .ok (.iaload, 1) := by decide +kernel
theorem dX13_laws_294 : decode cX13_laws 294 = .ok (.invokevirtual 360, 3) := by decide +kernel
theorem dX13_laws_297 : decode cX13_laws 297 = .ok (.if_icmp .ge 8, 3) := by decide +kernel
theorem dX13_laws_300 : decode cX13_laws 300 = .ok (.aload_n 0, 1) := by decide +kernel
theorem dX13_laws_301 : decode cX13_laws 301 = .ok (.iload_n 3, 1) := by decide +kernel
theorem dX13_laws_302 : decode cX13_laws 302 = .ok (.putfield 67, 3) := by decide +kernel
theorem dX13_laws_305 : decode cX13_laws 305 = .ok (.iinc 3 1, 3) := by decide +kernel
theorem dX13_laws_308 : decode cX13_laws 308 = .ok (.goto (-48), 3) := by decide +kernel
theorem dX13_laws_311 : decode cX13_laws 311 = .ok (.iload_n 2, 1) := by decide +kernel
theorem dX13_laws_312 : decode cX13_laws 312 = .ok (.ireturn, 1) := by decide +kernel
theorem bX13_laws_0 {G : Gt} {d bc bs : Nat} {Q : QT} {l : Ls} {z : List Value} {h : Hp} (k : (tAld 0 (tPush (.int 0) (tPutf isI 11 0 (tAld 0 (tCV0 G d 0 0 11 mX13_take (fun l z h => T G d bc bs mX13_laws 9 l z h Q)))))) l z h) : T G d bc bs mX13_laws 0 l z h Q := by
  refine R_aload_n dX13_laws_0 rfl (fun l z h k => ?_) k
  refine R_iconst dX13_laws_1 (by decide) (fun l z h k => ?_) k
  refine R_putf (ci := 11) (f := 0) (C := RX13) (N := 49) (Tt := TX13) tyX13 tyX13_ok nmX13 dX13_laws_2 rfl i_X13 (by decide) w_1467 rfl (tyX13_ok 0 (by decide)) p_int (fun l z h k => ?_) k
  refine R_aload_n dX13_laws_5 rfl (fun l z h k => ?_) k
  exact R_cv0 (M := mX13_laws) (pc := 6) (bc := bc) (bs := bs) (cb := 0) (cs := 0) (M' := mX13_take) dX13_laws_6 rfl (by decide) w_1643 w_144 w_1640 w_1642 w_46 (by decide +kernel) (fun _ _ _ k => k) k
theorem bX13_laws_9 {G : Gt} {d bc bs : Nat} {Q : QT} {l : Ls} {z : List Value} {h : Hp} (k : (tIst 1 (tIld 1 (tPush (.int 2) (tBn (fun x y => x - x / y * y) (tPush (.int 1) (tIf2 (fun x y => x = y) (fun l z h => T G d bc bs mX13_laws 17 l z h Q) (fun l z h => T G d bc bs mX13_laws 44 l z h Q))))))) l z h) : T G d bc bs mX13_laws 9 l z h Q := by
  refine R_istore_n dX13_laws_9 rfl (by decide) (fun l z h k => ?_) k
  refine R_iload_n dX13_laws_10 rfl (fun l z h k => ?_) k
  refine R_iconst dX13_laws_11 (by decide) (fun l z h k => ?_) k
  refine R_irem dX13_laws_12 (fun l z h k => ?_) k
  refine R_iconst dX13_laws_13 (by decide) (fun l z h k => ?_) k
  exact R_icmp_ne dX13_laws_14 (by decide) (fun _ _ _ k => k) (fun _ _ _ k => k) k
theorem bX13_laws_17 {G : Gt} {d bc bs : Nat} {Q : QT} {l : Ls} {z : List Value} {h : Hp} (k : (tIld 1 (tPush (.int 2) (tBn (fun x y => x / y) (tPush (.int 1) (tPush (.int 8) (tCS3 G d 0 0 mX13_isIn (fun l z h => T G d bc bs mX13_laws 26 l z h Q))))))) l z h) : T G d bc bs mX13_laws 17 l z h Q := by
  refine R_iload_n dX13_laws_17 rfl (fun l z h k => ?_) k
  refine R_iconst dX13_laws_18 (by decide) (fun l z h k => ?_) k
  refine R_idiv dX13_laws_19 (fun l z h k => ?_) k
  refine R_iconst dX13_laws_20 (by decide) (fun l z h k => ?_) k
  refine R_bipush dX13_laws_21 (by decide) (fun l z h k => ?_) k
  exact R_cs3 (M := mX13_laws) (pc := 23) (bc := bc) (bs := bs) (cb := 0) (cs := 0) (M' := mX13_isIn) dX13_laws_23 (by decide) w_1711 w_144 w_1709 w_1710 (by decide +kernel) (fun _ _ _ k => k) k
theorem bX13_laws_26 {G : Gt} {d bc bs : Nat} {Q : QT} {l : Ls} {z : List Value} {h : Hp} (k : (tIf (fun x => x = 0) (fun l z h => T G d bc bs mX13_laws 44 l z h Q) (fun l z h => T G d bc bs mX13_laws 29 l z h Q)) l z h) : T G d bc bs mX13_laws 26 l z h Q := by
  exact R_if_eq dX13_laws_26 (by decide) (fun _ _ _ k => k) (fun _ _ _ k => k) k
theorem bX13_laws_29 {G : Gt} {d bc bs : Nat} {Q : QT} {l : Ls} {z : List Value} {h : Hp} (k : (tAld 0 (tGetf 11 1 (tPush (.int 0) (tXald 0 (tPush (.int 1) (tPush (.int 12) (tCS3 G d 0 0 mX13_isIn (fun l z h => T G d bc bs mX13_laws 41 l z h Q)))))))) l z h) : T G d bc bs mX13_laws 29 l z h Q := by
  refine R_aload_n dX13_laws_29 rfl (fun l z h k => ?_) k
  refine R_getf (ci := 11) (f := 1) (C := RX13) (N := 49) (Tt := TX13) dX13_laws_30 rfl i_X13 (by decide) w_1468 (fun l z h k => ?_) k
  refine R_iconst dX13_laws_33 (by decide) (fun l z h k => ?_) k
  refine R_iaload dX13_laws_34 (fun l z h k => ?_) k
  refine R_iconst dX13_laws_35 (by decide) (fun l z h k => ?_) k
  refine R_bipush dX13_laws_36 (by decide) (fun l z h k => ?_) k
  exact R_cs3 (M := mX13_laws) (pc := 38) (bc := bc) (bs := bs) (cb := 0) (cs := 0) (M' := mX13_isIn) dX13_laws_38 (by decide) w_1711 w_144 w_1709 w_1710 (by decide +kernel) (fun _ _ _ k => k) k
theorem bX13_laws_41 {G : Gt} {d bc bs : Nat} {Q : QT} {l : Ls} {z : List Value} {h : Hp} (k : (tIf (fun x => x = 0) (fun l z h => T G d bc bs mX13_laws 44 l z h Q) (fun l z h => T G d bc bs mX13_laws 46 l z h Q)) l z h) : T G d bc bs mX13_laws 41 l z h Q := by
  exact R_if_ne dX13_laws_41 (by decide) (fun _ _ _ k => k) (fun _ _ _ k => k) k
theorem bX13_laws_44 {G : Gt} {d bc bs : Nat} {Q : QT} {l : Ls} {z : List Value} {h : Hp} (k : (tPush (.int (-1)) (tRetI Q)) l z h) : T G d bc bs mX13_laws 44 l z h Q := by
  refine R_iconst dX13_laws_44 (by decide) (fun l z h k => ?_) k
  exact R_iret dX13_laws_45 rfl k
theorem bX13_laws_46 {G : Gt} {d bc bs : Nat} {Q : QT} {l : Ls} {z : List Value} {h : Hp} (k : (tPush (.int 1) (tIst 2 ((fun l z h => T G d bc bs mX13_laws 48 l z h Q)))) l z h) : T G d bc bs mX13_laws 46 l z h Q := by
  refine R_iconst dX13_laws_46 (by decide) (fun l z h k => ?_) k
  refine R_istore_n dX13_laws_47 rfl (by decide) (fun l z h k => ?_) k
  exact k
theorem bX13_laws_48 {G : Gt} {d bc bs : Nat} {Q : QT} {l : Ls} {z : List Value} {h : Hp} (k : (tIld 2 (tIld 1 (tIf2 (fun x y => y ≤ x) (fun l z h => T G d bc bs mX13_laws 86 l z h Q) (fun l z h => T G d bc bs mX13_laws 53 l z h Q)))) l z h) : T G d bc bs mX13_laws 48 l z h Q := by
  refine R_iload_n dX13_laws_48 rfl (fun l z h k => ?_) k
  refine R_iload_n dX13_laws_49 rfl (fun l z h k => ?_) k
  exact R_icmp_ge dX13_laws_50 (by decide) (fun _ _ _ k => k) (fun _ _ _ k => k) k
theorem bX13_laws_53 {G : Gt} {d bc bs : Nat} {Q : QT} {l : Ls} {z : List Value} {h : Hp} (k : (tAld 0 (tAld 0 (tGetf 11 1 (tIld 2 (tXald 0 (tCV1 G d 0 0 11 mX13_isPerson (fun l z h => T G d bc bs mX13_laws 63 l z h Q))))))) l z h) : T G d bc bs mX13_laws 53 l z h Q := by
  refine R_aload_n dX13_laws_53 rfl (fun l z h k => ?_) k
  refine R_aload_n dX13_laws_54 rfl (fun l z h k => ?_) k
  refine R_getf (ci := 11) (f := 1) (C := RX13) (N := 49) (Tt := TX13) dX13_laws_55 rfl i_X13 (by decide) w_1468 (fun l z h k => ?_) k
  refine R_iload_n dX13_laws_58 rfl (fun l z h k => ?_) k
  refine R_iaload dX13_laws_59 (fun l z h k => ?_) k
  exact R_cv1 (M := mX13_laws) (pc := 60) (bc := bc) (bs := bs) (cb := 0) (cs := 0) (M' := mX13_isPerson) dX13_laws_60 rfl (by decide) w_1767 w_144 w_1764 w_1766 w_70 (by decide +kernel) (fun _ _ _ k => k) k
theorem bX13_laws_63 {G : Gt} {d bc bs : Nat} {Q : QT} {l : Ls} {z : List Value} {h : Hp} (k : (tIf (fun x => x = 0) (fun l z h => T G d bc bs mX13_laws 78 l z h Q) (fun l z h => T G d bc bs mX13_laws 66 l z h Q)) l z h) : T G d bc bs mX13_laws 63 l z h Q := by
  exact R_if_eq dX13_laws_63 (by decide) (fun _ _ _ k => k) (fun _ _ _ k => k) k
theorem bX13_laws_66 {G : Gt} {d bc bs : Nat} {Q : QT} {l : Ls} {z : List Value} {h : Hp} (k : (tAld 0 (tGetf 11 1 (tIld 2 (tPush (.int 1) (tB (fun x y => x + y) (tXald 0 (tPush (.int 1) (tIf2 (fun x y => x ≤ y) (fun l z h => T G d bc bs mX13_laws 80 l z h Q) (fun l z h => T G d bc bs mX13_laws 78 l z h Q))))))))) l z h) : T G d bc bs mX13_laws 66 l z h Q := by
  refine R_aload_n dX13_laws_66 rfl (fun l z h k => ?_) k
  refine R_getf (ci := 11) (f := 1) (C := RX13) (N := 49) (Tt := TX13) dX13_laws_67 rfl i_X13 (by decide) w_1468 (fun l z h k => ?_) k
  refine R_iload_n dX13_laws_70 rfl (fun l z h k => ?_) k
  refine R_iconst dX13_laws_71 (by decide) (fun l z h k => ?_) k
  refine R_iadd dX13_laws_72 (fun l z h k => ?_) k
  refine R_iaload dX13_laws_73 (fun l z h k => ?_) k
  refine R_iconst dX13_laws_74 (by decide) (fun l z h k => ?_) k
  exact R_icmp_le dX13_laws_75 (by decide) (fun _ _ _ k => k) (fun _ _ _ k => k) k
theorem bX13_laws_78 {G : Gt} {d bc bs : Nat} {Q : QT} {l : Ls} {z : List Value} {h : Hp} (k : (tPush (.int (-1)) (tRetI Q)) l z h) : T G d bc bs mX13_laws 78 l z h Q := by
  refine R_iconst dX13_laws_78 (by decide) (fun l z h k => ?_) k
  exact R_iret dX13_laws_79 rfl k
theorem bX13_laws_80 {G : Gt} {d bc bs : Nat} {Q : QT} {l : Ls} {z : List Value} {h : Hp} (k : (tInc 2 2 ((fun l z h => T G d bc bs mX13_laws 48 l z h Q))) l z h) : T G d bc bs mX13_laws 80 l z h Q := by
  refine R_iinc dX13_laws_80 (by decide) (by decide) (fun l z h k => ?_) k
  exact R_goto dX13_laws_83 (by decide) (fun _ _ _ k => k) k
theorem bX13_laws_86 {G : Gt} {d bc bs : Nat} {Q : QT} {l : Ls} {z : List Value} {h : Hp} (k : (tPush (.int 0) (tIst 2 (tPush (.int 0) (tIst 3 ((fun l z h => T G d bc bs mX13_laws 90 l z h Q)))))) l z h) : T G d bc bs mX13_laws 86 l z h Q := by
  refine R_iconst dX13_laws_86 (by decide) (fun l z h k => ?_) k
  refine R_istore_n dX13_laws_87 rfl (by decide) (fun l z h k => ?_) k
  refine R_iconst dX13_laws_88 (by decide) (fun l z h k => ?_) k
  refine R_istore_n dX13_laws_89 rfl (by decide) (fun l z h k => ?_) k
  exact k
theorem bX13_laws_90 {G : Gt} {d bc bs : Nat} {Q : QT} {l : Ls} {z : List Value} {h : Hp} (k : (tIld 3 (tPush (.int 1) (tAld 0 (tGetf 11 14 (tPush (.int 0) (tXald 0 (tB (fun x y => x <<< (y &&& 31)) (tIf2 (fun x y => y ≤ x) (fun l z h => T G d bc bs mX13_laws 195 l z h Q) (fun l z h => T G d bc bs mX13_laws 102 l z h Q))))))))) l z h) : T G d bc bs mX13_laws 90 l z h Q := by
  refine R_iload_n dX13_laws_90 rfl (fun l z h k => ?_) k
  refine R_iconst dX13_laws_91 (by decide) (fun l z h k => ?_) k
  refine R_aload_n dX13_laws_92 rfl (fun l z h k => ?_) k
  refine R_getf (ci := 11) (f := 14) (C := RX13) (N := 49) (Tt := TX13) dX13_laws_93 rfl i_X13 (by decide) w_1481 (fun l z h k => ?_) k
  refine R_iconst dX13_laws_96 (by decide) (fun l z h k => ?_) k
  refine R_iaload dX13_laws_97 (fun l z h k => ?_) k
  refine R_ishl dX13_laws_98 (fun l z h k => ?_) k
  exact R_icmp_ge dX13_laws_99 (by decide) (fun _ _ _ k => k) (fun _ _ _ k => k) k
theorem bX13_laws_102 {G : Gt} {d bc bs : Nat} {Q : QT} {l : Ls} {z : List Value} {h : Hp} (k : (tPush (.int 1) (tIst 4 (tPush (.int 1) (tIst 5 ((fun l z h => T G d bc bs mX13_laws 108 l z h Q)))))) l z h) : T G d bc bs mX13_laws 102 l z h Q := by
  refine R_iconst dX13_laws_102 (by decide) (fun l z h k => ?_) k
  refine R_istore dX13_laws_103 (by decide) (fun l z h k => ?_) k
  refine R_iconst dX13_laws_105 (by decide) (fun l z h k => ?_) k
  refine R_istore dX13_laws_106 (by decide) (fun l z h k => ?_) k
  exact k
theorem bX13_laws_108 {G : Gt} {d bc bs : Nat} {Q : QT} {l : Ls} {z : List Value} {h : Hp} (k : (tIld 5 (tIld 1 (tIf2 (fun x y => y ≤ x) (fun l z h => T G d bc bs mX13_laws 171 l z h Q) (fun l z h => T G d bc bs mX13_laws 114 l z h Q)))) l z h) : T G d bc bs mX13_laws 108 l z h Q := by
  refine R_iload dX13_laws_108 (fun l z h k => ?_) k
  refine R_iload_n dX13_laws_110 rfl (fun l z h k => ?_) k
  exact R_icmp_ge dX13_laws_111 (by decide) (fun _ _ _ k => k) (fun _ _ _ k => k) k
theorem bX13_laws_114 {G : Gt} {d bc bs : Nat} {Q : QT} {l : Ls} {z : List Value} {h : Hp} (k : (tIld 4 (tIf (fun x => x = 0) (fun l z h => T G d bc bs mX13_laws 162 l z h Q) (fun l z h => T G d bc bs mX13_laws 119 l z h Q))) l z h) : T G d bc bs mX13_laws 114 l z h Q := by
  refine R_iload dX13_laws_114 (fun l z h k => ?_) k
  exact R_if_eq dX13_laws_116 (by decide) (fun _ _ _ k => k) (fun _ _ _ k => k) k
theorem bX13_laws_119 {G : Gt} {d bc bs : Nat} {Q : QT} {l : Ls} {z : List Value} {h : Hp} (k : (tAld 0 (tAld 0 (tGetf 11 1 (tIld 5 (tXald 0 (tIld 3 (tAld 0 (tGetf 11 1 (tPush (.int 0) (tXald 0 (tCV3 G d 0 0 11 mX13_isLetBy (fun l z h => T G d bc bs mX13_laws 137 l z h Q)))))))))))) l z h) : T G d bc bs mX13_laws 119 l z h Q := by
  refine R_aload_n dX13_laws_119 rfl (fun l z h k => ?_) k
  refine R_aload_n dX13_laws_120 rfl (fun l z h k => ?_) k
  refine R_getf (ci := 11) (f := 1) (C := RX13) (N := 49) (Tt := TX13) dX13_laws_121 rfl i_X13 (by decide) w_1468 (fun l z h k => ?_) k
  refine R_iload dX13_laws_124 (fun l z h k => ?_) k
  refine R_iaload dX13_laws_126 (fun l z h k => ?_) k
  refine R_iload_n dX13_laws_127 rfl (fun l z h k => ?_) k
  refine R_aload_n dX13_laws_128 rfl (fun l z h k => ?_) k
  refine R_getf (ci := 11) (f := 1) (C := RX13) (N := 49) (Tt := TX13) dX13_laws_129 rfl i_X13 (by decide) w_1468 (fun l z h k => ?_) k
  refine R_iconst dX13_laws_132 (by decide) (fun l z h k => ?_) k
  refine R_iaload dX13_laws_133 (fun l z h k => ?_) k
  exact R_cv3 (M := mX13_laws) (pc := 134) (bc := bc) (bs := bs) (cb := 0) (cs := 0) (M' := mX13_isLetBy) dX13_laws_134 rfl (by decide) w_1968 w_144 w_1965 w_1967 w_100 (by decide +kernel) (fun _ _ _ k => k) k
theorem bX13_laws_137 {G : Gt} {d bc bs : Nat} {Q : QT} {l : Ls} {z : List Value} {h : Hp} (k : (tAld 0 (tGetf 11 1 (tIld 5 (tPush (.int 1) (tB (fun x y => x + y) (tXald 0 (tPush (.int 1) (tIf2 (fun x y => x = y) (fun l z h => T G d bc bs mX13_laws 150 l z h Q) (fun l z h => T G d bc bs mX13_laws 154 l z h Q))))))))) l z h) : T G d bc bs mX13_laws 137 l z h Q := by
  refine R_aload_n dX13_laws_137 rfl (fun l z h k => ?_) k
  refine R_getf (ci := 11) (f := 1) (C := RX13) (N := 49) (Tt := TX13) dX13_laws_138 rfl i_X13 (by decide) w_1468 (fun l z h k => ?_) k
  refine R_iload dX13_laws_141 (fun l z h k => ?_) k
  refine R_iconst dX13_laws_143 (by decide) (fun l z h k => ?_) k
  refine R_iadd dX13_laws_144 (fun l z h k => ?_) k
  refine R_iaload dX13_laws_145 (fun l z h k => ?_) k
  refine R_iconst dX13_laws_146 (by decide) (fun l z h k => ?_) k
  exact R_icmp_ne dX13_laws_147 (by decide) (fun _ _ _ k => k) (fun _ _ _ k => k) k
theorem bX13_laws_150 {G : Gt} {d bc bs : Nat} {Q : QT} {l : Ls} {z : List Value} {h : Hp} (k : (tPush (.int 1) ((fun l z h => T G d bc bs mX13_laws 155 l z h Q))) l z h) : T G d bc bs mX13_laws 150 l z h Q := by
  refine R_iconst dX13_laws_150 (by decide) (fun l z h k => ?_) k
  exact R_goto dX13_laws_151 (by decide) (fun _ _ _ k => k) k
theorem bX13_laws_154 {G : Gt} {d bc bs : Nat} {Q : QT} {l : Ls} {z : List Value} {h : Hp} (k : (tPush (.int 0) ((fun l z h => T G d bc bs mX13_laws 155 l z h Q))) l z h) : T G d bc bs mX13_laws 154 l z h Q := by
  refine R_iconst dX13_laws_154 (by decide) (fun l z h k => ?_) k
  exact k
theorem bX13_laws_155 {G : Gt} {d bc bs : Nat} {Q : QT} {l : Ls} {z : List Value} {h : Hp} (k : (tIf2 (fun x y => x = y) (fun l z h => T G d bc bs mX13_laws 158 l z h Q) (fun l z h => T G d bc bs mX13_laws 162 l z h Q)) l z h) : T G d bc bs mX13_laws 155 l z h Q := by
  exact R_icmp_ne dX13_laws_155 (by decide) (fun _ _ _ k => k) (fun _ _ _ k => k) k
theorem bX13_laws_158 {G : Gt} {d bc bs : Nat} {Q : QT} {l : Ls} {z : List Value} {h : Hp} (k : (tPush (.int 1) ((fun l z h => T G d bc bs mX13_laws 163 l z h Q))) l z h) : T G d bc bs mX13_laws 158 l z h Q := by
  refine R_iconst dX13_laws_158 (by decide) (fun l z h k => ?_) k
  exact R_goto dX13_laws_159 (by decide) (fun _ _ _ k => k) k
theorem bX13_laws_162 {G : Gt} {d bc bs : Nat} {Q : QT} {l : Ls} {z : List Value} {h : Hp} (k : (tPush (.int 0) ((fun l z h => T G d bc bs mX13_laws 163 l z h Q))) l z h) : T G d bc bs mX13_laws 162 l z h Q := by
  refine R_iconst dX13_laws_162 (by decide) (fun l z h k => ?_) k
  exact k
theorem bX13_laws_163 {G : Gt} {d bc bs : Nat} {Q : QT} {l : Ls} {z : List Value} {h : Hp} (k : (tIst 4 (tInc 5 2 ((fun l z h => T G d bc bs mX13_laws 108 l z h Q)))) l z h) : T G d bc bs mX13_laws 163 l z h Q := by
  refine R_istore dX13_laws_163 (by decide) (fun l z h k => ?_) k
  refine R_iinc dX13_laws_165 (by decide) (by decide) (fun l z h k => ?_) k
  exact R_goto dX13_laws_168 (by decide) (fun _ _ _ k => k) k
theorem bX13_laws_171 {G : Gt} {d bc bs : Nat} {Q : QT} {l : Ls} {z : List Value} {h : Hp} (k : (tIld 4 (tIf (fun x => x = 0) (fun l z h => T G d bc bs mX13_laws 176 l z h Q) (fun l z h => T G d bc bs mX13_laws 179 l z h Q))) l z h) : T G d bc bs mX13_laws 171 l z h Q := by
  refine R_iload dX13_laws_171 (fun l z h k => ?_) k
  exact R_if_ne dX13_laws_173 (by decide) (fun _ _ _ k => k) (fun _ _ _ k => k) k
theorem bX13_laws_176 {G : Gt} {d bc bs : Nat} {Q : QT} {l : Ls} {z : List Value} {h : Hp} (k : (fun l z h => T G d bc bs mX13_laws 189 l z h Q) l z h) : T G d bc bs mX13_laws 176 l z h Q := by
  exact R_goto dX13_laws_176 (by decide) (fun _ _ _ k => k) k
theorem bX13_laws_179 {G : Gt} {d bc bs : Nat} {Q : QT} {l : Ls} {z : List Value} {h : Hp} (k : (tAld 0 (tGetf 11 33 (tIld 2 (tIld 3 (tXast 0 (tInc 2 1 ((fun l z h => T G d bc bs mX13_laws 189 l z h Q)))))))) l z h) : T G d bc bs mX13_laws 179 l z h Q := by
  refine R_aload_n dX13_laws_179 rfl (fun l z h k => ?_) k
  refine R_getf (ci := 11) (f := 33) (C := RX13) (N := 49) (Tt := TX13) dX13_laws_180 rfl i_X13 (by decide) w_1500 (fun l z h k => ?_) k
  refine R_iload_n dX13_laws_183 rfl (fun l z h k => ?_) k
  refine R_iload_n dX13_laws_184 rfl (fun l z h k => ?_) k
  refine R_iastore dX13_laws_185 (fun l z h k => ?_) k
  refine R_iinc dX13_laws_186 (by decide) (by decide) (fun l z h k => ?_) k
  exact k
theorem bX13_laws_189 {G : Gt} {d bc bs : Nat} {Q : QT} {l : Ls} {z : List Value} {h : Hp} (k : (tInc 3 1 ((fun l z h => T G d bc bs mX13_laws 90 l z h Q))) l z h) : T G d bc bs mX13_laws 189 l z h Q := by
  refine R_iinc dX13_laws_189 (by decide) (by decide) (fun l z h k => ?_) k
  exact R_goto dX13_laws_192 (by decide) (fun _ _ _ k => k) k
theorem bX13_laws_195 {G : Gt} {d bc bs : Nat} {Q : QT} {l : Ls} {z : List Value} {h : Hp} (k : (tIld 2 (tIf (fun x => x = 0) (fun l z h => T G d bc bs mX13_laws 199 l z h Q) (fun l z h => T G d bc bs mX13_laws 201 l z h Q))) l z h) : T G d bc bs mX13_laws 195 l z h Q := by
  refine R_iload_n dX13_laws_195 rfl (fun l z h k => ?_) k
  exact R_if_ne dX13_laws_196 (by decide) (fun _ _ _ k => k) (fun _ _ _ k => k) k
theorem bX13_laws_199 {G : Gt} {d bc bs : Nat} {Q : QT} {l : Ls} {z : List Value} {h : Hp} (k : (tPush (.int 0) (tRetI Q)) l z h) : T G d bc bs mX13_laws 199 l z h Q := by
  refine R_iconst dX13_laws_199 (by decide) (fun l z h k => ?_) k
  exact R_iret dX13_laws_200 rfl k
theorem bX13_laws_201 {G : Gt} {d bc bs : Nat} {Q : QT} {l : Ls} {z : List Value} {h : Hp} (k : (tAld 0 (tAld 0 (tGetf 11 33 (tPush (.int 0) (tXald 0 (tPutf isI 11 34 (tPush (.int 1) (tIst 3 ((fun l z h => T G d bc bs mX13_laws 213 l z h Q)))))))))) l z h) : T G d bc bs mX13_laws 201 l z h Q := by
  refine R_aload_n dX13_laws_201 rfl (fun l z h k => ?_) k
  refine R_aload_n dX13_laws_202 rfl (fun l z h k => ?_) k
  refine R_getf (ci := 11) (f := 33) (C := RX13) (N := 49) (Tt := TX13) dX13_laws_203 rfl i_X13 (by decide) w_1500 (fun l z h k => ?_) k
  refine R_iconst dX13_laws_206 (by decide) (fun l z h k => ?_) k
  refine R_iaload dX13_laws_207 (fun l z h k => ?_) k
  refine R_putf (ci := 11) (f := 34) (C := RX13) (N := 49) (Tt := TX13) tyX13 tyX13_ok nmX13 dX13_laws_208 rfl i_X13 (by decide) w_1501 rfl (tyX13_ok 34 (by decide)) p_int (fun l z h k => ?_) k
  refine R_iconst dX13_laws_211 (by decide) (fun l z h k => ?_) k
  refine R_istore_n dX13_laws_212 rfl (by decide) (fun l z h k => ?_) k
  exact k
theorem bX13_laws_213 {G : Gt} {d bc bs : Nat} {Q : QT} {l : Ls} {z : List Value} {h : Hp} (k : (tIld 3 (tIld 2 (tIf2 (fun x y => y ≤ x) (fun l z h => T G d bc bs mX13_laws 253 l z h Q) (fun l z h => T G d bc bs mX13_laws 218 l z h Q)))) l z h) : T G d bc bs mX13_laws 213 l z h Q := by
  refine R_iload_n dX13_laws_213 rfl (fun l z h k => ?_) k
  refine R_iload_n dX13_laws_214 rfl (fun l z h k => ?_) k
  exact R_icmp_ge dX13_laws_215 (by decide) (fun _ _ _ k => k) (fun _ _ _ k => k) k
theorem bX13_laws_218 {G : Gt} {d bc bs : Nat} {Q : QT} {l : Ls} {z : List Value} {h : Hp} (k : (tAld 0 (tGetf 11 33 (tIld 3 (tXald 0 (tCS1 G d 0 0 mX13_bits (fun l z h => T G d bc bs mX13_laws 227 l z h Q)))))) l z h) : T G d bc bs mX13_laws 218 l z h Q := by
  refine R_aload_n dX13_laws_218 rfl (fun l z h k => ?_) k
  refine R_getf (ci := 11) (f := 33) (C := RX13) (N := 49) (Tt := TX13) dX13_laws_219 rfl i_X13 (by decide) w_1500 (fun l z h k => ?_) k
  refine R_iload_n dX13_laws_222 rfl (fun l z h k => ?_) k
  refine R_iaload dX13_laws_223 (fun l z h k => ?_) k
  exact R_cs1 (M := mX13_laws) (pc := 224) (bc := bc) (bs := bs) (cb := 0) (cs := 0) (M' := mX13_bits) dX13_laws_224 (by decide) w_1971 w_144 w_1969 w_1970 (by decide +kernel) (fun _ _ _ k => k) k
theorem bX13_laws_227 {G : Gt} {d bc bs : Nat} {Q : QT} {l : Ls} {z : List Value} {h : Hp} (k : (tAld 0 (tGetf 11 34 (tCS1 G d 0 0 mX13_bits (fun l z h => T G d bc bs mX13_laws 234 l z h Q)))) l z h) : T G d bc bs mX13_laws 227 l z h Q := by
  refine R_aload_n dX13_laws_227 rfl (fun l z h k => ?_) k
  refine R_getf (ci := 11) (f := 34) (C := RX13) (N := 49) (Tt := TX13) dX13_laws_228 rfl i_X13 (by decide) w_1501 (fun l z h k => ?_) k
  exact R_cs1 (M := mX13_laws) (pc := 231) (bc := bc) (bs := bs) (cb := 0) (cs := 0) (M' := mX13_bits) dX13_laws_231 (by decide) w_1971 w_144 w_1969 w_1970 (by decide +kernel) (fun _ _ _ k => k) k
theorem bX13_laws_234 {G : Gt} {d bc bs : Nat} {Q : QT} {l : Ls} {z : List Value} {h : Hp} (k : (tIf2 (fun x y => y ≤ x) (fun l z h => T G d bc bs mX13_laws 247 l z h Q) (fun l z h => T G d bc bs mX13_laws 237 l z h Q)) l z h) : T G d bc bs mX13_laws 234 l z h Q := by
  exact R_icmp_ge dX13_laws_234 (by decide) (fun _ _ _ k => k) (fun _ _ _ k => k) k
theorem bX13_laws_237 {G : Gt} {d bc bs : Nat} {Q : QT} {l : Ls} {z : List Value} {h : Hp} (k : (tAld 0 (tAld 0 (tGetf 11 33 (tIld 3 (tXald 0 (tPutf isI 11 34 ((fun l z h => T G d bc bs mX13_laws 247 l z h Q)))))))) l z h) : T G d bc bs mX13_laws 237 l z h Q := by
  refine R_aload_n dX13_laws_237 rfl (fun l z h k => ?_) k
  refine R_aload_n dX13_laws_238 rfl (fun l z h k => ?_) k
  refine R_getf (ci := 11) (f := 33) (C := RX13) (N := 49) (Tt := TX13) dX13_laws_239 rfl i_X13 (by decide) w_1500 (fun l z h k => ?_) k
  refine R_iload_n dX13_laws_242 rfl (fun l z h k => ?_) k
  refine R_iaload dX13_laws_243 (fun l z h k => ?_) k
  refine R_putf (ci := 11) (f := 34) (C := RX13) (N := 49) (Tt := TX13) tyX13 tyX13_ok nmX13 dX13_laws_244 rfl i_X13 (by decide) w_1501 rfl (tyX13_ok 34 (by decide)) p_int (fun l z h k => ?_) k
  exact k
theorem bX13_laws_247 {G : Gt} {d bc bs : Nat} {Q : QT} {l : Ls} {z : List Value} {h : Hp} (k : (tInc 3 1 ((fun l z h => T G d bc bs mX13_laws 213 l z h Q))) l z h) : T G d bc bs mX13_laws 247 l z h Q := by
  refine R_iinc dX13_laws_247 (by decide) (by decide) (fun l z h k => ?_) k
  exact R_goto dX13_laws_250 (by decide) (fun _ _ _ k => k) k
theorem bX13_laws_253 {G : Gt} {d bc bs : Nat} {Q : QT} {l : Ls} {z : List Value} {h : Hp} (k : (tAld 0 (tPush (.int 0) (tPutf isI 11 35 (tPush (.int 1) (tIst 3 ((fun l z h => T G d bc bs mX13_laws 260 l z h Q))))))) l z h) : T G d bc bs mX13_laws 253 l z h Q := by
  refine R_aload_n dX13_laws_253 rfl (fun l z h k => ?_) k
  refine R_iconst dX13_laws_254 (by decide) (fun l z h k => ?_) k
  refine R_putf (ci := 11) (f := 35) (C := RX13) (N := 49) (Tt := TX13) tyX13 tyX13_ok nmX13 dX13_laws_255 rfl i_X13 (by decide) w_1502 rfl (tyX13_ok 35 (by decide)) p_int (fun l z h k => ?_) k
  refine R_iconst dX13_laws_258 (by decide) (fun l z h k => ?_) k
  refine R_istore_n dX13_laws_259 rfl (by decide) (fun l z h k => ?_) k
  exact k
theorem bX13_laws_260 {G : Gt} {d bc bs : Nat} {Q : QT} {l : Ls} {z : List Value} {h : Hp} (k : (tIld 3 (tAld 0 (tGetf 11 14 (tPush (.int 1) (tXald 0 (tIf2 (fun x y => y ≤ x) (fun l z h => T G d bc bs mX13_laws 311 l z h Q) (fun l z h => T G d bc bs mX13_laws 270 l z h Q))))))) l z h) : T G d bc bs mX13_laws 260 l z h Q := by
  refine R_iload_n dX13_laws_260 rfl (fun l z h k => ?_) k
  refine R_aload_n dX13_laws_261 rfl (fun l z h k => ?_) k
  refine R_getf (ci := 11) (f := 14) (C := RX13) (N := 49) (Tt := TX13) dX13_laws_262 rfl i_X13 (by decide) w_1481 (fun l z h k => ?_) k
  refine R_iconst dX13_laws_265 (by decide) (fun l z h k => ?_) k
  refine R_iaload dX13_laws_266 (fun l z h k => ?_) k
  exact R_icmp_ge dX13_laws_267 (by decide) (fun _ _ _ k => k) (fun _ _ _ k => k) k
theorem bX13_laws_270 {G : Gt} {d bc bs : Nat} {Q : QT} {l : Ls} {z : List Value} {h : Hp} (k : (tAld 0 (tIld 3 (tIld 2 (tAld 0 (tGetf 11 1 (tPush (.int 0) (tXald 0 (tCV3 G d 0 0 11 mX13_alikeBy (fun l z h => T G d bc bs mX13_laws 282 l z h Q))))))))) l z h) : T G d bc bs mX13_laws 270 l z h Q := by
  refine R_aload_n dX13_laws_270 rfl (fun l z h k => ?_) k
  refine R_iload_n dX13_laws_271 rfl (fun l z h k => ?_) k
  refine R_iload_n dX13_laws_272 rfl (fun l z h k => ?_) k
  refine R_aload_n dX13_laws_273 rfl (fun l z h k => ?_) k
  refine R_getf (ci := 11) (f := 1) (C := RX13) (N := 49) (Tt := TX13) dX13_laws_274 rfl i_X13 (by decide) w_1468 (fun l z h k => ?_) k
  refine R_iconst dX13_laws_277 (by decide) (fun l z h k => ?_) k
  refine R_iaload dX13_laws_278 (fun l z h k => ?_) k
  exact R_cv3 (M := mX13_laws) (pc := 279) (bc := bc) (bs := bs) (cb := 0) (cs := 0) (M' := mX13_alikeBy) dX13_laws_279 rfl (by decide) w_1975 w_144 w_1972 w_1974 w_101 (by decide +kernel) (fun _ _ _ k => k) k
theorem bX13_laws_282 {G : Gt} {d bc bs : Nat} {Q : QT} {l : Ls} {z : List Value} {h : Hp} (k : (tAld 0 (tAld 0 (tGetf 11 35 (tIld 2 (tAld 0 (tGetf 11 1 (tPush (.int 0) (tXald 0 (tCV3 G d 0 0 11 mX13_alikeBy (fun l z h => T G d bc bs mX13_laws 297 l z h Q)))))))))) l z h) : T G d bc bs mX13_laws 282 l z h Q := by
  refine R_aload_n dX13_laws_282 rfl (fun l z h k => ?_) k
  refine R_aload_n dX13_laws_283 rfl (fun l z h k => ?_) k
  refine R_getf (ci := 11) (f := 35) (C := RX13) (N := 49) (Tt := TX13) dX13_laws_284 rfl i_X13 (by decide) w_1502 (fun l z h k => ?_) k
  refine R_iload_n dX13_laws_287 rfl (fun l z h k => ?_) k
  refine R_aload_n dX13_laws_288 rfl (fun l z h k => ?_) k
  refine R_getf (ci := 11) (f := 1) (C := RX13) (N := 49) (Tt := TX13) dX13_laws_289 rfl i_X13 (by decide) w_1468 (fun l z h k => ?_) k
  refine R_iconst dX13_laws_292 (by decide) (fun l z h k => ?_) k
  refine R_iaload dX13_laws_293 (fun l z h k => ?_) k
  exact R_cv3 (M := mX13_laws) (pc := 294) (bc := bc) (bs := bs) (cb := 0) (cs := 0) (M' := mX13_alikeBy) dX13_laws_294 rfl (by decide) w_1975 w_144 w_1972 w_1974 w_101 (by decide +kernel) (fun _ _ _ k => k) k
theorem bX13_laws_297 {G : Gt} {d bc bs : Nat} {Q : QT} {l : Ls} {z : List Value} {h : Hp} (k : (tIf2 (fun x y => y ≤ x) (fun l z h => T G d bc bs mX13_laws 305 l z h Q) (fun l z h => T G d bc bs mX13_laws 300 l z h Q)) l z h) : T G d bc bs mX13_laws 297 l z h Q := by
  exact R_icmp_ge dX13_laws_297 (by decide) (fun _ _ _ k => k) (fun _ _ _ k => k) k
theorem bX13_laws_300 {G : Gt} {d bc bs : Nat} {Q : QT} {l : Ls} {z : List Value} {h : Hp} (k : (tAld 0 (tIld 3 (tPutf isI 11 35 ((fun l z h => T G d bc bs mX13_laws 305 l z h Q))))) l z h) : T G d bc bs mX13_laws 300 l z h Q := by
  refine R_aload_n dX13_laws_300 rfl (fun l z h k => ?_) k
  refine R_iload_n dX13_laws_301 rfl (fun l z h k => ?_) k
  refine R_putf (ci := 11) (f := 35) (C := RX13) (N := 49) (Tt := TX13) tyX13 tyX13_ok nmX13 dX13_laws_302 rfl i_X13 (by decide) w_1502 rfl (tyX13_ok 35 (by decide)) p_int (fun l z h k => ?_) k
  exact k
theorem bX13_laws_305 {G : Gt} {d bc bs : Nat} {Q : QT} {l : Ls} {z : List Value} {h : Hp} (k : (tInc 3 1 ((fun l z h => T G d bc bs mX13_laws 260 l z h Q))) l z h) : T G d bc bs mX13_laws 305 l z h Q := by
  refine R_iinc dX13_laws_305 (by decide) (by decide) (fun l z h k => ?_) k
  exact R_goto dX13_laws_308 (by decide) (fun _ _ _ k => k) k
theorem bX13_laws_311 {G : Gt} {d bc bs : Nat} {Q : QT} {l : Ls} {z : List Value} {h : Hp} (k : (tIld 2 (tRetI Q)) l z h) : T G d bc bs mX13_laws 311 l z h Q := by
  refine R_iload_n dX13_laws_311 rfl (fun l z h k => ?_) k
  exact R_iret dX13_laws_312 rfl k
theorem dX13_smallest_0 : decode cX13_smallest 0 = .ok (.aload_n 0, 1) := by decide +kernel
theorem dX13_smallest_1 : decode cX13_smallest 1 = .ok (.iconst 0, 1) := by decide +kernel
theorem dX13_smallest_2 : decode cX13_smallest 2 = .ok (.putfield 85, 3) := by decide +kernel
theorem dX13_smallest_5 : decode cX13_smallest 5 = .ok (.aload_n 0, 1) := by decide +kernel
theorem dX13_smallest_6 : decode cX13_smallest 6 = .ok (.getfield 64, 3) := by decide +kernel
theorem dX13_smallest_9 : decode cX13_smallest 9 = .ok (.ireturn, 1) := by decide +kernel
theorem bX13_smallest_0 {G : Gt} {d bc bs : Nat} {Q : QT} {l : Ls} {z : List Value} {h : Hp} (k : (tAld 0 (tPush (.int 0) (tPutf isI 11 0 (tAld 0 (tGetf 11 34 (tRetI Q)))))) l z h) : T G d bc bs mX13_smallest 0 l z h Q := by
  refine R_aload_n dX13_smallest_0 rfl (fun l z h k => ?_) k
  refine R_iconst dX13_smallest_1 (by decide) (fun l z h k => ?_) k
  refine R_putf (ci := 11) (f := 0) (C := RX13) (N := 49) (Tt := TX13) tyX13 tyX13_ok nmX13 dX13_smallest_2 rfl i_X13 (by decide) w_1467 rfl (tyX13_ok 0 (by decide)) p_int (fun l z h k => ?_) k
  refine R_aload_n dX13_smallest_5 rfl (fun l z h k => ?_) k
  refine R_getf (ci := 11) (f := 34) (C := RX13) (N := 49) (Tt := TX13) dX13_smallest_6 rfl i_X13 (by decide) w_1501 (fun l z h k => ?_) k
  exact R_iret dX13_smallest_9 rfl k
theorem dX13_offer_0 : decode cX13_offer 0 = .ok (.aload_n 0, 1) := by decide +kernel
theorem dX13_offer_1 : decode cX13_offer 1 = .ok (.iconst 0, 1) := by decide +kernel
theorem dX13_offer_2 : decode cX13_offer 2 = .ok (.putfield 85, 3) := by decide +kernel
theorem dX13_offer_5 : decode cX13_offer 5 = .ok (.aload_n 0, 1) := by decide +kernel
theorem dX13_offer_6 : decode cX13_offer 6 = .ok (.getfield 67, 3) := by decide +kernel
theorem dX13_offer_9 : decode cX13_offer 9 = .ok (.ireturn, 1) := by decide +kernel
theorem bX13_offer_0 {G : Gt} {d bc bs : Nat} {Q : QT} {l : Ls} {z : List Value} {h : Hp} (k : (tAld 0 (tPush (.int 0) (tPutf isI 11 0 (tAld 0 (tGetf 11 35 (tRetI Q)))))) l z h) : T G d bc bs mX13_offer 0 l z h Q := by
  refine R_aload_n dX13_offer_0 rfl (fun l z h k => ?_) k
  refine R_iconst dX13_offer_1 (by decide) (fun l z h k => ?_) k
  refine R_putf (ci := 11) (f := 0) (C := RX13) (N := 49) (Tt := TX13) tyX13 tyX13_ok nmX13 dX13_offer_2 rfl i_X13 (by decide) w_1467 rfl (tyX13_ok 0 (by decide)) p_int (fun l z h k => ?_) k
  refine R_aload_n dX13_offer_5 rfl (fun l z h k => ?_) k
  refine R_getf (ci := 11) (f := 35) (C := RX13) (N := 49) (Tt := TX13) dX13_offer_6 rfl i_X13 (by decide) w_1502 (fun l z h k => ?_) k
  exact R_iret dX13_offer_9 rfl k
theorem dX13_sham_0 : decode cX13_sham 0 = .ok (.aload_n 0, 1) := by decide +kernel
theorem dX13_sham_1 : decode cX13_sham 1 = .ok (.iconst 0, 1) := by decide +kernel
theorem dX13_sham_2 : decode cX13_sham 2 = .ok (.putfield 85, 3) := by decide +kernel
theorem dX13_sham_5 : decode cX13_sham 5 = .ok (.aload_n 0, 1) := by decide +kernel
theorem dX13_sham_6 : decode cX13_sham 6 = .ok (.iload_n 1, 1) := by decide +kernel
theorem dX13_sham_7 : decode cX13_sham 7 = .ok (.invokevirtual 256, 3) := by decide +kernel
theorem dX13_sham_10 : decode cX13_sham 10 = .ok (.ifCond .ne 5, 3) := by decide +kernel
theorem dX13_sham_13 : decode cX13_sham 13 = .ok (.iconst (-1), 1) := by decide +kernel
theorem dX13_sham_14 : decode cX13_sham 14 = .ok (.ireturn, 1) := by decide +kernel
theorem dX13_sham_15 : decode cX13_sham 15 = .ok (.iconst 0, 1) := by decide +kernel
theorem dX13_sham_16 : decode cX13_sham 16 = .ok (.istore_n 2, 1) := by decide +kernel
theorem dX13_sham_17 : decode cX13_sham 17 = .ok (.iconst 0, 1) := by decide +kernel
theorem dX13_sham_18 : decode cX13_sham 18 = .ok (.istore_n 3, 1) := by decide +kernel
theorem dX13_sham_19 : decode cX13_sham 19 = .ok (.iload_n 3, 1) := by decide +kernel
theorem dX13_sham_20 : decode cX13_sham 20 = .ok (.aload_n 0, 1) := by decide +kernel
theorem dX13_sham_21 : decode cX13_sham 21 = .ok (.getfield 13, 3) := by decide +kernel
theorem dX13_sham_24 : decode cX13_sham 24 = .ok (.iconst 1, 1) := by decide +kernel
theorem dX13_sham_25 : decode cX13_sham 25 = .ok (.iaload, 1) := by decide +kernel
theorem dX13_sham_26 : decode cX13_sham 26 = .ok (.if_icmp .ge 77, 3) := by decide +kernel
theorem dX13_sham_29 : decode cX13_sham 29 = .ok (.iload_n 3, 1) := by decide +kernel
theorem dX13_sham_30 : decode cX13_sham 30 = .ok (.iload_n 1, 1) := by decide +kernel
theorem dX13_sham_31 : decode cX13_sham 31 = .ok (.if_icmp .eq 7, 3) := by decide +kernel
theorem dX13_sham_34 : decode cX13_sham 34 = .ok (.iconst 1, 1) := by decide +kernel
theorem dX13_sham_35 : decode cX13_sham 35 = .ok (.goto 4, 3) := by decide +kernel
theorem dX13_sham_38 : decode cX13_sham 38 = .ok (.iconst 0, 1) := by decide +kernel
theorem dX13_sham_39 : decode cX13_sham 39 = .ok (.istore 4, 2) := by decide +kernel
theorem dX13_sham_41 : decode cX13_sham 41 = .ok (.iconst 0, 1) := by decide +kernel
theorem dX13_sham_42 : decode cX13_sham 42 = .ok (.istore 5, 2) := by decide +kernel
theorem dX13_sham_44 : decode cX13_sham 44 = .ok (.iload 5, 2) := by decide +kernel
theorem dX13_sham_46 : decode cX13_sham 46 = .ok (.bipush 6, 2) := by decide +kernel
theorem dX13_sham_48 : decode cX13_sham 48 = .ok (.if_icmp .ge 38, 3) := by decide +kernel
theorem dX13_sham_51 : decode cX13_sham 51 = .ok (.iload 4, 2) := by decide +kernel
theorem dX13_sham_53 : decode cX13_sham 53 = .ok (.ifCond .eq 24, 3) := by decide +kernel
theorem dX13_sham_56 : decode cX13_sham 56 = .ok (.aload_n 0, 1) := by decide +kernel
theorem dX13_sham_57 : decode cX13_sham 57 = .ok (.iload_n 3, 1) := by decide +kernel
theorem dX13_sham_58 : decode cX13_sham 58 = .ok (.iload 5, 2) := by decide +kernel
theorem dX13_sham_60 : decode cX13_sham 60 = .ok (.invokevirtual 240, 3) := by decide +kernel
theorem dX13_sham_63 : decode cX13_sham 63 = .ok (.aload_n 0, 1) := by decide +kernel
theorem dX13_sham_64 : decode cX13_sham 64 = .ok (.iload_n 1, 1) := by decide +kernel
theorem dX13_sham_65 : decode cX13_sham 65 = .ok (.iload 5, 2) := by decide +kernel
theorem dX13_sham_67 : decode cX13_sham 67 = .ok (.invokevirtual 240, 3) := by decide +kernel
theorem dX13_sham_70 : decode cX13_sham 70 = .ok (.if_icmp .lt 7, 3) := by decide +kernel
theorem dX13_sham_73 : decode cX13_sham 73 = .ok (.iconst 1, 1) := by decide +kernel
theorem dX13_sham_74 : decode cX13_sham 74 = .ok (.goto 4, 3) := by decide +kernel
theorem dX13_sham_77 : decode cX13_sham 77 = .ok (.iconst 0, 1) := by decide +kernel
theorem dX13_sham_78 : decode cX13_sham 78 = .ok (.istore 4, 2) := by decide +kernel
theorem dX13_sham_80 : decode cX13_sham 80 = .ok (.iinc 5 1, 3) := by decide +kernel
theorem dX13_sham_83 : decode cX13_sham 83 = .ok (.goto (-39), 3) := by decide +kernel
theorem dX13_sham_86 : decode cX13_sham 86 = .ok (.iload 4, 2) := by decide +kernel
theorem dX13_sham_88 : decode cX13_sham 88 = .ok (.ifCond .eq 9, 3) := by decide +kernel
theorem dX13_sham_91 : decode cX13_sham 91 = .ok (.iload_n 2, 1) := by decide +kernel
theorem dX13_sham_92 : decode cX13_sham 92 = .ok (.iconst 1, 1) := by decide +kernel
theorem dX13_sham_93 : decode cX13_sham 93 = .ok (.iload_n 3, 1) := by decide +kernel
theorem dX13_sham_94 : decode cX13_sham 94 = .ok (.ishl, 1) := by decide +kernel
theorem dX13_sham_95 : decode cX13_sham 95 = .ok (.ior, 1) := by decide +kernel
theorem dX13_sham_96 : decode cX13_sham 96 = .ok (.istore_n 2, 1) := by decide +kernel
theorem dX13_sham_97 : decode cX13_sham 97 = .ok (.iinc 3 1, 3) := by decide +kernel
theorem dX13_sham_100 : decode cX13_sham 100 = .ok (.goto (-81), 3) := by decide +kernel
theorem dX13_sham_103 : decode cX13_sham 103 = .ok (.iload_n 2, 1) := by decide +kernel
theorem dX13_sham_104 : decode cX13_sham 104 = .ok (.ireturn, 1) := by decide +kernel
theorem bX13_sham_0 {G : Gt} {d bc bs : Nat} {Q : QT} {l : Ls} {z : List Value} {h : Hp} (k : (tAld 0 (tPush (.int 0) (tPutf isI 11 0 (tAld 0 (tIld 1 (tCV1 G d 0 0 11 mX13_isPerson (fun l z h => T G d bc bs mX13_sham 10 l z h Q))))))) l z h) : T G d bc bs mX13_sham 0 l z h Q := by
  refine R_aload_n dX13_sham_0 rfl (fun l z h k => ?_) k
  refine R_iconst dX13_sham_1 (by decide) (fun l z h k => ?_) k
  refine R_putf (ci := 11) (f := 0) (C := RX13) (N := 49) (Tt := TX13) tyX13 tyX13_ok nmX13 dX13_sham_2 rfl i_X13 (by decide) w_1467 rfl (tyX13_ok 0 (by decide)) p_int (fun l z h k => ?_) k
  refine R_aload_n dX13_sham_5 rfl (fun l z h k => ?_) k
  refine R_iload_n dX13_sham_6 rfl (fun l z h k => ?_) k
  exact R_cv1 (M := mX13_sham) (pc := 7) (bc := bc) (bs := bs) (cb := 0) (cs := 0) (M' := mX13_isPerson) dX13_sham_7 rfl (by decide) w_1767 w_144 w_1764 w_1766 w_70 (by decide +kernel) (fun _ _ _ k => k) k
theorem bX13_sham_10 {G : Gt} {d bc bs : Nat} {Q : QT} {l : Ls} {z : List Value} {h : Hp} (k : (tIf (fun x => x = 0) (fun l z h => T G d bc bs mX13_sham 13 l z h Q) (fun l z h => T G d bc bs mX13_sham 15 l z h Q)) l z h) : T G d bc bs mX13_sham 10 l z h Q := by
  exact R_if_ne dX13_sham_10 (by decide) (fun _ _ _ k => k) (fun _ _ _ k => k) k
theorem bX13_sham_13 {G : Gt} {d bc bs : Nat} {Q : QT} {l : Ls} {z : List Value} {h : Hp} (k : (tPush (.int (-1)) (tRetI Q)) l z h) : T G d bc bs mX13_sham 13 l z h Q := by
  refine R_iconst dX13_sham_13 (by decide) (fun l z h k => ?_) k
  exact R_iret dX13_sham_14 rfl k
theorem bX13_sham_15 {G : Gt} {d bc bs : Nat} {Q : QT} {l : Ls} {z : List Value} {h : Hp} (k : (tPush (.int 0) (tIst 2 (tPush (.int 0) (tIst 3 ((fun l z h => T G d bc bs mX13_sham 19 l z h Q)))))) l z h) : T G d bc bs mX13_sham 15 l z h Q := by
  refine R_iconst dX13_sham_15 (by decide) (fun l z h k => ?_) k
  refine R_istore_n dX13_sham_16 rfl (by decide) (fun l z h k => ?_) k
  refine R_iconst dX13_sham_17 (by decide) (fun l z h k => ?_) k
  refine R_istore_n dX13_sham_18 rfl (by decide) (fun l z h k => ?_) k
  exact k
theorem bX13_sham_19 {G : Gt} {d bc bs : Nat} {Q : QT} {l : Ls} {z : List Value} {h : Hp} (k : (tIld 3 (tAld 0 (tGetf 11 14 (tPush (.int 1) (tXald 0 (tIf2 (fun x y => y ≤ x) (fun l z h => T G d bc bs mX13_sham 103 l z h Q) (fun l z h => T G d bc bs mX13_sham 29 l z h Q))))))) l z h) : T G d bc bs mX13_sham 19 l z h Q := by
  refine R_iload_n dX13_sham_19 rfl (fun l z h k => ?_) k
  refine R_aload_n dX13_sham_20 rfl (fun l z h k => ?_) k
  refine R_getf (ci := 11) (f := 14) (C := RX13) (N := 49) (Tt := TX13) dX13_sham_21 rfl i_X13 (by decide) w_1481 (fun l z h k => ?_) k
  refine R_iconst dX13_sham_24 (by decide) (fun l z h k => ?_) k
  refine R_iaload dX13_sham_25 (fun l z h k => ?_) k
  exact R_icmp_ge dX13_sham_26 (by decide) (fun _ _ _ k => k) (fun _ _ _ k => k) k
theorem bX13_sham_29 {G : Gt} {d bc bs : Nat} {Q : QT} {l : Ls} {z : List Value} {h : Hp} (k : (tIld 3 (tIld 1 (tIf2 (fun x y => x = y) (fun l z h => T G d bc bs mX13_sham 38 l z h Q) (fun l z h => T G d bc bs mX13_sham 34 l z h Q)))) l z h) : T G d bc bs mX13_sham 29 l z h Q := by
  refine R_iload_n dX13_sham_29 rfl (fun l z h k => ?_) k
  refine R_iload_n dX13_sham_30 rfl (fun l z h k => ?_) k
  exact R_icmp_eq dX13_sham_31 (by decide) (fun _ _ _ k => k) (fun _ _ _ k => k) k
theorem bX13_sham_34 {G : Gt} {d bc bs : Nat} {Q : QT} {l : Ls} {z : List Value} {h : Hp} (k : (tPush (.int 1) ((fun l z h => T G d bc bs mX13_sham 39 l z h Q))) l z h) : T G d bc bs mX13_sham 34 l z h Q := by
  refine R_iconst dX13_sham_34 (by decide) (fun l z h k => ?_) k
  exact R_goto dX13_sham_35 (by decide) (fun _ _ _ k => k) k
theorem bX13_sham_38 {G : Gt} {d bc bs : Nat} {Q : QT} {l : Ls} {z : List Value} {h : Hp} (k : (tPush (.int 0) ((fun l z h => T G d bc bs mX13_sham 39 l z h Q))) l z h) : T G d bc bs mX13_sham 38 l z h Q := by
  refine R_iconst dX13_sham_38 (by decide) (fun l z h k => ?_) k
  exact k
theorem bX13_sham_39 {G : Gt} {d bc bs : Nat} {Q : QT} {l : Ls} {z : List Value} {h : Hp} (k : (tIst 4 (tPush (.int 0) (tIst 5 ((fun l z h => T G d bc bs mX13_sham 44 l z h Q))))) l z h) : T G d bc bs mX13_sham 39 l z h Q := by
  refine R_istore dX13_sham_39 (by decide) (fun l z h k => ?_) k
  refine R_iconst dX13_sham_41 (by decide) (fun l z h k => ?_) k
  refine R_istore dX13_sham_42 (by decide) (fun l z h k => ?_) k
  exact k
theorem bX13_sham_44 {G : Gt} {d bc bs : Nat} {Q : QT} {l : Ls} {z : List Value} {h : Hp} (k : (tIld 5 (tPush (.int 6) (tIf2 (fun x y => y ≤ x) (fun l z h => T G d bc bs mX13_sham 86 l z h Q) (fun l z h => T G d bc bs mX13_sham 51 l z h Q)))) l z h) : T G d bc bs mX13_sham 44 l z h Q := by
  refine R_iload dX13_sham_44 (fun l z h k => ?_) k
  refine R_bipush dX13_sham_46 (by decide) (fun l z h k => ?_) k
  exact R_icmp_ge dX13_sham_48 (by decide) (fun _ _ _ k => k) (fun _ _ _ k => k) k
theorem bX13_sham_51 {G : Gt} {d bc bs : Nat} {Q : QT} {l : Ls} {z : List Value} {h : Hp} (k : (tIld 4 (tIf (fun x => x = 0) (fun l z h => T G d bc bs mX13_sham 77 l z h Q) (fun l z h => T G d bc bs mX13_sham 56 l z h Q))) l z h) : T G d bc bs mX13_sham 51 l z h Q := by
  refine R_iload dX13_sham_51 (fun l z h k => ?_) k
  exact R_if_eq dX13_sham_53 (by decide) (fun _ _ _ k => k) (fun _ _ _ k => k) k
theorem bX13_sham_56 {G : Gt} {d bc bs : Nat} {Q : QT} {l : Ls} {z : List Value} {h : Hp} (k : (tAld 0 (tIld 3 (tIld 5 (tCV2 G d 0 0 11 mX13_haveOf (fun l z h => T G d bc bs mX13_sham 63 l z h Q))))) l z h) : T G d bc bs mX13_sham 56 l z h Q := by
  refine R_aload_n dX13_sham_56 rfl (fun l z h k => ?_) k
  refine R_iload_n dX13_sham_57 rfl (fun l z h k => ?_) k
  refine R_iload dX13_sham_58 (fun l z h k => ?_) k
  exact R_cv2 (M := mX13_sham) (pc := 60) (bc := bc) (bs := bs) (cb := 0) (cs := 0) (M' := mX13_haveOf) dX13_sham_60 rfl (by decide) w_1779 w_144 w_1776 w_1778 w_73 (by decide +kernel) (fun _ _ _ k => k) k
theorem bX13_sham_63 {G : Gt} {d bc bs : Nat} {Q : QT} {l : Ls} {z : List Value} {h : Hp} (k : (tAld 0 (tIld 1 (tIld 5 (tCV2 G d 0 0 11 mX13_haveOf (fun l z h => T G d bc bs mX13_sham 70 l z h Q))))) l z h) : T G d bc bs mX13_sham 63 l z h Q := by
  refine R_aload_n dX13_sham_63 rfl (fun l z h k => ?_) k
  refine R_iload_n dX13_sham_64 rfl (fun l z h k => ?_) k
  refine R_iload dX13_sham_65 (fun l z h k => ?_) k
  exact R_cv2 (M := mX13_sham) (pc := 67) (bc := bc) (bs := bs) (cb := 0) (cs := 0) (M' := mX13_haveOf) dX13_sham_67 rfl (by decide) w_1779 w_144 w_1776 w_1778 w_73 (by decide +kernel) (fun _ _ _ k => k) k
theorem bX13_sham_70 {G : Gt} {d bc bs : Nat} {Q : QT} {l : Ls} {z : List Value} {h : Hp} (k : (tIf2 (fun x y => x < y) (fun l z h => T G d bc bs mX13_sham 77 l z h Q) (fun l z h => T G d bc bs mX13_sham 73 l z h Q)) l z h) : T G d bc bs mX13_sham 70 l z h Q := by
  exact R_icmp_lt dX13_sham_70 (by decide) (fun _ _ _ k => k) (fun _ _ _ k => k) k
theorem bX13_sham_73 {G : Gt} {d bc bs : Nat} {Q : QT} {l : Ls} {z : List Value} {h : Hp} (k : (tPush (.int 1) ((fun l z h => T G d bc bs mX13_sham 78 l z h Q))) l z h) : T G d bc bs mX13_sham 73 l z h Q := by
  refine R_iconst dX13_sham_73 (by decide) (fun l z h k => ?_) k
  exact R_goto dX13_sham_74 (by decide) (fun _ _ _ k => k) k
theorem bX13_sham_77 {G : Gt} {d bc bs : Nat} {Q : QT} {l : Ls} {z : List Value} {h : Hp} (k : (tPush (.int 0) ((fun l z h => T G d bc bs mX13_sham 78 l z h Q))) l z h) : T G d bc bs mX13_sham 77 l z h Q := by
  refine R_iconst dX13_sham_77 (by decide) (fun l z h k => ?_) k
  exact k
theorem bX13_sham_78 {G : Gt} {d bc bs : Nat} {Q : QT} {l : Ls} {z : List Value} {h : Hp} (k : (tIst 4 (tInc 5 1 ((fun l z h => T G d bc bs mX13_sham 44 l z h Q)))) l z h) : T G d bc bs mX13_sham 78 l z h Q := by
  refine R_istore dX13_sham_78 (by decide) (fun l z h k => ?_) k
  refine R_iinc dX13_sham_80 (by decide) (by decide) (fun l z h k => ?_) k
  exact R_goto dX13_sham_83 (by decide) (fun _ _ _ k => k) k
theorem bX13_sham_86 {G : Gt} {d bc bs : Nat} {Q : QT} {l : Ls} {z : List Value} {h : Hp} (k : (tIld 4 (tIf (fun x => x = 0) (fun l z h => T G d bc bs mX13_sham 97 l z h Q) (fun l z h => T G d bc bs mX13_sham 91 l z h Q))) l z h) : T G d bc bs mX13_sham 86 l z h Q := by
  refine R_iload dX13_sham_86 (fun l z h k => ?_) k
  exact R_if_eq dX13_sham_88 (by decide) (fun _ _ _ k => k) (fun _ _ _ k => k) k
theorem bX13_sham_91 {G : Gt} {d bc bs : Nat} {Q : QT} {l : Ls} {z : List Value} {h : Hp} (k : (tIld 2 (tPush (.int 1) (tIld 3 (tB (fun x y => x <<< (y &&& 31)) (tB (fun x y => x ||| y) (tIst 2 ((fun l z h => T G d bc bs mX13_sham 97 l z h Q)))))))) l z h) : T G d bc bs mX13_sham 91 l z h Q := by
  refine R_iload_n dX13_sham_91 rfl (fun l z h k => ?_) k
  refine R_iconst dX13_sham_92 (by decide) (fun l z h k => ?_) k
  refine R_iload_n dX13_sham_93 rfl (fun l z h k => ?_) k
  refine R_ishl dX13_sham_94 (fun l z h k => ?_) k
  refine R_ior dX13_sham_95 (fun l z h k => ?_) k
  refine R_istore_n dX13_sham_96 rfl (by decide) (fun l z h k => ?_) k
  exact k
theorem bX13_sham_97 {G : Gt} {d bc bs : Nat} {Q : QT} {l : Ls} {z : List Value} {h : Hp} (k : (tInc 3 1 ((fun l z h => T G d bc bs mX13_sham 19 l z h Q))) l z h) : T G d bc bs mX13_sham 97 l z h Q := by
  refine R_iinc dX13_sham_97 (by decide) (by decide) (fun l z h k => ?_) k
  exact R_goto dX13_sham_100 (by decide) (fun _ _ _ k => k) k
theorem bX13_sham_103 {G : Gt} {d bc bs : Nat} {Q : QT} {l : Ls} {z : List Value} {h : Hp} (k : (tIld 2 (tRetI Q)) l z h) : T G d bc bs mX13_sham 103 l z h Q := by
  refine R_iload_n dX13_sham_103 rfl (fun l z h k => ?_) k
  exact R_iret dX13_sham_104 rfl k
theorem dX13_goesBy_0 : decode cX13_goesBy 0 = .ok (.aload_n 0, 1) := by decide +kernel
theorem dX13_goesBy_1 : decode cX13_goesBy 1 = .ok (.getfield 13, 3) := by decide +kernel
theorem dX13_goesBy_4 : decode cX13_goesBy 4 = .ok (.bipush 99, 2) := by decide +kernel
theorem dX13_goesBy_6 : decode cX13_goesBy 6 = .ok (.iload_n 1, 1) := by decide +kernel
theorem dX13_goesBy_7 : decode cX13_goesBy 7 = .ok (.iadd, 1) := by decide +kernel
theorem dX13_goesBy_8 : decode cX13_goesBy 8 = .ok (.iaload, 1) := by decide +kernel
theorem dX13_goesBy_9 : decode cX13_goesBy 9 = .ok (.iload_n 2, 1) := by decide +kernel
theorem dX13_goesBy_10 : decode cX13_goesBy 10 = .ok (.iconst 1, 1) := by decide +kernel
theorem dX13_goesBy_11 : decode cX13_goesBy 11 = .ok (.if_icmp .ne 7, 3) := by decide +kernel
theorem dX13_goesBy_14 : decode cX13_goesBy 14 = .ok (.iload_n 3, 1) := by decide +kernel
theorem dX13_goesBy_15 : decode cX13_goesBy 15 = .ok (.goto 5, 3) := by decide +kernel
theorem dX13_goesBy_18 : decode cX13_goesBy 18 = .ok (.iload_n 3, 1) := by decide +kernel
theorem dX13_goesBy_19 : decode cX13_goesBy 19 = .ok (.ineg, 1) := by decide +kernel
theorem dX13_goesBy_20 : decode cX13_goesBy 20 = .ok (.iadd, 1) := by decide +kernel
theorem dX13_goesBy_21 : decode cX13_goesBy 21 = .ok (.istore 4, 2) := by decide +kernel
theorem dX13_goesBy_23 : decode cX13_goesBy 23 = .ok (.iload 4, 2) := by decide +kernel
theorem dX13_goesBy_25 : decode cX13_goesBy 25 = .ok (.iconst 0, 1) := by decide +kernel
theorem dX13_goesBy_26 : decode cX13_goesBy 26 = .ok (.iconst 2, 1) := by decide +kernel
theorem dX13_goesBy_27 : decode cX13_goesBy 27 = .ok (.invokestatic 152, 3) := by decide +kernel
theorem dX13_goesBy_30 : decode cX13_goesBy 30 = .ok (.ifCond .eq 23, 3) := by decide +kernel
theorem dX13_goesBy_33 : decode cX13_goesBy 33 = .ok (.aload_n 0, 1) := by decide +kernel
theorem dX13_goesBy_34 : decode cX13_goesBy 34 = .ok (.iload_n 1, 1) := by decide +kernel
theorem dX13_goesBy_35 : decode cX13_goesBy 35 = .ok (.iload 4, 2) := by decide +kernel
theorem dX13_goesBy_37 : decode cX13_goesBy 37 = .ok (.invokevirtual 276, 3) := by decide +kernel
theorem dX13_goesBy_40 : decode cX13_goesBy 40 = .ok (.ifCond .ne 13, 3) := by decide +kernel
theorem dX13_goesBy_43 : decode cX13_goesBy 43 = .ok (.aload_n 0, 1) := by decide +kernel
theorem dX13_goesBy_44 : decode cX13_goesBy 44 = .ok (.iconst 0, 1) := by decide +kernel
theorem dX13_goesBy_45 : decode cX13_goesBy 45 = .ok (.iload_n 1, 1) := by decide +kernel
theorem dX13_goesBy_46 : decode cX13_goesBy 46 = .ok (.iload 4, 2) := by decide +kernel
theorem dX13_goesBy_48 : decode cX13_goesBy 48 = .ok (.iconst 0, 1) := by decide +kernel
theorem dX13_goesBy_49 : decode cX13_goesBy 49 = .ok (.iconst 0, 1) := by decide +kernel
theorem dX13_goesBy_50 : decode cX13_goesBy 50 = .ok (.invokevirtual 304, 3) := by decide +kernel
theorem dX13_goesBy_53 : decode cX13_goesBy 53 = .ok (.return_, 1) := by decide +kernel
theorem bX13_goesBy_0 {G : Gt} {d bc bs : Nat} {Q : QT} {l : Ls} {z : List Value} {h : Hp} (k : (tAld 0 (tGetf 11 14 (tPush (.int 99) (tIld 1 (tB (fun x y => x + y) (tXald 0 (tIld 2 (tPush (.int 1) (tIf2 (fun x y => x = y) (fun l z h => T G d bc bs mX13_goesBy 14 l z h Q) (fun l z h => T G d bc bs mX13_goesBy 18 l z h Q)))))))))) l z h) : T G d bc bs mX13_goesBy 0 l z h Q := by
  refine R_aload_n dX13_goesBy_0 rfl (fun l z h k => ?_) k
  refine R_getf (ci := 11) (f := 14) (C := RX13) (N := 49) (Tt := TX13) dX13_goesBy_1 rfl i_X13 (by decide) w_1481 (fun l z h k => ?_) k
  refine R_bipush dX13_goesBy_4 (by decide) (fun l z h k => ?_) k
  refine R_iload_n dX13_goesBy_6 rfl (fun l z h k => ?_) k
  refine R_iadd dX13_goesBy_7 (fun l z h k => ?_) k
  refine R_iaload dX13_goesBy_8 (fun l z h k => ?_) k
  refine R_iload_n dX13_goesBy_9 rfl (fun l z h k => ?_) k
  refine R_iconst dX13_goesBy_10 (by decide) (fun l z h k => ?_) k
  exact R_icmp_ne dX13_goesBy_11 (by decide) (fun _ _ _ k => k) (fun _ _ _ k => k) k
theorem bX13_goesBy_14 {G : Gt} {d bc bs : Nat} {Q : QT} {l : Ls} {z : List Value} {h : Hp} (k : (tIld 3 ((fun l z h => T G d bc bs mX13_goesBy 20 l z h Q))) l z h) : T G d bc bs mX13_goesBy 14 l z h Q := by
  refine R_iload_n dX13_goesBy_14 rfl (fun l z h k => ?_) k
  exact R_goto dX13_goesBy_15 (by decide) (fun _ _ _ k => k) k
theorem bX13_goesBy_18 {G : Gt} {d bc bs : Nat} {Q : QT} {l : Ls} {z : List Value} {h : Hp} (k : (tIld 3 (tU (fun x => -x) ((fun l z h => T G d bc bs mX13_goesBy 20 l z h Q)))) l z h) : T G d bc bs mX13_goesBy 18 l z h Q := by
  refine R_iload_n dX13_goesBy_18 rfl (fun l z h k => ?_) k
  refine R_ineg dX13_goesBy_19 (fun l z h k => ?_) k
  exact k
theorem bX13_goesBy_20 {G : Gt} {d bc bs : Nat} {Q : QT} {l : Ls} {z : List Value} {h : Hp} (k : (tB (fun x y => x + y) (tIst 4 (tIld 4 (tPush (.int 0) (tPush (.int 2) (tCS3 G d 0 0 mX13_isIn (fun l z h => T G d bc bs mX13_goesBy 30 l z h Q))))))) l z h) : T G d bc bs mX13_goesBy 20 l z h Q := by
  refine R_iadd dX13_goesBy_20 (fun l z h k => ?_) k
  refine R_istore dX13_goesBy_21 (by decide) (fun l z h k => ?_) k
  refine R_iload dX13_goesBy_23 (fun l z h k => ?_) k
  refine R_iconst dX13_goesBy_25 (by decide) (fun l z h k => ?_) k
  refine R_iconst dX13_goesBy_26 (by decide) (fun l z h k => ?_) k
  exact R_cs3 (M := mX13_goesBy) (pc := 27) (bc := bc) (bs := bs) (cb := 0) (cs := 0) (M' := mX13_isIn) dX13_goesBy_27 (by decide) w_1711 w_144 w_1709 w_1710 (by decide +kernel) (fun _ _ _ k => k) k
theorem bX13_goesBy_30 {G : Gt} {d bc bs : Nat} {Q : QT} {l : Ls} {z : List Value} {h : Hp} (k : (tIf (fun x => x = 0) (fun l z h => T G d bc bs mX13_goesBy 53 l z h Q) (fun l z h => T G d bc bs mX13_goesBy 33 l z h Q)) l z h) : T G d bc bs mX13_goesBy 30 l z h Q := by
  exact R_if_eq dX13_goesBy_30 (by decide) (fun _ _ _ k => k) (fun _ _ _ k => k) k
theorem bX13_goesBy_33 {G : Gt} {d bc bs : Nat} {Q : QT} {l : Ls} {z : List Value} {h : Hp} (k : (tAld 0 (tIld 1 (tIld 4 (tCV2 G d 0 0 11 mX13_whyGo (fun l z h => T G d bc bs mX13_goesBy 40 l z h Q))))) l z h) : T G d bc bs mX13_goesBy 33 l z h Q := by
  refine R_aload_n dX13_goesBy_33 rfl (fun l z h k => ?_) k
  refine R_iload_n dX13_goesBy_34 rfl (fun l z h k => ?_) k
  refine R_iload dX13_goesBy_35 (fun l z h k => ?_) k
  exact R_cv2 (M := mX13_goesBy) (pc := 37) (bc := bc) (bs := bs) (cb := 0) (cs := 0) (M' := mX13_whyGo) dX13_goesBy_37 rfl (by decide) w_1839 w_144 w_1836 w_1838 w_83 (by decide +kernel) (fun _ _ _ k => k) k
theorem bX13_goesBy_40 {G : Gt} {d bc bs : Nat} {Q : QT} {l : Ls} {z : List Value} {h : Hp} (k : (tIf (fun x => x = 0) (fun l z h => T G d bc bs mX13_goesBy 43 l z h Q) (fun l z h => T G d bc bs mX13_goesBy 53 l z h Q)) l z h) : T G d bc bs mX13_goesBy 40 l z h Q := by
  exact R_if_ne dX13_goesBy_40 (by decide) (fun _ _ _ k => k) (fun _ _ _ k => k) k
theorem bX13_goesBy_43 {G : Gt} {d bc bs : Nat} {Q : QT} {l : Ls} {z : List Value} {h : Hp} (k : (tAld 0 (tPush (.int 0) (tIld 1 (tIld 4 (tPush (.int 0) (tPush (.int 0) (tCV5 G d 0 0 11 mX13_live (fun l z h => T G d bc bs mX13_goesBy 53 l z h Q)))))))) l z h) : T G d bc bs mX13_goesBy 43 l z h Q := by
  refine R_aload_n dX13_goesBy_43 rfl (fun l z h k => ?_) k
  refine R_iconst dX13_goesBy_44 (by decide) (fun l z h k => ?_) k
  refine R_iload_n dX13_goesBy_45 rfl (fun l z h k => ?_) k
  refine R_iload dX13_goesBy_46 (fun l z h k => ?_) k
  refine R_iconst dX13_goesBy_48 (by decide) (fun l z h k => ?_) k
  refine R_iconst dX13_goesBy_49 (by decide) (fun l z h k => ?_) k
  exact R_cv5 (M := mX13_goesBy) (pc := 50) (bc := bc) (bs := bs) (cb := 0) (cs := 0) (M' := mX13_live) dX13_goesBy_50 rfl (by decide) w_1854 w_144 w_1851 w_1853 w_86 (by decide +kernel) (fun _ _ _ k => k) k
theorem bX13_goesBy_53 {G : Gt} {d bc bs : Nat} {Q : QT} {l : Ls} {z : List Value} {h : Hp} (k : (tRetV Q) l z h) : T G d bc bs mX13_goesBy 53 l z h Q := by
  exact R_vret dX13_goesBy_53 rfl k
theorem dX13_areThere_0 : decode cX13_areThere 0 = .ok (.iconst 0, 1) := by decide +kernel
theorem dX13_areThere_1 : decode cX13_areThere 1 = .ok (.istore_n 1, 1) := by decide +kernel
theorem dX13_areThere_2 : decode cX13_areThere 2 = .ok (.iload_n 1, 1) := by decide +kernel
theorem dX13_areThere_3 : decode cX13_areThere 3 = .ok (.aload_n 0, 1) := by decide +kernel
theorem dX13_areThere_4 : decode cX13_areThere 4 = .ok (.getfield 13, 3) := by decide +kernel
theorem dX13_areThere_7 : decode cX13_areThere 7 = .ok (.iconst 1, 1) := by decide +kernel
theorem dX13_areThere_8 : decode cX13_areThere 8 = .ok (.iaload, 1) := by decide +kernel
theorem dX13_areThere_9 : decode cX13_areThere 9 = .ok (.if_icmp .ge 19, 3) := by decide +kernel
theorem dX13_areThere_12 : decode cX13_areThere 12 = .ok (.aload_n 0, 1) := by decide +kernel
theorem dX13_areThere_13 : decode cX13_areThere 13 = .ok (.iload_n 1, 1) := by decide +kernel
theorem dX13_areThere_14 : decode cX13_areThere 14 = .ok (.invokevirtual 364, 3) := by decide +kernel
theorem dX13_areThere_17 : decode cX13_areThere 17 = .ok (.ifCond .ne 5, 3) := by decide +kernel
theorem dX13_areThere_20 : decode cX13_areThere 20 = .ok (.iconst 0, 1) := by decide +kernel
theorem dX13_areThere_21 : decode cX13_areThere 21 = .ok (.ireturn, 1) := by decide +kernel
theorem dX13_areThere_22 : decode cX13_areThere 22 = .ok (.iinc 1 1, 3) := by decide +kernel
theorem dX13_areThere_25 : decode cX13_areThere 25 = .ok (.goto (-23), 3) := by decide +kernel
theorem dX13_areThere_28 : decode cX13_areThere 28 = .ok (.iconst 1, 1) := by decide +kernel
theorem dX13_areThere_29 : decode cX13_areThere 29 = .ok (.ireturn, 1) := by decide +kernel
theorem bX13_areThere_0 {G : Gt} {d bc bs : Nat} {Q : QT} {l : Ls} {z : List Value} {h : Hp} (k : (tPush (.int 0) (tIst 1 ((fun l z h => T G d bc bs mX13_areThere 2 l z h Q)))) l z h) : T G d bc bs mX13_areThere 0 l z h Q := by
  refine R_iconst dX13_areThere_0 (by decide) (fun l z h k => ?_) k
  refine R_istore_n dX13_areThere_1 rfl (by decide) (fun l z h k => ?_) k
  exact k
theorem bX13_areThere_2 {G : Gt} {d bc bs : Nat} {Q : QT} {l : Ls} {z : List Value} {h : Hp} (k : (tIld 1 (tAld 0 (tGetf 11 14 (tPush (.int 1) (tXald 0 (tIf2 (fun x y => y ≤ x) (fun l z h => T G d bc bs mX13_areThere 28 l z h Q) (fun l z h => T G d bc bs mX13_areThere 12 l z h Q))))))) l z h) : T G d bc bs mX13_areThere 2 l z h Q := by
  refine R_iload_n dX13_areThere_2 rfl (fun l z h k => ?_) k
  refine R_aload_n dX13_areThere_3 rfl (fun l z h k => ?_) k
  refine R_getf (ci := 11) (f := 14) (C := RX13) (N := 49) (Tt := TX13) dX13_areThere_4 rfl i_X13 (by decide) w_1481 (fun l z h k => ?_) k
  refine R_iconst dX13_areThere_7 (by decide) (fun l z h k => ?_) k
  refine R_iaload dX13_areThere_8 (fun l z h k => ?_) k
  exact R_icmp_ge dX13_areThere_9 (by decide) (fun _ _ _ k => k) (fun _ _ _ k => k) k
theorem bX13_areThere_12 {G : Gt} {d bc bs : Nat} {Q : QT} {l : Ls} {z : List Value} {h : Hp} (k : (tAld 0 (tIld 1 (tCV1 G d 0 0 11 mX13_isThere (fun l z h => T G d bc bs mX13_areThere 17 l z h Q)))) l z h) : T G d bc bs mX13_areThere 12 l z h Q := by
  refine R_aload_n dX13_areThere_12 rfl (fun l z h k => ?_) k
  refine R_iload_n dX13_areThere_13 rfl (fun l z h k => ?_) k
  exact R_cv1 (M := mX13_areThere) (pc := 14) (bc := bc) (bs := bs) (cb := 0) (cs := 0) (M' := mX13_isThere) dX13_areThere_14 rfl (by decide) w_1995 w_144 w_1992 w_1994 w_102 (by decide +kernel) (fun _ _ _ k => k) k
theorem bX13_areThere_17 {G : Gt} {d bc bs : Nat} {Q : QT} {l : Ls} {z : List Value} {h : Hp} (k : (tIf (fun x => x = 0) (fun l z h => T G d bc bs mX13_areThere 20 l z h Q) (fun l z h => T G d bc bs mX13_areThere 22 l z h Q)) l z h) : T G d bc bs mX13_areThere 17 l z h Q := by
  exact R_if_ne dX13_areThere_17 (by decide) (fun _ _ _ k => k) (fun _ _ _ k => k) k
theorem bX13_areThere_20 {G : Gt} {d bc bs : Nat} {Q : QT} {l : Ls} {z : List Value} {h : Hp} (k : (tPush (.int 0) (tRetZ Q)) l z h) : T G d bc bs mX13_areThere 20 l z h Q := by
  refine R_iconst dX13_areThere_20 (by decide) (fun l z h k => ?_) k
  exact R_zret dX13_areThere_21 rfl k
theorem bX13_areThere_22 {G : Gt} {d bc bs : Nat} {Q : QT} {l : Ls} {z : List Value} {h : Hp} (k : (tInc 1 1 ((fun l z h => T G d bc bs mX13_areThere 2 l z h Q))) l z h) : T G d bc bs mX13_areThere 22 l z h Q := by
  refine R_iinc dX13_areThere_22 (by decide) (by decide) (fun l z h k => ?_) k
  exact R_goto dX13_areThere_25 (by decide) (fun _ _ _ k => k) k
theorem bX13_areThere_28 {G : Gt} {d bc bs : Nat} {Q : QT} {l : Ls} {z : List Value} {h : Hp} (k : (tPush (.int 1) (tRetZ Q)) l z h) : T G d bc bs mX13_areThere 28 l z h Q := by
  refine R_iconst dX13_areThere_28 (by decide) (fun l z h k => ?_) k
  exact R_zret dX13_areThere_29 rfl k
theorem dX13_rush_0 : decode cX13_rush 0 = .ok (.aload_n 0, 1) := by decide +kernel
theorem dX13_rush_1 : decode cX13_rush 1 = .ok (.iconst 0, 1) := by decide +kernel
theorem dX13_rush_2 : decode cX13_rush 2 = .ok (.putfield 85, 3) := by decide +kernel
theorem dX13_rush_5 : decode cX13_rush 5 = .ok (.aload_n 0, 1) := by decide +kernel
theorem dX13_rush_6 : decode cX13_rush 6 = .ok (.invokevirtual 332, 3) := by decide +kernel
theorem dX13_rush_9 : decode cX13_rush 9 = .ok (.aload_n 0, 1) := by decide +kernel
theorem dX13_rush_10 : decode cX13_rush 10 = .ok (.iconst 0, 1) := by decide +kernel
theorem dX13_rush_11 : decode cX13_rush 11 = .ok (.putfield 70, 3) := by decide +kernel
theorem dX13_rush_14 : decode cX13_rush 14 = .ok (.iconst (-1), 1) := by decide +kernel
theorem dX13_rush_15 : decode cX13_rush 15 = .ok (.istore_n 1, 1) := by decide +kernel
theorem dX13_rush_16 : decode cX13_rush 16 = .ok (.iconst 0, 1) := by decide +kernel
theorem dX13_rush_17 : decode cX13_rush 17 = .ok (.istore_n 2, 1) := by decide +kernel
theorem dX13_rush_18 : decode cX13_rush 18 = .ok (.iload_n 2, 1) := by decide +kernel
theorem dX13_rush_19 : decode cX13_rush 19 = .ok (.bipush 100, 2) := by decide +kernel
theorem dX13_rush_21 : decode cX13_rush 21 = .ok (.if_icmp .gt 108, 3) := by decide +kernel
theorem dX13_rush_24 : decode cX13_rush 24 = .ok (.iload_n 1, 1) := by decide +kernel
theorem dX13_rush_25 : decode cX13_rush 25 = .ok (.iconst (-1), 1) := by decide +kernel
theorem dX13_rush_26 : decode cX13_rush 26 = .ok (.if_icmp .ne 103, 3) := by decide +kernel
theorem dX13_rush_29 : decode cX13_rush 29 = .ok (.aload_n 0, 1) := by decide +kernel
theorem dX13_rush_30 : decode cX13_rush 30 = .ok (.getfield 13, 3) := by decide +kernel
theorem dX13_rush_33 : decode cX13_rush 33 = .ok (.bipush 98, 2) := by decide +kernel
theorem dX13_rush_35 : decode cX13_rush 35 = .ok (.iaload, 1) := by decide +kernel
theorem dX13_rush_36 : decode cX13_rush 36 = .ok (.sipush 400, 3) := by decide +kernel
theorem dX13_rush_39 : decode cX13_rush 39 = .ok (.if_icmp .ge 90, 3) := by decide +kernel
theorem dX13_rush_42 : decode cX13_rush 42 = .ok (.iconst 0, 1) := by decide +kernel
theorem dX13_rush_43 : decode cX13_rush 43 = .ok (.istore_n 3, 1) := by decide +kernel
theorem dX13_rush_44 : decode cX13_rush 44 = .ok (.iload_n 3, 1) := by decide +kernel
theorem dX13_rush_45 : decode cX13_rush 45 = .ok (.aload_n 0, 1) := by decide +kernel
theorem dX13_rush_46 : decode cX13_rush 46 = .ok (.getfield 13, 3) := by decide +kernel
theorem dX13_rush_49 : decode cX13_rush 49 = .ok (.iconst 1, 1) := by decide +kernel
theorem dX13_rush_50 : decode cX13_rush 50 = .ok (.iaload, 1) := by decide +kernel
theorem dX13_rush_51 : decode cX13_rush 51 = .ok (.if_icmp .ge 32, 3) := by decide +kernel
theorem dX13_rush_54 : decode cX13_rush 54 = .ok (.aload_n 0, 1) := by decide +kernel
theorem dX13_rush_55 : decode cX13_rush 55 = .ok (.iload_n 3, 1) := by decide +kernel
theorem dX13_rush_56 : decode cX13_rush 56 = .ok (.invokevirtual 364, 3) := by decide +kernel
theorem dX13_rush_59 : decode cX13_rush 59 = .ok (.ifCond .ne 18, 3) := by decide +kernel
theorem dX13_rush_62 : decode cX13_rush 62 = .ok (.aload_n 0, 1) := by decide +kernel
theorem dX13_rush_63 : decode cX13_rush 63 = .ok (.iload_n 3, 1) := by decide +kernel
theorem dX13_rush_64 : decode cX13_rush 64 = .ok (.aload_n 0, 1) := by decide +kernel
theorem dX13_rush_65 : decode cX13_rush 65 = .ok (.getfield 13, 3) := by decide +kernel
theorem dX13_rush_68 : decode cX13_rush 68 = .ok (.bipush 22, 2) := by decide +kernel
theorem dX13_rush_70 : decode cX13_rush 70 = .ok (.iload_n 3, 1) := by decide +kernel
theorem dX13_rush_71 : decode cX13_rush 71 = .ok (.iadd, 1) := by decide +kernel
theorem dX13_rush_72 : decode cX13_rush 72 = .ok (.iaload, 1) := by decide +kernel
theorem dX13_rush_73 : decode cX13_rush 73 = .ok (.iconst 1, 1) := by decide +kernel
theorem dX13_rush_74 : decode cX13_rush 74 = .ok (.invokevirtual 367, 3) := by decide +kernel
theorem dX13_rush_77 : decode cX13_rush 77 = .ok (.iinc 3 1, 3) := by decide +kernel
theorem dX13_rush_80 : decode cX13_rush 80 = .ok (.goto (-36), 3) := by decide +kernel
theorem dX13_rush_83 : decode cX13_rush 83 = .ok (.aload_n 0, 1) := by decide +kernel
theorem dX13_rush_84 : decode cX13_rush 84 = .ok (.iconst 1, 1) := by decide +kernel
theorem dX13_rush_85 : decode cX13_rush 85 = .ok (.invokevirtual 268, 3) := by decide +kernel
theorem dX13_rush_88 : decode cX13_rush 88 = .ok (.invokestatic 357, 3) := by decide +kernel
theorem dX13_rush_91 : decode cX13_rush 91 = .ok (.aload_n 0, 1) := by decide +kernel
theorem dX13_rush_92 : decode cX13_rush 92 = .ok (.getfield 70, 3) := by decide +kernel
theorem dX13_rush_95 : decode cX13_rush 95 = .ok (.if_icmp .le 15, 3) := by decide +kernel
theorem dX13_rush_98 : decode cX13_rush 98 = .ok (.aload_n 0, 1) := by decide +kernel
theorem dX13_rush_99 : decode cX13_rush 99 = .ok (.aload_n 0, 1) := by decide +kernel
theorem dX13_rush_100 : decode cX13_rush 100 = .ok (.iconst 1, 1) := by decide +kernel
theorem dX13_rush_101 : decode cX13_rush 101 = .ok (.invokevirtual 268, 3) := by decide +kernel
theorem dX13_rush_104 : decode cX13_rush 104 = .ok (.invokestatic 357, 3) := by decide +kernel
theorem dX13_rush_107 : decode cX13_rush 107 = .ok (.putfield 70, 3) := by decide +kernel
theorem dX13_rush_110 : decode cX13_rush 110 = .ok (.aload_n 0, 1) := by decide +kernel
theorem dX13_rush_111 : decode cX13_rush 111 = .ok (.invokevirtual 371, 3) := by decide +kernel
theorem dX13_rush_114 : decode cX13_rush 114 = .ok (.ifCond .eq 5, 3) := by decide +kernel
theorem dX13_rush_117 : decode cX13_rush 117 = .ok (.iload_n 2, 1) := by decide +kernel
theorem dX13_rush_118 : decode cX13_rush 118 = .ok (.istore_n 1, 1) := by decide +kernel
theorem dX13_rush_119 : decode cX13_rush 119 = .ok (.aload_n 0, 1) := by decide +kernel
theorem dX13_rush_120 : decode cX13_rush 120 = .ok (.invokevirtual 317, 3) := by decide +kernel
theorem dX13_rush_123 : decode cX13_rush 123 = .ok (.iinc 2 1, 3) := by decide +kernel
theorem dX13_rush_126 : decode cX13_rush 126 = .ok (.goto (-108), 3) := by decide +kernel
theorem dX13_rush_129 : decode cX13_rush 129 = .ok (.aload_n 0, 1) := by decide +kernel
theorem dX13_rush_130 : decode cX13_rush 130 = .ok (.invokevirtual 335, 3) := by decide +kernel
theorem dX13_rush_133 : decode cX13_rush 133 = .ok (.iload_n 1, 1) := by decide +kernel
theorem dX13_rush_134 : decode cX13_rush 134 = .ok (.ireturn, 1) := by decide +kernel
theorem bX13_rush_0 {G : Gt} {d bc bs : Nat} {Q : QT} {l : Ls} {z : List Value} {h : Hp} (k : (tAld 0 (tPush (.int 0) (tPutf isI 11 0 (tAld 0 (tCV0 G d 0 0 11 mX13_layAside (fun l z h => T G d bc bs mX13_rush 9 l z h Q)))))) l z h) : T G d bc bs mX13_rush 0 l z h Q := by
  refine R_aload_n dX13_rush_0 rfl (fun l z h k => ?_) k
  refine R_iconst dX13_rush_1 (by decide) (fun l z h k => ?_) k
  refine R_putf (ci := 11) (f := 0) (C := RX13) (N := 49) (Tt := TX13) tyX13 tyX13_ok nmX13 dX13_rush_2 rfl i_X13 (by decide) w_1467 rfl (tyX13_ok 0 (by decide)) p_int (fun l z h k => ?_) k
  refine R_aload_n dX13_rush_5 rfl (fun l z h k => ?_) k
  exact R_cv0 (M := mX13_rush) (pc := 6) (bc := bc) (bs := bs) (cb := 0) (cs := 0) (M' := mX13_layAside) dX13_rush_6 rfl (by decide) w_1937 w_144 w_1934 w_1936 w_97 (by decide +kernel) (fun _ _ _ k => k) k
theorem bX13_rush_9 {G : Gt} {d bc bs : Nat} {Q : QT} {l : Ls} {z : List Value} {h : Hp} (k : (tAld 0 (tPush (.int 0) (tPutf isI 11 36 (tPush (.int (-1)) (tIst 1 (tPush (.int 0) (tIst 2 ((fun l z h => T G d bc bs mX13_rush 18 l z h Q))))))))) l z h) : T G d bc bs mX13_rush 9 l z h Q := by
  refine R_aload_n dX13_rush_9 rfl (fun l z h k => ?_) k
  refine R_iconst dX13_rush_10 (by decide) (fun l z h k => ?_) k
  refine R_putf (ci := 11) (f := 36) (C := RX13) (N := 49) (Tt := TX13) tyX13 tyX13_ok nmX13 dX13_rush_11 rfl i_X13 (by decide) w_1503 rfl (tyX13_ok 36 (by decide)) p_int (fun l z h k => ?_) k
  refine R_iconst dX13_rush_14 (by decide) (fun l z h k => ?_) k
  refine R_istore_n dX13_rush_15 rfl (by decide) (fun l z h k => ?_) k
  refine R_iconst dX13_rush_16 (by decide) (fun l z h k => ?_) k
  refine R_istore_n dX13_rush_17 rfl (by decide) (fun l z h k => ?_) k
  exact k
theorem bX13_rush_18 {G : Gt} {d bc bs : Nat} {Q : QT} {l : Ls} {z : List Value} {h : Hp} (k : (tIld 2 (tPush (.int 100) (tIf2 (fun x y => y < x) (fun l z h => T G d bc bs mX13_rush 129 l z h Q) (fun l z h => T G d bc bs mX13_rush 24 l z h Q)))) l z h) : T G d bc bs mX13_rush 18 l z h Q := by
  refine R_iload_n dX13_rush_18 rfl (fun l z h k => ?_) k
  refine R_bipush dX13_rush_19 (by decide) (fun l z h k => ?_) k
  exact R_icmp_gt dX13_rush_21 (by decide) (fun _ _ _ k => k) (fun _ _ _ k => k) k
theorem bX13_rush_24 {G : Gt} {d bc bs : Nat} {Q : QT} {l : Ls} {z : List Value} {h : Hp} (k : (tIld 1 (tPush (.int (-1)) (tIf2 (fun x y => x = y) (fun l z h => T G d bc bs mX13_rush 29 l z h Q) (fun l z h => T G d bc bs mX13_rush 129 l z h Q)))) l z h) : T G d bc bs mX13_rush 24 l z h Q := by
  refine R_iload_n dX13_rush_24 rfl (fun l z h k => ?_) k
  refine R_iconst dX13_rush_25 (by decide) (fun l z h k => ?_) k
  exact R_icmp_ne dX13_rush_26 (by decide) (fun _ _ _ k => k) (fun _ _ _ k => k) k
theorem bX13_rush_29 {G : Gt} {d bc bs : Nat} {Q : QT} {l : Ls} {z : List Value} {h : Hp} (k : (tAld 0 (tGetf 11 14 (tPush (.int 98) (tXald 0 (tPush (.int 400) (tIf2 (fun x y => y ≤ x) (fun l z h => T G d bc bs mX13_rush 129 l z h Q) (fun l z h => T G d bc bs mX13_rush 42 l z h Q))))))) l z h) : T G d bc bs mX13_rush 29 l z h Q := by
  refine R_aload_n dX13_rush_29 rfl (fun l z h k => ?_) k
  refine R_getf (ci := 11) (f := 14) (C := RX13) (N := 49) (Tt := TX13) dX13_rush_30 rfl i_X13 (by decide) w_1481 (fun l z h k => ?_) k
  refine R_bipush dX13_rush_33 (by decide) (fun l z h k => ?_) k
  refine R_iaload dX13_rush_35 (fun l z h k => ?_) k
  refine R_sipush dX13_rush_36 (by decide) (fun l z h k => ?_) k
  exact R_icmp_ge dX13_rush_39 (by decide) (fun _ _ _ k => k) (fun _ _ _ k => k) k
theorem bX13_rush_42 {G : Gt} {d bc bs : Nat} {Q : QT} {l : Ls} {z : List Value} {h : Hp} (k : (tPush (.int 0) (tIst 3 ((fun l z h => T G d bc bs mX13_rush 44 l z h Q)))) l z h) : T G d bc bs mX13_rush 42 l z h Q := by
  refine R_iconst dX13_rush_42 (by decide) (fun l z h k => ?_) k
  refine R_istore_n dX13_rush_43 rfl (by decide) (fun l z h k => ?_) k
  exact k
theorem bX13_rush_44 {G : Gt} {d bc bs : Nat} {Q : QT} {l : Ls} {z : List Value} {h : Hp} (k : (tIld 3 (tAld 0 (tGetf 11 14 (tPush (.int 1) (tXald 0 (tIf2 (fun x y => y ≤ x) (fun l z h => T G d bc bs mX13_rush 83 l z h Q) (fun l z h => T G d bc bs mX13_rush 54 l z h Q))))))) l z h) : T G d bc bs mX13_rush 44 l z h Q := by
  refine R_iload_n dX13_rush_44 rfl (fun l z h k => ?_) k
  refine R_aload_n dX13_rush_45 rfl (fun l z h k => ?_) k
  refine R_getf (ci := 11) (f := 14) (C := RX13) (N := 49) (Tt := TX13) dX13_rush_46 rfl i_X13 (by decide) w_1481 (fun l z h k => ?_) k
  refine R_iconst dX13_rush_49 (by decide) (fun l z h k => ?_) k
  refine R_iaload dX13_rush_50 (fun l z h k => ?_) k
  exact R_icmp_ge dX13_rush_51 (by decide) (fun _ _ _ k => k) (fun _ _ _ k => k) k
theorem bX13_rush_54 {G : Gt} {d bc bs : Nat} {Q : QT} {l : Ls} {z : List Value} {h : Hp} (k : (tAld 0 (tIld 3 (tCV1 G d 0 0 11 mX13_isThere (fun l z h => T G d bc bs mX13_rush 59 l z h Q)))) l z h) : T G d bc bs mX13_rush 54 l z h Q := by
  refine R_aload_n dX13_rush_54 rfl (fun l z h k => ?_) k
  refine R_iload_n dX13_rush_55 rfl (fun l z h k => ?_) k
  exact R_cv1 (M := mX13_rush) (pc := 56) (bc := bc) (bs := bs) (cb := 0) (cs := 0) (M' := mX13_isThere) dX13_rush_56 rfl (by decide) w_1995 w_144 w_1992 w_1994 w_102 (by decide +kernel) (fun _ _ _ k => k) k
theorem bX13_rush_59 {G : Gt} {d bc bs : Nat} {Q : QT} {l : Ls} {z : List Value} {h : Hp} (k : (tIf (fun x => x = 0) (fun l z h => T G d bc bs mX13_rush 62 l z h Q) (fun l z h => T G d bc bs mX13_rush 77 l z h Q)) l z h) : T G d bc bs mX13_rush 59 l z h Q := by
  exact R_if_ne dX13_rush_59 (by decide) (fun _ _ _ k => k) (fun _ _ _ k => k) k
theorem bX13_rush_62 {G : Gt} {d bc bs : Nat} {Q : QT} {l : Ls} {z : List Value} {h : Hp} (k : (tAld 0 (tIld 3 (tAld 0 (tGetf 11 14 (tPush (.int 22) (tIld 3 (tB (fun x y => x + y) (tXald 0 (tPush (.int 1) (tCV3 G d 0 0 11 mX13_goesBy (fun l z h => T G d bc bs mX13_rush 77 l z h Q))))))))))) l z h) : T G d bc bs mX13_rush 62 l z h Q := by
  refine R_aload_n dX13_rush_62 rfl (fun l z h k => ?_) k
  refine R_iload_n dX13_rush_63 rfl (fun l z h k => ?_) k
  refine R_aload_n dX13_rush_64 rfl (fun l z h k => ?_) k
  refine R_getf (ci := 11) (f := 14) (C := RX13) (N := 49) (Tt := TX13) dX13_rush_65 rfl i_X13 (by decide) w_1481 (fun l z h k => ?_) k
  refine R_bipush dX13_rush_68 (by decide) (fun l z h k => ?_) k
  refine R_iload_n dX13_rush_70 rfl (fun l z h k => ?_) k
  refine R_iadd dX13_rush_71 (fun l z h k => ?_) k
  refine R_iaload dX13_rush_72 (fun l z h k => ?_) k
  refine R_iconst dX13_rush_73 (by decide) (fun l z h k => ?_) k
  exact R_cv3 (M := mX13_rush) (pc := 74) (bc := bc) (bs := bs) (cb := 0) (cs := 0) (M' := mX13_goesBy) dX13_rush_74 rfl (by decide) w_1999 w_144 w_1996 w_1998 w_103 (by decide +kernel) (fun _ _ _ k => k) k
theorem bX13_rush_77 {G : Gt} {d bc bs : Nat} {Q : QT} {l : Ls} {z : List Value} {h : Hp} (k : (tInc 3 1 ((fun l z h => T G d bc bs mX13_rush 44 l z h Q))) l z h) : T G d bc bs mX13_rush 77 l z h Q := by
  refine R_iinc dX13_rush_77 (by decide) (by decide) (fun l z h k => ?_) k
  exact R_goto dX13_rush_80 (by decide) (fun _ _ _ k => k) k
theorem bX13_rush_83 {G : Gt} {d bc bs : Nat} {Q : QT} {l : Ls} {z : List Value} {h : Hp} (k : (tAld 0 (tPush (.int 1) (tCV1 G d 0 0 11 mX13_those (fun l z h => T G d bc bs mX13_rush 88 l z h Q)))) l z h) : T G d bc bs mX13_rush 83 l z h Q := by
  refine R_aload_n dX13_rush_83 rfl (fun l z h k => ?_) k
  refine R_iconst dX13_rush_84 (by decide) (fun l z h k => ?_) k
  exact R_cv1 (M := mX13_rush) (pc := 85) (bc := bc) (bs := bs) (cb := 0) (cs := 0) (M' := mX13_those) dX13_rush_85 rfl (by decide) w_1807 w_144 w_1804 w_1806 w_76 (by decide +kernel) (fun _ _ _ k => k) k
theorem bX13_rush_88 {G : Gt} {d bc bs : Nat} {Q : QT} {l : Ls} {z : List Value} {h : Hp} (k : (tCS1 G d 0 0 mX13_bits (fun l z h => T G d bc bs mX13_rush 91 l z h Q)) l z h) : T G d bc bs mX13_rush 88 l z h Q := by
  exact R_cs1 (M := mX13_rush) (pc := 88) (bc := bc) (bs := bs) (cb := 0) (cs := 0) (M' := mX13_bits) dX13_rush_88 (by decide) w_1971 w_144 w_1969 w_1970 (by decide +kernel) (fun _ _ _ k => k) k
theorem bX13_rush_91 {G : Gt} {d bc bs : Nat} {Q : QT} {l : Ls} {z : List Value} {h : Hp} (k : (tAld 0 (tGetf 11 36 (tIf2 (fun x y => x ≤ y) (fun l z h => T G d bc bs mX13_rush 110 l z h Q) (fun l z h => T G d bc bs mX13_rush 98 l z h Q)))) l z h) : T G d bc bs mX13_rush 91 l z h Q := by
  refine R_aload_n dX13_rush_91 rfl (fun l z h k => ?_) k
  refine R_getf (ci := 11) (f := 36) (C := RX13) (N := 49) (Tt := TX13) dX13_rush_92 rfl i_X13 (by decide) w_1503 (fun l z h k => ?_) k
  exact R_icmp_le dX13_rush_95 (by decide) (fun _ _ _ k => k) (fun _ _ _ k => k) k
theorem bX13_rush_98 {G : Gt} {d bc bs : Nat} {Q : QT} {l : Ls} {z : List Value} {h : Hp} (k : (tAld 0 (tAld 0 (tPush (.int 1) (tCV1 G d 0 0 11 mX13_those (fun l z h => T G d bc bs mX13_rush 104 l z h Q))))) l z h) : T G d bc bs mX13_rush 98 l z h Q := by
  refine R_aload_n dX13_rush_98 rfl (fun l z h k => ?_) k
  refine R_aload_n dX13_rush_99 rfl (fun l z h k => ?_) k
  refine R_iconst dX13_rush_100 (by decide) (fun l z h k => ?_) k
  exact R_cv1 (M := mX13_rush) (pc := 101) (bc := bc) (bs := bs) (cb := 0) (cs := 0) (M' := mX13_those) dX13_rush_101 rfl (by decide) w_1807 w_144 w_1804 w_1806 w_76 (by decide +kernel) (fun _ _ _ k => k) k
theorem bX13_rush_104 {G : Gt} {d bc bs : Nat} {Q : QT} {l : Ls} {z : List Value} {h : Hp} (k : (tCS1 G d 0 0 mX13_bits (fun l z h => T G d bc bs mX13_rush 107 l z h Q)) l z h) : T G d bc bs mX13_rush 104 l z h Q := by
  exact R_cs1 (M := mX13_rush) (pc := 104) (bc := bc) (bs := bs) (cb := 0) (cs := 0) (M' := mX13_bits) dX13_rush_104 (by decide) w_1971 w_144 w_1969 w_1970 (by decide +kernel) (fun _ _ _ k => k) k
theorem bX13_rush_107 {G : Gt} {d bc bs : Nat} {Q : QT} {l : Ls} {z : List Value} {h : Hp} (k : (tPutf isI 11 36 ((fun l z h => T G d bc bs mX13_rush 110 l z h Q))) l z h) : T G d bc bs mX13_rush 107 l z h Q := by
  refine R_putf (ci := 11) (f := 36) (C := RX13) (N := 49) (Tt := TX13) tyX13 tyX13_ok nmX13 dX13_rush_107 rfl i_X13 (by decide) w_1503 rfl (tyX13_ok 36 (by decide)) p_int (fun l z h k => ?_) k
  exact k
theorem bX13_rush_110 {G : Gt} {d bc bs : Nat} {Q : QT} {l : Ls} {z : List Value} {h : Hp} (k : (tAld 0 (tCV0 G d 0 0 11 mX13_areThere (fun l z h => T G d bc bs mX13_rush 114 l z h Q))) l z h) : T G d bc bs mX13_rush 110 l z h Q := by
  refine R_aload_n dX13_rush_110 rfl (fun l z h k => ?_) k
  exact R_cv0 (M := mX13_rush) (pc := 111) (bc := bc) (bs := bs) (cb := 0) (cs := 0) (M' := mX13_areThere) dX13_rush_111 rfl (by decide) w_2003 w_144 w_2000 w_2002 w_104 (by decide +kernel) (fun _ _ _ k => k) k
theorem bX13_rush_114 {G : Gt} {d bc bs : Nat} {Q : QT} {l : Ls} {z : List Value} {h : Hp} (k : (tIf (fun x => x = 0) (fun l z h => T G d bc bs mX13_rush 119 l z h Q) (fun l z h => T G d bc bs mX13_rush 117 l z h Q)) l z h) : T G d bc bs mX13_rush 114 l z h Q := by
  exact R_if_eq dX13_rush_114 (by decide) (fun _ _ _ k => k) (fun _ _ _ k => k) k
theorem bX13_rush_117 {G : Gt} {d bc bs : Nat} {Q : QT} {l : Ls} {z : List Value} {h : Hp} (k : (tIld 2 (tIst 1 ((fun l z h => T G d bc bs mX13_rush 119 l z h Q)))) l z h) : T G d bc bs mX13_rush 117 l z h Q := by
  refine R_iload_n dX13_rush_117 rfl (fun l z h k => ?_) k
  refine R_istore_n dX13_rush_118 rfl (by decide) (fun l z h k => ?_) k
  exact k
theorem bX13_rush_119 {G : Gt} {d bc bs : Nat} {Q : QT} {l : Ls} {z : List Value} {h : Hp} (k : (tAld 0 (tCV0 G d 0 0 11 mX13_oneDay (fun l z h => T G d bc bs mX13_rush 123 l z h Q))) l z h) : T G d bc bs mX13_rush 119 l z h Q := by
  refine R_aload_n dX13_rush_119 rfl (fun l z h k => ?_) k
  exact R_cv0 (M := mX13_rush) (pc := 120) (bc := bc) (bs := bs) (cb := 0) (cs := 0) (M' := mX13_oneDay) dX13_rush_120 rfl (by decide) w_1901 w_144 w_1898 w_1900 w_91 (by decide +kernel) (fun _ _ _ k => k) k
theorem bX13_rush_123 {G : Gt} {d bc bs : Nat} {Q : QT} {l : Ls} {z : List Value} {h : Hp} (k : (tInc 2 1 ((fun l z h => T G d bc bs mX13_rush 18 l z h Q))) l z h) : T G d bc bs mX13_rush 123 l z h Q := by
  refine R_iinc dX13_rush_123 (by decide) (by decide) (fun l z h k => ?_) k
  exact R_goto dX13_rush_126 (by decide) (fun _ _ _ k => k) k
theorem bX13_rush_129 {G : Gt} {d bc bs : Nat} {Q : QT} {l : Ls} {z : List Value} {h : Hp} (k : (tAld 0 (tCV0 G d 0 0 11 mX13_takeBack (fun l z h => T G d bc bs mX13_rush 133 l z h Q))) l z h) : T G d bc bs mX13_rush 129 l z h Q := by
  refine R_aload_n dX13_rush_129 rfl (fun l z h k => ?_) k
  exact R_cv0 (M := mX13_rush) (pc := 130) (bc := bc) (bs := bs) (cb := 0) (cs := 0) (M' := mX13_takeBack) dX13_rush_130 rfl (by decide) w_1941 w_144 w_1938 w_1940 w_98 (by decide +kernel) (fun _ _ _ k => k) k
theorem bX13_rush_133 {G : Gt} {d bc bs : Nat} {Q : QT} {l : Ls} {z : List Value} {h : Hp} (k : (tIld 1 (tRetI Q)) l z h) : T G d bc bs mX13_rush 133 l z h Q := by
  refine R_iload_n dX13_rush_133 rfl (fun l z h k => ?_) k
  exact R_iret dX13_rush_134 rfl k
theorem dX13_crowd_0 : decode cX13_crowd 0 = .ok (.aload_n 0, 1) := by decide +kernel
theorem dX13_crowd_1 : decode cX13_crowd 1 = .ok (.iconst 0, 1) := by decide +kernel
theorem dX13_crowd_2 : decode cX13_crowd 2 = .ok (.putfield 85, 3) := by decide +kernel
theorem dX13_crowd_5 : decode cX13_crowd 5 = .ok (.aload_n 0, 1) := by decide +kernel
theorem dX13_crowd_6 : decode cX13_crowd 6 = .ok (.getfield 70, 3) := by decide +kernel
theorem dX13_crowd_9 : decode cX13_crowd 9 = .ok (.ireturn, 1) := by decide +kernel
theorem bX13_crowd_0 {G : Gt} {d bc bs : Nat} {Q : QT} {l : Ls} {z : List Value} {h : Hp} (k : (tAld 0 (tPush (.int 0) (tPutf isI 11 0 (tAld 0 (tGetf 11 36 (tRetI Q)))))) l z h) : T G d bc bs mX13_crowd 0 l z h Q := by
  refine R_aload_n dX13_crowd_0 rfl (fun l z h k => ?_) k
  refine R_iconst dX13_crowd_1 (by decide) (fun l z h k => ?_) k
  refine R_putf (ci := 11) (f := 0) (C := RX13) (N := 49) (Tt := TX13) tyX13 tyX13_ok nmX13 dX13_crowd_2 rfl i_X13 (by decide) w_1467 rfl (tyX13_ok 0 (by decide)) p_int (fun l z h k => ?_) k
  refine R_aload_n dX13_crowd_5 rfl (fun l z h k => ?_) k
  refine R_getf (ci := 11) (f := 36) (C := RX13) (N := 49) (Tt := TX13) dX13_crowd_6 rfl i_X13 (by decide) w_1503 (fun l z h k => ?_) k
  exact R_iret dX13_crowd_9 rfl k
theorem dX13_eased_0 : decode cX13_eased 0 = .ok (.aload_n 0, 1) := by decide +kernel
theorem dX13_eased_1 : decode cX13_eased 1 = .ok (.iconst 0, 1) := by decide +kernel
theorem dX13_eased_2 : decode cX13_eased 2 = .ok (.putfield 85, 3) := by decide +kernel
theorem dX13_eased_5 : decode cX13_eased 5 = .ok (.iload_n 1, 1) := by decide +kernel
theorem dX13_eased_6 : decode cX13_eased 6 = .ok (.iconst 0, 1) := by decide +kernel
theorem dX13_eased_7 : decode cX13_eased 7 = .ok (.iconst 1, 1) := by decide +kernel
theorem dX13_eased_8 : decode cX13_eased 8 = .ok (.invokestatic 152, 3) := by decide +kernel
theorem dX13_eased_11 : decode cX13_eased 11 = .ok (.ifCond .ne 5, 3) := by decide +kernel
theorem dX13_eased_14 : decode cX13_eased 14 = .ok (.iconst (-1), 1) := by decide +kernel
theorem dX13_eased_15 : decode cX13_eased 15 = .ok (.ireturn, 1) := by decide +kernel
theorem dX13_eased_16 : decode cX13_eased 16 = .ok (.iconst 0, 1) := by decide +kernel
theorem dX13_eased_17 : decode cX13_eased 17 = .ok (.istore_n 2, 1) := by decide +kernel
theorem dX13_eased_18 : decode cX13_eased 18 = .ok (.iconst 0, 1) := by decide +kernel
theorem dX13_eased_19 : decode cX13_eased 19 = .ok (.istore_n 3, 1) := by decide +kernel
theorem dX13_eased_20 : decode cX13_eased 20 = .ok (.iload_n 3, 1) := by decide +kernel
theorem dX13_eased_21 : decode cX13_eased 21 = .ok (.bipush 6, 2) := by decide +kernel
theorem dX13_eased_23 : decode cX13_eased 23 = .ok (.if_icmp .ge 100, 3) := by decide +kernel
theorem dX13_eased_26 : decode cX13_eased 26 = .ok (.iconst 0, 1) := by decide +kernel
theorem dX13_eased_27 : decode cX13_eased 27 = .ok (.istore 4, 2) := by decide +kernel
theorem dX13_eased_29 : decode cX13_eased 29 = .ok (.iconst 0, 1) := by decide +kernel
theorem dX13_eased_30 : decode cX13_eased 30 = .ok (.istore 5, 2) := by decide +kernel
theorem dX13_eased_32 : decode cX13_eased 32 = .ok (.iload 5, 2) := by decide +kernel
theorem dX13_eased_34 : decode cX13_eased 34 = .ok (.aload_n 0, 1) := by decide +kernel
theorem dX13_eased_35 : decode cX13_eased 35 = .ok (.getfield 13, 3) := by decide +kernel
theorem dX13_eased_38 : decode cX13_eased 38 = .ok (.iconst 1, 1) := by decide +kernel
theorem dX13_eased_39 : decode cX13_eased 39 = .ok (.iaload, 1) := by decide +kernel
theorem dX13_eased_40 : decode cX13_eased 40 = .ok (.if_icmp .ge 72, 3) := by decide +kernel
theorem dX13_eased_43 : decode cX13_eased 43 = .ok (.aload_n 0, 1) := by decide +kernel
theorem dX13_eased_44 : decode cX13_eased 44 = .ok (.getfield 13, 3) := by decide +kernel
theorem dX13_eased_47 : decode cX13_eased 47 = .ok (.bipush 99, 2) := by decide +kernel
theorem dX13_eased_49 : decode cX13_eased 49 = .ok (.iload 5, 2) := by decide +kernel
theorem dX13_eased_51 : decode cX13_eased 51 = .ok (.iadd, 1) := by decide +kernel
theorem dX13_eased_52 : decode cX13_eased 52 = .ok (.iaload, 1) := by decide +kernel
theorem dX13_eased_53 : decode cX13_eased 53 = .ok (.iconst 1, 1) := by decide +kernel
theorem dX13_eased_54 : decode cX13_eased 54 = .ok (.if_icmp .ne 52, 3) := by decide +kernel
theorem dX13_eased_57 : decode cX13_eased 57 = .ok (.aload_n 0, 1) := by decide +kernel
theorem dX13_eased_58 : decode cX13_eased 58 = .ok (.getfield 13, 3) := by decide +kernel
theorem dX13_eased_61 : decode cX13_eased 61 = .ok (.bipush 22, 2) := by decide +kernel
theorem dX13_eased_63 : decode cX13_eased 63 = .ok (.iload 5, 2) := by decide +kernel
theorem dX13_eased_65 : decode cX13_eased 65 = .ok (.iadd, 1) := by decide +kernel
theorem dX13_eased_66 : decode cX13_eased 66 = .ok (.iaload, 1) := by decide +kernel
theorem dX13_eased_67 : decode cX13_eased 67 = .ok (.iload_n 1, 1) := by decide +kernel
theorem dX13_eased_68 : decode cX13_eased 68 = .ok (.if_icmp .ne 38, 3) := by decide +kernel
theorem dX13_eased_71 : decode cX13_eased 71 = .ok (.aload_n 0, 1) := by decide +kernel
theorem dX13_eased_72 : decode cX13_eased 72 = .ok (.iload_n 1, 1) := by decide +kernel
theorem dX13_eased_73 : decode cX13_eased 73 = .ok (.iload_n 3, 1) := by decide +kernel
theorem dX13_eased_74 : decode cX13_eased 74 = .ok (.invokevirtual 244, 3) := by decide +kernel
theorem dX13_eased_77 : decode cX13_eased 77 = .ok (.aload_n 0, 1) := by decide +kernel
theorem dX13_eased_78 : decode cX13_eased 78 = .ok (.iload 5, 2) := by decide +kernel
theorem dX13_eased_80 : decode cX13_eased 80 = .ok (.iload_n 3, 1) := by decide +kernel
theorem dX13_eased_81 : decode cX13_eased 81 = .ok (.invokevirtual 240, 3) := by decide +kernel
theorem dX13_eased_84 : decode cX13_eased 84 = .ok (.isub, 1) := by decide +kernel
theorem dX13_eased_85 : decode cX13_eased 85 = .ok (.iload 4, 2) := by decide +kernel
theorem dX13_eased_87 : decode cX13_eased 87 = .ok (.if_icmp .le 19, 3) := by decide +kernel
theorem dX13_eased_90 : decode cX13_eased 90 = .ok (.aload_n 0, 1) := by decide +kernel
theorem dX13_eased_91 : decode cX13_eased 91 = .ok (.iload_n 1, 1) := by decide +kernel
theorem dX13_eased_92 : decode cX13_eased 92 = .ok (.iload_n 3, 1) := by decide +kernel
theorem dX13_eased_93 : decode cX13_eased 93 = .ok (.invokevirtual 244, 3) := by decide +kernel
theorem dX13_eased_96 : decode cX13_eased 96 = .ok (.aload_n 0, 1) := by decide +kernel
theorem dX13_eased_97 : decode cX13_eased 97 = .ok (.iload 5, 2) := by decide +kernel
theorem dX13_eased_99 : decode cX13_eased 99 = .ok (.iload_n 3, 1) := by decide +kernel
theorem dX13_eased_100 : decode cX13_eased 100 = .ok (.invokevirtual 240, 3) := by decide +kernel
theorem dX13_eased_103 : decode cX13_eased 103 = .ok (.isub, 1) := by decide +kernel
theorem dX13_eased_104 : decode cX13_eased 104 = .ok (.istore 4, 2) := by decide +kernel
theorem dX13_eased_106 : decode cX13_eased 106 = .ok (.iinc 5 1, 3) := by decide +kernel
theorem dX13_eased_109 : decode cX13_eased 109 = .ok (.goto (-77), 3) := by decide +kernel
theorem dX13_eased_112 : decode cX13_eased 112 = .ok (.iload_n 2, 1) := by decide +kernel
theorem dX13_eased_113 : decode cX13_eased 113 = .ok (.iload 4, 2) := by decide +kernel
theorem dX13_eased_115 : decode cX13_eased 115 = .ok (.iadd, 1) := by decide +kernel
theorem dX13_eased_116 : decode cX13_eased 116 = .ok (.istore_n 2, 1) := by decide +kernel
theorem dX13_eased_117 : decode cX13_eased 117 = .ok (.iinc 3 1, 3) := by decide +kernel
theorem dX13_eased_120 : decode cX13_eased 120 = .ok (.goto (-100), 3) := by decide +kernel
theorem dX13_eased_123 : decode cX13_eased 123 = .ok (.iload_n 2, 1) := by decide +kernel
theorem dX13_eased_124 : decode cX13_eased 124 = .ok (.ireturn, 1) := by decide +kernel
theorem bX13_eased_0 {G : Gt} {d bc bs : Nat} {Q : QT} {l : Ls} {z : List Value} {h : Hp} (k : (tAld 0 (tPush (.int 0) (tPutf isI 11 0 (tIld 1 (tPush (.int 0) (tPush (.int 1) (tCS3 G d 0 0 mX13_isIn (fun l z h => T G d bc bs mX13_eased 11 l z h Q)))))))) l z h) : T G d bc bs mX13_eased 0 l z h Q := by
  refine R_aload_n dX13_eased_0 rfl (fun l z h k => ?_) k
  refine R_iconst dX13_eased_1 (by decide) (fun l z h k => ?_) k
  refine R_putf (ci := 11) (f := 0) (C := RX13) (N := 49) (Tt := TX13) tyX13 tyX13_ok nmX13 dX13_eased_2 rfl i_X13 (by decide) w_1467 rfl (tyX13_ok 0 (by decide)) p_int (fun l z h k => ?_) k
  refine R_iload_n dX13_eased_5 rfl (fun l z h k => ?_) k
  refine R_iconst dX13_eased_6 (by decide) (fun l z h k => ?_) k
  refine R_iconst dX13_eased_7 (by decide) (fun l z h k => ?_) k
  exact R_cs3 (M := mX13_eased) (pc := 8) (bc := bc) (bs := bs) (cb := 0) (cs := 0) (M' := mX13_isIn) dX13_eased_8 (by decide) w_1711 w_144 w_1709 w_1710 (by decide +kernel) (fun _ _ _ k => k) k
theorem bX13_eased_11 {G : Gt} {d bc bs : Nat} {Q : QT} {l : Ls} {z : List Value} {h : Hp} (k : (tIf (fun x => x = 0) (fun l z h => T G d bc bs mX13_eased 14 l z h Q) (fun l z h => T G d bc bs mX13_eased 16 l z h Q)) l z h) : T G d bc bs mX13_eased 11 l z h Q := by
  exact R_if_ne dX13_eased_11 (by decide) (fun _ _ _ k => k) (fun _ _ _ k => k) k
theorem bX13_eased_14 {G : Gt} {d bc bs : Nat} {Q : QT} {l : Ls} {z : List Value} {h : Hp} (k : (tPush (.int (-1)) (tRetI Q)) l z h) : T G d bc bs mX13_eased 14 l z h Q := by
  refine R_iconst dX13_eased_14 (by decide) (fun l z h k => ?_) k
  exact R_iret dX13_eased_15 rfl k
theorem bX13_eased_16 {G : Gt} {d bc bs : Nat} {Q : QT} {l : Ls} {z : List Value} {h : Hp} (k : (tPush (.int 0) (tIst 2 (tPush (.int 0) (tIst 3 ((fun l z h => T G d bc bs mX13_eased 20 l z h Q)))))) l z h) : T G d bc bs mX13_eased 16 l z h Q := by
  refine R_iconst dX13_eased_16 (by decide) (fun l z h k => ?_) k
  refine R_istore_n dX13_eased_17 rfl (by decide) (fun l z h k => ?_) k
  refine R_iconst dX13_eased_18 (by decide) (fun l z h k => ?_) k
  refine R_istore_n dX13_eased_19 rfl (by decide) (fun l z h k => ?_) k
  exact k
theorem bX13_eased_20 {G : Gt} {d bc bs : Nat} {Q : QT} {l : Ls} {z : List Value} {h : Hp} (k : (tIld 3 (tPush (.int 6) (tIf2 (fun x y => y ≤ x) (fun l z h => T G d bc bs mX13_eased 123 l z h Q) (fun l z h => T G d bc bs mX13_eased 26 l z h Q)))) l z h) : T G d bc bs mX13_eased 20 l z h Q := by
  refine R_iload_n dX13_eased_20 rfl (fun l z h k => ?_) k
  refine R_bipush dX13_eased_21 (by decide) (fun l z h k => ?_) k
  exact R_icmp_ge dX13_eased_23 (by decide) (fun _ _ _ k => k) (fun _ _ _ k => k) k
theorem bX13_eased_26 {G : Gt} {d bc bs : Nat} {Q : QT} {l : Ls} {z : List Value} {h : Hp} (k : (tPush (.int 0) (tIst 4 (tPush (.int 0) (tIst 5 ((fun l z h => T G d bc bs mX13_eased 32 l z h Q)))))) l z h) : T G d bc bs mX13_eased 26 l z h Q := by
  refine R_iconst dX13_eased_26 (by decide) (fun l z h k => ?_) k
  refine R_istore dX13_eased_27 (by decide) (fun l z h k => ?_) k
  refine R_iconst dX13_eased_29 (by decide) (fun l z h k => ?_) k
  refine R_istore dX13_eased_30 (by decide) (fun l z h k => ?_) k
  exact k
theorem bX13_eased_32 {G : Gt} {d bc bs : Nat} {Q : QT} {l : Ls} {z : List Value} {h : Hp} (k : (tIld 5 (tAld 0 (tGetf 11 14 (tPush (.int 1) (tXald 0 (tIf2 (fun x y => y ≤ x) (fun l z h => T G d bc bs mX13_eased 112 l z h Q) (fun l z h => T G d bc bs mX13_eased 43 l z h Q))))))) l z h) : T G d bc bs mX13_eased 32 l z h Q := by
  refine R_iload dX13_eased_32 (fun l z h k => ?_) k
  refine R_aload_n dX13_eased_34 rfl (fun l z h k => ?_) k
  refine R_getf (ci := 11) (f := 14) (C := RX13) (N := 49) (Tt := TX13) dX13_eased_35 rfl i_X13 (by decide) w_1481 (fun l z h k => ?_) k
  refine R_iconst dX13_eased_38 (by decide) (fun l z h k => ?_) k
  refine R_iaload dX13_eased_39 (fun l z h k => ?_) k
  exact R_icmp_ge dX13_eased_40 (by decide) (fun _ _ _ k => k) (fun _ _ _ k => k) k
theorem bX13_eased_43 {G : Gt} {d bc bs : Nat} {Q : QT} {l : Ls} {z : List Value} {h : Hp} (k : (tAld 0 (tGetf 11 14 (tPush (.int 99) (tIld 5 (tB (fun x y => x + y) (tXald 0 (tPush (.int 1) (tIf2 (fun x y => x = y) (fun l z h => T G d bc bs mX13_eased 57 l z h Q) (fun l z h => T G d bc bs mX13_eased 106 l z h Q))))))))) l z h) : T G d bc bs mX13_eased 43 l z h Q := by
  refine R_aload_n dX13_eased_43 rfl (fun l z h k => ?_) k
  refine R_getf (ci := 11) (f := 14) (C := RX13) (N := 49) (Tt := TX13) dX13_eased_44 rfl i_X13 (by decide) w_1481 (fun l z h k => ?_) k
  refine R_bipush dX13_eased_47 (by decide) (fun l z h k => ?_) k
  refine R_iload dX13_eased_49 (fun l z h k => ?_) k
  refine R_iadd dX13_eased_51 (fun l z h k => ?_) k
  refine R_iaload dX13_eased_52 (fun l z h k => ?_) k
  refine R_iconst dX13_eased_53 (by decide) (fun l z h k => ?_) k
  exact R_icmp_ne dX13_eased_54 (by decide) (fun _ _ _ k => k) (fun _ _ _ k => k) k
theorem bX13_eased_57 {G : Gt} {d bc bs : Nat} {Q : QT} {l : Ls} {z : List Value} {h : Hp} (k : (tAld 0 (tGetf 11 14 (tPush (.int 22) (tIld 5 (tB (fun x y => x + y) (tXald 0 (tIld 1 (tIf2 (fun x y => x = y) (fun l z h => T G d bc bs mX13_eased 71 l z h Q) (fun l z h => T G d bc bs mX13_eased 106 l z h Q))))))))) l z h) : T G d bc bs mX13_eased 57 l z h Q := by
  refine R_aload_n dX13_eased_57 rfl (fun l z h k => ?_) k
  refine R_getf (ci := 11) (f := 14) (C := RX13) (N := 49) (Tt := TX13) dX13_eased_58 rfl i_X13 (by decide) w_1481 (fun l z h k => ?_) k
  refine R_bipush dX13_eased_61 (by decide) (fun l z h k => ?_) k
  refine R_iload dX13_eased_63 (fun l z h k => ?_) k
  refine R_iadd dX13_eased_65 (fun l z h k => ?_) k
  refine R_iaload dX13_eased_66 (fun l z h k => ?_) k
  refine R_iload_n dX13_eased_67 rfl (fun l z h k => ?_) k
  exact R_icmp_ne dX13_eased_68 (by decide) (fun _ _ _ k => k) (fun _ _ _ k => k) k
theorem bX13_eased_71 {G : Gt} {d bc bs : Nat} {Q : QT} {l : Ls} {z : List Value} {h : Hp} (k : (tAld 0 (tIld 1 (tIld 3 (tCV2 G d 0 0 11 mX13_askOf (fun l z h => T G d bc bs mX13_eased 77 l z h Q))))) l z h) : T G d bc bs mX13_eased 71 l z h Q := by
  refine R_aload_n dX13_eased_71 rfl (fun l z h k => ?_) k
  refine R_iload_n dX13_eased_72 rfl (fun l z h k => ?_) k
  refine R_iload_n dX13_eased_73 rfl (fun l z h k => ?_) k
  exact R_cv2 (M := mX13_eased) (pc := 74) (bc := bc) (bs := bs) (cb := 0) (cs := 0) (M' := mX13_askOf) dX13_eased_74 rfl (by decide) w_1799 w_144 w_1796 w_1798 w_75 (by decide +kernel) (fun _ _ _ k => k) k
theorem bX13_eased_77 {G : Gt} {d bc bs : Nat} {Q : QT} {l : Ls} {z : List Value} {h : Hp} (k : (tAld 0 (tIld 5 (tIld 3 (tCV2 G d 0 0 11 mX13_haveOf (fun l z h => T G d bc bs mX13_eased 84 l z h Q))))) l z h) : T G d bc bs mX13_eased 77 l z h Q := by
  refine R_aload_n dX13_eased_77 rfl (fun l z h k => ?_) k
  refine R_iload dX13_eased_78 (fun l z h k => ?_) k
  refine R_iload_n dX13_eased_80 rfl (fun l z h k => ?_) k
  exact R_cv2 (M := mX13_eased) (pc := 81) (bc := bc) (bs := bs) (cb := 0) (cs := 0) (M' := mX13_haveOf) dX13_eased_81 rfl (by decide) w_1779 w_144 w_1776 w_1778 w_73 (by decide +kernel) (fun _ _ _ k => k) k
theorem bX13_eased_84 {G : Gt} {d bc bs : Nat} {Q : QT} {l : Ls} {z : List Value} {h : Hp} (k : (tB (fun x y => x - y) (tIld 4 (tIf2 (fun x y => x ≤ y) (fun l z h => T G d bc bs mX13_eased 106 l z h Q) (fun l z h => T G d bc bs mX13_eased 90 l z h Q)))) l z h) : T G d bc bs mX13_eased 84 l z h Q := by
  refine R_isub dX13_eased_84 (fun l z h k => ?_) k
  refine R_iload dX13_eased_85 (fun l z h k => ?_) k
  exact R_icmp_le dX13_eased_87 (by decide) (fun _ _ _ k => k) (fun _ _ _ k => k) k
theorem bX13_eased_90 {G : Gt} {d bc bs : Nat} {Q : QT} {l : Ls} {z : List Value} {h : Hp} (k : (tAld 0 (tIld 1 (tIld 3 (tCV2 G d 0 0 11 mX13_askOf (fun l z h => T G d bc bs mX13_eased 96 l z h Q))))) l z h) : T G d bc bs mX13_eased 90 l z h Q := by
  refine R_aload_n dX13_eased_90 rfl (fun l z h k => ?_) k
  refine R_iload_n dX13_eased_91 rfl (fun l z h k => ?_) k
  refine R_iload_n dX13_eased_92 rfl (fun l z h k => ?_) k
  exact R_cv2 (M := mX13_eased) (pc := 93) (bc := bc) (bs := bs) (cb := 0) (cs := 0) (M' := mX13_askOf) dX13_eased_93 rfl (by decide) w_1799 w_144 w_1796 w_1798 w_75 (by decide +kernel) (fun _ _ _ k => k) k
theorem bX13_eased_96 {G : Gt} {d bc bs : Nat} {Q : QT} {l : Ls} {z : List Value} {h : Hp} (k : (tAld 0 (tIld 5 (tIld 3 (tCV2 G d 0 0 11 mX13_haveOf (fun l z h => T G d bc bs mX13_eased 103 l z h Q))))) l z h) : T G d bc bs mX13_eased 96 l z h Q := by
  refine R_aload_n dX13_eased_96 rfl (fun l z h k => ?_) k
  refine R_iload dX13_eased_97 (fun l z h k => ?_) k
  refine R_iload_n dX13_eased_99 rfl (fun l z h k => ?_) k
  exact R_cv2 (M := mX13_eased) (pc := 100) (bc := bc) (bs := bs) (cb := 0) (cs := 0) (M' := mX13_haveOf) dX13_eased_100 rfl (by decide) w_1779 w_144 w_1776 w_1778 w_73 (by decide +kernel) (fun _ _ _ k => k) k
theorem bX13_eased_103 {G : Gt} {d bc bs : Nat} {Q : QT} {l : Ls} {z : List Value} {h : Hp} (k : (tB (fun x y => x - y) (tIst 4 ((fun l z h => T G d bc bs mX13_eased 106 l z h Q)))) l z h) : T G d bc bs mX13_eased 103 l z h Q := by
  refine R_isub dX13_eased_103 (fun l z h k => ?_) k
  refine R_istore dX13_eased_104 (by decide) (fun l z h k => ?_) k
  exact k
theorem bX13_eased_106 {G : Gt} {d bc bs : Nat} {Q : QT} {l : Ls} {z : List Value} {h : Hp} (k : (tInc 5 1 ((fun l z h => T G d bc bs mX13_eased 32 l z h Q))) l z h) : T G d bc bs mX13_eased 106 l z h Q := by
  refine R_iinc dX13_eased_106 (by decide) (by decide) (fun l z h k => ?_) k
  exact R_goto dX13_eased_109 (by decide) (fun _ _ _ k => k) k
theorem bX13_eased_112 {G : Gt} {d bc bs : Nat} {Q : QT} {l : Ls} {z : List Value} {h : Hp} (k : (tIld 2 (tIld 4 (tB (fun x y => x + y) (tIst 2 (tInc 3 1 ((fun l z h => T G d bc bs mX13_eased 20 l z h Q))))))) l z h) : T G d bc bs mX13_eased 112 l z h Q := by
  refine R_iload_n dX13_eased_112 rfl (fun l z h k => ?_) k
  refine R_iload dX13_eased_113 (fun l z h k => ?_) k
  refine R_iadd dX13_eased_115 (fun l z h k => ?_) k
  refine R_istore_n dX13_eased_116 rfl (by decide) (fun l z h k => ?_) k
  refine R_iinc dX13_eased_117 (by decide) (by decide) (fun l z h k => ?_) k
  exact R_goto dX13_eased_120 (by decide) (fun _ _ _ k => k) k
theorem bX13_eased_123 {G : Gt} {d bc bs : Nat} {Q : QT} {l : Ls} {z : List Value} {h : Hp} (k : (tIld 2 (tRetI Q)) l z h) : T G d bc bs mX13_eased 123 l z h Q := by
  refine R_iload_n dX13_eased_123 rfl (fun l z h k => ?_) k
  exact R_iret dX13_eased_124 rfl k
theorem dX13_write_0 : decode cX13_write 0 = .ok (.aload_n 0, 1) := by decide +kernel
theorem dX13_write_1 : decode cX13_write 1 = .ok (.getfield 73, 3) := by decide +kernel
theorem dX13_write_4 : decode cX13_write 4 = .ok (.aload_n 0, 1) := by decide +kernel
theorem dX13_write_5 : decode cX13_write 5 = .ok (.getfield 374, 3) := by decide +kernel
theorem dX13_write_8 : decode cX13_write 8 = .ok (.iload_n 1, 1) := by decide +kernel
theorem dX13_write_9 : decode cX13_write 9 = .ok (.iastore, 1) := by decide +kernel
theorem dX13_write_10 : decode cX13_write 10 = .ok (.aload_n 0, 1) := by decide +kernel
theorem dX13_write_11 : decode cX13_write 11 = .ok (.dup, 1) := by decide +kernel
theorem dX13_write_12 : decode cX13_write 12 = .ok (.getfield 374, 3) := by decide +kernel
theorem dX13_write_15 : decode cX13_write 15 = .ok (.iconst 1, 1) := by decide +kernel
theorem dX13_write_16 : decode cX13_write 16 = .ok (.iadd, 1) := by decide +kernel
theorem dX13_write_17 : decode cX13_write 17 = .ok (.putfield 374, 3) := by decide +kernel
theorem dX13_write_20 : decode cX13_write 20 = .ok (.return_, 1) := by decide +kernel
theorem bX13_write_0 {G : Gt} {d bc bs : Nat} {Q : QT} {l : Ls} {z : List Value} {h : Hp} (k : (tAld 0 (tGetf 11 37 (tAld 0 (tGetf 11 38 (tIld 1 (tXast 0 (tAld 0 (tDup (tGetf 11 38 (tPush (.int 1) (tB (fun x y => x + y) (tPutf isI 11 38 (tRetV Q))))))))))))) l z h) : T G d bc bs mX13_write 0 l z h Q := by
  refine R_aload_n dX13_write_0 rfl (fun l z h k => ?_) k
  refine R_getf (ci := 11) (f := 37) (C := RX13) (N := 49) (Tt := TX13) dX13_write_1 rfl i_X13 (by decide) w_1504 (fun l z h k => ?_) k
  refine R_aload_n dX13_write_4 rfl (fun l z h k => ?_) k
  refine R_getf (ci := 11) (f := 38) (C := RX13) (N := 49) (Tt := TX13) dX13_write_5 rfl i_X13 (by decide) w_1505 (fun l z h k => ?_) k
  refine R_iload_n dX13_write_8 rfl (fun l z h k => ?_) k
  refine R_iastore dX13_write_9 (fun l z h k => ?_) k
  refine R_aload_n dX13_write_10 rfl (fun l z h k => ?_) k
  refine R_dup dX13_write_11 (fun l z h k => ?_) k
  refine R_getf (ci := 11) (f := 38) (C := RX13) (N := 49) (Tt := TX13) dX13_write_12 rfl i_X13 (by decide) w_1505 (fun l z h k => ?_) k
  refine R_iconst dX13_write_15 (by decide) (fun l z h k => ?_) k
  refine R_iadd dX13_write_16 (fun l z h k => ?_) k
  refine R_putf (ci := 11) (f := 38) (C := RX13) (N := 49) (Tt := TX13) tyX13 tyX13_ok nmX13 dX13_write_17 rfl i_X13 (by decide) w_1505 rfl (tyX13_ok 38 (by decide)) p_int (fun l z h k => ?_) k
  exact R_vret dX13_write_20 rfl k
theorem dX13_writeWord_0 : decode cX13_writeWord 0 = .ok (.lload_n 1, 1) := by decide +kernel
theorem dX13_writeWord_1 : decode cX13_writeWord 1 = .ok (.ldc2_w 131, 3) := by decide +kernel
theorem dX13_writeWord_4 : decode cX13_writeWord 4 = .ok (.lcmp, 1) := by decide +kernel
theorem dX13_writeWord_5 : decode cX13_writeWord 5 = .ok (.ifCond .lt 12, 3) := by decide +kernel
theorem dX13_writeWord_8 : decode cX13_writeWord 8 = .ok (.aload_n 0, 1) := by decide +kernel
theorem dX13_writeWord_9 : decode cX13_writeWord 9 = .ok (.lload_n 1, 1) := by decide +kernel
theorem dX13_writeWord_10 : decode cX13_writeWord 10 = .ok (.ldc2_w 131, 3) := by decide +kernel
theorem dX13_writeWord_13 : decode cX13_writeWord 13 = .ok (.ldiv, 1) := by decide +kernel
theorem dX13_writeWord_14 : decode cX13_writeWord 14 = .ok (.invokevirtual 377, 3) := by decide +kernel
theorem dX13_writeWord_17 : decode cX13_writeWord 17 = .ok (.aload_n 0, 1) := by decide +kernel
theorem dX13_writeWord_18 : decode cX13_writeWord 18 = .ok (.bipush 96, 2) := by decide +kernel
theorem dX13_writeWord_20 : decode cX13_writeWord 20 = .ok (.lload_n 1, 1) := by decide +kernel
theorem dX13_writeWord_21 : decode cX13_writeWord 21 = .ok (.ldc2_w 131, 3) := by decide +kernel
theorem dX13_writeWord_24 : decode cX13_writeWord 24 = .ok (.lrem, 1) := by decide +kernel
theorem dX13_writeWord_25 : decode cX13_writeWord 25 = .ok (.l2i, 1) := by decide +kernel
theorem dX13_writeWord_26 : decode cX13_writeWord 26 = .ok (.iadd, 1) := by decide +kernel
theorem dX13_writeWord_27 : decode cX13_writeWord 27 = .ok (.invokevirtual 381, 3) := by decide +kernel
theorem dX13_writeWord_30 : decode cX13_writeWord 30 = .ok (.return_, 1) := by decide +kernel
theorem bX13_writeWord_0 {G : Gt} {d bc bs : Nat} {Q : QT} {l : Ls} {z : List Value} {h : Hp} (k : (tLld 1 (tPush (.long 27) (tLcmp (tIf (fun x => x < 0) (fun l z h => T G d bc bs mX13_writeWord 17 l z h Q) (fun l z h => T G d bc bs mX13_writeWord 8 l z h Q))))) l z h) : T G d bc bs mX13_writeWord 0 l z h Q := by
  refine R_lload_n dX13_writeWord_0 rfl (fun l z h k => ?_) k
  refine R_ldc2 dX13_writeWord_1 w_1658 (fun l z h k => ?_) k
  refine R_lcmp dX13_writeWord_4 (fun l z h k => ?_) k
  exact R_if_lt dX13_writeWord_5 (by decide) (fun _ _ _ k => k) (fun _ _ _ k => k) k
theorem bX13_writeWord_8 {G : Gt} {d bc bs : Nat} {Q : QT} {l : Ls} {z : List Value} {h : Hp} (k : (tAld 0 (tLld 1 (tPush (.long 27) (tLBn (fun x y => x / y) (tCV1 G d 0 0 11 mX13_writeWord (fun l z h => T G d bc bs mX13_writeWord 17 l z h Q)))))) l z h) : T G d bc bs mX13_writeWord 8 l z h Q := by
  refine R_aload_n dX13_writeWord_8 rfl (fun l z h k => ?_) k
  refine R_lload_n dX13_writeWord_9 rfl (fun l z h k => ?_) k
  refine R_ldc2 dX13_writeWord_10 w_1658 (fun l z h k => ?_) k
  refine R_ldiv dX13_writeWord_13 (fun l z h k => ?_) k
  exact R_cv1 (M := mX13_writeWord) (pc := 14) (bc := bc) (bs := bs) (cb := 0) (cs := 0) (M' := mX13_writeWord) dX13_writeWord_14 rfl (by decide) w_2019 w_144 w_2016 w_2018 w_105 (by decide +kernel) (fun _ _ _ k => k) k
theorem bX13_writeWord_17 {G : Gt} {d bc bs : Nat} {Q : QT} {l : Ls} {z : List Value} {h : Hp} (k : (tAld 0 (tPush (.int 96) (tLld 1 (tPush (.long 27) (tLBn (fun x y => x - x / y * y) (tL2i (tB (fun x y => x + y) (tCV1 G d 0 0 11 mX13_write (fun l z h => T G d bc bs mX13_writeWord 30 l z h Q))))))))) l z h) : T G d bc bs mX13_writeWord 17 l z h Q := by
  refine R_aload_n dX13_writeWord_17 rfl (fun l z h k => ?_) k
  refine R_bipush dX13_writeWord_18 (by decide) (fun l z h k => ?_) k
  refine R_lload_n dX13_writeWord_20 rfl (fun l z h k => ?_) k
  refine R_ldc2 dX13_writeWord_21 w_1658 (fun l z h k => ?_) k
  refine R_lrem dX13_writeWord_24 (fun l z h k => ?_) k
  refine R_l2i dX13_writeWord_25 (fun l z h k => ?_) k
  refine R_iadd dX13_writeWord_26 (fun l z h k => ?_) k
  exact R_cv1 (M := mX13_writeWord) (pc := 27) (bc := bc) (bs := bs) (cb := 0) (cs := 0) (M' := mX13_write) dX13_writeWord_27 rfl (by decide) w_2023 w_144 w_2020 w_2022 w_106 (by decide +kernel) (fun _ _ _ k => k) k
theorem bX13_writeWord_30 {G : Gt} {d bc bs : Nat} {Q : QT} {l : Ls} {z : List Value} {h : Hp} (k : (tRetV Q) l z h) : T G d bc bs mX13_writeWord 30 l z h Q := by
  exact R_vret dX13_writeWord_30 rfl k
theorem dX13_writeNumber_0 : decode cX13_writeNumber 0 = .ok (.iload_n 1, 1) := by decide +kernel
theorem dX13_writeNumber_1 : decode cX13_writeNumber 1 = .ok (.bipush 9, 2) := by decide +kernel
theorem dX13_writeNumber_3 : decode cX13_writeNumber 3 = .ok (.if_icmp .le 11, 3) := by decide +kernel
theorem dX13_writeNumber_6 : decode cX13_writeNumber 6 = .ok (.aload_n 0, 1) := by decide +kernel
theorem dX13_writeNumber_7 : decode cX13_writeNumber 7 = .ok (.iload_n 1, 1) := by decide +kernel
theorem dX13_writeNumber_8 : decode cX13_writeNumber 8 = .ok (.bipush 10, 2) := by decide +kernel
theorem dX13_writeNumber_10 : decode cX13_writeNumber 10 = .ok (.idiv, 1) := by decide +kernel
theorem dX13_writeNumber_11 : decode cX13_writeNumber 11 = .ok (.invokevirtual 384, 3) := by decide +kernel
theorem dX13_writeNumber_14 : decode cX13_writeNumber 14 = .ok (.aload_n 0, 1) := by decide +kernel
theorem dX13_writeNumber_15 : decode cX13_writeNumber 15 = .ok (.bipush 48, 2) := by decide +kernel
theorem dX13_writeNumber_17 : decode cX13_writeNumber 17 = .ok (.iload_n 1, 1) := by decide +kernel
theorem dX13_writeNumber_18 : decode cX13_writeNumber 18 = .ok (.bipush 10, 2) := by decide +kernel
theorem dX13_writeNumber_20 : decode cX13_writeNumber 20 = .ok (.irem, 1) := by decide +kernel
theorem dX13_writeNumber_21 : decode cX13_writeNumber 21 = .ok (.iadd, 1) := by decide +kernel
theorem dX13_writeNumber_22 : decode cX13_writeNumber 22 = .ok (.invokevirtual 381, 3) := by decide +kernel
theorem dX13_writeNumber_25 : decode cX13_writeNumber 25 = .ok (.return_, 1) := by decide +kernel
theorem bX13_writeNumber_0 {G : Gt} {d bc bs : Nat} {Q : QT} {l : Ls} {z : List Value} {h : Hp} (k : (tIld 1 (tPush (.int 9) (tIf2 (fun x y => x ≤ y) (fun l z h => T G d bc bs mX13_writeNumber 14 l z h Q) (fun l z h => T G d bc bs mX13_writeNumber 6 l z h Q)))) l z h) : T G d bc bs mX13_writeNumber 0 l z h Q := by
  refine R_iload_n dX13_writeNumber_0 rfl (fun l z h k => ?_) k
  refine R_bipush dX13_writeNumber_1 (by decide) (fun l z h k => ?_) k
  exact R_icmp_le dX13_writeNumber_3 (by decide) (fun _ _ _ k => k) (fun _ _ _ k => k) k
theorem bX13_writeNumber_6 {G : Gt} {d bc bs : Nat} {Q : QT} {l : Ls} {z : List Value} {h : Hp} (k : (tAld 0 (tIld 1 (tPush (.int 10) (tBn (fun x y => x / y) (tCV1 G d 0 0 11 mX13_writeNumber (fun l z h => T G d bc bs mX13_writeNumber 14 l z h Q)))))) l z h) : T G d bc bs mX13_writeNumber 6 l z h Q := by
  refine R_aload_n dX13_writeNumber_6 rfl (fun l z h k => ?_) k
  refine R_iload_n dX13_writeNumber_7 rfl (fun l z h k => ?_) k
  refine R_bipush dX13_writeNumber_8 (by decide) (fun l z h k => ?_) k
  refine R_idiv dX13_writeNumber_10 (fun l z h k => ?_) k
  exact R_cv1 (M := mX13_writeNumber) (pc := 11) (bc := bc) (bs := bs) (cb := 0) (cs := 0) (M' := mX13_writeNumber) dX13_writeNumber_11 rfl (by decide) w_2031 w_144 w_2028 w_2030 w_108 (by decide +kernel) (fun _ _ _ k => k) k
theorem bX13_writeNumber_14 {G : Gt} {d bc bs : Nat} {Q : QT} {l : Ls} {z : List Value} {h : Hp} (k : (tAld 0 (tPush (.int 48) (tIld 1 (tPush (.int 10) (tBn (fun x y => x - x / y * y) (tB (fun x y => x + y) (tCV1 G d 0 0 11 mX13_write (fun l z h => T G d bc bs mX13_writeNumber 25 l z h Q)))))))) l z h) : T G d bc bs mX13_writeNumber 14 l z h Q := by
  refine R_aload_n dX13_writeNumber_14 rfl (fun l z h k => ?_) k
  refine R_bipush dX13_writeNumber_15 (by decide) (fun l z h k => ?_) k
  refine R_iload_n dX13_writeNumber_17 rfl (fun l z h k => ?_) k
  refine R_bipush dX13_writeNumber_18 (by decide) (fun l z h k => ?_) k
  refine R_irem dX13_writeNumber_20 (fun l z h k => ?_) k
  refine R_iadd dX13_writeNumber_21 (fun l z h k => ?_) k
  exact R_cv1 (M := mX13_writeNumber) (pc := 22) (bc := bc) (bs := bs) (cb := 0) (cs := 0) (M' := mX13_write) dX13_writeNumber_22 rfl (by decide) w_2023 w_144 w_2020 w_2022 w_106 (by decide +kernel) (fun _ _ _ k => k) k
theorem bX13_writeNumber_25 {G : Gt} {d bc bs : Nat} {Q : QT} {l : Ls} {z : List Value} {h : Hp} (k : (tRetV Q) l z h) : T G d bc bs mX13_writeNumber 25 l z h Q := by
  exact R_vret dX13_writeNumber_25 rfl k
theorem dX13_writeNext_0 : decode cX13_writeNext 0 = .ok (.aload_n 0, 1) := by decide +kernel
theorem dX13_writeNext_1 : decode cX13_writeNext 1 = .ok (.bipush 32, 2) := by decide +kernel
theorem dX13_writeNext_3 : decode cX13_writeNext 3 = .ok (.invokevirtual 381, 3) := by decide +kernel
theorem dX13_writeNext_6 : decode cX13_writeNext 6 = .ok (.aload_n 0, 1) := by decide +kernel
theorem dX13_writeNext_7 : decode cX13_writeNext 7 = .ok (.lload_n 1, 1) := by decide +kernel
theorem dX13_writeNext_8 : decode cX13_writeNext 8 = .ok (.invokevirtual 377, 3) := by decide +kernel
theorem dX13_writeNext_11 : decode cX13_writeNext 11 = .ok (.return_, 1) := by decide +kernel
theorem bX13_writeNext_0 {G : Gt} {d bc bs : Nat} {Q : QT} {l : Ls} {z : List Value} {h : Hp} (k : (tAld 0 (tPush (.int 32) (tCV1 G d 0 0 11 mX13_write (fun l z h => T G d bc bs mX13_writeNext 6 l z h Q)))) l z h) : T G d bc bs mX13_writeNext 0 l z h Q := by
  refine R_aload_n dX13_writeNext_0 rfl (fun l z h k => ?_) k
  refine R_bipush dX13_writeNext_1 (by decide) (fun l z h k => ?_) k
  exact R_cv1 (M := mX13_writeNext) (pc := 3) (bc := bc) (bs := bs) (cb := 0) (cs := 0) (M' := mX13_write) dX13_writeNext_3 rfl (by decide) w_2023 w_144 w_2020 w_2022 w_106 (by decide +kernel) (fun _ _ _ k => k) k
theorem bX13_writeNext_6 {G : Gt} {d bc bs : Nat} {Q : QT} {l : Ls} {z : List Value} {h : Hp} (k : (tAld 0 (tLld 1 (tCV1 G d 0 0 11 mX13_writeWord (fun l z h => T G d bc bs mX13_writeNext 11 l z h Q)))) l z h) : T G d bc bs mX13_writeNext 6 l z h Q := by
  refine R_aload_n dX13_writeNext_6 rfl (fun l z h k => ?_) k
  refine R_lload_n dX13_writeNext_7 rfl (fun l z h k => ?_) k
  exact R_cv1 (M := mX13_writeNext) (pc := 8) (bc := bc) (bs := bs) (cb := 0) (cs := 0) (M' := mX13_writeWord) dX13_writeNext_8 rfl (by decide) w_2019 w_144 w_2016 w_2018 w_105 (by decide +kernel) (fun _ _ _ k => k) k
theorem bX13_writeNext_11 {G : Gt} {d bc bs : Nat} {Q : QT} {l : Ls} {z : List Value} {h : Hp} (k : (tRetV Q) l z h) : T G d bc bs mX13_writeNext 11 l z h Q := by
  exact R_vret dX13_writeNext_11 rfl k
theorem dX13_pass_0 : decode cX13_pass 0 = .ok (.aload_n 0, 1) := by decide +kernel
theorem dX13_pass_1 : decode cX13_pass 1 = .ok (.iconst 0, 1) := by decide +kernel
theorem dX13_pass_2 : decode cX13_pass 2 = .ok (.putfield 85, 3) := by decide +kernel
theorem dX13_pass_5 : decode cX13_pass 5 = .ok (.aload_n 0, 1) := by decide +kernel
theorem dX13_pass_6 : decode cX13_pass 6 = .ok (.iload_n 1, 1) := by decide +kernel
theorem dX13_pass_7 : decode cX13_pass 7 = .ok (.invokevirtual 256, 3) := by decide +kernel
theorem dX13_pass_10 : decode cX13_pass 10 = .ok (.ifCond .ne 5, 3) := by decide +kernel
theorem dX13_pass_13 : decode cX13_pass 13 = .ok (.iconst (-1), 1) := by decide +kernel
theorem dX13_pass_14 : decode cX13_pass 14 = .ok (.ireturn, 1) := by decide +kernel
theorem dX13_pass_15 : decode cX13_pass 15 = .ok (.aload_n 0, 1) := by decide +kernel
theorem dX13_pass_16 : decode cX13_pass 16 = .ok (.iconst 0, 1) := by decide +kernel
theorem dX13_pass_17 : decode cX13_pass 17 = .ok (.putfield 374, 3) := by decide +kernel
theorem dX13_pass_20 : decode cX13_pass 20 = .ok (.aload_n 0, 1) := by decide +kernel
theorem dX13_pass_21 : decode cX13_pass 21 = .ok (.aload_n 0, 1) := by decide +kernel
theorem dX13_pass_22 : decode cX13_pass 22 = .ok (.getfield 31, 3) := by decide +kernel
theorem dX13_pass_25 : decode cX13_pass 25 = .ok (.bipush 6, 2) := by decide +kernel
theorem dX13_pass_27 : decode cX13_pass 27 = .ok (.iload_n 1, 1) := by decide +kernel
theorem dX13_pass_28 : decode cX13_pass 28 = .ok (.iadd, 1) := by decide +kernel
theorem dX13_pass_29 : decode cX13_pass 29 = .ok (.laload, 1) := by decide +kernel
theorem dX13_pass_30 : decode cX13_pass 30 = .ok (.invokevirtual 377, 3) := by decide +kernel
theorem dX13_pass_33 : decode cX13_pass 33 = .ok (.aload_n 0, 1) := by decide +kernel
theorem dX13_pass_34 : decode cX13_pass 34 = .ok (.getfield 13, 3) := by decide +kernel
theorem dX13_pass_37 : decode cX13_pass 37 = .ok (.bipush 22, 2) := by decide +kernel
theorem dX13_pass_39 : decode cX13_pass 39 = .ok (.iload_n 1, 1) := by decide +kernel
theorem dX13_pass_40 : decode cX13_pass 40 = .ok (.iadd, 1) := by decide +kernel
theorem dX13_pass_41 : decode cX13_pass 41 = .ok (.iaload, 1) := by decide +kernel
theorem dX13_pass_42 : decode cX13_pass 42 = .ok (.istore_n 2, 1) := by decide +kernel
theorem dX13_pass_43 : decode cX13_pass 43 = .ok (.aload_n 0, 1) := by decide +kernel
theorem dX13_pass_44 : decode cX13_pass 44 = .ok (.iload_n 1, 1) := by decide +kernel
theorem dX13_pass_45 : decode cX13_pass 45 = .ok (.iload_n 2, 1) := by decide +kernel
theorem dX13_pass_46 : decode cX13_pass 46 = .ok (.invokevirtual 250, 3) := by decide +kernel
theorem dX13_pass_49 : decode cX13_pass 49 = .ok (.ifCond .eq 41, 3) := by decide +kernel
theorem dX13_pass_52 : decode cX13_pass 52 = .ok (.aload_n 0, 1) := by decide +kernel
theorem dX13_pass_53 : decode cX13_pass 53 = .ok (.bipush 109, 2) := by decide +kernel
theorem dX13_pass_55 : decode cX13_pass 55 = .ok (.bipush 97, 2) := by decide +kernel
theorem dX13_pass_57 : decode cX13_pass 57 = .ok (.bipush 121, 2) := by decide +kernel
theorem dX13_pass_59 : decode cX13_pass 59 = .ok (.iconst 0, 1) := by decide +kernel
theorem dX13_pass_60 : decode cX13_pass 60 = .ok (.iconst 0, 1) := by decide +kernel
theorem dX13_pass_61 : decode cX13_pass 61 = .ok (.iconst 0, 1) := by decide +kernel
theorem dX13_pass_62 : decode cX13_pass 62 = .ok (.iconst 0, 1) := by decide +kernel
theorem dX13_pass_63 : decode cX13_pass 63 = .ok (.invokestatic 135, 3) := by decide +kernel
theorem dX13_pass_66 : decode cX13_pass 66 = .ok (.invokevirtual 387, 3) := by decide +kernel
theorem dX13_pass_69 : decode cX13_pass 69 = .ok (.aload_n 0, 1) := by decide +kernel
theorem dX13_pass_70 : decode cX13_pass 70 = .ok (.bipush 103, 2) := by decide +kernel
theorem dX13_pass_72 : decode cX13_pass 72 = .ok (.bipush 111, 2) := by decide +kernel
theorem dX13_pass_74 : decode cX13_pass 74 = .ok (.iconst 0, 1) := by decide +kernel
theorem dX13_pass_75 : decode cX13_pass 75 = .ok (.iconst 0, 1) := by decide +kernel
theorem dX13_pass_76 : decode cX13_pass 76 = .ok (.iconst 0, 1) := by decide +kernel
theorem dX13_pass_77 : decode cX13_pass 77 = .ok (.iconst 0, 1) := by decide +kernel
theorem dX13_pass_78 : decode cX13_pass 78 = .ok (.iconst 0, 1) := by decide +kernel
theorem dX13_pass_79 : decode cX13_pass 79 = .ok (.invokestatic 135, 3) := by decide +kernel
theorem dX13_pass_82 : decode cX13_pass 82 = .ok (.invokevirtual 387, 3) := by decide +kernel
theorem dX13_pass_85 : decode cX13_pass 85 = .ok (.aload_n 0, 1) := by decide +kernel
theorem dX13_pass_86 : decode cX13_pass 86 = .ok (.getfield 374, 3) := by decide +kernel
theorem dX13_pass_89 : decode cX13_pass 89 = .ok (.ireturn, 1) := by decide +kernel
theorem dX13_pass_90 : decode cX13_pass 90 = .ok (.iconst 0, 1) := by decide +kernel
theorem dX13_pass_91 : decode cX13_pass 91 = .ok (.istore_n 3, 1) := by decide +kernel
theorem dX13_pass_92 : decode cX13_pass 92 = .ok (.aload_n 0, 1) := by decide +kernel
theorem dX13_pass_93 : decode cX13_pass 93 = .ok (.iload_n 1, 1) := by decide +kernel
theorem dX13_pass_94 : decode cX13_pass 94 = .ok (.iload_n 2, 1) := by decide +kernel
theorem dX13_pass_95 : decode cX13_pass 95 = .ok (.invokevirtual 247, 3) := by decide +kernel
theorem dX13_pass_98 : decode cX13_pass 98 = .ok (.iload_n 3, 1) := by decide +kernel
theorem dX13_pass_99 : decode cX13_pass 99 = .ok (.invokestatic 338, 3) := by decide +kernel
theorem dX13_pass_102 : decode cX13_pass 102 = .ok (.ifCond .ne 9, 3) := by decide +kernel
theorem dX13_pass_105 : decode cX13_pass 105 = .ok (.iinc 3 1, 3) := by decide +kernel
theorem dX13_pass_108 : decode cX13_pass 108 = .ok (.goto (-16), 3) := by decide +kernel
theorem dX13_pass_111 : decode cX13_pass 111 = .ok (.aload_n 0, 1) := by decide +kernel
theorem dX13_pass_112 : decode cX13_pass 112 = .ok (.bipush 108, 2) := by decide +kernel
theorem dX13_pass_114 : decode cX13_pass 114 = .ok (.bipush 97, 2) := by decide +kernel
theorem dX13_pass_116 : decode cX13_pass 116 = .ok (.bipush 99, 2) := by decide +kernel
theorem dX13_pass_118 : decode cX13_pass 118 = .ok (.bipush 107, 2) := by decide +kernel
theorem dX13_pass_120 : decode cX13_pass 120 = .ok (.bipush 115, 2) := by decide +kernel
theorem dX13_pass_122 : decode cX13_pass 122 = .ok (.iconst 0, 1) := by decide +kernel
theorem dX13_pass_123 : decode cX13_pass 123 = .ok (.iconst 0, 1) := by decide +kernel
theorem dX13_pass_124 : decode cX13_pass 124 = .ok (.invokestatic 135, 3) := by decide +kernel
theorem dX13_pass_127 : decode cX13_pass 127 = .ok (.invokevirtual 387, 3) := by decide +kernel
theorem dX13_pass_130 : decode cX13_pass 130 = .ok (.aload_n 0, 1) := by decide +kernel
theorem dX13_pass_131 : decode cX13_pass 131 = .ok (.aload_n 0, 1) := by decide +kernel
theorem dX13_pass_132 : decode cX13_pass 132 = .ok (.getfield 31, 3) := by decide +kernel
theorem dX13_pass_135 : decode cX13_pass 135 = .ok (.iload_n 3, 1) := by decide +kernel
theorem dX13_pass_136 : decode cX13_pass 136 = .ok (.laload, 1) := by decide +kernel
theorem dX13_pass_137 : decode cX13_pass 137 = .ok (.invokevirtual 387, 3) := by decide +kernel
theorem dX13_pass_140 : decode cX13_pass 140 = .ok (.aload_n 0, 1) := by decide +kernel
theorem dX13_pass_141 : decode cX13_pass 141 = .ok (.bipush 32, 2) := by decide +kernel
theorem dX13_pass_143 : decode cX13_pass 143 = .ok (.invokevirtual 381, 3) := by decide +kernel
theorem dX13_pass_146 : decode cX13_pass 146 = .ok (.aload_n 0, 1) := by decide +kernel
theorem dX13_pass_147 : decode cX13_pass 147 = .ok (.aload_n 0, 1) := by decide +kernel
theorem dX13_pass_148 : decode cX13_pass 148 = .ok (.iload_n 2, 1) := by decide +kernel
theorem dX13_pass_149 : decode cX13_pass 149 = .ok (.iload_n 3, 1) := by decide +kernel
theorem dX13_pass_150 : decode cX13_pass 150 = .ok (.invokevirtual 244, 3) := by decide +kernel
theorem dX13_pass_153 : decode cX13_pass 153 = .ok (.aload_n 0, 1) := by decide +kernel
theorem dX13_pass_154 : decode cX13_pass 154 = .ok (.iload_n 1, 1) := by decide +kernel
theorem dX13_pass_155 : decode cX13_pass 155 = .ok (.iload_n 3, 1) := by decide +kernel
theorem dX13_pass_156 : decode cX13_pass 156 = .ok (.invokevirtual 240, 3) := by decide +kernel
theorem dX13_pass_159 : decode cX13_pass 159 = .ok (.isub, 1) := by decide +kernel
theorem dX13_pass_160 : decode cX13_pass 160 = .ok (.invokevirtual 384, 3) := by decide +kernel
theorem dX13_pass_163 : decode cX13_pass 163 = .ok (.aload_n 0, 1) := by decide +kernel
theorem dX13_pass_164 : decode cX13_pass 164 = .ok (.getfield 374, 3) := by decide +kernel
theorem dX13_pass_167 : decode cX13_pass 167 = .ok (.ireturn, 1) := by decide +kernel
theorem bX13_pass_0 {G : Gt} {d bc bs : Nat} {Q : QT} {l : Ls} {z : List Value} {h : Hp} (k : (tAld 0 (tPush (.int 0) (tPutf isI 11 0 (tAld 0 (tIld 1 (tCV1 G d 0 0 11 mX13_isPerson (fun l z h => T G d bc bs mX13_pass 10 l z h Q))))))) l z h) : T G d bc bs mX13_pass 0 l z h Q := by
  refine R_aload_n dX13_pass_0 rfl (fun l z h k => ?_) k
  refine R_iconst dX13_pass_1 (by decide) (fun l z h k => ?_) k
  refine R_putf (ci := 11) (f := 0) (C := RX13) (N := 49) (Tt := TX13) tyX13 tyX13_ok nmX13 dX13_pass_2 rfl i_X13 (by decide) w_1467 rfl (tyX13_ok 0 (by decide)) p_int (fun l z h k => ?_) k
  refine R_aload_n dX13_pass_5 rfl (fun l z h k => ?_) k
  refine R_iload_n dX13_pass_6 rfl (fun l z h k => ?_) k
  exact R_cv1 (M := mX13_pass) (pc := 7) (bc := bc) (bs := bs) (cb := 0) (cs := 0) (M' := mX13_isPerson) dX13_pass_7 rfl (by decide) w_1767 w_144 w_1764 w_1766 w_70 (by decide +kernel) (fun _ _ _ k => k) k
theorem bX13_pass_10 {G : Gt} {d bc bs : Nat} {Q : QT} {l : Ls} {z : List Value} {h : Hp} (k : (tIf (fun x => x = 0) (fun l z h => T G d bc bs mX13_pass 13 l z h Q) (fun l z h => T G d bc bs mX13_pass 15 l z h Q)) l z h) : T G d bc bs mX13_pass 10 l z h Q := by
  exact R_if_ne dX13_pass_10 (by decide) (fun _ _ _ k => k) (fun _ _ _ k => k) k
theorem bX13_pass_13 {G : Gt} {d bc bs : Nat} {Q : QT} {l : Ls} {z : List Value} {h : Hp} (k : (tPush (.int (-1)) (tRetI Q)) l z h) : T G d bc bs mX13_pass 13 l z h Q := by
  refine R_iconst dX13_pass_13 (by decide) (fun l z h k => ?_) k
  exact R_iret dX13_pass_14 rfl k
theorem bX13_pass_15 {G : Gt} {d bc bs : Nat} {Q : QT} {l : Ls} {z : List Value} {h : Hp} (k : (tAld 0 (tPush (.int 0) (tPutf isI 11 38 (tAld 0 (tAld 0 (tGetf 11 20 (tPush (.int 6) (tIld 1 (tB (fun x y => x + y) (tJald (tCV1 G d 0 0 11 mX13_writeWord (fun l z h => T G d bc bs mX13_pass 33 l z h Q)))))))))))) l z h) : T G d bc bs mX13_pass 15 l z h Q := by
  refine R_aload_n dX13_pass_15 rfl (fun l z h k => ?_) k
  refine R_iconst dX13_pass_16 (by decide) (fun l z h k => ?_) k
  refine R_putf (ci := 11) (f := 38) (C := RX13) (N := 49) (Tt := TX13) tyX13 tyX13_ok nmX13 dX13_pass_17 rfl i_X13 (by decide) w_1505 rfl (tyX13_ok 38 (by decide)) p_int (fun l z h k => ?_) k
  refine R_aload_n dX13_pass_20 rfl (fun l z h k => ?_) k
  refine R_aload_n dX13_pass_21 rfl (fun l z h k => ?_) k
  refine R_getf (ci := 11) (f := 20) (C := RX13) (N := 49) (Tt := TX13) dX13_pass_22 rfl i_X13 (by decide) w_1487 (fun l z h k => ?_) k
  refine R_bipush dX13_pass_25 (by decide) (fun l z h k => ?_) k
  refine R_iload_n dX13_pass_27 rfl (fun l z h k => ?_) k
  refine R_iadd dX13_pass_28 (fun l z h k => ?_) k
  refine R_laload dX13_pass_29 (fun l z h k => ?_) k
  exact R_cv1 (M := mX13_pass) (pc := 30) (bc := bc) (bs := bs) (cb := 0) (cs := 0) (M' := mX13_writeWord) dX13_pass_30 rfl (by decide) w_2019 w_144 w_2016 w_2018 w_105 (by decide +kernel) (fun _ _ _ k => k) k
theorem bX13_pass_33 {G : Gt} {d bc bs : Nat} {Q : QT} {l : Ls} {z : List Value} {h : Hp} (k : (tAld 0 (tGetf 11 14 (tPush (.int 22) (tIld 1 (tB (fun x y => x + y) (tXald 0 (tIst 2 (tAld 0 (tIld 1 (tIld 2 (tCV2 G d 0 0 11 mX13_pays (fun l z h => T G d bc bs mX13_pass 49 l z h Q)))))))))))) l z h) : T G d bc bs mX13_pass 33 l z h Q := by
  refine R_aload_n dX13_pass_33 rfl (fun l z h k => ?_) k
  refine R_getf (ci := 11) (f := 14) (C := RX13) (N := 49) (Tt := TX13) dX13_pass_34 rfl i_X13 (by decide) w_1481 (fun l z h k => ?_) k
  refine R_bipush dX13_pass_37 (by decide) (fun l z h k => ?_) k
  refine R_iload_n dX13_pass_39 rfl (fun l z h k => ?_) k
  refine R_iadd dX13_pass_40 (fun l z h k => ?_) k
  refine R_iaload dX13_pass_41 (fun l z h k => ?_) k
  refine R_istore_n dX13_pass_42 rfl (by decide) (fun l z h k => ?_) k
  refine R_aload_n dX13_pass_43 rfl (fun l z h k => ?_) k
  refine R_iload_n dX13_pass_44 rfl (fun l z h k => ?_) k
  refine R_iload_n dX13_pass_45 rfl (fun l z h k => ?_) k
  exact R_cv2 (M := mX13_pass) (pc := 46) (bc := bc) (bs := bs) (cb := 0) (cs := 0) (M' := mX13_pays) dX13_pass_46 rfl (by decide) w_1819 w_144 w_1816 w_1818 w_79 (by decide +kernel) (fun _ _ _ k => k) k
theorem bX13_pass_49 {G : Gt} {d bc bs : Nat} {Q : QT} {l : Ls} {z : List Value} {h : Hp} (k : (tIf (fun x => x = 0) (fun l z h => T G d bc bs mX13_pass 90 l z h Q) (fun l z h => T G d bc bs mX13_pass 52 l z h Q)) l z h) : T G d bc bs mX13_pass 49 l z h Q := by
  exact R_if_eq dX13_pass_49 (by decide) (fun _ _ _ k => k) (fun _ _ _ k => k) k
theorem bX13_pass_52 {G : Gt} {d bc bs : Nat} {Q : QT} {l : Ls} {z : List Value} {h : Hp} (k : (tAld 0 (tPush (.int 109) (tPush (.int 97) (tPush (.int 121) (tPush (.int 0) (tPush (.int 0) (tPush (.int 0) (tPush (.int 0) (tCS7 G d 0 0 mX13_spelt (fun l z h => T G d bc bs mX13_pass 66 l z h Q)))))))))) l z h) : T G d bc bs mX13_pass 52 l z h Q := by
  refine R_aload_n dX13_pass_52 rfl (fun l z h k => ?_) k
  refine R_bipush dX13_pass_53 (by decide) (fun l z h k => ?_) k
  refine R_bipush dX13_pass_55 (by decide) (fun l z h k => ?_) k
  refine R_bipush dX13_pass_57 (by decide) (fun l z h k => ?_) k
  refine R_iconst dX13_pass_59 (by decide) (fun l z h k => ?_) k
  refine R_iconst dX13_pass_60 (by decide) (fun l z h k => ?_) k
  refine R_iconst dX13_pass_61 (by decide) (fun l z h k => ?_) k
  refine R_iconst dX13_pass_62 (by decide) (fun l z h k => ?_) k
  exact R_cs7 (M := mX13_pass) (pc := 63) (bc := bc) (bs := bs) (cb := 0) (cs := 0) (M' := mX13_spelt) dX13_pass_63 (by decide) w_1673 w_144 w_1671 w_1672 (by decide +kernel) (fun _ _ _ k => k) k
theorem bX13_pass_66 {G : Gt} {d bc bs : Nat} {Q : QT} {l : Ls} {z : List Value} {h : Hp} (k : (tCV1 G d 0 0 11 mX13_writeNext (fun l z h => T G d bc bs mX13_pass 69 l z h Q)) l z h) : T G d bc bs mX13_pass 66 l z h Q := by
  exact R_cv1 (M := mX13_pass) (pc := 66) (bc := bc) (bs := bs) (cb := 0) (cs := 0) (M' := mX13_writeNext) dX13_pass_66 rfl (by decide) w_2027 w_144 w_2024 w_2026 w_107 (by decide +kernel) (fun _ _ _ k => k) k
theorem bX13_pass_69 {G : Gt} {d bc bs : Nat} {Q : QT} {l : Ls} {z : List Value} {h : Hp} (k : (tAld 0 (tPush (.int 103) (tPush (.int 111) (tPush (.int 0) (tPush (.int 0) (tPush (.int 0) (tPush (.int 0) (tPush (.int 0) (tCS7 G d 0 0 mX13_spelt (fun l z h => T G d bc bs mX13_pass 82 l z h Q)))))))))) l z h) : T G d bc bs mX13_pass 69 l z h Q := by
  refine R_aload_n dX13_pass_69 rfl (fun l z h k => ?_) k
  refine R_bipush dX13_pass_70 (by decide) (fun l z h k => ?_) k
  refine R_bipush dX13_pass_72 (by decide) (fun l z h k => ?_) k
  refine R_iconst dX13_pass_74 (by decide) (fun l z h k => ?_) k
  refine R_iconst dX13_pass_75 (by decide) (fun l z h k => ?_) k
  refine R_iconst dX13_pass_76 (by decide) (fun l z h k => ?_) k
  refine R_iconst dX13_pass_77 (by decide) (fun l z h k => ?_) k
  refine R_iconst dX13_pass_78 (by decide) (fun l z h k => ?_) k
  exact R_cs7 (M := mX13_pass) (pc := 79) (bc := bc) (bs := bs) (cb := 0) (cs := 0) (M' := mX13_spelt) dX13_pass_79 (by decide) w_1673 w_144 w_1671 w_1672 (by decide +kernel) (fun _ _ _ k => k) k
theorem bX13_pass_82 {G : Gt} {d bc bs : Nat} {Q : QT} {l : Ls} {z : List Value} {h : Hp} (k : (tCV1 G d 0 0 11 mX13_writeNext (fun l z h => T G d bc bs mX13_pass 85 l z h Q)) l z h) : T G d bc bs mX13_pass 82 l z h Q := by
  exact R_cv1 (M := mX13_pass) (pc := 82) (bc := bc) (bs := bs) (cb := 0) (cs := 0) (M' := mX13_writeNext) dX13_pass_82 rfl (by decide) w_2027 w_144 w_2024 w_2026 w_107 (by decide +kernel) (fun _ _ _ k => k) k
theorem bX13_pass_85 {G : Gt} {d bc bs : Nat} {Q : QT} {l : Ls} {z : List Value} {h : Hp} (k : (tAld 0 (tGetf 11 38 (tRetI Q))) l z h) : T G d bc bs mX13_pass 85 l z h Q := by
  refine R_aload_n dX13_pass_85 rfl (fun l z h k => ?_) k
  refine R_getf (ci := 11) (f := 38) (C := RX13) (N := 49) (Tt := TX13) dX13_pass_86 rfl i_X13 (by decide) w_1505 (fun l z h k => ?_) k
  exact R_iret dX13_pass_89 rfl k
theorem bX13_pass_90 {G : Gt} {d bc bs : Nat} {Q : QT} {l : Ls} {z : List Value} {h : Hp} (k : (tPush (.int 0) (tIst 3 ((fun l z h => T G d bc bs mX13_pass 92 l z h Q)))) l z h) : T G d bc bs mX13_pass 90 l z h Q := by
  refine R_iconst dX13_pass_90 (by decide) (fun l z h k => ?_) k
  refine R_istore_n dX13_pass_91 rfl (by decide) (fun l z h k => ?_) k
  exact k
theorem bX13_pass_92 {G : Gt} {d bc bs : Nat} {Q : QT} {l : Ls} {z : List Value} {h : Hp} (k : (tAld 0 (tIld 1 (tIld 2 (tCV2 G d 0 0 11 mX13_lacksOf (fun l z h => T G d bc bs mX13_pass 98 l z h Q))))) l z h) : T G d bc bs mX13_pass 92 l z h Q := by
  refine R_aload_n dX13_pass_92 rfl (fun l z h k => ?_) k
  refine R_iload_n dX13_pass_93 rfl (fun l z h k => ?_) k
  refine R_iload_n dX13_pass_94 rfl (fun l z h k => ?_) k
  exact R_cv2 (M := mX13_pass) (pc := 95) (bc := bc) (bs := bs) (cb := 0) (cs := 0) (M' := mX13_lacksOf) dX13_pass_95 rfl (by decide) w_1823 w_144 w_1820 w_1822 w_80 (by decide +kernel) (fun _ _ _ k => k) k
theorem bX13_pass_98 {G : Gt} {d bc bs : Nat} {Q : QT} {l : Ls} {z : List Value} {h : Hp} (k : (tIld 3 (tCS2 G d 0 0 mX13_has (fun l z h => T G d bc bs mX13_pass 102 l z h Q))) l z h) : T G d bc bs mX13_pass 98 l z h Q := by
  refine R_iload_n dX13_pass_98 rfl (fun l z h k => ?_) k
  exact R_cs2 (M := mX13_pass) (pc := 99) (bc := bc) (bs := bs) (cb := 0) (cs := 0) (M' := mX13_has) dX13_pass_99 (by decide) w_1956 w_144 w_1954 w_1955 (by decide +kernel) (fun _ _ _ k => k) k
theorem bX13_pass_102 {G : Gt} {d bc bs : Nat} {Q : QT} {l : Ls} {z : List Value} {h : Hp} (k : (tIf (fun x => x = 0) (fun l z h => T G d bc bs mX13_pass 105 l z h Q) (fun l z h => T G d bc bs mX13_pass 111 l z h Q)) l z h) : T G d bc bs mX13_pass 102 l z h Q := by
  exact R_if_ne dX13_pass_102 (by decide) (fun _ _ _ k => k) (fun _ _ _ k => k) k
theorem bX13_pass_105 {G : Gt} {d bc bs : Nat} {Q : QT} {l : Ls} {z : List Value} {h : Hp} (k : (tInc 3 1 ((fun l z h => T G d bc bs mX13_pass 92 l z h Q))) l z h) : T G d bc bs mX13_pass 105 l z h Q := by
  refine R_iinc dX13_pass_105 (by decide) (by decide) (fun l z h k => ?_) k
  exact R_goto dX13_pass_108 (by decide) (fun _ _ _ k => k) k
theorem bX13_pass_111 {G : Gt} {d bc bs : Nat} {Q : QT} {l : Ls} {z : List Value} {h : Hp} (k : (tAld 0 (tPush (.int 108) (tPush (.int 97) (tPush (.int 99) (tPush (.int 107) (tPush (.int 115) (tPush (.int 0) (tPush (.int 0) (tCS7 G d 0 0 mX13_spelt (fun l z h => T G d bc bs mX13_pass 127 l z h Q)))))))))) l z h) : T G d bc bs mX13_pass 111 l z h Q := by
  refine R_aload_n dX13_pass_111 rfl (fun l z h k => ?_) k
  refine R_bipush dX13_pass_112 (by decide) (fun l z h k => ?_) k
  refine R_bipush dX13_pass_114 (by decide) (fun l z h k => ?_) k
  refine R_bipush dX13_pass_116 (by decide) (fun l z h k => ?_) k
  refine R_bipush dX13_pass_118 (by decide) (fun l z h k => ?_) k
  refine R_bipush dX13_pass_120 (by decide) (fun l z h k => ?_) k
  refine R_iconst dX13_pass_122 (by decide) (fun l z h k => ?_) k
  refine R_iconst dX13_pass_123 (by decide) (fun l z h k => ?_) k
  exact R_cs7 (M := mX13_pass) (pc := 124) (bc := bc) (bs := bs) (cb := 0) (cs := 0) (M' := mX13_spelt) dX13_pass_124 (by decide) w_1673 w_144 w_1671 w_1672 (by decide +kernel) (fun _ _ _ k => k) k
theorem bX13_pass_127 {G : Gt} {d bc bs : Nat} {Q : QT} {l : Ls} {z : List Value} {h : Hp} (k : (tCV1 G d 0 0 11 mX13_writeNext (fun l z h => T G d bc bs mX13_pass 130 l z h Q)) l z h) : T G d bc bs mX13_pass 127 l z h Q := by
  exact R_cv1 (M := mX13_pass) (pc := 127) (bc := bc) (bs := bs) (cb := 0) (cs := 0) (M' := mX13_writeNext) dX13_pass_127 rfl (by decide) w_2027 w_144 w_2024 w_2026 w_107 (by decide +kernel) (fun _ _ _ k => k) k
theorem bX13_pass_130 {G : Gt} {d bc bs : Nat} {Q : QT} {l : Ls} {z : List Value} {h : Hp} (k : (tAld 0 (tAld 0 (tGetf 11 20 (tIld 3 (tJald (tCV1 G d 0 0 11 mX13_writeNext (fun l z h => T G d bc bs mX13_pass 140 l z h Q))))))) l z h) : T G d bc bs mX13_pass 130 l z h Q := by
  refine R_aload_n dX13_pass_130 rfl (fun l z h k => ?_) k
  refine R_aload_n dX13_pass_131 rfl (fun l z h k => ?_) k
  refine R_getf (ci := 11) (f := 20) (C := RX13) (N := 49) (Tt := TX13) dX13_pass_132 rfl i_X13 (by decide) w_1487 (fun l z h k => ?_) k
  refine R_iload_n dX13_pass_135 rfl (fun l z h k => ?_) k
  refine R_laload dX13_pass_136 (fun l z h k => ?_) k
  exact R_cv1 (M := mX13_pass) (pc := 137) (bc := bc) (bs := bs) (cb := 0) (cs := 0) (M' := mX13_writeNext) dX13_pass_137 rfl (by decide) w_2027 w_144 w_2024 w_2026 w_107 (by decide +kernel) (fun _ _ _ k => k) k
theorem bX13_pass_140 {G : Gt} {d bc bs : Nat} {Q : QT} {l : Ls} {z : List Value} {h : Hp} (k : (tAld 0 (tPush (.int 32) (tCV1 G d 0 0 11 mX13_write (fun l z h => T G d bc bs mX13_pass 146 l z h Q)))) l z h) : T G d bc bs mX13_pass 140 l z h Q := by
  refine R_aload_n dX13_pass_140 rfl (fun l z h k => ?_) k
  refine R_bipush dX13_pass_141 (by decide) (fun l z h k => ?_) k
  exact R_cv1 (M := mX13_pass) (pc := 143) (bc := bc) (bs := bs) (cb := 0) (cs := 0) (M' := mX13_write) dX13_pass_143 rfl (by decide) w_2023 w_144 w_2020 w_2022 w_106 (by decide +kernel) (fun _ _ _ k => k) k
theorem bX13_pass_146 {G : Gt} {d bc bs : Nat} {Q : QT} {l : Ls} {z : List Value} {h : Hp} (k : (tAld 0 (tAld 0 (tIld 2 (tIld 3 (tCV2 G d 0 0 11 mX13_askOf (fun l z h => T G d bc bs mX13_pass 153 l z h Q)))))) l z h) : T G d bc bs mX13_pass 146 l z h Q := by
  refine R_aload_n dX13_pass_146 rfl (fun l z h k => ?_) k
  refine R_aload_n dX13_pass_147 rfl (fun l z h k => ?_) k
  refine R_iload_n dX13_pass_148 rfl (fun l z h k => ?_) k
  refine R_iload_n dX13_pass_149 rfl (fun l z h k => ?_) k
  exact R_cv2 (M := mX13_pass) (pc := 150) (bc := bc) (bs := bs) (cb := 0) (cs := 0) (M' := mX13_askOf) dX13_pass_150 rfl (by decide) w_1799 w_144 w_1796 w_1798 w_75 (by decide +kernel) (fun _ _ _ k => k) k
theorem bX13_pass_153 {G : Gt} {d bc bs : Nat} {Q : QT} {l : Ls} {z : List Value} {h : Hp} (k : (tAld 0 (tIld 1 (tIld 3 (tCV2 G d 0 0 11 mX13_haveOf (fun l z h => T G d bc bs mX13_pass 159 l z h Q))))) l z h) : T G d bc bs mX13_pass 153 l z h Q := by
  refine R_aload_n dX13_pass_153 rfl (fun l z h k => ?_) k
  refine R_iload_n dX13_pass_154 rfl (fun l z h k => ?_) k
  refine R_iload_n dX13_pass_155 rfl (fun l z h k => ?_) k
  exact R_cv2 (M := mX13_pass) (pc := 156) (bc := bc) (bs := bs) (cb := 0) (cs := 0) (M' := mX13_haveOf) dX13_pass_156 rfl (by decide) w_1779 w_144 w_1776 w_1778 w_73 (by decide +kernel) (fun _ _ _ k => k) k
theorem bX13_pass_159 {G : Gt} {d bc bs : Nat} {Q : QT} {l : Ls} {z : List Value} {h : Hp} (k : (tB (fun x y => x - y) (tCV1 G d 0 0 11 mX13_writeNumber (fun l z h => T G d bc bs mX13_pass 163 l z h Q))) l z h) : T G d bc bs mX13_pass 159 l z h Q := by
  refine R_isub dX13_pass_159 (fun l z h k => ?_) k
  exact R_cv1 (M := mX13_pass) (pc := 160) (bc := bc) (bs := bs) (cb := 0) (cs := 0) (M' := mX13_writeNumber) dX13_pass_160 rfl (by decide) w_2031 w_144 w_2028 w_2030 w_108 (by decide +kernel) (fun _ _ _ k => k) k
theorem bX13_pass_163 {G : Gt} {d bc bs : Nat} {Q : QT} {l : Ls} {z : List Value} {h : Hp} (k : (tAld 0 (tGetf 11 38 (tRetI Q))) l z h) : T G d bc bs mX13_pass 163 l z h Q := by
  refine R_aload_n dX13_pass_163 rfl (fun l z h k => ?_) k
  refine R_getf (ci := 11) (f := 38) (C := RX13) (N := 49) (Tt := TX13) dX13_pass_164 rfl i_X13 (by decide) w_1505 (fun l z h k => ?_) k
  exact R_iret dX13_pass_167 rfl k
theorem dX13_byteAt_0 : decode cX13_byteAt 0 = .ok (.aload_n 0, 1) := by decide +kernel
theorem dX13_byteAt_1 : decode cX13_byteAt 1 = .ok (.iconst 0, 1) := by decide +kernel
theorem dX13_byteAt_2 : decode cX13_byteAt 2 = .ok (.putfield 85, 3) := by decide +kernel
theorem dX13_byteAt_5 : decode cX13_byteAt 5 = .ok (.iload_n 1, 1) := by decide +kernel
theorem dX13_byteAt_6 : decode cX13_byteAt 6 = .ok (.iconst 0, 1) := by decide +kernel
theorem dX13_byteAt_7 : decode cX13_byteAt 7 = .ok (.aload_n 0, 1) := by decide +kernel
theorem dX13_byteAt_8 : decode cX13_byteAt 8 = .ok (.getfield 374, 3) := by decide +kernel
theorem dX13_byteAt_11 : decode cX13_byteAt 11 = .ok (.iconst 1, 1) := by decide +kernel
theorem dX13_byteAt_12 : decode cX13_byteAt 12 = .ok (.isub, 1) := by decide +kernel
theorem dX13_byteAt_13 : decode cX13_byteAt 13 = .ok (.invokestatic 152, 3) := by decide +kernel
theorem dX13_byteAt_16 : decode cX13_byteAt 16 = .ok (.ifCond .eq 12, 3) := by decide +kernel
theorem dX13_byteAt_19 : decode cX13_byteAt 19 = .ok (.aload_n 0, 1) := by decide +kernel
theorem dX13_byteAt_20 : decode cX13_byteAt 20 = .ok (.getfield 73, 3) := by decide +kernel
theorem dX13_byteAt_23 : decode cX13_byteAt 23 = .ok (.iload_n 1, 1) := by decide +kernel
theorem dX13_byteAt_24 : decode cX13_byteAt 24 = .ok (.iaload, 1) := by decide +kernel
theorem dX13_byteAt_25 : decode cX13_byteAt 25 = .ok (.goto 4, 3) := by decide +kernel
theorem dX13_byteAt_28 : decode cX13_byteAt 28 = .ok (.iconst (-1), 1) := by decide +kernel
theorem dX13_byteAt_29 : decode cX13_byteAt 29 = .ok (.ireturn, 1) := by decide +kernel
theorem bX13_byteAt_0 {G : Gt} {d bc bs : Nat} {Q : QT} {l : Ls} {z : List Value} {h : Hp} (k : (tAld 0 (tPush (.int 0) (tPutf isI 11 0 (tIld 1 (tPush (.int 0) (tAld 0 (tGetf 11 38 (tPush (.int 1) (tB (fun x y => x - y) (tCS3 G d 0 0 mX13_isIn (fun l z h => T G d bc bs mX13_byteAt 16 l z h Q))))))))))) l z h) : T G d bc bs mX13_byteAt 0 l z h Q := by
  refine R_aload_n dX13_byteAt_0 rfl (fun l z h k => ?_) k
  refine R_iconst dX13_byteAt_1 (by decide) (fun l z h k => ?_) k
  refine R_putf (ci := 11) (f := 0) (C := RX13) (N := 49) (Tt := TX13) tyX13 tyX13_ok nmX13 dX13_byteAt_2 rfl i_X13 (by decide) w_1467 rfl (tyX13_ok 0 (by decide)) p_int (fun l z h k => ?_) k
  refine R_iload_n dX13_byteAt_5 rfl (fun l z h k => ?_) k
  refine R_iconst dX13_byteAt_6 (by decide) (fun l z h k => ?_) k
  refine R_aload_n dX13_byteAt_7 rfl (fun l z h k => ?_) k
  refine R_getf (ci := 11) (f := 38) (C := RX13) (N := 49) (Tt := TX13) dX13_byteAt_8 rfl i_X13 (by decide) w_1505 (fun l z h k => ?_) k
  refine R_iconst dX13_byteAt_11 (by decide) (fun l z h k => ?_) k
  refine R_isub dX13_byteAt_12 (fun l z h k => ?_) k
  exact R_cs3 (M := mX13_byteAt) (pc := 13) (bc := bc) (bs := bs) (cb := 0) (cs := 0) (M' := mX13_isIn) dX13_byteAt_13 (by decide) w_1711 w_144 w_1709 w_1710 (by decide +kernel) (fun _ _ _ k => k) k
theorem bX13_byteAt_16 {G : Gt} {d bc bs : Nat} {Q : QT} {l : Ls} {z : List Value} {h : Hp} (k : (tIf (fun x => x = 0) (fun l z h => T G d bc bs mX13_byteAt 28 l z h Q) (fun l z h => T G d bc bs mX13_byteAt 19 l z h Q)) l z h) : T G d bc bs mX13_byteAt 16 l z h Q := by
  exact R_if_eq dX13_byteAt_16 (by decide) (fun _ _ _ k => k) (fun _ _ _ k => k) k
theorem bX13_byteAt_19 {G : Gt} {d bc bs : Nat} {Q : QT} {l : Ls} {z : List Value} {h : Hp} (k : (tAld 0 (tGetf 11 37 (tIld 1 (tXald 0 ((fun l z h => T G d bc bs mX13_byteAt 29 l z h Q)))))) l z h) : T G d bc bs mX13_byteAt 19 l z h Q := by
  refine R_aload_n dX13_byteAt_19 rfl (fun l z h k => ?_) k
  refine R_getf (ci := 11) (f := 37) (C := RX13) (N := 49) (Tt := TX13) dX13_byteAt_20 rfl i_X13 (by decide) w_1504 (fun l z h k => ?_) k
  refine R_iload_n dX13_byteAt_23 rfl (fun l z h k => ?_) k
  refine R_iaload dX13_byteAt_24 (fun l z h k => ?_) k
  exact R_goto dX13_byteAt_25 (by decide) (fun _ _ _ k => k) k
theorem bX13_byteAt_28 {G : Gt} {d bc bs : Nat} {Q : QT} {l : Ls} {z : List Value} {h : Hp} (k : (tPush (.int (-1)) ((fun l z h => T G d bc bs mX13_byteAt 29 l z h Q))) l z h) : T G d bc bs mX13_byteAt 28 l z h Q := by
  refine R_iconst dX13_byteAt_28 (by decide) (fun l z h k => ?_) k
  exact k
theorem bX13_byteAt_29 {G : Gt} {d bc bs : Nat} {Q : QT} {l : Ls} {z : List Value} {h : Hp} (k : (tRetI Q) l z h) : T G d bc bs mX13_byteAt 29 l z h Q := by
  exact R_iret dX13_byteAt_29 rfl k
theorem dX13_draw_0 : decode cX13_draw 0 = .ok (.aload_n 0, 1) := by decide +kernel
theorem dX13_draw_1 : decode cX13_draw 1 = .ok (.aload_n 0, 1) := by decide +kernel
theorem dX13_draw_2 : decode cX13_draw 2 = .ok (.getfield 390, 3) := by decide +kernel
theorem dX13_draw_5 : decode cX13_draw 5 = .ok (.ldc_w 393, 3) := by decide +kernel
theorem dX13_draw_8 : decode cX13_draw 8 = .ok (.imul, 1) := by decide +kernel
theorem dX13_draw_9 : decode cX13_draw 9 = .ok (.sipush 12345, 3) := by decide +kernel
theorem dX13_draw_12 : decode cX13_draw 12 = .ok (.iadd, 1) := by decide +kernel
theorem dX13_draw_13 : decode cX13_draw 13 = .ok (.putfield 390, 3) := by decide +kernel
theorem dX13_draw_16 : decode cX13_draw 16 = .ok (.aload_n 0, 1) := by decide +kernel
theorem dX13_draw_17 : decode cX13_draw 17 = .ok (.getfield 390, 3) := by decide +kernel
theorem dX13_draw_20 : decode cX13_draw 20 = .ok (.bipush 8, 2) := by decide +kernel
theorem dX13_draw_22 : decode cX13_draw 22 = .ok (.iushr, 1) := by decide +kernel
theorem dX13_draw_23 : decode cX13_draw 23 = .ok (.iload_n 1, 1) := by decide +kernel
theorem dX13_draw_24 : decode cX13_draw 24 = .ok (.irem, 1) := by decide +kernel
theorem dX13_draw_25 : decode cX13_draw 25 = .ok (.ireturn, 1) := by decide +kernel
theorem bX13_draw_0 {G : Gt} {d bc bs : Nat} {Q : QT} {l : Ls} {z : List Value} {h : Hp} (k : (tAld 0 (tAld 0 (tGetf 11 39 (tPush (.int 1103515245) (tB (fun x y => x * y) (tPush (.int 12345) (tB (fun x y => x + y) (tPutf isI 11 39 (tAld 0 (tGetf 11 39 (tPush (.int 8) (tB (fun x y => (x.toUInt32 >>> (y.toUInt32 &&& Int32.toUInt32 31)).toInt32) (tIld 1 (tBn (fun x y => x - x / y * y) (tRetI Q))))))))))))))) l z h) : T G d bc bs mX13_draw 0 l z h Q := by
  refine R_aload_n dX13_draw_0 rfl (fun l z h k => ?_) k
  refine R_aload_n dX13_draw_1 rfl (fun l z h k => ?_) k
  refine R_getf (ci := 11) (f := 39) (C := RX13) (N := 49) (Tt := TX13) dX13_draw_2 rfl i_X13 (by decide) w_1506 (fun l z h k => ?_) k
  refine R_ldcw dX13_draw_5 w_2052 (fun l z h k => ?_) k
  refine R_imul dX13_draw_8 (fun l z h k => ?_) k
  refine R_sipush dX13_draw_9 (by decide) (fun l z h k => ?_) k
  refine R_iadd dX13_draw_12 (fun l z h k => ?_) k
  refine R_putf (ci := 11) (f := 39) (C := RX13) (N := 49) (Tt := TX13) tyX13 tyX13_ok nmX13 dX13_draw_13 rfl i_X13 (by decide) w_1506 rfl (tyX13_ok 39 (by decide)) p_int (fun l z h k => ?_) k
  refine R_aload_n dX13_draw_16 rfl (fun l z h k => ?_) k
  refine R_getf (ci := 11) (f := 39) (C := RX13) (N := 49) (Tt := TX13) dX13_draw_17 rfl i_X13 (by decide) w_1506 (fun l z h k => ?_) k
  refine R_bipush dX13_draw_20 (by decide) (fun l z h k => ?_) k
  refine R_iushr dX13_draw_22 (fun l z h k => ?_) k
  refine R_iload_n dX13_draw_23 rfl (fun l z h k => ?_) k
  refine R_irem dX13_draw_24 (fun l z h k => ?_) k
  exact R_iret dX13_draw_25 rfl k
theorem dX13_drawsFor_0 : decode cX13_drawsFor 0 = .ok (.aload_n 0, 1) := by decide +kernel
theorem dX13_drawsFor_1 : decode cX13_drawsFor 1 = .ok (.iconst 5, 1) := by decide +kernel
theorem dX13_drawsFor_2 : decode cX13_drawsFor 2 = .ok (.invokevirtual 394, 3) := by decide +kernel
theorem dX13_drawsFor_5 : decode cX13_drawsFor 5 = .ok (.istore_n 2, 1) := by decide +kernel
theorem dX13_drawsFor_6 : decode cX13_drawsFor 6 = .ok (.iload_n 2, 1) := by decide +kernel
theorem dX13_drawsFor_7 : decode cX13_drawsFor 7 = .ok (.iconst 2, 1) := by decide +kernel
theorem dX13_drawsFor_8 : decode cX13_drawsFor 8 = .ok (.if_icmp .ge 26, 3) := by decide +kernel
theorem dX13_drawsFor_11 : decode cX13_drawsFor 11 = .ok (.aload_n 0, 1) := by decide +kernel
theorem dX13_drawsFor_12 : decode cX13_drawsFor 12 = .ok (.iload_n 1, 1) := by decide +kernel
theorem dX13_drawsFor_13 : decode cX13_drawsFor 13 = .ok (.aload_n 0, 1) := by decide +kernel
theorem dX13_drawsFor_14 : decode cX13_drawsFor 14 = .ok (.getfield 13, 3) := by decide +kernel
theorem dX13_drawsFor_17 : decode cX13_drawsFor 17 = .ok (.bipush 22, 2) := by decide +kernel
theorem dX13_drawsFor_19 : decode cX13_drawsFor 19 = .ok (.iload_n 1, 1) := by decide +kernel
theorem dX13_drawsFor_20 : decode cX13_drawsFor 20 = .ok (.iadd, 1) := by decide +kernel
theorem dX13_drawsFor_21 : decode cX13_drawsFor 21 = .ok (.iaload, 1) := by decide +kernel
theorem dX13_drawsFor_22 : decode cX13_drawsFor 22 = .ok (.iload_n 2, 1) := by decide +kernel
theorem dX13_drawsFor_23 : decode cX13_drawsFor 23 = .ok (.ifCond .ne 7, 3) := by decide +kernel
theorem dX13_drawsFor_26 : decode cX13_drawsFor 26 = .ok (.iconst 1, 1) := by decide +kernel
theorem dX13_drawsFor_27 : decode cX13_drawsFor 27 = .ok (.goto 4, 3) := by decide +kernel
theorem dX13_drawsFor_30 : decode cX13_drawsFor 30 = .ok (.iconst (-1), 1) := by decide +kernel
theorem dX13_drawsFor_31 : decode cX13_drawsFor 31 = .ok (.invokevirtual 367, 3) := by decide +kernel
theorem dX13_drawsFor_34 : decode cX13_drawsFor 34 = .ok (.iload_n 2, 1) := by decide +kernel
theorem dX13_drawsFor_35 : decode cX13_drawsFor 35 = .ok (.iconst 2, 1) := by decide +kernel
theorem dX13_drawsFor_36 : decode cX13_drawsFor 36 = .ok (.if_icmp .ne 35, 3) := by decide +kernel
theorem dX13_drawsFor_39 : decode cX13_drawsFor 39 = .ok (.aload_n 0, 1) := by decide +kernel
theorem dX13_drawsFor_40 : decode cX13_drawsFor 40 = .ok (.aload_n 0, 1) := by decide +kernel
theorem dX13_drawsFor_41 : decode cX13_drawsFor 41 = .ok (.getfield 13, 3) := by decide +kernel
theorem dX13_drawsFor_44 : decode cX13_drawsFor 44 = .ok (.iconst 1, 1) := by decide +kernel
theorem dX13_drawsFor_45 : decode cX13_drawsFor 45 = .ok (.iaload, 1) := by decide +kernel
theorem dX13_drawsFor_46 : decode cX13_drawsFor 46 = .ok (.invokevirtual 394, 3) := by decide +kernel
theorem dX13_drawsFor_49 : decode cX13_drawsFor 49 = .ok (.istore_n 3, 1) := by decide +kernel
theorem dX13_drawsFor_50 : decode cX13_drawsFor 50 = .ok (.aload_n 0, 1) := by decide +kernel
theorem dX13_drawsFor_51 : decode cX13_drawsFor 51 = .ok (.iconst 1, 1) := by decide +kernel
theorem dX13_drawsFor_52 : decode cX13_drawsFor 52 = .ok (.iload_n 1, 1) := by decide +kernel
theorem dX13_drawsFor_53 : decode cX13_drawsFor 53 = .ok (.iload_n 3, 1) := by decide +kernel
theorem dX13_drawsFor_54 : decode cX13_drawsFor 54 = .ok (.iconst 0, 1) := by decide +kernel
theorem dX13_drawsFor_55 : decode cX13_drawsFor 55 = .ok (.iconst 0, 1) := by decide +kernel
theorem dX13_drawsFor_56 : decode cX13_drawsFor 56 = .ok (.invokevirtual 297, 3) := by decide +kernel
theorem dX13_drawsFor_59 : decode cX13_drawsFor 59 = .ok (.ifCond .ne 12, 3) := by decide +kernel
theorem dX13_drawsFor_62 : decode cX13_drawsFor 62 = .ok (.aload_n 0, 1) := by decide +kernel
theorem dX13_drawsFor_63 : decode cX13_drawsFor 63 = .ok (.iconst 1, 1) := by decide +kernel
theorem dX13_drawsFor_64 : decode cX13_drawsFor 64 = .ok (.iload_n 1, 1) := by decide +kernel
theorem dX13_drawsFor_65 : decode cX13_drawsFor 65 = .ok (.iload_n 3, 1) := by decide +kernel
theorem dX13_drawsFor_66 : decode cX13_drawsFor 66 = .ok (.iconst 0, 1) := by decide +kernel
theorem dX13_drawsFor_67 : decode cX13_drawsFor 67 = .ok (.iconst 0, 1) := by decide +kernel
theorem dX13_drawsFor_68 : decode cX13_drawsFor 68 = .ok (.invokevirtual 304, 3) := by decide +kernel
theorem dX13_drawsFor_71 : decode cX13_drawsFor 71 = .ok (.iload_n 2, 1) := by decide +kernel
theorem dX13_drawsFor_72 : decode cX13_drawsFor 72 = .ok (.iconst 3, 1) := by decide +kernel
theorem dX13_drawsFor_73 : decode cX13_drawsFor 73 = .ok (.if_icmp .ne 8, 3) := by decide +kernel
theorem dX13_drawsFor_76 : decode cX13_drawsFor 76 = .ok (.aload_n 0, 1) := by decide +kernel
theorem dX13_drawsFor_77 : decode cX13_drawsFor 77 = .ok (.iload_n 1, 1) := by decide +kernel
theorem dX13_drawsFor_78 : decode cX13_drawsFor 78 = .ok (.invokevirtual 290, 3) := by decide +kernel
theorem dX13_drawsFor_81 : decode cX13_drawsFor 81 = .ok (.return_, 1) := by decide +kernel
theorem bX13_drawsFor_0 {G : Gt} {d bc bs : Nat} {Q : QT} {l : Ls} {z : List Value} {h : Hp} (k : (tAld 0 (tPush (.int 5) (tCV1 G d 0 0 11 mX13_draw (fun l z h => T G d bc bs mX13_drawsFor 5 l z h Q)))) l z h) : T G d bc bs mX13_drawsFor 0 l z h Q := by
  refine R_aload_n dX13_drawsFor_0 rfl (fun l z h k => ?_) k
  refine R_iconst dX13_drawsFor_1 (by decide) (fun l z h k => ?_) k
  exact R_cv1 (M := mX13_drawsFor) (pc := 2) (bc := bc) (bs := bs) (cb := 0) (cs := 0) (M' := mX13_draw) dX13_drawsFor_2 rfl (by decide) w_2051 w_144 w_2048 w_2050 w_111 (by decide +kernel) (fun _ _ _ k => k) k
theorem bX13_drawsFor_5 {G : Gt} {d bc bs : Nat} {Q : QT} {l : Ls} {z : List Value} {h : Hp} (k : (tIst 2 (tIld 2 (tPush (.int 2) (tIf2 (fun x y => y ≤ x) (fun l z h => T G d bc bs mX13_drawsFor 34 l z h Q) (fun l z h => T G d bc bs mX13_drawsFor 11 l z h Q))))) l z h) : T G d bc bs mX13_drawsFor 5 l z h Q := by
  refine R_istore_n dX13_drawsFor_5 rfl (by decide) (fun l z h k => ?_) k
  refine R_iload_n dX13_drawsFor_6 rfl (fun l z h k => ?_) k
  refine R_iconst dX13_drawsFor_7 (by decide) (fun l z h k => ?_) k
  exact R_icmp_ge dX13_drawsFor_8 (by decide) (fun _ _ _ k => k) (fun _ _ _ k => k) k
theorem bX13_drawsFor_11 {G : Gt} {d bc bs : Nat} {Q : QT} {l : Ls} {z : List Value} {h : Hp} (k : (tAld 0 (tIld 1 (tAld 0 (tGetf 11 14 (tPush (.int 22) (tIld 1 (tB (fun x y => x + y) (tXald 0 (tIld 2 (tIf (fun x => x = 0) (fun l z h => T G d bc bs mX13_drawsFor 26 l z h Q) (fun l z h => T G d bc bs mX13_drawsFor 30 l z h Q))))))))))) l z h) : T G d bc bs mX13_drawsFor 11 l z h Q := by
  refine R_aload_n dX13_drawsFor_11 rfl (fun l z h k => ?_) k
  refine R_iload_n dX13_drawsFor_12 rfl (fun l z h k => ?_) k
  refine R_aload_n dX13_drawsFor_13 rfl (fun l z h k => ?_) k
  refine R_getf (ci := 11) (f := 14) (C := RX13) (N := 49) (Tt := TX13) dX13_drawsFor_14 rfl i_X13 (by decide) w_1481 (fun l z h k => ?_) k
  refine R_bipush dX13_drawsFor_17 (by decide) (fun l z h k => ?_) k
  refine R_iload_n dX13_drawsFor_19 rfl (fun l z h k => ?_) k
  refine R_iadd dX13_drawsFor_20 (fun l z h k => ?_) k
  refine R_iaload dX13_drawsFor_21 (fun l z h k => ?_) k
  refine R_iload_n dX13_drawsFor_22 rfl (fun l z h k => ?_) k
  exact R_if_ne dX13_drawsFor_23 (by decide) (fun _ _ _ k => k) (fun _ _ _ k => k) k
theorem bX13_drawsFor_26 {G : Gt} {d bc bs : Nat} {Q : QT} {l : Ls} {z : List Value} {h : Hp} (k : (tPush (.int 1) ((fun l z h => T G d bc bs mX13_drawsFor 31 l z h Q))) l z h) : T G d bc bs mX13_drawsFor 26 l z h Q := by
  refine R_iconst dX13_drawsFor_26 (by decide) (fun l z h k => ?_) k
  exact R_goto dX13_drawsFor_27 (by decide) (fun _ _ _ k => k) k
theorem bX13_drawsFor_30 {G : Gt} {d bc bs : Nat} {Q : QT} {l : Ls} {z : List Value} {h : Hp} (k : (tPush (.int (-1)) ((fun l z h => T G d bc bs mX13_drawsFor 31 l z h Q))) l z h) : T G d bc bs mX13_drawsFor 30 l z h Q := by
  refine R_iconst dX13_drawsFor_30 (by decide) (fun l z h k => ?_) k
  exact k
theorem bX13_drawsFor_31 {G : Gt} {d bc bs : Nat} {Q : QT} {l : Ls} {z : List Value} {h : Hp} (k : (tCV3 G d 0 0 11 mX13_goesBy (fun l z h => T G d bc bs mX13_drawsFor 34 l z h Q)) l z h) : T G d bc bs mX13_drawsFor 31 l z h Q := by
  exact R_cv3 (M := mX13_drawsFor) (pc := 31) (bc := bc) (bs := bs) (cb := 0) (cs := 0) (M' := mX13_goesBy) dX13_drawsFor_31 rfl (by decide) w_1999 w_144 w_1996 w_1998 w_103 (by decide +kernel) (fun _ _ _ k => k) k
theorem bX13_drawsFor_34 {G : Gt} {d bc bs : Nat} {Q : QT} {l : Ls} {z : List Value} {h : Hp} (k : (tIld 2 (tPush (.int 2) (tIf2 (fun x y => x = y) (fun l z h => T G d bc bs mX13_drawsFor 39 l z h Q) (fun l z h => T G d bc bs mX13_drawsFor 71 l z h Q)))) l z h) : T G d bc bs mX13_drawsFor 34 l z h Q := by
  refine R_iload_n dX13_drawsFor_34 rfl (fun l z h k => ?_) k
  refine R_iconst dX13_drawsFor_35 (by decide) (fun l z h k => ?_) k
  exact R_icmp_ne dX13_drawsFor_36 (by decide) (fun _ _ _ k => k) (fun _ _ _ k => k) k
theorem bX13_drawsFor_39 {G : Gt} {d bc bs : Nat} {Q : QT} {l : Ls} {z : List Value} {h : Hp} (k : (tAld 0 (tAld 0 (tGetf 11 14 (tPush (.int 1) (tXald 0 (tCV1 G d 0 0 11 mX13_draw (fun l z h => T G d bc bs mX13_drawsFor 49 l z h Q))))))) l z h) : T G d bc bs mX13_drawsFor 39 l z h Q := by
  refine R_aload_n dX13_drawsFor_39 rfl (fun l z h k => ?_) k
  refine R_aload_n dX13_drawsFor_40 rfl (fun l z h k => ?_) k
  refine R_getf (ci := 11) (f := 14) (C := RX13) (N := 49) (Tt := TX13) dX13_drawsFor_41 rfl i_X13 (by decide) w_1481 (fun l z h k => ?_) k
  refine R_iconst dX13_drawsFor_44 (by decide) (fun l z h k => ?_) k
  refine R_iaload dX13_drawsFor_45 (fun l z h k => ?_) k
  exact R_cv1 (M := mX13_drawsFor) (pc := 46) (bc := bc) (bs := bs) (cb := 0) (cs := 0) (M' := mX13_draw) dX13_drawsFor_46 rfl (by decide) w_2051 w_144 w_2048 w_2050 w_111 (by decide +kernel) (fun _ _ _ k => k) k
theorem bX13_drawsFor_49 {G : Gt} {d bc bs : Nat} {Q : QT} {l : Ls} {z : List Value} {h : Hp} (k : (tIst 3 (tAld 0 (tPush (.int 1) (tIld 1 (tIld 3 (tPush (.int 0) (tPush (.int 0) (tCV5 G d 0 0 11 mX13_why (fun l z h => T G d bc bs mX13_drawsFor 59 l z h Q))))))))) l z h) : T G d bc bs mX13_drawsFor 49 l z h Q := by
  refine R_istore_n dX13_drawsFor_49 rfl (by decide) (fun l z h k => ?_) k
  refine R_aload_n dX13_drawsFor_50 rfl (fun l z h k => ?_) k
  refine R_iconst dX13_drawsFor_51 (by decide) (fun l z h k => ?_) k
  refine R_iload_n dX13_drawsFor_52 rfl (fun l z h k => ?_) k
  refine R_iload_n dX13_drawsFor_53 rfl (fun l z h k => ?_) k
  refine R_iconst dX13_drawsFor_54 (by decide) (fun l z h k => ?_) k
  refine R_iconst dX13_drawsFor_55 (by decide) (fun l z h k => ?_) k
  exact R_cv5 (M := mX13_drawsFor) (pc := 56) (bc := bc) (bs := bs) (cb := 0) (cs := 0) (M' := mX13_why) dX13_drawsFor_56 rfl (by decide) w_1835 w_144 w_1832 w_1834 w_82 (by decide +kernel) (fun _ _ _ k => k) k
theorem bX13_drawsFor_59 {G : Gt} {d bc bs : Nat} {Q : QT} {l : Ls} {z : List Value} {h : Hp} (k : (tIf (fun x => x = 0) (fun l z h => T G d bc bs mX13_drawsFor 62 l z h Q) (fun l z h => T G d bc bs mX13_drawsFor 71 l z h Q)) l z h) : T G d bc bs mX13_drawsFor 59 l z h Q := by
  exact R_if_ne dX13_drawsFor_59 (by decide) (fun _ _ _ k => k) (fun _ _ _ k => k) k
theorem bX13_drawsFor_62 {G : Gt} {d bc bs : Nat} {Q : QT} {l : Ls} {z : List Value} {h : Hp} (k : (tAld 0 (tPush (.int 1) (tIld 1 (tIld 3 (tPush (.int 0) (tPush (.int 0) (tCV5 G d 0 0 11 mX13_live (fun l z h => T G d bc bs mX13_drawsFor 71 l z h Q)))))))) l z h) : T G d bc bs mX13_drawsFor 62 l z h Q := by
  refine R_aload_n dX13_drawsFor_62 rfl (fun l z h k => ?_) k
  refine R_iconst dX13_drawsFor_63 (by decide) (fun l z h k => ?_) k
  refine R_iload_n dX13_drawsFor_64 rfl (fun l z h k => ?_) k
  refine R_iload_n dX13_drawsFor_65 rfl (fun l z h k => ?_) k
  refine R_iconst dX13_drawsFor_66 (by decide) (fun l z h k => ?_) k
  refine R_iconst dX13_drawsFor_67 (by decide) (fun l z h k => ?_) k
  exact R_cv5 (M := mX13_drawsFor) (pc := 68) (bc := bc) (bs := bs) (cb := 0) (cs := 0) (M' := mX13_live) dX13_drawsFor_68 rfl (by decide) w_1854 w_144 w_1851 w_1853 w_86 (by decide +kernel) (fun _ _ _ k => k) k
theorem bX13_drawsFor_71 {G : Gt} {d bc bs : Nat} {Q : QT} {l : Ls} {z : List Value} {h : Hp} (k : (tIld 2 (tPush (.int 3) (tIf2 (fun x y => x = y) (fun l z h => T G d bc bs mX13_drawsFor 76 l z h Q) (fun l z h => T G d bc bs mX13_drawsFor 81 l z h Q)))) l z h) : T G d bc bs mX13_drawsFor 71 l z h Q := by
  refine R_iload_n dX13_drawsFor_71 rfl (fun l z h k => ?_) k
  refine R_iconst dX13_drawsFor_72 (by decide) (fun l z h k => ?_) k
  exact R_icmp_ne dX13_drawsFor_73 (by decide) (fun _ _ _ k => k) (fun _ _ _ k => k) k
theorem bX13_drawsFor_76 {G : Gt} {d bc bs : Nat} {Q : QT} {l : Ls} {z : List Value} {h : Hp} (k : (tAld 0 (tIld 1 (tCV1 G d 0 0 11 mX13_doPart (fun l z h => T G d bc bs mX13_drawsFor 81 l z h Q)))) l z h) : T G d bc bs mX13_drawsFor 76 l z h Q := by
  refine R_aload_n dX13_drawsFor_76 rfl (fun l z h k => ?_) k
  refine R_iload_n dX13_drawsFor_77 rfl (fun l z h k => ?_) k
  exact R_cv1 (M := mX13_drawsFor) (pc := 78) (bc := bc) (bs := bs) (cb := 0) (cs := 0) (M' := mX13_doPart) dX13_drawsFor_78 rfl (by decide) w_1862 w_144 w_1859 w_1861 w_88 (by decide +kernel) (fun _ _ _ k => k) k
theorem bX13_drawsFor_81 {G : Gt} {d bc bs : Nat} {Q : QT} {l : Ls} {z : List Value} {h : Hp} (k : (tRetV Q) l z h) : T G d bc bs mX13_drawsFor 81 l z h Q := by
  exact R_vret dX13_drawsFor_81 rfl k
theorem dX13_drawDays_0 : decode cX13_drawDays 0 = .ok (.aload_n 0, 1) := by decide +kernel
theorem dX13_drawDays_1 : decode cX13_drawDays 1 = .ok (.iload_n 2, 1) := by decide +kernel
theorem dX13_drawDays_2 : decode cX13_drawDays 2 = .ok (.putfield 390, 3) := by decide +kernel
theorem dX13_drawDays_5 : decode cX13_drawDays 5 = .ok (.iload_n 1, 1) := by decide +kernel
theorem dX13_drawDays_6 : decode cX13_drawDays 6 = .ok (.sipush 400, 3) := by decide +kernel
theorem dX13_drawDays_9 : decode cX13_drawDays 9 = .ok (.aload_n 0, 1) := by decide +kernel
theorem dX13_drawDays_10 : decode cX13_drawDays 10 = .ok (.getfield 13, 3) := by decide +kernel
theorem dX13_drawDays_13 : decode cX13_drawDays 13 = .ok (.bipush 98, 2) := by decide +kernel
theorem dX13_drawDays_15 : decode cX13_drawDays 15 = .ok (.iaload, 1) := by decide +kernel
theorem dX13_drawDays_16 : decode cX13_drawDays 16 = .ok (.isub, 1) := by decide +kernel
theorem dX13_drawDays_17 : decode cX13_drawDays 17 = .ok (.invokestatic 283, 3) := by decide +kernel
theorem dX13_drawDays_20 : decode cX13_drawDays 20 = .ok (.istore_n 3, 1) := by decide +kernel
theorem dX13_drawDays_21 : decode cX13_drawDays 21 = .ok (.iconst 0, 1) := by decide +kernel
theorem dX13_drawDays_22 : decode cX13_drawDays 22 = .ok (.istore 4, 2) := by decide +kernel
theorem dX13_drawDays_24 : decode cX13_drawDays 24 = .ok (.iload 4, 2) := by decide +kernel
theorem dX13_drawDays_26 : decode cX13_drawDays 26 = .ok (.iload_n 3, 1) := by decide +kernel
theorem dX13_drawDays_27 : decode cX13_drawDays 27 = .ok (.if_icmp .ge 39, 3) := by decide +kernel
theorem dX13_drawDays_30 : decode cX13_drawDays 30 = .ok (.iconst 0, 1) := by decide +kernel
theorem dX13_drawDays_31 : decode cX13_drawDays 31 = .ok (.istore 5, 2) := by decide +kernel
theorem dX13_drawDays_33 : decode cX13_drawDays 33 = .ok (.iload 5, 2) := by decide +kernel
theorem dX13_drawDays_35 : decode cX13_drawDays 35 = .ok (.aload_n 0, 1) := by decide +kernel
theorem dX13_drawDays_36 : decode cX13_drawDays 36 = .ok (.getfield 13, 3) := by decide +kernel
theorem dX13_drawDays_39 : decode cX13_drawDays 39 = .ok (.iconst 1, 1) := by decide +kernel
theorem dX13_drawDays_40 : decode cX13_drawDays 40 = .ok (.iaload, 1) := by decide +kernel
theorem dX13_drawDays_41 : decode cX13_drawDays 41 = .ok (.if_icmp .ge 15, 3) := by decide +kernel
theorem dX13_drawDays_44 : decode cX13_drawDays 44 = .ok (.aload_n 0, 1) := by decide +kernel
theorem dX13_drawDays_45 : decode cX13_drawDays 45 = .ok (.iload 5, 2) := by decide +kernel
theorem dX13_drawDays_47 : decode cX13_drawDays 47 = .ok (.invokevirtual 397, 3) := by decide +kernel
theorem dX13_drawDays_50 : decode cX13_drawDays 50 = .ok (.iinc 5 1, 3) := by decide +kernel
theorem dX13_drawDays_53 : decode cX13_drawDays 53 = .ok (.goto (-20), 3) := by decide +kernel
theorem dX13_drawDays_56 : decode cX13_drawDays 56 = .ok (.aload_n 0, 1) := by decide +kernel
theorem dX13_drawDays_57 : decode cX13_drawDays 57 = .ok (.invokevirtual 317, 3) := by decide +kernel
theorem dX13_drawDays_60 : decode cX13_drawDays 60 = .ok (.iinc 4 1, 3) := by decide +kernel
theorem dX13_drawDays_63 : decode cX13_drawDays 63 = .ok (.goto (-39), 3) := by decide +kernel
theorem dX13_drawDays_66 : decode cX13_drawDays 66 = .ok (.iload_n 3, 1) := by decide +kernel
theorem dX13_drawDays_67 : decode cX13_drawDays 67 = .ok (.ireturn, 1) := by decide +kernel
theorem bX13_drawDays_0 {G : Gt} {d bc bs : Nat} {Q : QT} {l : Ls} {z : List Value} {h : Hp} (k : (tAld 0 (tIld 2 (tPutf isI 11 39 (tIld 1 (tPush (.int 400) (tAld 0 (tGetf 11 14 (tPush (.int 98) (tXald 0 (tB (fun x y => x - y) (tCS2 G d 0 0 mX13_least (fun l z h => T G d bc bs mX13_drawDays 20 l z h Q)))))))))))) l z h) : T G d bc bs mX13_drawDays 0 l z h Q := by
  refine R_aload_n dX13_drawDays_0 rfl (fun l z h k => ?_) k
  refine R_iload_n dX13_drawDays_1 rfl (fun l z h k => ?_) k
  refine R_putf (ci := 11) (f := 39) (C := RX13) (N := 49) (Tt := TX13) tyX13 tyX13_ok nmX13 dX13_drawDays_2 rfl i_X13 (by decide) w_1506 rfl (tyX13_ok 39 (by decide)) p_int (fun l z h k => ?_) k
  refine R_iload_n dX13_drawDays_5 rfl (fun l z h k => ?_) k
  refine R_sipush dX13_drawDays_6 (by decide) (fun l z h k => ?_) k
  refine R_aload_n dX13_drawDays_9 rfl (fun l z h k => ?_) k
  refine R_getf (ci := 11) (f := 14) (C := RX13) (N := 49) (Tt := TX13) dX13_drawDays_10 rfl i_X13 (by decide) w_1481 (fun l z h k => ?_) k
  refine R_bipush dX13_drawDays_13 (by decide) (fun l z h k => ?_) k
  refine R_iaload dX13_drawDays_15 (fun l z h k => ?_) k
  refine R_isub dX13_drawDays_16 (fun l z h k => ?_) k
  exact R_cs2 (M := mX13_drawDays) (pc := 17) (bc := bc) (bs := bs) (cb := 0) (cs := 0) (M' := mX13_least) dX13_drawDays_17 (by decide) w_1869 w_144 w_1867 w_1868 (by decide +kernel) (fun _ _ _ k => k) k
theorem bX13_drawDays_20 {G : Gt} {d bc bs : Nat} {Q : QT} {l : Ls} {z : List Value} {h : Hp} (k : (tIst 3 (tPush (.int 0) (tIst 4 ((fun l z h => T G d bc bs mX13_drawDays 24 l z h Q))))) l z h) : T G d bc bs mX13_drawDays 20 l z h Q := by
  refine R_istore_n dX13_drawDays_20 rfl (by decide) (fun l z h k => ?_) k
  refine R_iconst dX13_drawDays_21 (by decide) (fun l z h k => ?_) k
  refine R_istore dX13_drawDays_22 (by decide) (fun l z h k => ?_) k
  exact k
theorem bX13_drawDays_24 {G : Gt} {d bc bs : Nat} {Q : QT} {l : Ls} {z : List Value} {h : Hp} (k : (tIld 4 (tIld 3 (tIf2 (fun x y => y ≤ x) (fun l z h => T G d bc bs mX13_drawDays 66 l z h Q) (fun l z h => T G d bc bs mX13_drawDays 30 l z h Q)))) l z h) : T G d bc bs mX13_drawDays 24 l z h Q := by
  refine R_iload dX13_drawDays_24 (fun l z h k => ?_) k
  refine R_iload_n dX13_drawDays_26 rfl (fun l z h k => ?_) k
  exact R_icmp_ge dX13_drawDays_27 (by decide) (fun _ _ _ k => k) (fun _ _ _ k => k) k
theorem bX13_drawDays_30 {G : Gt} {d bc bs : Nat} {Q : QT} {l : Ls} {z : List Value} {h : Hp} (k : (tPush (.int 0) (tIst 5 ((fun l z h => T G d bc bs mX13_drawDays 33 l z h Q)))) l z h) : T G d bc bs mX13_drawDays 30 l z h Q := by
  refine R_iconst dX13_drawDays_30 (by decide) (fun l z h k => ?_) k
  refine R_istore dX13_drawDays_31 (by decide) (fun l z h k => ?_) k
  exact k
theorem bX13_drawDays_33 {G : Gt} {d bc bs : Nat} {Q : QT} {l : Ls} {z : List Value} {h : Hp} (k : (tIld 5 (tAld 0 (tGetf 11 14 (tPush (.int 1) (tXald 0 (tIf2 (fun x y => y ≤ x) (fun l z h => T G d bc bs mX13_drawDays 56 l z h Q) (fun l z h => T G d bc bs mX13_drawDays 44 l z h Q))))))) l z h) : T G d bc bs mX13_drawDays 33 l z h Q := by
  refine R_iload dX13_drawDays_33 (fun l z h k => ?_) k
  refine R_aload_n dX13_drawDays_35 rfl (fun l z h k => ?_) k
  refine R_getf (ci := 11) (f := 14) (C := RX13) (N := 49) (Tt := TX13) dX13_drawDays_36 rfl i_X13 (by decide) w_1481 (fun l z h k => ?_) k
  refine R_iconst dX13_drawDays_39 (by decide) (fun l z h k => ?_) k
  refine R_iaload dX13_drawDays_40 (fun l z h k => ?_) k
  exact R_icmp_ge dX13_drawDays_41 (by decide) (fun _ _ _ k => k) (fun _ _ _ k => k) k
theorem bX13_drawDays_44 {G : Gt} {d bc bs : Nat} {Q : QT} {l : Ls} {z : List Value} {h : Hp} (k : (tAld 0 (tIld 5 (tCV1 G d 0 0 11 mX13_drawsFor (fun l z h => T G d bc bs mX13_drawDays 50 l z h Q)))) l z h) : T G d bc bs mX13_drawDays 44 l z h Q := by
  refine R_aload_n dX13_drawDays_44 rfl (fun l z h k => ?_) k
  refine R_iload dX13_drawDays_45 (fun l z h k => ?_) k
  exact R_cv1 (M := mX13_drawDays) (pc := 47) (bc := bc) (bs := bs) (cb := 0) (cs := 0) (M' := mX13_drawsFor) dX13_drawDays_47 rfl (by decide) w_2047 w_144 w_2044 w_2046 w_110 (by decide +kernel) (fun _ _ _ k => k) k
theorem bX13_drawDays_50 {G : Gt} {d bc bs : Nat} {Q : QT} {l : Ls} {z : List Value} {h : Hp} (k : (tInc 5 1 ((fun l z h => T G d bc bs mX13_drawDays 33 l z h Q))) l z h) : T G d bc bs mX13_drawDays 50 l z h Q := by
  refine R_iinc dX13_drawDays_50 (by decide) (by decide) (fun l z h k => ?_) k
  exact R_goto dX13_drawDays_53 (by decide) (fun _ _ _ k => k) k
theorem bX13_drawDays_56 {G : Gt} {d bc bs : Nat} {Q : QT} {l : Ls} {z : List Value} {h : Hp} (k : (tAld 0 (tCV0 G d 0 0 11 mX13_oneDay (fun l z h => T G d bc bs mX13_drawDays 60 l z h Q))) l z h) : T G d bc bs mX13_drawDays 56 l z h Q := by
  refine R_aload_n dX13_drawDays_56 rfl (fun l z h k => ?_) k
  exact R_cv0 (M := mX13_drawDays) (pc := 57) (bc := bc) (bs := bs) (cb := 0) (cs := 0) (M' := mX13_oneDay) dX13_drawDays_57 rfl (by decide) w_1901 w_144 w_1898 w_1900 w_91 (by decide +kernel) (fun _ _ _ k => k) k
theorem bX13_drawDays_60 {G : Gt} {d bc bs : Nat} {Q : QT} {l : Ls} {z : List Value} {h : Hp} (k : (tInc 4 1 ((fun l z h => T G d bc bs mX13_drawDays 24 l z h Q))) l z h) : T G d bc bs mX13_drawDays 60 l z h Q := by
  refine R_iinc dX13_drawDays_60 (by decide) (by decide) (fun l z h k => ?_) k
  exact R_goto dX13_drawDays_63 (by decide) (fun _ _ _ k => k) k
theorem bX13_drawDays_66 {G : Gt} {d bc bs : Nat} {Q : QT} {l : Ls} {z : List Value} {h : Hp} (k : (tIld 3 (tRetI Q)) l z h) : T G d bc bs mX13_drawDays 66 l z h Q := by
  refine R_iload_n dX13_drawDays_66 rfl (fun l z h k => ?_) k
  exact R_iret dX13_drawDays_67 rfl k
theorem dX13_drawn_0 : decode cX13_drawn 0 = .ok (.aload_n 0, 1) := by decide +kernel
theorem dX13_drawn_1 : decode cX13_drawn 1 = .ok (.iconst 0, 1) := by decide +kernel
theorem dX13_drawn_2 : decode cX13_drawn 2 = .ok (.putfield 85, 3) := by decide +kernel
theorem dX13_drawn_5 : decode cX13_drawn 5 = .ok (.iload_n 1, 1) := by decide +kernel
theorem dX13_drawn_6 : decode cX13_drawn 6 = .ok (.iconst 1, 1) := by decide +kernel
theorem dX13_drawn_7 : decode cX13_drawn 7 = .ok (.bipush 60, 2) := by decide +kernel
theorem dX13_drawn_9 : decode cX13_drawn 9 = .ok (.invokestatic 152, 3) := by decide +kernel
theorem dX13_drawn_12 : decode cX13_drawn 12 = .ok (.ifCond .eq 12, 3) := by decide +kernel
theorem dX13_drawn_15 : decode cX13_drawn 15 = .ok (.aload_n 0, 1) := by decide +kernel
theorem dX13_drawn_16 : decode cX13_drawn 16 = .ok (.getfield 13, 3) := by decide +kernel
theorem dX13_drawn_19 : decode cX13_drawn 19 = .ok (.iconst 1, 1) := by decide +kernel
theorem dX13_drawn_20 : decode cX13_drawn 20 = .ok (.iaload, 1) := by decide +kernel
theorem dX13_drawn_21 : decode cX13_drawn 21 = .ok (.ifCond .ne 5, 3) := by decide +kernel
theorem dX13_drawn_24 : decode cX13_drawn 24 = .ok (.iconst (-1), 1) := by decide +kernel
theorem dX13_drawn_25 : decode cX13_drawn 25 = .ok (.ireturn, 1) := by decide +kernel
theorem dX13_drawn_26 : decode cX13_drawn 26 = .ok (.aload_n 0, 1) := by decide +kernel
theorem dX13_drawn_27 : decode cX13_drawn 27 = .ok (.getfield 13, 3) := by decide +kernel
theorem dX13_drawn_30 : decode cX13_drawn 30 = .ok (.bipush 98, 2) := by decide +kernel
theorem dX13_drawn_32 : decode cX13_drawn 32 = .ok (.iaload, 1) := by decide +kernel
theorem dX13_drawn_33 : decode cX13_drawn 33 = .ok (.sipush 400, 3) := by decide +kernel
theorem dX13_drawn_36 : decode cX13_drawn 36 = .ok (.if_icmp .ne 5, 3) := by decide +kernel
theorem dX13_drawn_39 : decode cX13_drawn 39 = .ok (.iconst 0, 1) := by decide +kernel
theorem dX13_drawn_40 : decode cX13_drawn 40 = .ok (.ireturn, 1) := by decide +kernel
theorem dX13_drawn_41 : decode cX13_drawn 41 = .ok (.aload_n 0, 1) := by decide +kernel
theorem dX13_drawn_42 : decode cX13_drawn 42 = .ok (.invokevirtual 301, 3) := by decide +kernel
theorem dX13_drawn_45 : decode cX13_drawn 45 = .ok (.aload_n 0, 1) := by decide +kernel
theorem dX13_drawn_46 : decode cX13_drawn 46 = .ok (.iload_n 1, 1) := by decide +kernel
theorem dX13_drawn_47 : decode cX13_drawn 47 = .ok (.iload_n 2, 1) := by decide +kernel
theorem dX13_drawn_48 : decode cX13_drawn 48 = .ok (.invokevirtual 400, 3) := by decide +kernel
theorem dX13_drawn_51 : decode cX13_drawn 51 = .ok (.ireturn, 1) := by decide +kernel
theorem bX13_drawn_0 {G : Gt} {d bc bs : Nat} {Q : QT} {l : Ls} {z : List Value} {h : Hp} (k : (tAld 0 (tPush (.int 0) (tPutf isI 11 0 (tIld 1 (tPush (.int 1) (tPush (.int 60) (tCS3 G d 0 0 mX13_isIn (fun l z h => T G d bc bs mX13_drawn 12 l z h Q)))))))) l z h) : T G d bc bs mX13_drawn 0 l z h Q := by
  refine R_aload_n dX13_drawn_0 rfl (fun l z h k => ?_) k
  refine R_iconst dX13_drawn_1 (by decide) (fun l z h k => ?_) k
  refine R_putf (ci := 11) (f := 0) (C := RX13) (N := 49) (Tt := TX13) tyX13 tyX13_ok nmX13 dX13_drawn_2 rfl i_X13 (by decide) w_1467 rfl (tyX13_ok 0 (by decide)) p_int (fun l z h k => ?_) k
  refine R_iload_n dX13_drawn_5 rfl (fun l z h k => ?_) k
  refine R_iconst dX13_drawn_6 (by decide) (fun l z h k => ?_) k
  refine R_bipush dX13_drawn_7 (by decide) (fun l z h k => ?_) k
  exact R_cs3 (M := mX13_drawn) (pc := 9) (bc := bc) (bs := bs) (cb := 0) (cs := 0) (M' := mX13_isIn) dX13_drawn_9 (by decide) w_1711 w_144 w_1709 w_1710 (by decide +kernel) (fun _ _ _ k => k) k
theorem bX13_drawn_12 {G : Gt} {d bc bs : Nat} {Q : QT} {l : Ls} {z : List Value} {h : Hp} (k : (tIf (fun x => x = 0) (fun l z h => T G d bc bs mX13_drawn 24 l z h Q) (fun l z h => T G d bc bs mX13_drawn 15 l z h Q)) l z h) : T G d bc bs mX13_drawn 12 l z h Q := by
  exact R_if_eq dX13_drawn_12 (by decide) (fun _ _ _ k => k) (fun _ _ _ k => k) k
theorem bX13_drawn_15 {G : Gt} {d bc bs : Nat} {Q : QT} {l : Ls} {z : List Value} {h : Hp} (k : (tAld 0 (tGetf 11 14 (tPush (.int 1) (tXald 0 (tIf (fun x => x = 0) (fun l z h => T G d bc bs mX13_drawn 24 l z h Q) (fun l z h => T G d bc bs mX13_drawn 26 l z h Q)))))) l z h) : T G d bc bs mX13_drawn 15 l z h Q := by
  refine R_aload_n dX13_drawn_15 rfl (fun l z h k => ?_) k
  refine R_getf (ci := 11) (f := 14) (C := RX13) (N := 49) (Tt := TX13) dX13_drawn_16 rfl i_X13 (by decide) w_1481 (fun l z h k => ?_) k
  refine R_iconst dX13_drawn_19 (by decide) (fun l z h k => ?_) k
  refine R_iaload dX13_drawn_20 (fun l z h k => ?_) k
  exact R_if_ne dX13_drawn_21 (by decide) (fun _ _ _ k => k) (fun _ _ _ k => k) k
theorem bX13_drawn_24 {G : Gt} {d bc bs : Nat} {Q : QT} {l : Ls} {z : List Value} {h : Hp} (k : (tPush (.int (-1)) (tRetI Q)) l z h) : T G d bc bs mX13_drawn 24 l z h Q := by
  refine R_iconst dX13_drawn_24 (by decide) (fun l z h k => ?_) k
  exact R_iret dX13_drawn_25 rfl k
theorem bX13_drawn_26 {G : Gt} {d bc bs : Nat} {Q : QT} {l : Ls} {z : List Value} {h : Hp} (k : (tAld 0 (tGetf 11 14 (tPush (.int 98) (tXald 0 (tPush (.int 400) (tIf2 (fun x y => x = y) (fun l z h => T G d bc bs mX13_drawn 39 l z h Q) (fun l z h => T G d bc bs mX13_drawn 41 l z h Q))))))) l z h) : T G d bc bs mX13_drawn 26 l z h Q := by
  refine R_aload_n dX13_drawn_26 rfl (fun l z h k => ?_) k
  refine R_getf (ci := 11) (f := 14) (C := RX13) (N := 49) (Tt := TX13) dX13_drawn_27 rfl i_X13 (by decide) w_1481 (fun l z h k => ?_) k
  refine R_bipush dX13_drawn_30 (by decide) (fun l z h k => ?_) k
  refine R_iaload dX13_drawn_32 (fun l z h k => ?_) k
  refine R_sipush dX13_drawn_33 (by decide) (fun l z h k => ?_) k
  exact R_icmp_ne dX13_drawn_36 (by decide) (fun _ _ _ k => k) (fun _ _ _ k => k) k
theorem bX13_drawn_39 {G : Gt} {d bc bs : Nat} {Q : QT} {l : Ls} {z : List Value} {h : Hp} (k : (tPush (.int 0) (tRetI Q)) l z h) : T G d bc bs mX13_drawn 39 l z h Q := by
  refine R_iconst dX13_drawn_39 (by decide) (fun l z h k => ?_) k
  exact R_iret dX13_drawn_40 rfl k
theorem bX13_drawn_41 {G : Gt} {d bc bs : Nat} {Q : QT} {l : Ls} {z : List Value} {h : Hp} (k : (tAld 0 (tCV0 G d 0 0 11 mX13_snap (fun l z h => T G d bc bs mX13_drawn 45 l z h Q))) l z h) : T G d bc bs mX13_drawn 41 l z h Q := by
  refine R_aload_n dX13_drawn_41 rfl (fun l z h k => ?_) k
  exact R_cv0 (M := mX13_drawn) (pc := 42) (bc := bc) (bs := bs) (cb := 0) (cs := 0) (M' := mX13_snap) dX13_drawn_42 rfl (by decide) w_1850 w_144 w_1847 w_1849 w_85 (by decide +kernel) (fun _ _ _ k => k) k
theorem bX13_drawn_45 {G : Gt} {d bc bs : Nat} {Q : QT} {l : Ls} {z : List Value} {h : Hp} (k : (tAld 0 (tIld 1 (tIld 2 (tCV2 G d 0 0 11 mX13_drawDays (fun l z h => T G d bc bs mX13_drawn 51 l z h Q))))) l z h) : T G d bc bs mX13_drawn 45 l z h Q := by
  refine R_aload_n dX13_drawn_45 rfl (fun l z h k => ?_) k
  refine R_iload_n dX13_drawn_46 rfl (fun l z h k => ?_) k
  refine R_iload_n dX13_drawn_47 rfl (fun l z h k => ?_) k
  exact R_cv2 (M := mX13_drawn) (pc := 48) (bc := bc) (bs := bs) (cb := 0) (cs := 0) (M' := mX13_drawDays) dX13_drawn_48 rfl (by decide) w_2043 w_144 w_2040 w_2042 w_109 (by decide +kernel) (fun _ _ _ k => k) k
theorem bX13_drawn_51 {G : Gt} {d bc bs : Nat} {Q : QT} {l : Ls} {z : List Value} {h : Hp} (k : (tRetI Q) l z h) : T G d bc bs mX13_drawn 51 l z h Q := by
  exact R_iret dX13_drawn_51 rfl k
theorem dX13_odds_0 : decode cX13_odds 0 = .ok (.aload_n 0, 1) := by decide +kernel
theorem dX13_odds_1 : decode cX13_odds 1 = .ok (.iconst 0, 1) := by decide +kernel
theorem dX13_odds_2 : decode cX13_odds 2 = .ok (.putfield 85, 3) := by decide +kernel
theorem dX13_odds_5 : decode cX13_odds 5 = .ok (.aload_n 0, 1) := by decide +kernel
theorem dX13_odds_6 : decode cX13_odds 6 = .ok (.iload_n 1, 1) := by decide +kernel
theorem dX13_odds_7 : decode cX13_odds 7 = .ok (.invokevirtual 256, 3) := by decide +kernel
theorem dX13_odds_10 : decode cX13_odds 10 = .ok (.ifCond .eq 13, 3) := by decide +kernel
theorem dX13_odds_13 : decode cX13_odds 13 = .ok (.iload_n 2, 1) := by decide +kernel
theorem dX13_odds_14 : decode cX13_odds 14 = .ok (.iconst 1, 1) := by decide +kernel
theorem dX13_odds_15 : decode cX13_odds 15 = .ok (.bipush 30, 2) := by decide +kernel
theorem dX13_odds_17 : decode cX13_odds 17 = .ok (.invokestatic 152, 3) := by decide +kernel
theorem dX13_odds_20 : decode cX13_odds 20 = .ok (.ifCond .ne 5, 3) := by decide +kernel
theorem dX13_odds_23 : decode cX13_odds 23 = .ok (.iconst (-1), 1) := by decide +kernel
theorem dX13_odds_24 : decode cX13_odds 24 = .ok (.ireturn, 1) := by decide +kernel
theorem dX13_odds_25 : decode cX13_odds 25 = .ok (.aload_n 0, 1) := by decide +kernel
theorem dX13_odds_26 : decode cX13_odds 26 = .ok (.invokevirtual 332, 3) := by decide +kernel
theorem dX13_odds_29 : decode cX13_odds 29 = .ok (.iconst 0, 1) := by decide +kernel
theorem dX13_odds_30 : decode cX13_odds 30 = .ok (.istore 4, 2) := by decide +kernel
theorem dX13_odds_32 : decode cX13_odds 32 = .ok (.iconst 0, 1) := by decide +kernel
theorem dX13_odds_33 : decode cX13_odds 33 = .ok (.istore 5, 2) := by decide +kernel
theorem dX13_odds_35 : decode cX13_odds 35 = .ok (.iload 5, 2) := by decide +kernel
theorem dX13_odds_37 : decode cX13_odds 37 = .ok (.iload_n 2, 1) := by decide +kernel
theorem dX13_odds_38 : decode cX13_odds 38 = .ok (.if_icmp .ge 35, 3) := by decide +kernel
theorem dX13_odds_41 : decode cX13_odds 41 = .ok (.aload_n 0, 1) := by decide +kernel
theorem dX13_odds_42 : decode cX13_odds 42 = .ok (.bipush 20, 2) := by decide +kernel
theorem dX13_odds_44 : decode cX13_odds 44 = .ok (.iload_n 3, 1) := by decide +kernel
theorem dX13_odds_45 : decode cX13_odds 45 = .ok (.iload 5, 2) := by decide +kernel
theorem dX13_odds_47 : decode cX13_odds 47 = .ok (.iadd, 1) := by decide +kernel
theorem dX13_odds_48 : decode cX13_odds 48 = .ok (.invokevirtual 400, 3) := by decide +kernel
theorem dX13_odds_51 : decode cX13_odds 51 = .ok (.pop, 1) := by decide +kernel
theorem dX13_odds_52 : decode cX13_odds 52 = .ok (.aload_n 0, 1) := by decide +kernel
theorem dX13_odds_53 : decode cX13_odds 53 = .ok (.iload_n 1, 1) := by decide +kernel
theorem dX13_odds_54 : decode cX13_odds 54 = .ok (.invokevirtual 364, 3) := by decide +kernel
theorem dX13_odds_57 : decode cX13_odds 57 = .ok (.ifCond .eq 6, 3) := by decide +kernel
theorem dX13_odds_60 : decode cX13_odds 60 = .ok (.iinc 4 1, 3) := by decide +kernel
theorem dX13_odds_63 : decode cX13_odds 63 = .ok (.aload_n 0, 1) := by decide +kernel
theorem dX13_odds_64 : decode cX13_odds 64 = .ok (.invokevirtual 335, 3) := by decide +kernel
theorem dX13_odds_67 : decode cX13_odds 67 = .ok (.iinc 5 1, 3) := by decide +kernel
theorem dX13_odds_70 : decode cX13_odds 70 = .ok (.goto (-35), 3) := by decide +kernel
theorem dX13_odds_73 : decode cX13_odds 73 = .ok (.iload 4, 2) := by decide +kernel
theorem dX13_odds_75 : decode cX13_odds 75 = .ok (.ireturn, 1) := by decide +kernel
theorem bX13_odds_0 {G : Gt} {d bc bs : Nat} {Q : QT} {l : Ls} {z : List Value} {h : Hp} (k : (tAld 0 (tPush (.int 0) (tPutf isI 11 0 (tAld 0 (tIld 1 (tCV1 G d 0 0 11 mX13_isPerson (fun l z h => T G d bc bs mX13_odds 10 l z h Q))))))) l z h) : T G d bc bs mX13_odds 0 l z h Q := by
  refine R_aload_n dX13_odds_0 rfl (fun l z h k => ?_) k
  refine R_iconst dX13_odds_1 (by decide) (fun l z h k => ?_) k
  refine R_putf (ci := 11) (f := 0) (C := RX13) (N := 49) (Tt := TX13) tyX13 tyX13_ok nmX13 dX13_odds_2 rfl i_X13 (by decide) w_1467 rfl (tyX13_ok 0 (by decide)) p_int (fun l z h k => ?_) k
  refine R_aload_n dX13_odds_5 rfl (fun l z h k => ?_) k
  refine R_iload_n dX13_odds_6 rfl (fun l z h k => ?_) k
  exact R_cv1 (M := mX13_odds) (pc := 7) (bc := bc) (bs := bs) (cb := 0) (cs := 0) (M' := mX13_isPerson) dX13_odds_7 rfl (by decide) w_1767 w_144 w_1764 w_1766 w_70 (by decide +kernel) (fun _ _ _ k => k) k
theorem bX13_odds_10 {G : Gt} {d bc bs : Nat} {Q : QT} {l : Ls} {z : List Value} {h : Hp} (k : (tIf (fun x => x = 0) (fun l z h => T G d bc bs mX13_odds 23 l z h Q) (fun l z h => T G d bc bs mX13_odds 13 l z h Q)) l z h) : T G d bc bs mX13_odds 10 l z h Q := by
  exact R_if_eq dX13_odds_10 (by decide) (fun _ _ _ k => k) (fun _ _ _ k => k) k
theorem bX13_odds_13 {G : Gt} {d bc bs : Nat} {Q : QT} {l : Ls} {z : List Value} {h : Hp} (k : (tIld 2 (tPush (.int 1) (tPush (.int 30) (tCS3 G d 0 0 mX13_isIn (fun l z h => T G d bc bs mX13_odds 20 l z h Q))))) l z h) : T G d bc bs mX13_odds 13 l z h Q := by
  refine R_iload_n dX13_odds_13 rfl (fun l z h k => ?_) k
  refine R_iconst dX13_odds_14 (by decide) (fun l z h k => ?_) k
  refine R_bipush dX13_odds_15 (by decide) (fun l z h k => ?_) k
  exact R_cs3 (M := mX13_odds) (pc := 17) (bc := bc) (bs := bs) (cb := 0) (cs := 0) (M' := mX13_isIn) dX13_odds_17 (by decide) w_1711 w_144 w_1709 w_1710 (by decide +kernel) (fun _ _ _ k => k) k
theorem bX13_odds_20 {G : Gt} {d bc bs : Nat} {Q : QT} {l : Ls} {z : List Value} {h : Hp} (k : (tIf (fun x => x = 0) (fun l z h => T G d bc bs mX13_odds 23 l z h Q) (fun l z h => T G d bc bs mX13_odds 25 l z h Q)) l z h) : T G d bc bs mX13_odds 20 l z h Q := by
  exact R_if_ne dX13_odds_20 (by decide) (fun _ _ _ k => k) (fun _ _ _ k => k) k
theorem bX13_odds_23 {G : Gt} {d bc bs : Nat} {Q : QT} {l : Ls} {z : List Value} {h : Hp} (k : (tPush (.int (-1)) (tRetI Q)) l z h) : T G d bc bs mX13_odds 23 l z h Q := by
  refine R_iconst dX13_odds_23 (by decide) (fun l z h k => ?_) k
  exact R_iret dX13_odds_24 rfl k
theorem bX13_odds_25 {G : Gt} {d bc bs : Nat} {Q : QT} {l : Ls} {z : List Value} {h : Hp} (k : (tAld 0 (tCV0 G d 0 0 11 mX13_layAside (fun l z h => T G d bc bs mX13_odds 29 l z h Q))) l z h) : T G d bc bs mX13_odds 25 l z h Q := by
  refine R_aload_n dX13_odds_25 rfl (fun l z h k => ?_) k
  exact R_cv0 (M := mX13_odds) (pc := 26) (bc := bc) (bs := bs) (cb := 0) (cs := 0) (M' := mX13_layAside) dX13_odds_26 rfl (by decide) w_1937 w_144 w_1934 w_1936 w_97 (by decide +kernel) (fun _ _ _ k => k) k
theorem bX13_odds_29 {G : Gt} {d bc bs : Nat} {Q : QT} {l : Ls} {z : List Value} {h : Hp} (k : (tPush (.int 0) (tIst 4 (tPush (.int 0) (tIst 5 ((fun l z h => T G d bc bs mX13_odds 35 l z h Q)))))) l z h) : T G d bc bs mX13_odds 29 l z h Q := by
  refine R_iconst dX13_odds_29 (by decide) (fun l z h k => ?_) k
  refine R_istore dX13_odds_30 (by decide) (fun l z h k => ?_) k
  refine R_iconst dX13_odds_32 (by decide) (fun l z h k => ?_) k
  refine R_istore dX13_odds_33 (by decide) (fun l z h k => ?_) k
  exact k
theorem bX13_odds_35 {G : Gt} {d bc bs : Nat} {Q : QT} {l : Ls} {z : List Value} {h : Hp} (k : (tIld 5 (tIld 2 (tIf2 (fun x y => y ≤ x) (fun l z h => T G d bc bs mX13_odds 73 l z h Q) (fun l z h => T G d bc bs mX13_odds 41 l z h Q)))) l z h) : T G d bc bs mX13_odds 35 l z h Q := by
  refine R_iload dX13_odds_35 (fun l z h k => ?_) k
  refine R_iload_n dX13_odds_37 rfl (fun l z h k => ?_) k
  exact R_icmp_ge dX13_odds_38 (by decide) (fun _ _ _ k => k) (fun _ _ _ k => k) k
theorem bX13_odds_41 {G : Gt} {d bc bs : Nat} {Q : QT} {l : Ls} {z : List Value} {h : Hp} (k : (tAld 0 (tPush (.int 20) (tIld 3 (tIld 5 (tB (fun x y => x + y) (tCV2 G d 0 0 11 mX13_drawDays (fun l z h => T G d bc bs mX13_odds 51 l z h Q))))))) l z h) : T G d bc bs mX13_odds 41 l z h Q := by
  refine R_aload_n dX13_odds_41 rfl (fun l z h k => ?_) k
  refine R_bipush dX13_odds_42 (by decide) (fun l z h k => ?_) k
  refine R_iload_n dX13_odds_44 rfl (fun l z h k => ?_) k
  refine R_iload dX13_odds_45 (fun l z h k => ?_) k
  refine R_iadd dX13_odds_47 (fun l z h k => ?_) k
  exact R_cv2 (M := mX13_odds) (pc := 48) (bc := bc) (bs := bs) (cb := 0) (cs := 0) (M' := mX13_drawDays) dX13_odds_48 rfl (by decide) w_2043 w_144 w_2040 w_2042 w_109 (by decide +kernel) (fun _ _ _ k => k) k
theorem bX13_odds_51 {G : Gt} {d bc bs : Nat} {Q : QT} {l : Ls} {z : List Value} {h : Hp} (k : (tPop (tAld 0 (tIld 1 (tCV1 G d 0 0 11 mX13_isThere (fun l z h => T G d bc bs mX13_odds 57 l z h Q))))) l z h) : T G d bc bs mX13_odds 51 l z h Q := by
  refine R_pop dX13_odds_51 (fun l z h k => ?_) k
  refine R_aload_n dX13_odds_52 rfl (fun l z h k => ?_) k
  refine R_iload_n dX13_odds_53 rfl (fun l z h k => ?_) k
  exact R_cv1 (M := mX13_odds) (pc := 54) (bc := bc) (bs := bs) (cb := 0) (cs := 0) (M' := mX13_isThere) dX13_odds_54 rfl (by decide) w_1995 w_144 w_1992 w_1994 w_102 (by decide +kernel) (fun _ _ _ k => k) k
theorem bX13_odds_57 {G : Gt} {d bc bs : Nat} {Q : QT} {l : Ls} {z : List Value} {h : Hp} (k : (tIf (fun x => x = 0) (fun l z h => T G d bc bs mX13_odds 63 l z h Q) (fun l z h => T G d bc bs mX13_odds 60 l z h Q)) l z h) : T G d bc bs mX13_odds 57 l z h Q := by
  exact R_if_eq dX13_odds_57 (by decide) (fun _ _ _ k => k) (fun _ _ _ k => k) k
theorem bX13_odds_60 {G : Gt} {d bc bs : Nat} {Q : QT} {l : Ls} {z : List Value} {h : Hp} (k : (tInc 4 1 ((fun l z h => T G d bc bs mX13_odds 63 l z h Q))) l z h) : T G d bc bs mX13_odds 60 l z h Q := by
  refine R_iinc dX13_odds_60 (by decide) (by decide) (fun l z h k => ?_) k
  exact k
theorem bX13_odds_63 {G : Gt} {d bc bs : Nat} {Q : QT} {l : Ls} {z : List Value} {h : Hp} (k : (tAld 0 (tCV0 G d 0 0 11 mX13_takeBack (fun l z h => T G d bc bs mX13_odds 67 l z h Q))) l z h) : T G d bc bs mX13_odds 63 l z h Q := by
  refine R_aload_n dX13_odds_63 rfl (fun l z h k => ?_) k
  exact R_cv0 (M := mX13_odds) (pc := 64) (bc := bc) (bs := bs) (cb := 0) (cs := 0) (M' := mX13_takeBack) dX13_odds_64 rfl (by decide) w_1941 w_144 w_1938 w_1940 w_98 (by decide +kernel) (fun _ _ _ k => k) k
theorem bX13_odds_67 {G : Gt} {d bc bs : Nat} {Q : QT} {l : Ls} {z : List Value} {h : Hp} (k : (tInc 5 1 ((fun l z h => T G d bc bs mX13_odds 35 l z h Q))) l z h) : T G d bc bs mX13_odds 67 l z h Q := by
  refine R_iinc dX13_odds_67 (by decide) (by decide) (fun l z h k => ?_) k
  exact R_goto dX13_odds_70 (by decide) (fun _ _ _ k => k) k
theorem bX13_odds_73 {G : Gt} {d bc bs : Nat} {Q : QT} {l : Ls} {z : List Value} {h : Hp} (k : (tIld 4 (tRetI Q)) l z h) : T G d bc bs mX13_odds 73 l z h Q := by
  refine R_iload dX13_odds_73 (fun l z h k => ?_) k
  exact R_iret dX13_odds_75 rfl k
theorem dX13_keep_0 : decode cX13_keep 0 = .ok (.iload_n 2, 1) := by decide +kernel
theorem dX13_keep_1 : decode cX13_keep 1 = .ok (.ifCond .eq 13, 3) := by decide +kernel
theorem dX13_keep_4 : decode cX13_keep 4 = .ok (.aload_n 0, 1) := by decide +kernel
theorem dX13_keep_5 : decode cX13_keep 5 = .ok (.getfield 76, 3) := by decide +kernel
theorem dX13_keep_8 : decode cX13_keep 8 = .ok (.iload_n 1, 1) := by decide +kernel
theorem dX13_keep_9 : decode cX13_keep 9 = .ok (.aload_n 0, 1) := by decide +kernel
theorem dX13_keep_10 : decode cX13_keep 10 = .ok (.getfield 156, 3) := by decide +kernel
theorem dX13_keep_13 : decode cX13_keep 13 = .ok (.iastore, 1) := by decide +kernel
theorem dX13_keep_14 : decode cX13_keep 14 = .ok (.iload_n 2, 1) := by decide +kernel
theorem dX13_keep_15 : decode cX13_keep 15 = .ok (.ireturn, 1) := by decide +kernel
theorem bX13_keep_0 {G : Gt} {d bc bs : Nat} {Q : QT} {l : Ls} {z : List Value} {h : Hp} (k : (tIld 2 (tIf (fun x => x = 0) (fun l z h => T G d bc bs mX13_keep 14 l z h Q) (fun l z h => T G d bc bs mX13_keep 4 l z h Q))) l z h) : T G d bc bs mX13_keep 0 l z h Q := by
  refine R_iload_n dX13_keep_0 rfl (fun l z h k => ?_) k
  exact R_if_eq dX13_keep_1 (by decide) (fun _ _ _ k => k) (fun _ _ _ k => k) k
theorem bX13_keep_4 {G : Gt} {d bc bs : Nat} {Q : QT} {l : Ls} {z : List Value} {h : Hp} (k : (tAld 0 (tGetf 11 40 (tIld 1 (tAld 0 (tGetf 11 13 (tXast 0 ((fun l z h => T G d bc bs mX13_keep 14 l z h Q)))))))) l z h) : T G d bc bs mX13_keep 4 l z h Q := by
  refine R_aload_n dX13_keep_4 rfl (fun l z h k => ?_) k
  refine R_getf (ci := 11) (f := 40) (C := RX13) (N := 49) (Tt := TX13) dX13_keep_5 rfl i_X13 (by decide) w_1507 (fun l z h k => ?_) k
  refine R_iload_n dX13_keep_8 rfl (fun l z h k => ?_) k
  refine R_aload_n dX13_keep_9 rfl (fun l z h k => ?_) k
  refine R_getf (ci := 11) (f := 13) (C := RX13) (N := 49) (Tt := TX13) dX13_keep_10 rfl i_X13 (by decide) w_1480 (fun l z h k => ?_) k
  refine R_iastore dX13_keep_13 (fun l z h k => ?_) k
  exact k
theorem bX13_keep_14 {G : Gt} {d bc bs : Nat} {Q : QT} {l : Ls} {z : List Value} {h : Hp} (k : (tIld 2 (tRetZ Q)) l z h) : T G d bc bs mX13_keep 14 l z h Q := by
  refine R_iload_n dX13_keep_14 rfl (fun l z h k => ?_) k
  exact R_zret dX13_keep_15 rfl k
theorem dX13_readNamed_0 : decode cX13_readNamed 0 = .ok (.aload_n 0, 1) := by decide +kernel
theorem dX13_readNamed_1 : decode cX13_readNamed 1 = .ok (.invokevirtual 169, 3) := by decide +kernel
theorem dX13_readNamed_4 : decode cX13_readNamed 4 = .ok (.ifCond .ne 9, 3) := by decide +kernel
theorem dX13_readNamed_7 : decode cX13_readNamed 7 = .ok (.aload_n 0, 1) := by decide +kernel
theorem dX13_readNamed_8 : decode cX13_readNamed 8 = .ok (.iconst 1, 1) := by decide +kernel
theorem dX13_readNamed_9 : decode cX13_readNamed 9 = .ok (.invokevirtual 149, 3) := by decide +kernel
theorem dX13_readNamed_12 : decode cX13_readNamed 12 = .ok (.ireturn, 1) := by decide +kernel
theorem dX13_readNamed_13 : decode cX13_readNamed 13 = .ok (.aload_n 0, 1) := by decide +kernel
theorem dX13_readNamed_14 : decode cX13_readNamed 14 = .ok (.aload_n 0, 1) := by decide +kernel
theorem dX13_readNamed_15 : decode cX13_readNamed 15 = .ok (.getfield 31, 3) := by decide +kernel
theorem dX13_readNamed_18 : decode cX13_readNamed 18 = .ok (.iload_n 1, 1) := by decide +kernel
theorem dX13_readNamed_19 : decode cX13_readNamed 19 = .ok (.iload_n 2, 1) := by decide +kernel
theorem dX13_readNamed_20 : decode cX13_readNamed 20 = .ok (.aload_n 0, 1) := by decide +kernel
theorem dX13_readNamed_21 : decode cX13_readNamed 21 = .ok (.getfield 120, 3) := by decide +kernel
theorem dX13_readNamed_24 : decode cX13_readNamed 24 = .ok (.invokestatic 173, 3) := by decide +kernel
theorem dX13_readNamed_27 : decode cX13_readNamed 27 = .ok (.putfield 156, 3) := by decide +kernel
theorem dX13_readNamed_30 : decode cX13_readNamed 30 = .ok (.aload_n 0, 1) := by decide +kernel
theorem dX13_readNamed_31 : decode cX13_readNamed 31 = .ok (.getfield 156, 3) := by decide +kernel
theorem dX13_readNamed_34 : decode cX13_readNamed 34 = .ok (.iconst (-1), 1) := by decide +kernel
theorem dX13_readNamed_35 : decode cX13_readNamed 35 = .ok (.if_icmp .ne 9, 3) := by decide +kernel
theorem dX13_readNamed_38 : decode cX13_readNamed 38 = .ok (.aload_n 0, 1) := by decide +kernel
theorem dX13_readNamed_39 : decode cX13_readNamed 39 = .ok (.iconst 3, 1) := by decide +kernel
theorem dX13_readNamed_40 : decode cX13_readNamed 40 = .ok (.invokevirtual 149, 3) := by decide +kernel
theorem dX13_readNamed_43 : decode cX13_readNamed 43 = .ok (.ireturn, 1) := by decide +kernel
theorem dX13_readNamed_44 : decode cX13_readNamed 44 = .ok (.aload_n 0, 1) := by decide +kernel
theorem dX13_readNamed_45 : decode cX13_readNamed 45 = .ok (.invokevirtual 159, 3) := by decide +kernel
theorem dX13_readNamed_48 : decode cX13_readNamed 48 = .ok (.iconst 1, 1) := by decide +kernel
theorem dX13_readNamed_49 : decode cX13_readNamed 49 = .ok (.ireturn, 1) := by decide +kernel
theorem bX13_readNamed_0 {G : Gt} {d bc bs : Nat} {Q : QT} {l : Ls} {z : List Value} {h : Hp} (k : (tAld 0 (tCV0 G d 0 0 11 mX13_isName (fun l z h => T G d bc bs mX13_readNamed 4 l z h Q))) l z h) : T G d bc bs mX13_readNamed 0 l z h Q := by
  refine R_aload_n dX13_readNamed_0 rfl (fun l z h k => ?_) k
  exact R_cv0 (M := mX13_readNamed) (pc := 1) (bc := bc) (bs := bs) (cb := 0) (cs := 0) (M' := mX13_isName) dX13_readNamed_1 rfl (by decide) w_1693 w_144 w_1690 w_1692 w_55 (by decide +kernel) (fun _ _ _ k => k) k
theorem bX13_readNamed_4 {G : Gt} {d bc bs : Nat} {Q : QT} {l : Ls} {z : List Value} {h : Hp} (k : (tIf (fun x => x = 0) (fun l z h => T G d bc bs mX13_readNamed 7 l z h Q) (fun l z h => T G d bc bs mX13_readNamed 13 l z h Q)) l z h) : T G d bc bs mX13_readNamed 4 l z h Q := by
  exact R_if_ne dX13_readNamed_4 (by decide) (fun _ _ _ k => k) (fun _ _ _ k => k) k
theorem bX13_readNamed_7 {G : Gt} {d bc bs : Nat} {Q : QT} {l : Ls} {z : List Value} {h : Hp} (k : (tAld 0 (tPush (.int 1) (tCV1 G d 0 0 11 mX13_bad (fun l z h => T G d bc bs mX13_readNamed 12 l z h Q)))) l z h) : T G d bc bs mX13_readNamed 7 l z h Q := by
  refine R_aload_n dX13_readNamed_7 rfl (fun l z h k => ?_) k
  refine R_iconst dX13_readNamed_8 (by decide) (fun l z h k => ?_) k
  exact R_cv1 (M := mX13_readNamed) (pc := 9) (bc := bc) (bs := bs) (cb := 0) (cs := 0) (M' := mX13_bad) dX13_readNamed_9 rfl (by decide) w_1685 w_144 w_1682 w_1684 w_53 (by decide +kernel) (fun _ _ _ k => k) k
theorem bX13_readNamed_12 {G : Gt} {d bc bs : Nat} {Q : QT} {l : Ls} {z : List Value} {h : Hp} (k : (tRetZ Q) l z h) : T G d bc bs mX13_readNamed 12 l z h Q := by
  exact R_zret dX13_readNamed_12 rfl k
theorem bX13_readNamed_13 {G : Gt} {d bc bs : Nat} {Q : QT} {l : Ls} {z : List Value} {h : Hp} (k : (tAld 0 (tAld 0 (tGetf 11 20 (tIld 1 (tIld 2 (tAld 0 (tGetf 11 12 (tCS4 G d 0 0 mX13_findIn (fun l z h => T G d bc bs mX13_readNamed 27 l z h Q))))))))) l z h) : T G d bc bs mX13_readNamed 13 l z h Q := by
  refine R_aload_n dX13_readNamed_13 rfl (fun l z h k => ?_) k
  refine R_aload_n dX13_readNamed_14 rfl (fun l z h k => ?_) k
  refine R_getf (ci := 11) (f := 20) (C := RX13) (N := 49) (Tt := TX13) dX13_readNamed_15 rfl i_X13 (by decide) w_1487 (fun l z h k => ?_) k
  refine R_iload_n dX13_readNamed_18 rfl (fun l z h k => ?_) k
  refine R_iload_n dX13_readNamed_19 rfl (fun l z h k => ?_) k
  refine R_aload_n dX13_readNamed_20 rfl (fun l z h k => ?_) k
  refine R_getf (ci := 11) (f := 12) (C := RX13) (N := 49) (Tt := TX13) dX13_readNamed_21 rfl i_X13 (by decide) w_1479 (fun l z h k => ?_) k
  exact R_cs4 (M := mX13_readNamed) (pc := 24) (bc := bc) (bs := bs) (cb := 0) (cs := 0) (M' := mX13_findIn) dX13_readNamed_24 (by decide) w_1696 w_144 w_1694 w_1695 (by decide +kernel) (fun _ _ _ k => k) k
theorem bX13_readNamed_27 {G : Gt} {d bc bs : Nat} {Q : QT} {l : Ls} {z : List Value} {h : Hp} (k : (tPutf isI 11 13 (tAld 0 (tGetf 11 13 (tPush (.int (-1)) (tIf2 (fun x y => x = y) (fun l z h => T G d bc bs mX13_readNamed 38 l z h Q) (fun l z h => T G d bc bs mX13_readNamed 44 l z h Q)))))) l z h) : T G d bc bs mX13_readNamed 27 l z h Q := by
  refine R_putf (ci := 11) (f := 13) (C := RX13) (N := 49) (Tt := TX13) tyX13 tyX13_ok nmX13 dX13_readNamed_27 rfl i_X13 (by decide) w_1480 rfl (tyX13_ok 13 (by decide)) p_int (fun l z h k => ?_) k
  refine R_aload_n dX13_readNamed_30 rfl (fun l z h k => ?_) k
  refine R_getf (ci := 11) (f := 13) (C := RX13) (N := 49) (Tt := TX13) dX13_readNamed_31 rfl i_X13 (by decide) w_1480 (fun l z h k => ?_) k
  refine R_iconst dX13_readNamed_34 (by decide) (fun l z h k => ?_) k
  exact R_icmp_ne dX13_readNamed_35 (by decide) (fun _ _ _ k => k) (fun _ _ _ k => k) k
theorem bX13_readNamed_38 {G : Gt} {d bc bs : Nat} {Q : QT} {l : Ls} {z : List Value} {h : Hp} (k : (tAld 0 (tPush (.int 3) (tCV1 G d 0 0 11 mX13_bad (fun l z h => T G d bc bs mX13_readNamed 43 l z h Q)))) l z h) : T G d bc bs mX13_readNamed 38 l z h Q := by
  refine R_aload_n dX13_readNamed_38 rfl (fun l z h k => ?_) k
  refine R_iconst dX13_readNamed_39 (by decide) (fun l z h k => ?_) k
  exact R_cv1 (M := mX13_readNamed) (pc := 40) (bc := bc) (bs := bs) (cb := 0) (cs := 0) (M' := mX13_bad) dX13_readNamed_40 rfl (by decide) w_1685 w_144 w_1682 w_1684 w_53 (by decide +kernel) (fun _ _ _ k => k) k
theorem bX13_readNamed_43 {G : Gt} {d bc bs : Nat} {Q : QT} {l : Ls} {z : List Value} {h : Hp} (k : (tRetZ Q) l z h) : T G d bc bs mX13_readNamed 43 l z h Q := by
  exact R_zret dX13_readNamed_43 rfl k
theorem bX13_readNamed_44 {G : Gt} {d bc bs : Nat} {Q : QT} {l : Ls} {z : List Value} {h : Hp} (k : (tAld 0 (tCV0 G d 0 0 11 mX13_go (fun l z h => T G d bc bs mX13_readNamed 48 l z h Q))) l z h) : T G d bc bs mX13_readNamed 44 l z h Q := by
  refine R_aload_n dX13_readNamed_44 rfl (fun l z h k => ?_) k
  exact R_cv0 (M := mX13_readNamed) (pc := 45) (bc := bc) (bs := bs) (cb := 0) (cs := 0) (M' := mX13_go) dX13_readNamed_45 rfl (by decide) w_1647 w_144 w_1644 w_1646 w_47 (by decide +kernel) (fun _ _ _ k => k) k
theorem bX13_readNamed_48 {G : Gt} {d bc bs : Nat} {Q : QT} {l : Ls} {z : List Value} {h : Hp} (k : (tPush (.int 1) (tRetZ Q)) l z h) : T G d bc bs mX13_readNamed 48 l z h Q := by
  refine R_iconst dX13_readNamed_48 (by decide) (fun l z h k => ?_) k
  exact R_zret dX13_readNamed_49 rfl k
theorem dX13_readThingName_0 : decode cX13_readThingName 0 = .ok (.aload_n 0, 1) := by decide +kernel
theorem dX13_readThingName_1 : decode cX13_readThingName 1 = .ok (.iconst 0, 1) := by decide +kernel
theorem dX13_readThingName_2 : decode cX13_readThingName 2 = .ok (.aload_n 0, 1) := by decide +kernel
theorem dX13_readThingName_3 : decode cX13_readThingName 3 = .ok (.getfield 13, 3) := by decide +kernel
theorem dX13_readThingName_6 : decode cX13_readThingName 6 = .ok (.iconst 0, 1) := by decide +kernel
theorem dX13_readThingName_7 : decode cX13_readThingName 7 = .ok (.iaload, 1) := by decide +kernel
theorem dX13_readThingName_8 : decode cX13_readThingName 8 = .ok (.invokevirtual 403, 3) := by decide +kernel
theorem dX13_readThingName_11 : decode cX13_readThingName 11 = .ok (.ireturn, 1) := by decide +kernel
theorem bX13_readThingName_0 {G : Gt} {d bc bs : Nat} {Q : QT} {l : Ls} {z : List Value} {h : Hp} (k : (tAld 0 (tPush (.int 0) (tAld 0 (tGetf 11 14 (tPush (.int 0) (tXald 0 (tCV2 G d 0 0 11 mX13_readNamed (fun l z h => T G d bc bs mX13_readThingName 11 l z h Q)))))))) l z h) : T G d bc bs mX13_readThingName 0 l z h Q := by
  refine R_aload_n dX13_readThingName_0 rfl (fun l z h k => ?_) k
  refine R_iconst dX13_readThingName_1 (by decide) (fun l z h k => ?_) k
  refine R_aload_n dX13_readThingName_2 rfl (fun l z h k => ?_) k
  refine R_getf (ci := 11) (f := 14) (C := RX13) (N := 49) (Tt := TX13) dX13_readThingName_3 rfl i_X13 (by decide) w_1481 (fun l z h k => ?_) k
  refine R_iconst dX13_readThingName_6 (by decide) (fun l z h k => ?_) k
  refine R_iaload dX13_readThingName_7 (fun l z h k => ?_) k
  exact R_cv2 (M := mX13_readThingName) (pc := 8) (bc := bc) (bs := bs) (cb := 0) (cs := 0) (M' := mX13_readNamed) dX13_readThingName_8 rfl (by decide) w_2076 w_144 w_2073 w_2075 w_115 (by decide +kernel) (fun _ _ _ k => k) k
theorem bX13_readThingName_11 {G : Gt} {d bc bs : Nat} {Q : QT} {l : Ls} {z : List Value} {h : Hp} (k : (tRetZ Q) l z h) : T G d bc bs mX13_readThingName 11 l z h Q := by
  exact R_zret dX13_readThingName_11 rfl k
theorem dX13_readPersonName_0 : decode cX13_readPersonName 0 = .ok (.aload_n 0, 1) := by decide +kernel
theorem dX13_readPersonName_1 : decode cX13_readPersonName 1 = .ok (.bipush 6, 2) := by decide +kernel
theorem dX13_readPersonName_3 : decode cX13_readPersonName 3 = .ok (.aload_n 0, 1) := by decide +kernel
theorem dX13_readPersonName_4 : decode cX13_readPersonName 4 = .ok (.getfield 13, 3) := by decide +kernel
theorem dX13_readPersonName_7 : decode cX13_readPersonName 7 = .ok (.iconst 1, 1) := by decide +kernel
theorem dX13_readPersonName_8 : decode cX13_readPersonName 8 = .ok (.iaload, 1) := by decide +kernel
theorem dX13_readPersonName_9 : decode cX13_readPersonName 9 = .ok (.invokevirtual 403, 3) := by decide +kernel
theorem dX13_readPersonName_12 : decode cX13_readPersonName 12 = .ok (.ireturn, 1) := by decide +kernel
theorem bX13_readPersonName_0 {G : Gt} {d bc bs : Nat} {Q : QT} {l : Ls} {z : List Value} {h : Hp} (k : (tAld 0 (tPush (.int 6) (tAld 0 (tGetf 11 14 (tPush (.int 1) (tXald 0 (tCV2 G d 0 0 11 mX13_readNamed (fun l z h => T G d bc bs mX13_readPersonName 12 l z h Q)))))))) l z h) : T G d bc bs mX13_readPersonName 0 l z h Q := by
  refine R_aload_n dX13_readPersonName_0 rfl (fun l z h k => ?_) k
  refine R_bipush dX13_readPersonName_1 (by decide) (fun l z h k => ?_) k
  refine R_aload_n dX13_readPersonName_3 rfl (fun l z h k => ?_) k
  refine R_getf (ci := 11) (f := 14) (C := RX13) (N := 49) (Tt := TX13) dX13_readPersonName_4 rfl i_X13 (by decide) w_1481 (fun l z h k => ?_) k
  refine R_iconst dX13_readPersonName_7 (by decide) (fun l z h k => ?_) k
  refine R_iaload dX13_readPersonName_8 (fun l z h k => ?_) k
  exact R_cv2 (M := mX13_readPersonName) (pc := 9) (bc := bc) (bs := bs) (cb := 0) (cs := 0) (M' := mX13_readNamed) dX13_readPersonName_9 rfl (by decide) w_2076 w_144 w_2073 w_2075 w_115 (by decide +kernel) (fun _ _ _ k => k) k
theorem bX13_readPersonName_12 {G : Gt} {d bc bs : Nat} {Q : QT} {l : Ls} {z : List Value} {h : Hp} (k : (tRetZ Q) l z h) : T G d bc bs mX13_readPersonName 12 l z h Q := by
  exact R_zret dX13_readPersonName_12 rfl k
theorem dX13_readDoes_0 : decode cX13_readDoes 0 = .ok (.iconst 5, 1) := by decide +kernel
theorem dX13_readDoes_1 : decode cX13_readDoes 1 = .ok (.istore_n 2, 1) := by decide +kernel
theorem dX13_readDoes_2 : decode cX13_readDoes 2 = .ok (.iload_n 2, 1) := by decide +kernel
theorem dX13_readDoes_3 : decode cX13_readDoes 3 = .ok (.bipush 8, 2) := by decide +kernel
theorem dX13_readDoes_5 : decode cX13_readDoes 5 = .ok (.if_icmp .gt 17, 3) := by decide +kernel
theorem dX13_readDoes_8 : decode cX13_readDoes 8 = .ok (.aload_n 0, 1) := by decide +kernel
theorem dX13_readDoes_9 : decode cX13_readDoes 9 = .ok (.iload_n 2, 1) := by decide +kernel
theorem dX13_readDoes_10 : decode cX13_readDoes 10 = .ok (.invokevirtual 177, 3) := by decide +kernel
theorem dX13_readDoes_13 : decode cX13_readDoes 13 = .ok (.ifCond .ne 9, 3) := by decide +kernel
theorem dX13_readDoes_16 : decode cX13_readDoes 16 = .ok (.iinc 2 1, 3) := by decide +kernel
theorem dX13_readDoes_19 : decode cX13_readDoes 19 = .ok (.goto (-17), 3) := by decide +kernel
theorem dX13_readDoes_22 : decode cX13_readDoes 22 = .ok (.iload_n 2, 1) := by decide +kernel
theorem dX13_readDoes_23 : decode cX13_readDoes 23 = .ok (.bipush 8, 2) := by decide +kernel
theorem dX13_readDoes_25 : decode cX13_readDoes 25 = .ok (.if_icmp .le 9, 3) := by decide +kernel
theorem dX13_readDoes_28 : decode cX13_readDoes 28 = .ok (.aload_n 0, 1) := by decide +kernel
theorem dX13_readDoes_29 : decode cX13_readDoes 29 = .ok (.iconst 1, 1) := by decide +kernel
theorem dX13_readDoes_30 : decode cX13_readDoes 30 = .ok (.invokevirtual 149, 3) := by decide +kernel
theorem dX13_readDoes_33 : decode cX13_readDoes 33 = .ok (.ireturn, 1) := by decide +kernel
theorem dX13_readDoes_34 : decode cX13_readDoes 34 = .ok (.aload_n 0, 1) := by decide +kernel
theorem dX13_readDoes_35 : decode cX13_readDoes 35 = .ok (.getfield 76, 3) := by decide +kernel
theorem dX13_readDoes_38 : decode cX13_readDoes 38 = .ok (.iload_n 1, 1) := by decide +kernel
theorem dX13_readDoes_39 : decode cX13_readDoes 39 = .ok (.iload_n 2, 1) := by decide +kernel
theorem dX13_readDoes_40 : decode cX13_readDoes 40 = .ok (.iconst 5, 1) := by decide +kernel
theorem dX13_readDoes_41 : decode cX13_readDoes 41 = .ok (.isub, 1) := by decide +kernel
theorem dX13_readDoes_42 : decode cX13_readDoes 42 = .ok (.iastore, 1) := by decide +kernel
theorem dX13_readDoes_43 : decode cX13_readDoes 43 = .ok (.aload_n 0, 1) := by decide +kernel
theorem dX13_readDoes_44 : decode cX13_readDoes 44 = .ok (.invokevirtual 159, 3) := by decide +kernel
theorem dX13_readDoes_47 : decode cX13_readDoes 47 = .ok (.aload_n 0, 1) := by decide +kernel
theorem dX13_readDoes_48 : decode cX13_readDoes 48 = .ok (.getfield 76, 3) := by decide +kernel
theorem dX13_readDoes_51 : decode cX13_readDoes 51 = .ok (.iload_n 1, 1) := by decide +kernel
theorem dX13_readDoes_52 : decode cX13_readDoes 52 = .ok (.iaload, 1) := by decide +kernel
theorem dX13_readDoes_53 : decode cX13_readDoes 53 = .ok (.tableswitch 103 0 3 #[31, 43, 103, 55], 31) := by decide +kernel
theorem dX13_readDoes_84 : decode cX13_readDoes 84 = .ok (.aload_n 0, 1) := by decide +kernel
theorem dX13_readDoes_85 : decode cX13_readDoes 85 = .ok (.iload_n 1, 1) := by decide +kernel
theorem dX13_readDoes_86 : decode cX13_readDoes 86 = .ok (.iconst 2, 1) := by decide +kernel
theorem dX13_readDoes_87 : decode cX13_readDoes 87 = .ok (.iadd, 1) := by decide +kernel
theorem dX13_readDoes_88 : decode cX13_readDoes 88 = .ok (.aload_n 0, 1) := by decide +kernel
theorem dX13_readDoes_89 : decode cX13_readDoes 89 = .ok (.invokevirtual 197, 3) := by decide +kernel
theorem dX13_readDoes_92 : decode cX13_readDoes 92 = .ok (.invokevirtual 406, 3) := by decide +kernel
theorem dX13_readDoes_95 : decode cX13_readDoes 95 = .ok (.ireturn, 1) := by decide +kernel
theorem dX13_readDoes_96 : decode cX13_readDoes 96 = .ok (.aload_n 0, 1) := by decide +kernel
theorem dX13_readDoes_97 : decode cX13_readDoes 97 = .ok (.iload_n 1, 1) := by decide +kernel
theorem dX13_readDoes_98 : decode cX13_readDoes 98 = .ok (.iconst 2, 1) := by decide +kernel
theorem dX13_readDoes_99 : decode cX13_readDoes 99 = .ok (.iadd, 1) := by decide +kernel
theorem dX13_readDoes_100 : decode cX13_readDoes 100 = .ok (.aload_n 0, 1) := by decide +kernel
theorem dX13_readDoes_101 : decode cX13_readDoes 101 = .ok (.invokevirtual 409, 3) := by decide +kernel
theorem dX13_readDoes_104 : decode cX13_readDoes 104 = .ok (.invokevirtual 406, 3) := by decide +kernel
theorem dX13_readDoes_107 : decode cX13_readDoes 107 = .ok (.ireturn, 1) := by decide +kernel
theorem dX13_readDoes_108 : decode cX13_readDoes 108 = .ok (.aload_n 0, 1) := by decide +kernel
theorem dX13_readDoes_109 : decode cX13_readDoes 109 = .ok (.iload_n 1, 1) := by decide +kernel
theorem dX13_readDoes_110 : decode cX13_readDoes 110 = .ok (.iconst 2, 1) := by decide +kernel
theorem dX13_readDoes_111 : decode cX13_readDoes 111 = .ok (.iadd, 1) := by decide +kernel
theorem dX13_readDoes_112 : decode cX13_readDoes 112 = .ok (.aload_n 0, 1) := by decide +kernel
theorem dX13_readDoes_113 : decode cX13_readDoes 113 = .ok (.invokevirtual 412, 3) := by decide +kernel
theorem dX13_readDoes_116 : decode cX13_readDoes 116 = .ok (.invokevirtual 406, 3) := by decide +kernel
theorem dX13_readDoes_119 : decode cX13_readDoes 119 = .ok (.ifCond .eq 35, 3) := by decide +kernel
theorem dX13_readDoes_122 : decode cX13_readDoes 122 = .ok (.aload_n 0, 1) := by decide +kernel
theorem dX13_readDoes_123 : decode cX13_readDoes 123 = .ok (.iload_n 1, 1) := by decide +kernel
theorem dX13_readDoes_124 : decode cX13_readDoes 124 = .ok (.iconst 3, 1) := by decide +kernel
theorem dX13_readDoes_125 : decode cX13_readDoes 125 = .ok (.iadd, 1) := by decide +kernel
theorem dX13_readDoes_126 : decode cX13_readDoes 126 = .ok (.aload_n 0, 1) := by decide +kernel
theorem dX13_readDoes_127 : decode cX13_readDoes 127 = .ok (.invokevirtual 409, 3) := by decide +kernel
theorem dX13_readDoes_130 : decode cX13_readDoes 130 = .ok (.invokevirtual 406, 3) := by decide +kernel
theorem dX13_readDoes_133 : decode cX13_readDoes 133 = .ok (.ifCond .eq 21, 3) := by decide +kernel
theorem dX13_readDoes_136 : decode cX13_readDoes 136 = .ok (.aload_n 0, 1) := by decide +kernel
theorem dX13_readDoes_137 : decode cX13_readDoes 137 = .ok (.iload_n 1, 1) := by decide +kernel
theorem dX13_readDoes_138 : decode cX13_readDoes 138 = .ok (.iconst 4, 1) := by decide +kernel
theorem dX13_readDoes_139 : decode cX13_readDoes 139 = .ok (.iadd, 1) := by decide +kernel
theorem dX13_readDoes_140 : decode cX13_readDoes 140 = .ok (.aload_n 0, 1) := by decide +kernel
theorem dX13_readDoes_141 : decode cX13_readDoes 141 = .ok (.invokevirtual 412, 3) := by decide +kernel
theorem dX13_readDoes_144 : decode cX13_readDoes 144 = .ok (.invokevirtual 406, 3) := by decide +kernel
theorem dX13_readDoes_147 : decode cX13_readDoes 147 = .ok (.ifCond .eq 7, 3) := by decide +kernel
theorem dX13_readDoes_150 : decode cX13_readDoes 150 = .ok (.iconst 1, 1) := by decide +kernel
theorem dX13_readDoes_151 : decode cX13_readDoes 151 = .ok (.goto 4, 3) := by decide +kernel
theorem dX13_readDoes_154 : decode cX13_readDoes 154 = .ok (.iconst 0, 1) := by decide +kernel
theorem dX13_readDoes_155 : decode cX13_readDoes 155 = .ok (.ireturn, 1) := by decide +kernel
theorem dX13_readDoes_156 : decode cX13_readDoes 156 = .ok (.iconst 1, 1) := by decide +kernel
theorem dX13_readDoes_157 : decode cX13_readDoes 157 = .ok (.ireturn, 1) := by decide +kernel
theorem bX13_readDoes_0 {G : Gt} {d bc bs : Nat} {Q : QT} {l : Ls} {z : List Value} {h : Hp} (k : (tPush (.int 5) (tIst 2 ((fun l z h => T G d bc bs mX13_readDoes 2 l z h Q)))) l z h) : T G d bc bs mX13_readDoes 0 l z h Q := by
  refine R_iconst dX13_readDoes_0 (by decide) (fun l z h k => ?_) k
  refine R_istore_n dX13_readDoes_1 rfl (by decide) (fun l z h k => ?_) k
  exact k
theorem bX13_readDoes_2 {G : Gt} {d bc bs : Nat} {Q : QT} {l : Ls} {z : List Value} {h : Hp} (k : (tIld 2 (tPush (.int 8) (tIf2 (fun x y => y < x) (fun l z h => T G d bc bs mX13_readDoes 22 l z h Q) (fun l z h => T G d bc bs mX13_readDoes 8 l z h Q)))) l z h) : T G d bc bs mX13_readDoes 2 l z h Q := by
  refine R_iload_n dX13_readDoes_2 rfl (fun l z h k => ?_) k
  refine R_bipush dX13_readDoes_3 (by decide) (fun l z h k => ?_) k
  exact R_icmp_gt dX13_readDoes_5 (by decide) (fun _ _ _ k => k) (fun _ _ _ k => k) k
theorem bX13_readDoes_8 {G : Gt} {d bc bs : Nat} {Q : QT} {l : Ls} {z : List Value} {h : Hp} (k : (tAld 0 (tIld 2 (tCV1 G d 0 0 11 mX13_isWord (fun l z h => T G d bc bs mX13_readDoes 13 l z h Q)))) l z h) : T G d bc bs mX13_readDoes 8 l z h Q := by
  refine R_aload_n dX13_readDoes_8 rfl (fun l z h k => ?_) k
  refine R_iload_n dX13_readDoes_9 rfl (fun l z h k => ?_) k
  exact R_cv1 (M := mX13_readDoes) (pc := 10) (bc := bc) (bs := bs) (cb := 0) (cs := 0) (M' := mX13_isWord) dX13_readDoes_10 rfl (by decide) w_1667 w_144 w_1664 w_1666 w_50 (by decide +kernel) (fun _ _ _ k => k) k
theorem bX13_readDoes_13 {G : Gt} {d bc bs : Nat} {Q : QT} {l : Ls} {z : List Value} {h : Hp} (k : (tIf (fun x => x = 0) (fun l z h => T G d bc bs mX13_readDoes 16 l z h Q) (fun l z h => T G d bc bs mX13_readDoes 22 l z h Q)) l z h) : T G d bc bs mX13_readDoes 13 l z h Q := by
  exact R_if_ne dX13_readDoes_13 (by decide) (fun _ _ _ k => k) (fun _ _ _ k => k) k
theorem bX13_readDoes_16 {G : Gt} {d bc bs : Nat} {Q : QT} {l : Ls} {z : List Value} {h : Hp} (k : (tInc 2 1 ((fun l z h => T G d bc bs mX13_readDoes 2 l z h Q))) l z h) : T G d bc bs mX13_readDoes 16 l z h Q := by
  refine R_iinc dX13_readDoes_16 (by decide) (by decide) (fun l z h k => ?_) k
  exact R_goto dX13_readDoes_19 (by decide) (fun _ _ _ k => k) k
theorem bX13_readDoes_22 {G : Gt} {d bc bs : Nat} {Q : QT} {l : Ls} {z : List Value} {h : Hp} (k : (tIld 2 (tPush (.int 8) (tIf2 (fun x y => x ≤ y) (fun l z h => T G d bc bs mX13_readDoes 34 l z h Q) (fun l z h => T G d bc bs mX13_readDoes 28 l z h Q)))) l z h) : T G d bc bs mX13_readDoes 22 l z h Q := by
  refine R_iload_n dX13_readDoes_22 rfl (fun l z h k => ?_) k
  refine R_bipush dX13_readDoes_23 (by decide) (fun l z h k => ?_) k
  exact R_icmp_le dX13_readDoes_25 (by decide) (fun _ _ _ k => k) (fun _ _ _ k => k) k
theorem bX13_readDoes_28 {G : Gt} {d bc bs : Nat} {Q : QT} {l : Ls} {z : List Value} {h : Hp} (k : (tAld 0 (tPush (.int 1) (tCV1 G d 0 0 11 mX13_bad (fun l z h => T G d bc bs mX13_readDoes 33 l z h Q)))) l z h) : T G d bc bs mX13_readDoes 28 l z h Q := by
  refine R_aload_n dX13_readDoes_28 rfl (fun l z h k => ?_) k
  refine R_iconst dX13_readDoes_29 (by decide) (fun l z h k => ?_) k
  exact R_cv1 (M := mX13_readDoes) (pc := 30) (bc := bc) (bs := bs) (cb := 0) (cs := 0) (M' := mX13_bad) dX13_readDoes_30 rfl (by decide) w_1685 w_144 w_1682 w_1684 w_53 (by decide +kernel) (fun _ _ _ k => k) k
theorem bX13_readDoes_33 {G : Gt} {d bc bs : Nat} {Q : QT} {l : Ls} {z : List Value} {h : Hp} (k : (tRetZ Q) l z h) : T G d bc bs mX13_readDoes 33 l z h Q := by
  exact R_zret dX13_readDoes_33 rfl k
theorem bX13_readDoes_34 {G : Gt} {d bc bs : Nat} {Q : QT} {l : Ls} {z : List Value} {h : Hp} (k : (tAld 0 (tGetf 11 40 (tIld 1 (tIld 2 (tPush (.int 5) (tB (fun x y => x - y) (tXast 0 (tAld 0 (tCV0 G d 0 0 11 mX13_go (fun l z h => T G d bc bs mX13_readDoes 47 l z h Q)))))))))) l z h) : T G d bc bs mX13_readDoes 34 l z h Q := by
  refine R_aload_n dX13_readDoes_34 rfl (fun l z h k => ?_) k
  refine R_getf (ci := 11) (f := 40) (C := RX13) (N := 49) (Tt := TX13) dX13_readDoes_35 rfl i_X13 (by decide) w_1507 (fun l z h k => ?_) k
  refine R_iload_n dX13_readDoes_38 rfl (fun l z h k => ?_) k
  refine R_iload_n dX13_readDoes_39 rfl (fun l z h k => ?_) k
  refine R_iconst dX13_readDoes_40 (by decide) (fun l z h k => ?_) k
  refine R_isub dX13_readDoes_41 (fun l z h k => ?_) k
  refine R_iastore dX13_readDoes_42 (fun l z h k => ?_) k
  refine R_aload_n dX13_readDoes_43 rfl (fun l z h k => ?_) k
  exact R_cv0 (M := mX13_readDoes) (pc := 44) (bc := bc) (bs := bs) (cb := 0) (cs := 0) (M' := mX13_go) dX13_readDoes_44 rfl (by decide) w_1647 w_144 w_1644 w_1646 w_47 (by decide +kernel) (fun _ _ _ k => k) k
theorem bX13_readDoes_47 {G : Gt} {d bc bs : Nat} {Q : QT} {l : Ls} {z : List Value} {h : Hp} (k : (tAld 0 (tGetf 11 40 (tIld 1 (tXald 0 (tSw 0 [84, 96, 156, 108] 156 (fun t l z h => T G d bc bs mX13_readDoes t l z h Q)))))) l z h) : T G d bc bs mX13_readDoes 47 l z h Q := by
  refine R_aload_n dX13_readDoes_47 rfl (fun l z h k => ?_) k
  refine R_getf (ci := 11) (f := 40) (C := RX13) (N := 49) (Tt := TX13) dX13_readDoes_48 rfl i_X13 (by decide) w_1507 (fun l z h k => ?_) k
  refine R_iload_n dX13_readDoes_51 rfl (fun l z h k => ?_) k
  refine R_iaload dX13_readDoes_52 (fun l z h k => ?_) k
  exact R_table dX13_readDoes_53 (by decide) (by decide) (by decide) (by decide) (by decide) (fun _ _ _ _ k => k) k
theorem bX13_readDoes_84 {G : Gt} {d bc bs : Nat} {Q : QT} {l : Ls} {z : List Value} {h : Hp} (k : (tAld 0 (tIld 1 (tPush (.int 2) (tB (fun x y => x + y) (tAld 0 (tCV0 G d 0 0 11 mX13_readSpot (fun l z h => T G d bc bs mX13_readDoes 92 l z h Q))))))) l z h) : T G d bc bs mX13_readDoes 84 l z h Q := by
  refine R_aload_n dX13_readDoes_84 rfl (fun l z h k => ?_) k
  refine R_iload_n dX13_readDoes_85 rfl (fun l z h k => ?_) k
  refine R_iconst dX13_readDoes_86 (by decide) (fun l z h k => ?_) k
  refine R_iadd dX13_readDoes_87 (fun l z h k => ?_) k
  refine R_aload_n dX13_readDoes_88 rfl (fun l z h k => ?_) k
  exact R_cv0 (M := mX13_readDoes) (pc := 89) (bc := bc) (bs := bs) (cb := 0) (cs := 0) (M' := mX13_readSpot) dX13_readDoes_89 rfl (by decide) w_1719 w_144 w_1716 w_1718 w_60 (by decide +kernel) (fun _ _ _ k => k) k
theorem bX13_readDoes_92 {G : Gt} {d bc bs : Nat} {Q : QT} {l : Ls} {z : List Value} {h : Hp} (k : (tCV2 G d 0 0 11 mX13_keep (fun l z h => T G d bc bs mX13_readDoes 95 l z h Q)) l z h) : T G d bc bs mX13_readDoes 92 l z h Q := by
  exact R_cv2 (M := mX13_readDoes) (pc := 92) (bc := bc) (bs := bs) (cb := 0) (cs := 0) (M' := mX13_keep) dX13_readDoes_92 rfl (by decide) w_2068 w_144 w_2065 w_2067 w_113 (by decide +kernel) (fun _ _ _ k => k) k
theorem bX13_readDoes_95 {G : Gt} {d bc bs : Nat} {Q : QT} {l : Ls} {z : List Value} {h : Hp} (k : (tRetZ Q) l z h) : T G d bc bs mX13_readDoes 95 l z h Q := by
  exact R_zret dX13_readDoes_95 rfl k
theorem bX13_readDoes_96 {G : Gt} {d bc bs : Nat} {Q : QT} {l : Ls} {z : List Value} {h : Hp} (k : (tAld 0 (tIld 1 (tPush (.int 2) (tB (fun x y => x + y) (tAld 0 (tCV0 G d 0 0 11 mX13_readPersonName (fun l z h => T G d bc bs mX13_readDoes 104 l z h Q))))))) l z h) : T G d bc bs mX13_readDoes 96 l z h Q := by
  refine R_aload_n dX13_readDoes_96 rfl (fun l z h k => ?_) k
  refine R_iload_n dX13_readDoes_97 rfl (fun l z h k => ?_) k
  refine R_iconst dX13_readDoes_98 (by decide) (fun l z h k => ?_) k
  refine R_iadd dX13_readDoes_99 (fun l z h k => ?_) k
  refine R_aload_n dX13_readDoes_100 rfl (fun l z h k => ?_) k
  exact R_cv0 (M := mX13_readDoes) (pc := 101) (bc := bc) (bs := bs) (cb := 0) (cs := 0) (M' := mX13_readPersonName) dX13_readDoes_101 rfl (by decide) w_2084 w_144 w_2081 w_2083 w_117 (by decide +kernel) (fun _ _ _ k => k) k
theorem bX13_readDoes_104 {G : Gt} {d bc bs : Nat} {Q : QT} {l : Ls} {z : List Value} {h : Hp} (k : (tCV2 G d 0 0 11 mX13_keep (fun l z h => T G d bc bs mX13_readDoes 107 l z h Q)) l z h) : T G d bc bs mX13_readDoes 104 l z h Q := by
  exact R_cv2 (M := mX13_readDoes) (pc := 104) (bc := bc) (bs := bs) (cb := 0) (cs := 0) (M' := mX13_keep) dX13_readDoes_104 rfl (by decide) w_2068 w_144 w_2065 w_2067 w_113 (by decide +kernel) (fun _ _ _ k => k) k
theorem bX13_readDoes_107 {G : Gt} {d bc bs : Nat} {Q : QT} {l : Ls} {z : List Value} {h : Hp} (k : (tRetZ Q) l z h) : T G d bc bs mX13_readDoes 107 l z h Q := by
  exact R_zret dX13_readDoes_107 rfl k
theorem bX13_readDoes_108 {G : Gt} {d bc bs : Nat} {Q : QT} {l : Ls} {z : List Value} {h : Hp} (k : (tAld 0 (tIld 1 (tPush (.int 2) (tB (fun x y => x + y) (tAld 0 (tCV0 G d 0 0 11 mX13_readThingName (fun l z h => T G d bc bs mX13_readDoes 116 l z h Q))))))) l z h) : T G d bc bs mX13_readDoes 108 l z h Q := by
  refine R_aload_n dX13_readDoes_108 rfl (fun l z h k => ?_) k
  refine R_iload_n dX13_readDoes_109 rfl (fun l z h k => ?_) k
  refine R_iconst dX13_readDoes_110 (by decide) (fun l z h k => ?_) k
  refine R_iadd dX13_readDoes_111 (fun l z h k => ?_) k
  refine R_aload_n dX13_readDoes_112 rfl (fun l z h k => ?_) k
  exact R_cv0 (M := mX13_readDoes) (pc := 113) (bc := bc) (bs := bs) (cb := 0) (cs := 0) (M' := mX13_readThingName) dX13_readDoes_113 rfl (by decide) w_2072 w_144 w_2069 w_2071 w_114 (by decide +kernel) (fun _ _ _ k => k) k
theorem bX13_readDoes_116 {G : Gt} {d bc bs : Nat} {Q : QT} {l : Ls} {z : List Value} {h : Hp} (k : (tCV2 G d 0 0 11 mX13_keep (fun l z h => T G d bc bs mX13_readDoes 119 l z h Q)) l z h) : T G d bc bs mX13_readDoes 116 l z h Q := by
  exact R_cv2 (M := mX13_readDoes) (pc := 116) (bc := bc) (bs := bs) (cb := 0) (cs := 0) (M' := mX13_keep) dX13_readDoes_116 rfl (by decide) w_2068 w_144 w_2065 w_2067 w_113 (by decide +kernel) (fun _ _ _ k => k) k
theorem bX13_readDoes_119 {G : Gt} {d bc bs : Nat} {Q : QT} {l : Ls} {z : List Value} {h : Hp} (k : (tIf (fun x => x = 0) (fun l z h => T G d bc bs mX13_readDoes 154 l z h Q) (fun l z h => T G d bc bs mX13_readDoes 122 l z h Q)) l z h) : T G d bc bs mX13_readDoes 119 l z h Q := by
  exact R_if_eq dX13_readDoes_119 (by decide) (fun _ _ _ k => k) (fun _ _ _ k => k) k
theorem bX13_readDoes_122 {G : Gt} {d bc bs : Nat} {Q : QT} {l : Ls} {z : List Value} {h : Hp} (k : (tAld 0 (tIld 1 (tPush (.int 3) (tB (fun x y => x + y) (tAld 0 (tCV0 G d 0 0 11 mX13_readPersonName (fun l z h => T G d bc bs mX13_readDoes 130 l z h Q))))))) l z h) : T G d bc bs mX13_readDoes 122 l z h Q := by
  refine R_aload_n dX13_readDoes_122 rfl (fun l z h k => ?_) k
  refine R_iload_n dX13_readDoes_123 rfl (fun l z h k => ?_) k
  refine R_iconst dX13_readDoes_124 (by decide) (fun l z h k => ?_) k
  refine R_iadd dX13_readDoes_125 (fun l z h k => ?_) k
  refine R_aload_n dX13_readDoes_126 rfl (fun l z h k => ?_) k
  exact R_cv0 (M := mX13_readDoes) (pc := 127) (bc := bc) (bs := bs) (cb := 0) (cs := 0) (M' := mX13_readPersonName) dX13_readDoes_127 rfl (by decide) w_2084 w_144 w_2081 w_2083 w_117 (by decide +kernel) (fun _ _ _ k => k) k
theorem bX13_readDoes_130 {G : Gt} {d bc bs : Nat} {Q : QT} {l : Ls} {z : List Value} {h : Hp} (k : (tCV2 G d 0 0 11 mX13_keep (fun l z h => T G d bc bs mX13_readDoes 133 l z h Q)) l z h) : T G d bc bs mX13_readDoes 130 l z h Q := by
  exact R_cv2 (M := mX13_readDoes) (pc := 130) (bc := bc) (bs := bs) (cb := 0) (cs := 0) (M' := mX13_keep) dX13_readDoes_130 rfl (by decide) w_2068 w_144 w_2065 w_2067 w_113 (by decide +kernel) (fun _ _ _ k => k) k
theorem bX13_readDoes_133 {G : Gt} {d bc bs : Nat} {Q : QT} {l : Ls} {z : List Value} {h : Hp} (k : (tIf (fun x => x = 0) (fun l z h => T G d bc bs mX13_readDoes 154 l z h Q) (fun l z h => T G d bc bs mX13_readDoes 136 l z h Q)) l z h) : T G d bc bs mX13_readDoes 133 l z h Q := by
  exact R_if_eq dX13_readDoes_133 (by decide) (fun _ _ _ k => k) (fun _ _ _ k => k) k
theorem bX13_readDoes_136 {G : Gt} {d bc bs : Nat} {Q : QT} {l : Ls} {z : List Value} {h : Hp} (k : (tAld 0 (tIld 1 (tPush (.int 4) (tB (fun x y => x + y) (tAld 0 (tCV0 G d 0 0 11 mX13_readThingName (fun l z h => T G d bc bs mX13_readDoes 144 l z h Q))))))) l z h) : T G d bc bs mX13_readDoes 136 l z h Q := by
  refine R_aload_n dX13_readDoes_136 rfl (fun l z h k => ?_) k
  refine R_iload_n dX13_readDoes_137 rfl (fun l z h k => ?_) k
  refine R_iconst dX13_readDoes_138 (by decide) (fun l z h k => ?_) k
  refine R_iadd dX13_readDoes_139 (fun l z h k => ?_) k
  refine R_aload_n dX13_readDoes_140 rfl (fun l z h k => ?_) k
  exact R_cv0 (M := mX13_readDoes) (pc := 141) (bc := bc) (bs := bs) (cb := 0) (cs := 0) (M' := mX13_readThingName) dX13_readDoes_141 rfl (by decide) w_2072 w_144 w_2069 w_2071 w_114 (by decide +kernel) (fun _ _ _ k => k) k
theorem bX13_readDoes_144 {G : Gt} {d bc bs : Nat} {Q : QT} {l : Ls} {z : List Value} {h : Hp} (k : (tCV2 G d 0 0 11 mX13_keep (fun l z h => T G d bc bs mX13_readDoes 147 l z h Q)) l z h) : T G d bc bs mX13_readDoes 144 l z h Q := by
  exact R_cv2 (M := mX13_readDoes) (pc := 144) (bc := bc) (bs := bs) (cb := 0) (cs := 0) (M' := mX13_keep) dX13_readDoes_144 rfl (by decide) w_2068 w_144 w_2065 w_2067 w_113 (by decide +kernel) (fun _ _ _ k => k) k
theorem bX13_readDoes_147 {G : Gt} {d bc bs : Nat} {Q : QT} {l : Ls} {z : List Value} {h : Hp} (k : (tIf (fun x => x = 0) (fun l z h => T G d bc bs mX13_readDoes 154 l z h Q) (fun l z h => T G d bc bs mX13_readDoes 150 l z h Q)) l z h) : T G d bc bs mX13_readDoes 147 l z h Q := by
  exact R_if_eq dX13_readDoes_147 (by decide) (fun _ _ _ k => k) (fun _ _ _ k => k) k
theorem bX13_readDoes_150 {G : Gt} {d bc bs : Nat} {Q : QT} {l : Ls} {z : List Value} {h : Hp} (k : (tPush (.int 1) ((fun l z h => T G d bc bs mX13_readDoes 155 l z h Q))) l z h) : T G d bc bs mX13_readDoes 150 l z h Q := by
  refine R_iconst dX13_readDoes_150 (by decide) (fun l z h k => ?_) k
  exact R_goto dX13_readDoes_151 (by decide) (fun _ _ _ k => k) k
theorem bX13_readDoes_154 {G : Gt} {d bc bs : Nat} {Q : QT} {l : Ls} {z : List Value} {h : Hp} (k : (tPush (.int 0) ((fun l z h => T G d bc bs mX13_readDoes 155 l z h Q))) l z h) : T G d bc bs mX13_readDoes 154 l z h Q := by
  refine R_iconst dX13_readDoes_154 (by decide) (fun l z h k => ?_) k
  exact k
theorem bX13_readDoes_155 {G : Gt} {d bc bs : Nat} {Q : QT} {l : Ls} {z : List Value} {h : Hp} (k : (tRetZ Q) l z h) : T G d bc bs mX13_readDoes 155 l z h Q := by
  exact R_zret dX13_readDoes_155 rfl k
theorem bX13_readDoes_156 {G : Gt} {d bc bs : Nat} {Q : QT} {l : Ls} {z : List Value} {h : Hp} (k : (tPush (.int 1) (tRetZ Q)) l z h) : T G d bc bs mX13_readDoes 156 l z h Q := by
  refine R_iconst dX13_readDoes_156 (by decide) (fun l z h k => ?_) k
  exact R_zret dX13_readDoes_157 rfl k
theorem dX13_readBookLine_0 : decode cX13_readBookLine 0 = .ok (.aload_n 0, 1) := by decide +kernel
theorem dX13_readBookLine_1 : decode cX13_readBookLine 1 = .ok (.bipush 9, 2) := by decide +kernel
theorem dX13_readBookLine_3 : decode cX13_readBookLine 3 = .ok (.invokevirtual 177, 3) := by decide +kernel
theorem dX13_readBookLine_6 : decode cX13_readBookLine 6 = .ok (.istore_n 1, 1) := by decide +kernel
theorem dX13_readBookLine_7 : decode cX13_readBookLine 7 = .ok (.aload_n 0, 1) := by decide +kernel
theorem dX13_readBookLine_8 : decode cX13_readBookLine 8 = .ok (.bipush 10, 2) := by decide +kernel
theorem dX13_readBookLine_10 : decode cX13_readBookLine 10 = .ok (.invokevirtual 177, 3) := by decide +kernel
theorem dX13_readBookLine_13 : decode cX13_readBookLine 13 = .ok (.istore_n 2, 1) := by decide +kernel
theorem dX13_readBookLine_14 : decode cX13_readBookLine 14 = .ok (.iload_n 1, 1) := by decide +kernel
theorem dX13_readBookLine_15 : decode cX13_readBookLine 15 = .ok (.ifCond .ne 49, 3) := by decide +kernel
theorem dX13_readBookLine_18 : decode cX13_readBookLine 18 = .ok (.iload_n 2, 1) := by decide +kernel
theorem dX13_readBookLine_19 : decode cX13_readBookLine 19 = .ok (.ifCond .ne 45, 3) := by decide +kernel
theorem dX13_readBookLine_22 : decode cX13_readBookLine 22 = .ok (.aload_n 0, 1) := by decide +kernel
theorem dX13_readBookLine_23 : decode cX13_readBookLine 23 = .ok (.invokevirtual 169, 3) := by decide +kernel
theorem dX13_readBookLine_26 : decode cX13_readBookLine 26 = .ok (.ifCond .ne 9, 3) := by decide +kernel
theorem dX13_readBookLine_29 : decode cX13_readBookLine 29 = .ok (.aload_n 0, 1) := by decide +kernel
theorem dX13_readBookLine_30 : decode cX13_readBookLine 30 = .ok (.iconst 1, 1) := by decide +kernel
theorem dX13_readBookLine_31 : decode cX13_readBookLine 31 = .ok (.invokevirtual 149, 3) := by decide +kernel
theorem dX13_readBookLine_34 : decode cX13_readBookLine 34 = .ok (.ireturn, 1) := by decide +kernel
theorem dX13_readBookLine_35 : decode cX13_readBookLine 35 = .ok (.aload_n 0, 1) := by decide +kernel
theorem dX13_readBookLine_36 : decode cX13_readBookLine 36 = .ok (.getfield 31, 3) := by decide +kernel
theorem dX13_readBookLine_39 : decode cX13_readBookLine 39 = .ok (.bipush 6, 2) := by decide +kernel
theorem dX13_readBookLine_41 : decode cX13_readBookLine 41 = .ok (.aload_n 0, 1) := by decide +kernel
theorem dX13_readBookLine_42 : decode cX13_readBookLine 42 = .ok (.getfield 13, 3) := by decide +kernel
theorem dX13_readBookLine_45 : decode cX13_readBookLine 45 = .ok (.iconst 1, 1) := by decide +kernel
theorem dX13_readBookLine_46 : decode cX13_readBookLine 46 = .ok (.iaload, 1) := by decide +kernel
theorem dX13_readBookLine_47 : decode cX13_readBookLine 47 = .ok (.aload_n 0, 1) := by decide +kernel
theorem dX13_readBookLine_48 : decode cX13_readBookLine 48 = .ok (.getfield 120, 3) := by decide +kernel
theorem dX13_readBookLine_51 : decode cX13_readBookLine 51 = .ok (.invokestatic 173, 3) := by decide +kernel
theorem dX13_readBookLine_54 : decode cX13_readBookLine 54 = .ok (.iconst (-1), 1) := by decide +kernel
theorem dX13_readBookLine_55 : decode cX13_readBookLine 55 = .ok (.if_icmp .ne 9, 3) := by decide +kernel
theorem dX13_readBookLine_58 : decode cX13_readBookLine 58 = .ok (.aload_n 0, 1) := by decide +kernel
theorem dX13_readBookLine_59 : decode cX13_readBookLine 59 = .ok (.iconst 3, 1) := by decide +kernel
theorem dX13_readBookLine_60 : decode cX13_readBookLine 60 = .ok (.invokevirtual 149, 3) := by decide +kernel
theorem dX13_readBookLine_63 : decode cX13_readBookLine 63 = .ok (.ireturn, 1) := by decide +kernel
theorem dX13_readBookLine_64 : decode cX13_readBookLine 64 = .ok (.aload_n 0, 1) := by decide +kernel
theorem dX13_readBookLine_65 : decode cX13_readBookLine 65 = .ok (.getfield 415, 3) := by decide +kernel
theorem dX13_readBookLine_68 : decode cX13_readBookLine 68 = .ok (.bipush 40, 2) := by decide +kernel
theorem dX13_readBookLine_70 : decode cX13_readBookLine 70 = .ok (.if_icmp .ne 9, 3) := by decide +kernel
theorem dX13_readBookLine_73 : decode cX13_readBookLine 73 = .ok (.aload_n 0, 1) := by decide +kernel
theorem dX13_readBookLine_74 : decode cX13_readBookLine 74 = .ok (.iconst 4, 1) := by decide +kernel
theorem dX13_readBookLine_75 : decode cX13_readBookLine 75 = .ok (.invokevirtual 149, 3) := by decide +kernel
theorem dX13_readBookLine_78 : decode cX13_readBookLine 78 = .ok (.ireturn, 1) := by decide +kernel
theorem dX13_readBookLine_79 : decode cX13_readBookLine 79 = .ok (.iconst 5, 1) := by decide +kernel
theorem dX13_readBookLine_80 : decode cX13_readBookLine 80 = .ok (.aload_n 0, 1) := by decide +kernel
theorem dX13_readBookLine_81 : decode cX13_readBookLine 81 = .ok (.getfield 415, 3) := by decide +kernel
theorem dX13_readBookLine_84 : decode cX13_readBookLine 84 = .ok (.imul, 1) := by decide +kernel
theorem dX13_readBookLine_85 : decode cX13_readBookLine 85 = .ok (.istore_n 3, 1) := by decide +kernel
theorem dX13_readBookLine_86 : decode cX13_readBookLine 86 = .ok (.aload_n 0, 1) := by decide +kernel
theorem dX13_readBookLine_87 : decode cX13_readBookLine 87 = .ok (.getfield 76, 3) := by decide +kernel
theorem dX13_readBookLine_90 : decode cX13_readBookLine 90 = .ok (.iload_n 3, 1) := by decide +kernel
theorem dX13_readBookLine_91 : decode cX13_readBookLine 91 = .ok (.iload_n 1, 1) := by decide +kernel
theorem dX13_readBookLine_92 : decode cX13_readBookLine 92 = .ok (.ifCond .eq 7, 3) := by decide +kernel
theorem dX13_readBookLine_95 : decode cX13_readBookLine 95 = .ok (.iconst 4, 1) := by decide +kernel
theorem dX13_readBookLine_96 : decode cX13_readBookLine 96 = .ok (.goto 4, 3) := by decide +kernel
theorem dX13_readBookLine_99 : decode cX13_readBookLine 99 = .ok (.iconst 5, 1) := by decide +kernel
theorem dX13_readBookLine_100 : decode cX13_readBookLine 100 = .ok (.iastore, 1) := by decide +kernel
theorem dX13_readBookLine_101 : decode cX13_readBookLine 101 = .ok (.aload_n 0, 1) := by decide +kernel
theorem dX13_readBookLine_102 : decode cX13_readBookLine 102 = .ok (.getfield 76, 3) := by decide +kernel
theorem dX13_readBookLine_105 : decode cX13_readBookLine 105 = .ok (.iload_n 3, 1) := by decide +kernel
theorem dX13_readBookLine_106 : decode cX13_readBookLine 106 = .ok (.iconst 1, 1) := by decide +kernel
theorem dX13_readBookLine_107 : decode cX13_readBookLine 107 = .ok (.iadd, 1) := by decide +kernel
theorem dX13_readBookLine_108 : decode cX13_readBookLine 108 = .ok (.iload_n 1, 1) := by decide +kernel
theorem dX13_readBookLine_109 : decode cX13_readBookLine 109 = .ok (.ifCond .ne 7, 3) := by decide +kernel
theorem dX13_readBookLine_112 : decode cX13_readBookLine 112 = .ok (.iload_n 2, 1) := by decide +kernel
theorem dX13_readBookLine_113 : decode cX13_readBookLine 113 = .ok (.ifCond .eq 7, 3) := by decide +kernel
theorem dX13_readBookLine_116 : decode cX13_readBookLine 116 = .ok (.iconst 0, 1) := by decide +kernel
theorem dX13_readBookLine_117 : decode cX13_readBookLine 117 = .ok (.goto 22, 3) := by decide +kernel
theorem dX13_readBookLine_120 : decode cX13_readBookLine 120 = .ok (.aload_n 0, 1) := by decide +kernel
theorem dX13_readBookLine_121 : decode cX13_readBookLine 121 = .ok (.getfield 31, 3) := by decide +kernel
theorem dX13_readBookLine_124 : decode cX13_readBookLine 124 = .ok (.bipush 6, 2) := by decide +kernel
theorem dX13_readBookLine_126 : decode cX13_readBookLine 126 = .ok (.aload_n 0, 1) := by decide +kernel
theorem dX13_readBookLine_127 : decode cX13_readBookLine 127 = .ok (.getfield 13, 3) := by decide +kernel
theorem dX13_readBookLine_130 : decode cX13_readBookLine 130 = .ok (.iconst 1, 1) := by decide +kernel
theorem dX13_readBookLine_131 : decode cX13_readBookLine 131 = .ok (.iaload, 1) := by decide +kernel
theorem dX13_readBookLine_132 : decode cX13_readBookLine 132 = .ok (.aload_n 0, 1) := by decide +kernel
theorem dX13_readBookLine_133 : decode cX13_readBookLine 133 = .ok (.getfield 120, 3) := by decide +kernel
theorem dX13_readBookLine_136 : decode cX13_readBookLine 136 = .ok (.invokestatic 173, 3) := by decide +kernel
theorem dX13_readBookLine_139 : decode cX13_readBookLine 139 = .ok (.iastore, 1) := by decide +kernel
theorem dX13_readBookLine_140 : decode cX13_readBookLine 140 = .ok (.aload_n 0, 1) := by decide +kernel
theorem dX13_readBookLine_141 : decode cX13_readBookLine 141 = .ok (.invokevirtual 159, 3) := by decide +kernel
theorem dX13_readBookLine_144 : decode cX13_readBookLine 144 = .ok (.iload_n 1, 1) := by decide +kernel
theorem dX13_readBookLine_145 : decode cX13_readBookLine 145 = .ok (.ifCond .eq 61, 3) := by decide +kernel
theorem dX13_readBookLine_148 : decode cX13_readBookLine 148 = .ok (.aload_n 0, 1) := by decide +kernel
theorem dX13_readBookLine_149 : decode cX13_readBookLine 149 = .ok (.iload_n 3, 1) := by decide +kernel
theorem dX13_readBookLine_150 : decode cX13_readBookLine 150 = .ok (.iconst 1, 1) := by decide +kernel
theorem dX13_readBookLine_151 : decode cX13_readBookLine 151 = .ok (.iadd, 1) := by decide +kernel
theorem dX13_readBookLine_152 : decode cX13_readBookLine 152 = .ok (.aload_n 0, 1) := by decide +kernel
theorem dX13_readBookLine_153 : decode cX13_readBookLine 153 = .ok (.invokevirtual 187, 3) := by decide +kernel
theorem dX13_readBookLine_156 : decode cX13_readBookLine 156 = .ok (.invokevirtual 406, 3) := by decide +kernel
theorem dX13_readBookLine_159 : decode cX13_readBookLine 159 = .ok (.ifCond .eq 45, 3) := by decide +kernel
theorem dX13_readBookLine_162 : decode cX13_readBookLine 162 = .ok (.aload_n 0, 1) := by decide +kernel
theorem dX13_readBookLine_163 : decode cX13_readBookLine 163 = .ok (.iload_n 3, 1) := by decide +kernel
theorem dX13_readBookLine_164 : decode cX13_readBookLine 164 = .ok (.iconst 2, 1) := by decide +kernel
theorem dX13_readBookLine_165 : decode cX13_readBookLine 165 = .ok (.iadd, 1) := by decide +kernel
theorem dX13_readBookLine_166 : decode cX13_readBookLine 166 = .ok (.aload_n 0, 1) := by decide +kernel
theorem dX13_readBookLine_167 : decode cX13_readBookLine 167 = .ok (.invokevirtual 412, 3) := by decide +kernel
theorem dX13_readBookLine_170 : decode cX13_readBookLine 170 = .ok (.invokevirtual 406, 3) := by decide +kernel
theorem dX13_readBookLine_173 : decode cX13_readBookLine 173 = .ok (.ifCond .eq 31, 3) := by decide +kernel
theorem dX13_readBookLine_176 : decode cX13_readBookLine 176 = .ok (.aload_n 0, 1) := by decide +kernel
theorem dX13_readBookLine_177 : decode cX13_readBookLine 177 = .ok (.iload_n 3, 1) := by decide +kernel
theorem dX13_readBookLine_178 : decode cX13_readBookLine 178 = .ok (.iconst 3, 1) := by decide +kernel
theorem dX13_readBookLine_179 : decode cX13_readBookLine 179 = .ok (.iadd, 1) := by decide +kernel
theorem dX13_readBookLine_180 : decode cX13_readBookLine 180 = .ok (.aload_n 0, 1) := by decide +kernel
theorem dX13_readBookLine_181 : decode cX13_readBookLine 181 = .ok (.iconst 0, 1) := by decide +kernel
theorem dX13_readBookLine_182 : decode cX13_readBookLine 182 = .ok (.bipush 12, 2) := by decide +kernel
theorem dX13_readBookLine_184 : decode cX13_readBookLine 184 = .ok (.invokevirtual 194, 3) := by decide +kernel
theorem dX13_readBookLine_187 : decode cX13_readBookLine 187 = .ok (.invokevirtual 406, 3) := by decide +kernel
theorem dX13_readBookLine_190 : decode cX13_readBookLine 190 = .ok (.ifCond .eq 14, 3) := by decide +kernel
theorem dX13_readBookLine_193 : decode cX13_readBookLine 193 = .ok (.aload_n 0, 1) := by decide +kernel
theorem dX13_readBookLine_194 : decode cX13_readBookLine 194 = .ok (.invokevirtual 231, 3) := by decide +kernel
theorem dX13_readBookLine_197 : decode cX13_readBookLine 197 = .ok (.ifCond .eq 7, 3) := by decide +kernel
theorem dX13_readBookLine_200 : decode cX13_readBookLine 200 = .ok (.iconst 1, 1) := by decide +kernel
theorem dX13_readBookLine_201 : decode cX13_readBookLine 201 = .ok (.goto 4, 3) := by decide +kernel
theorem dX13_readBookLine_204 : decode cX13_readBookLine 204 = .ok (.iconst 0, 1) := by decide +kernel
theorem dX13_readBookLine_205 : decode cX13_readBookLine 205 = .ok (.ireturn, 1) := by decide +kernel
theorem dX13_readBookLine_206 : decode cX13_readBookLine 206 = .ok (.iload_n 2, 1) := by decide +kernel
theorem dX13_readBookLine_207 : decode cX13_readBookLine 207 = .ok (.ifCond .eq 23, 3) := by decide +kernel
theorem dX13_readBookLine_210 : decode cX13_readBookLine 210 = .ok (.aload_n 0, 1) := by decide +kernel
theorem dX13_readBookLine_211 : decode cX13_readBookLine 211 = .ok (.iload_n 3, 1) := by decide +kernel
theorem dX13_readBookLine_212 : decode cX13_readBookLine 212 = .ok (.iconst 1, 1) := by decide +kernel
theorem dX13_readBookLine_213 : decode cX13_readBookLine 213 = .ok (.iadd, 1) := by decide +kernel
theorem dX13_readBookLine_214 : decode cX13_readBookLine 214 = .ok (.aload_n 0, 1) := by decide +kernel
theorem dX13_readBookLine_215 : decode cX13_readBookLine 215 = .ok (.iconst 1, 1) := by decide +kernel
theorem dX13_readBookLine_216 : decode cX13_readBookLine 216 = .ok (.bipush 60, 2) := by decide +kernel
theorem dX13_readBookLine_218 : decode cX13_readBookLine 218 = .ok (.invokevirtual 194, 3) := by decide +kernel
theorem dX13_readBookLine_221 : decode cX13_readBookLine 221 = .ok (.invokevirtual 406, 3) := by decide +kernel
theorem dX13_readBookLine_224 : decode cX13_readBookLine 224 = .ok (.ifCond .eq 25, 3) := by decide +kernel
theorem dX13_readBookLine_227 : decode cX13_readBookLine 227 = .ok (.goto 11, 3) := by decide +kernel
theorem dX13_readBookLine_230 : decode cX13_readBookLine 230 = .ok (.aload_n 0, 1) := by decide +kernel
theorem dX13_readBookLine_231 : decode cX13_readBookLine 231 = .ok (.iload_n 3, 1) := by decide +kernel
theorem dX13_readBookLine_232 : decode cX13_readBookLine 232 = .ok (.invokevirtual 418, 3) := by decide +kernel
theorem dX13_readBookLine_235 : decode cX13_readBookLine 235 = .ok (.ifCond .eq 14, 3) := by decide +kernel
theorem dX13_readBookLine_238 : decode cX13_readBookLine 238 = .ok (.aload_n 0, 1) := by decide +kernel
theorem dX13_readBookLine_239 : decode cX13_readBookLine 239 = .ok (.invokevirtual 231, 3) := by decide +kernel
theorem dX13_readBookLine_242 : decode cX13_readBookLine 242 = .ok (.ifCond .eq 7, 3) := by decide +kernel
theorem dX13_readBookLine_245 : decode cX13_readBookLine 245 = .ok (.iconst 1, 1) := by decide +kernel
theorem dX13_readBookLine_246 : decode cX13_readBookLine 246 = .ok (.goto 4, 3) := by decide +kernel
theorem dX13_readBookLine_249 : decode cX13_readBookLine 249 = .ok (.iconst 0, 1) := by decide +kernel
theorem dX13_readBookLine_250 : decode cX13_readBookLine 250 = .ok (.ireturn, 1) := by decide +kernel
theorem bX13_readBookLine_0 {G : Gt} {d bc bs : Nat} {Q : QT} {l : Ls} {z : List Value} {h : Hp} (k : (tAld 0 (tPush (.int 9) (tCV1 G d 0 0 11 mX13_isWord (fun l z h => T G d bc bs mX13_readBookLine 6 l z h Q)))) l z h) : T G d bc bs mX13_readBookLine 0 l z h Q := by
  refine R_aload_n dX13_readBookLine_0 rfl (fun l z h k => ?_) k
  refine R_bipush dX13_readBookLine_1 (by decide) (fun l z h k => ?_) k
  exact R_cv1 (M := mX13_readBookLine) (pc := 3) (bc := bc) (bs := bs) (cb := 0) (cs := 0) (M' := mX13_isWord) dX13_readBookLine_3 rfl (by decide) w_1667 w_144 w_1664 w_1666 w_50 (by decide +kernel) (fun _ _ _ k => k) k
theorem bX13_readBookLine_6 {G : Gt} {d bc bs : Nat} {Q : QT} {l : Ls} {z : List Value} {h : Hp} (k : (tIst 1 (tAld 0 (tPush (.int 10) (tCV1 G d 0 0 11 mX13_isWord (fun l z h => T G d bc bs mX13_readBookLine 13 l z h Q))))) l z h) : T G d bc bs mX13_readBookLine 6 l z h Q := by
  refine R_istore_n dX13_readBookLine_6 rfl (by decide) (fun l z h k => ?_) k
  refine R_aload_n dX13_readBookLine_7 rfl (fun l z h k => ?_) k
  refine R_bipush dX13_readBookLine_8 (by decide) (fun l z h k => ?_) k
  exact R_cv1 (M := mX13_readBookLine) (pc := 10) (bc := bc) (bs := bs) (cb := 0) (cs := 0) (M' := mX13_isWord) dX13_readBookLine_10 rfl (by decide) w_1667 w_144 w_1664 w_1666 w_50 (by decide +kernel) (fun _ _ _ k => k) k
theorem bX13_readBookLine_13 {G : Gt} {d bc bs : Nat} {Q : QT} {l : Ls} {z : List Value} {h : Hp} (k : (tIst 2 (tIld 1 (tIf (fun x => x = 0) (fun l z h => T G d bc bs mX13_readBookLine 18 l z h Q) (fun l z h => T G d bc bs mX13_readBookLine 64 l z h Q)))) l z h) : T G d bc bs mX13_readBookLine 13 l z h Q := by
  refine R_istore_n dX13_readBookLine_13 rfl (by decide) (fun l z h k => ?_) k
  refine R_iload_n dX13_readBookLine_14 rfl (fun l z h k => ?_) k
  exact R_if_ne dX13_readBookLine_15 (by decide) (fun _ _ _ k => k) (fun _ _ _ k => k) k
theorem bX13_readBookLine_18 {G : Gt} {d bc bs : Nat} {Q : QT} {l : Ls} {z : List Value} {h : Hp} (k : (tIld 2 (tIf (fun x => x = 0) (fun l z h => T G d bc bs mX13_readBookLine 22 l z h Q) (fun l z h => T G d bc bs mX13_readBookLine 64 l z h Q))) l z h) : T G d bc bs mX13_readBookLine 18 l z h Q := by
  refine R_iload_n dX13_readBookLine_18 rfl (fun l z h k => ?_) k
  exact R_if_ne dX13_readBookLine_19 (by decide) (fun _ _ _ k => k) (fun _ _ _ k => k) k
theorem bX13_readBookLine_22 {G : Gt} {d bc bs : Nat} {Q : QT} {l : Ls} {z : List Value} {h : Hp} (k : (tAld 0 (tCV0 G d 0 0 11 mX13_isName (fun l z h => T G d bc bs mX13_readBookLine 26 l z h Q))) l z h) : T G d bc bs mX13_readBookLine 22 l z h Q := by
  refine R_aload_n dX13_readBookLine_22 rfl (fun l z h k => ?_) k
  exact R_cv0 (M := mX13_readBookLine) (pc := 23) (bc := bc) (bs := bs) (cb := 0) (cs := 0) (M' := mX13_isName) dX13_readBookLine_23 rfl (by decide) w_1693 w_144 w_1690 w_1692 w_55 (by decide +kernel) (fun _ _ _ k => k) k
theorem bX13_readBookLine_26 {G : Gt} {d bc bs : Nat} {Q : QT} {l : Ls} {z : List Value} {h : Hp} (k : (tIf (fun x => x = 0) (fun l z h => T G d bc bs mX13_readBookLine 29 l z h Q) (fun l z h => T G d bc bs mX13_readBookLine 35 l z h Q)) l z h) : T G d bc bs mX13_readBookLine 26 l z h Q := by
  exact R_if_ne dX13_readBookLine_26 (by decide) (fun _ _ _ k => k) (fun _ _ _ k => k) k
theorem bX13_readBookLine_29 {G : Gt} {d bc bs : Nat} {Q : QT} {l : Ls} {z : List Value} {h : Hp} (k : (tAld 0 (tPush (.int 1) (tCV1 G d 0 0 11 mX13_bad (fun l z h => T G d bc bs mX13_readBookLine 34 l z h Q)))) l z h) : T G d bc bs mX13_readBookLine 29 l z h Q := by
  refine R_aload_n dX13_readBookLine_29 rfl (fun l z h k => ?_) k
  refine R_iconst dX13_readBookLine_30 (by decide) (fun l z h k => ?_) k
  exact R_cv1 (M := mX13_readBookLine) (pc := 31) (bc := bc) (bs := bs) (cb := 0) (cs := 0) (M' := mX13_bad) dX13_readBookLine_31 rfl (by decide) w_1685 w_144 w_1682 w_1684 w_53 (by decide +kernel) (fun _ _ _ k => k) k
theorem bX13_readBookLine_34 {G : Gt} {d bc bs : Nat} {Q : QT} {l : Ls} {z : List Value} {h : Hp} (k : (tRetZ Q) l z h) : T G d bc bs mX13_readBookLine 34 l z h Q := by
  exact R_zret dX13_readBookLine_34 rfl k
theorem bX13_readBookLine_35 {G : Gt} {d bc bs : Nat} {Q : QT} {l : Ls} {z : List Value} {h : Hp} (k : (tAld 0 (tGetf 11 20 (tPush (.int 6) (tAld 0 (tGetf 11 14 (tPush (.int 1) (tXald 0 (tAld 0 (tGetf 11 12 (tCS4 G d 0 0 mX13_findIn (fun l z h => T G d bc bs mX13_readBookLine 54 l z h Q))))))))))) l z h) : T G d bc bs mX13_readBookLine 35 l z h Q := by
  refine R_aload_n dX13_readBookLine_35 rfl (fun l z h k => ?_) k
  refine R_getf (ci := 11) (f := 20) (C := RX13) (N := 49) (Tt := TX13) dX13_readBookLine_36 rfl i_X13 (by decide) w_1487 (fun l z h k => ?_) k
  refine R_bipush dX13_readBookLine_39 (by decide) (fun l z h k => ?_) k
  refine R_aload_n dX13_readBookLine_41 rfl (fun l z h k => ?_) k
  refine R_getf (ci := 11) (f := 14) (C := RX13) (N := 49) (Tt := TX13) dX13_readBookLine_42 rfl i_X13 (by decide) w_1481 (fun l z h k => ?_) k
  refine R_iconst dX13_readBookLine_45 (by decide) (fun l z h k => ?_) k
  refine R_iaload dX13_readBookLine_46 (fun l z h k => ?_) k
  refine R_aload_n dX13_readBookLine_47 rfl (fun l z h k => ?_) k
  refine R_getf (ci := 11) (f := 12) (C := RX13) (N := 49) (Tt := TX13) dX13_readBookLine_48 rfl i_X13 (by decide) w_1479 (fun l z h k => ?_) k
  exact R_cs4 (M := mX13_readBookLine) (pc := 51) (bc := bc) (bs := bs) (cb := 0) (cs := 0) (M' := mX13_findIn) dX13_readBookLine_51 (by decide) w_1696 w_144 w_1694 w_1695 (by decide +kernel) (fun _ _ _ k => k) k
theorem bX13_readBookLine_54 {G : Gt} {d bc bs : Nat} {Q : QT} {l : Ls} {z : List Value} {h : Hp} (k : (tPush (.int (-1)) (tIf2 (fun x y => x = y) (fun l z h => T G d bc bs mX13_readBookLine 58 l z h Q) (fun l z h => T G d bc bs mX13_readBookLine 64 l z h Q))) l z h) : T G d bc bs mX13_readBookLine 54 l z h Q := by
  refine R_iconst dX13_readBookLine_54 (by decide) (fun l z h k => ?_) k
  exact R_icmp_ne dX13_readBookLine_55 (by decide) (fun _ _ _ k => k) (fun _ _ _ k => k) k
theorem bX13_readBookLine_58 {G : Gt} {d bc bs : Nat} {Q : QT} {l : Ls} {z : List Value} {h : Hp} (k : (tAld 0 (tPush (.int 3) (tCV1 G d 0 0 11 mX13_bad (fun l z h => T G d bc bs mX13_readBookLine 63 l z h Q)))) l z h) : T G d bc bs mX13_readBookLine 58 l z h Q := by
  refine R_aload_n dX13_readBookLine_58 rfl (fun l z h k => ?_) k
  refine R_iconst dX13_readBookLine_59 (by decide) (fun l z h k => ?_) k
  exact R_cv1 (M := mX13_readBookLine) (pc := 60) (bc := bc) (bs := bs) (cb := 0) (cs := 0) (M' := mX13_bad) dX13_readBookLine_60 rfl (by decide) w_1685 w_144 w_1682 w_1684 w_53 (by decide +kernel) (fun _ _ _ k => k) k
theorem bX13_readBookLine_63 {G : Gt} {d bc bs : Nat} {Q : QT} {l : Ls} {z : List Value} {h : Hp} (k : (tRetZ Q) l z h) : T G d bc bs mX13_readBookLine 63 l z h Q := by
  exact R_zret dX13_readBookLine_63 rfl k
theorem bX13_readBookLine_64 {G : Gt} {d bc bs : Nat} {Q : QT} {l : Ls} {z : List Value} {h : Hp} (k : (tAld 0 (tGetf 11 42 (tPush (.int 40) (tIf2 (fun x y => x = y) (fun l z h => T G d bc bs mX13_readBookLine 73 l z h Q) (fun l z h => T G d bc bs mX13_readBookLine 79 l z h Q))))) l z h) : T G d bc bs mX13_readBookLine 64 l z h Q := by
  refine R_aload_n dX13_readBookLine_64 rfl (fun l z h k => ?_) k
  refine R_getf (ci := 11) (f := 42) (C := RX13) (N := 49) (Tt := TX13) dX13_readBookLine_65 rfl i_X13 (by decide) w_1509 (fun l z h k => ?_) k
  refine R_bipush dX13_readBookLine_68 (by decide) (fun l z h k => ?_) k
  exact R_icmp_ne dX13_readBookLine_70 (by decide) (fun _ _ _ k => k) (fun _ _ _ k => k) k
theorem bX13_readBookLine_73 {G : Gt} {d bc bs : Nat} {Q : QT} {l : Ls} {z : List Value} {h : Hp} (k : (tAld 0 (tPush (.int 4) (tCV1 G d 0 0 11 mX13_bad (fun l z h => T G d bc bs mX13_readBookLine 78 l z h Q)))) l z h) : T G d bc bs mX13_readBookLine 73 l z h Q := by
  refine R_aload_n dX13_readBookLine_73 rfl (fun l z h k => ?_) k
  refine R_iconst dX13_readBookLine_74 (by decide) (fun l z h k => ?_) k
  exact R_cv1 (M := mX13_readBookLine) (pc := 75) (bc := bc) (bs := bs) (cb := 0) (cs := 0) (M' := mX13_bad) dX13_readBookLine_75 rfl (by decide) w_1685 w_144 w_1682 w_1684 w_53 (by decide +kernel) (fun _ _ _ k => k) k
theorem bX13_readBookLine_78 {G : Gt} {d bc bs : Nat} {Q : QT} {l : Ls} {z : List Value} {h : Hp} (k : (tRetZ Q) l z h) : T G d bc bs mX13_readBookLine 78 l z h Q := by
  exact R_zret dX13_readBookLine_78 rfl k
theorem bX13_readBookLine_79 {G : Gt} {d bc bs : Nat} {Q : QT} {l : Ls} {z : List Value} {h : Hp} (k : (tPush (.int 5) (tAld 0 (tGetf 11 42 (tB (fun x y => x * y) (tIst 3 (tAld 0 (tGetf 11 40 (tIld 3 (tIld 1 (tIf (fun x => x = 0) (fun l z h => T G d bc bs mX13_readBookLine 99 l z h Q) (fun l z h => T G d bc bs mX13_readBookLine 95 l z h Q))))))))))) l z h) : T G d bc bs mX13_readBookLine 79 l z h Q := by
  refine R_iconst dX13_readBookLine_79 (by decide) (fun l z h k => ?_) k
  refine R_aload_n dX13_readBookLine_80 rfl (fun l z h k => ?_) k
  refine R_getf (ci := 11) (f := 42) (C := RX13) (N := 49) (Tt := TX13) dX13_readBookLine_81 rfl i_X13 (by decide) w_1509 (fun l z h k => ?_) k
  refine R_imul dX13_readBookLine_84 (fun l z h k => ?_) k
  refine R_istore_n dX13_readBookLine_85 rfl (by decide) (fun l z h k => ?_) k
  refine R_aload_n dX13_readBookLine_86 rfl (fun l z h k => ?_) k
  refine R_getf (ci := 11) (f := 40) (C := RX13) (N := 49) (Tt := TX13) dX13_readBookLine_87 rfl i_X13 (by decide) w_1507 (fun l z h k => ?_) k
  refine R_iload_n dX13_readBookLine_90 rfl (fun l z h k => ?_) k
  refine R_iload_n dX13_readBookLine_91 rfl (fun l z h k => ?_) k
  exact R_if_eq dX13_readBookLine_92 (by decide) (fun _ _ _ k => k) (fun _ _ _ k => k) k
theorem bX13_readBookLine_95 {G : Gt} {d bc bs : Nat} {Q : QT} {l : Ls} {z : List Value} {h : Hp} (k : (tPush (.int 4) ((fun l z h => T G d bc bs mX13_readBookLine 100 l z h Q))) l z h) : T G d bc bs mX13_readBookLine 95 l z h Q := by
  refine R_iconst dX13_readBookLine_95 (by decide) (fun l z h k => ?_) k
  exact R_goto dX13_readBookLine_96 (by decide) (fun _ _ _ k => k) k
theorem bX13_readBookLine_99 {G : Gt} {d bc bs : Nat} {Q : QT} {l : Ls} {z : List Value} {h : Hp} (k : (tPush (.int 5) ((fun l z h => T G d bc bs mX13_readBookLine 100 l z h Q))) l z h) : T G d bc bs mX13_readBookLine 99 l z h Q := by
  refine R_iconst dX13_readBookLine_99 (by decide) (fun l z h k => ?_) k
  exact k
theorem bX13_readBookLine_100 {G : Gt} {d bc bs : Nat} {Q : QT} {l : Ls} {z : List Value} {h : Hp} (k : (tXast 0 (tAld 0 (tGetf 11 40 (tIld 3 (tPush (.int 1) (tB (fun x y => x + y) (tIld 1 (tIf (fun x => x = 0) (fun l z h => T G d bc bs mX13_readBookLine 112 l z h Q) (fun l z h => T G d bc bs mX13_readBookLine 116 l z h Q))))))))) l z h) : T G d bc bs mX13_readBookLine 100 l z h Q := by
  refine R_iastore dX13_readBookLine_100 (fun l z h k => ?_) k
  refine R_aload_n dX13_readBookLine_101 rfl (fun l z h k => ?_) k
  refine R_getf (ci := 11) (f := 40) (C := RX13) (N := 49) (Tt := TX13) dX13_readBookLine_102 rfl i_X13 (by decide) w_1507 (fun l z h k => ?_) k
  refine R_iload_n dX13_readBookLine_105 rfl (fun l z h k => ?_) k
  refine R_iconst dX13_readBookLine_106 (by decide) (fun l z h k => ?_) k
  refine R_iadd dX13_readBookLine_107 (fun l z h k => ?_) k
  refine R_iload_n dX13_readBookLine_108 rfl (fun l z h k => ?_) k
  exact R_if_ne dX13_readBookLine_109 (by decide) (fun _ _ _ k => k) (fun _ _ _ k => k) k
theorem bX13_readBookLine_112 {G : Gt} {d bc bs : Nat} {Q : QT} {l : Ls} {z : List Value} {h : Hp} (k : (tIld 2 (tIf (fun x => x = 0) (fun l z h => T G d bc bs mX13_readBookLine 120 l z h Q) (fun l z h => T G d bc bs mX13_readBookLine 116 l z h Q))) l z h) : T G d bc bs mX13_readBookLine 112 l z h Q := by
  refine R_iload_n dX13_readBookLine_112 rfl (fun l z h k => ?_) k
  exact R_if_eq dX13_readBookLine_113 (by decide) (fun _ _ _ k => k) (fun _ _ _ k => k) k
theorem bX13_readBookLine_116 {G : Gt} {d bc bs : Nat} {Q : QT} {l : Ls} {z : List Value} {h : Hp} (k : (tPush (.int 0) ((fun l z h => T G d bc bs mX13_readBookLine 139 l z h Q))) l z h) : T G d bc bs mX13_readBookLine 116 l z h Q := by
  refine R_iconst dX13_readBookLine_116 (by decide) (fun l z h k => ?_) k
  exact R_goto dX13_readBookLine_117 (by decide) (fun _ _ _ k => k) k
theorem bX13_readBookLine_120 {G : Gt} {d bc bs : Nat} {Q : QT} {l : Ls} {z : List Value} {h : Hp} (k : (tAld 0 (tGetf 11 20 (tPush (.int 6) (tAld 0 (tGetf 11 14 (tPush (.int 1) (tXald 0 (tAld 0 (tGetf 11 12 (tCS4 G d 0 0 mX13_findIn (fun l z h => T G d bc bs mX13_readBookLine 139 l z h Q))))))))))) l z h) : T G d bc bs mX13_readBookLine 120 l z h Q := by
  refine R_aload_n dX13_readBookLine_120 rfl (fun l z h k => ?_) k
  refine R_getf (ci := 11) (f := 20) (C := RX13) (N := 49) (Tt := TX13) dX13_readBookLine_121 rfl i_X13 (by decide) w_1487 (fun l z h k => ?_) k
  refine R_bipush dX13_readBookLine_124 (by decide) (fun l z h k => ?_) k
  refine R_aload_n dX13_readBookLine_126 rfl (fun l z h k => ?_) k
  refine R_getf (ci := 11) (f := 14) (C := RX13) (N := 49) (Tt := TX13) dX13_readBookLine_127 rfl i_X13 (by decide) w_1481 (fun l z h k => ?_) k
  refine R_iconst dX13_readBookLine_130 (by decide) (fun l z h k => ?_) k
  refine R_iaload dX13_readBookLine_131 (fun l z h k => ?_) k
  refine R_aload_n dX13_readBookLine_132 rfl (fun l z h k => ?_) k
  refine R_getf (ci := 11) (f := 12) (C := RX13) (N := 49) (Tt := TX13) dX13_readBookLine_133 rfl i_X13 (by decide) w_1479 (fun l z h k => ?_) k
  exact R_cs4 (M := mX13_readBookLine) (pc := 136) (bc := bc) (bs := bs) (cb := 0) (cs := 0) (M' := mX13_findIn) dX13_readBookLine_136 (by decide) w_1696 w_144 w_1694 w_1695 (by decide +kernel) (fun _ _ _ k => k) k
theorem bX13_readBookLine_139 {G : Gt} {d bc bs : Nat} {Q : QT} {l : Ls} {z : List Value} {h : Hp} (k : (tXast 0 (tAld 0 (tCV0 G d 0 0 11 mX13_go (fun l z h => T G d bc bs mX13_readBookLine 144 l z h Q)))) l z h) : T G d bc bs mX13_readBookLine 139 l z h Q := by
  refine R_iastore dX13_readBookLine_139 (fun l z h k => ?_) k
  refine R_aload_n dX13_readBookLine_140 rfl (fun l z h k => ?_) k
  exact R_cv0 (M := mX13_readBookLine) (pc := 141) (bc := bc) (bs := bs) (cb := 0) (cs := 0) (M' := mX13_go) dX13_readBookLine_141 rfl (by decide) w_1647 w_144 w_1644 w_1646 w_47 (by decide +kernel) (fun _ _ _ k => k) k
theorem bX13_readBookLine_144 {G : Gt} {d bc bs : Nat} {Q : QT} {l : Ls} {z : List Value} {h : Hp} (k : (tIld 1 (tIf (fun x => x = 0) (fun l z h => T G d bc bs mX13_readBookLine 206 l z h Q) (fun l z h => T G d bc bs mX13_readBookLine 148 l z h Q))) l z h) : T G d bc bs mX13_readBookLine 144 l z h Q := by
  refine R_iload_n dX13_readBookLine_144 rfl (fun l z h k => ?_) k
  exact R_if_eq dX13_readBookLine_145 (by decide) (fun _ _ _ k => k) (fun _ _ _ k => k) k
theorem bX13_readBookLine_148 {G : Gt} {d bc bs : Nat} {Q : QT} {l : Ls} {z : List Value} {h : Hp} (k : (tAld 0 (tIld 3 (tPush (.int 1) (tB (fun x y => x + y) (tAld 0 (tCV0 G d 0 0 11 mX13_readSide (fun l z h => T G d bc bs mX13_readBookLine 156 l z h Q))))))) l z h) : T G d bc bs mX13_readBookLine 148 l z h Q := by
  refine R_aload_n dX13_readBookLine_148 rfl (fun l z h k => ?_) k
  refine R_iload_n dX13_readBookLine_149 rfl (fun l z h k => ?_) k
  refine R_iconst dX13_readBookLine_150 (by decide) (fun l z h k => ?_) k
  refine R_iadd dX13_readBookLine_151 (fun l z h k => ?_) k
  refine R_aload_n dX13_readBookLine_152 rfl (fun l z h k => ?_) k
  exact R_cv0 (M := mX13_readBookLine) (pc := 153) (bc := bc) (bs := bs) (cb := 0) (cs := 0) (M' := mX13_readSide) dX13_readBookLine_153 rfl (by decide) w_1700 w_144 w_1697 w_1699 w_56 (by decide +kernel) (fun _ _ _ k => k) k
theorem bX13_readBookLine_156 {G : Gt} {d bc bs : Nat} {Q : QT} {l : Ls} {z : List Value} {h : Hp} (k : (tCV2 G d 0 0 11 mX13_keep (fun l z h => T G d bc bs mX13_readBookLine 159 l z h Q)) l z h) : T G d bc bs mX13_readBookLine 156 l z h Q := by
  exact R_cv2 (M := mX13_readBookLine) (pc := 156) (bc := bc) (bs := bs) (cb := 0) (cs := 0) (M' := mX13_keep) dX13_readBookLine_156 rfl (by decide) w_2068 w_144 w_2065 w_2067 w_113 (by decide +kernel) (fun _ _ _ k => k) k
theorem bX13_readBookLine_159 {G : Gt} {d bc bs : Nat} {Q : QT} {l : Ls} {z : List Value} {h : Hp} (k : (tIf (fun x => x = 0) (fun l z h => T G d bc bs mX13_readBookLine 204 l z h Q) (fun l z h => T G d bc bs mX13_readBookLine 162 l z h Q)) l z h) : T G d bc bs mX13_readBookLine 159 l z h Q := by
  exact R_if_eq dX13_readBookLine_159 (by decide) (fun _ _ _ k => k) (fun _ _ _ k => k) k
theorem bX13_readBookLine_162 {G : Gt} {d bc bs : Nat} {Q : QT} {l : Ls} {z : List Value} {h : Hp} (k : (tAld 0 (tIld 3 (tPush (.int 2) (tB (fun x y => x + y) (tAld 0 (tCV0 G d 0 0 11 mX13_readThingName (fun l z h => T G d bc bs mX13_readBookLine 170 l z h Q))))))) l z h) : T G d bc bs mX13_readBookLine 162 l z h Q := by
  refine R_aload_n dX13_readBookLine_162 rfl (fun l z h k => ?_) k
  refine R_iload_n dX13_readBookLine_163 rfl (fun l z h k => ?_) k
  refine R_iconst dX13_readBookLine_164 (by decide) (fun l z h k => ?_) k
  refine R_iadd dX13_readBookLine_165 (fun l z h k => ?_) k
  refine R_aload_n dX13_readBookLine_166 rfl (fun l z h k => ?_) k
  exact R_cv0 (M := mX13_readBookLine) (pc := 167) (bc := bc) (bs := bs) (cb := 0) (cs := 0) (M' := mX13_readThingName) dX13_readBookLine_167 rfl (by decide) w_2072 w_144 w_2069 w_2071 w_114 (by decide +kernel) (fun _ _ _ k => k) k
theorem bX13_readBookLine_170 {G : Gt} {d bc bs : Nat} {Q : QT} {l : Ls} {z : List Value} {h : Hp} (k : (tCV2 G d 0 0 11 mX13_keep (fun l z h => T G d bc bs mX13_readBookLine 173 l z h Q)) l z h) : T G d bc bs mX13_readBookLine 170 l z h Q := by
  exact R_cv2 (M := mX13_readBookLine) (pc := 170) (bc := bc) (bs := bs) (cb := 0) (cs := 0) (M' := mX13_keep) dX13_readBookLine_170 rfl (by decide) w_2068 w_144 w_2065 w_2067 w_113 (by decide +kernel) (fun _ _ _ k => k) k
theorem bX13_readBookLine_173 {G : Gt} {d bc bs : Nat} {Q : QT} {l : Ls} {z : List Value} {h : Hp} (k : (tIf (fun x => x = 0) (fun l z h => T G d bc bs mX13_readBookLine 204 l z h Q) (fun l z h => T G d bc bs mX13_readBookLine 176 l z h Q)) l z h) : T G d bc bs mX13_readBookLine 173 l z h Q := by
  exact R_if_eq dX13_readBookLine_173 (by decide) (fun _ _ _ k => k) (fun _ _ _ k => k) k
theorem bX13_readBookLine_176 {G : Gt} {d bc bs : Nat} {Q : QT} {l : Ls} {z : List Value} {h : Hp} (k : (tAld 0 (tIld 3 (tPush (.int 3) (tB (fun x y => x + y) (tAld 0 (tPush (.int 0) (tPush (.int 12) (tCV2 G d 0 0 11 mX13_readNumber (fun l z h => T G d bc bs mX13_readBookLine 187 l z h Q))))))))) l z h) : T G d bc bs mX13_readBookLine 176 l z h Q := by
  refine R_aload_n dX13_readBookLine_176 rfl (fun l z h k => ?_) k
  refine R_iload_n dX13_readBookLine_177 rfl (fun l z h k => ?_) k
  refine R_iconst dX13_readBookLine_178 (by decide) (fun l z h k => ?_) k
  refine R_iadd dX13_readBookLine_179 (fun l z h k => ?_) k
  refine R_aload_n dX13_readBookLine_180 rfl (fun l z h k => ?_) k
  refine R_iconst dX13_readBookLine_181 (by decide) (fun l z h k => ?_) k
  refine R_bipush dX13_readBookLine_182 (by decide) (fun l z h k => ?_) k
  exact R_cv2 (M := mX13_readBookLine) (pc := 184) (bc := bc) (bs := bs) (cb := 0) (cs := 0) (M' := mX13_readNumber) dX13_readBookLine_184 rfl (by decide) w_1708 w_144 w_1705 w_1707 w_58 (by decide +kernel) (fun _ _ _ k => k) k
theorem bX13_readBookLine_187 {G : Gt} {d bc bs : Nat} {Q : QT} {l : Ls} {z : List Value} {h : Hp} (k : (tCV2 G d 0 0 11 mX13_keep (fun l z h => T G d bc bs mX13_readBookLine 190 l z h Q)) l z h) : T G d bc bs mX13_readBookLine 187 l z h Q := by
  exact R_cv2 (M := mX13_readBookLine) (pc := 187) (bc := bc) (bs := bs) (cb := 0) (cs := 0) (M' := mX13_keep) dX13_readBookLine_187 rfl (by decide) w_2068 w_144 w_2065 w_2067 w_113 (by decide +kernel) (fun _ _ _ k => k) k
theorem bX13_readBookLine_190 {G : Gt} {d bc bs : Nat} {Q : QT} {l : Ls} {z : List Value} {h : Hp} (k : (tIf (fun x => x = 0) (fun l z h => T G d bc bs mX13_readBookLine 204 l z h Q) (fun l z h => T G d bc bs mX13_readBookLine 193 l z h Q)) l z h) : T G d bc bs mX13_readBookLine 190 l z h Q := by
  exact R_if_eq dX13_readBookLine_190 (by decide) (fun _ _ _ k => k) (fun _ _ _ k => k) k
theorem bX13_readBookLine_193 {G : Gt} {d bc bs : Nat} {Q : QT} {l : Ls} {z : List Value} {h : Hp} (k : (tAld 0 (tCV0 G d 0 0 11 mX13_readEnd (fun l z h => T G d bc bs mX13_readBookLine 197 l z h Q))) l z h) : T G d bc bs mX13_readBookLine 193 l z h Q := by
  refine R_aload_n dX13_readBookLine_193 rfl (fun l z h k => ?_) k
  exact R_cv0 (M := mX13_readBookLine) (pc := 194) (bc := bc) (bs := bs) (cb := 0) (cs := 0) (M' := mX13_readEnd) dX13_readBookLine_194 rfl (by decide) w_1747 w_144 w_1744 w_1746 w_67 (by decide +kernel) (fun _ _ _ k => k) k
theorem bX13_readBookLine_197 {G : Gt} {d bc bs : Nat} {Q : QT} {l : Ls} {z : List Value} {h : Hp} (k : (tIf (fun x => x = 0) (fun l z h => T G d bc bs mX13_readBookLine 204 l z h Q) (fun l z h => T G d bc bs mX13_readBookLine 200 l z h Q)) l z h) : T G d bc bs mX13_readBookLine 197 l z h Q := by
  exact R_if_eq dX13_readBookLine_197 (by decide) (fun _ _ _ k => k) (fun _ _ _ k => k) k
theorem bX13_readBookLine_200 {G : Gt} {d bc bs : Nat} {Q : QT} {l : Ls} {z : List Value} {h : Hp} (k : (tPush (.int 1) ((fun l z h => T G d bc bs mX13_readBookLine 205 l z h Q))) l z h) : T G d bc bs mX13_readBookLine 200 l z h Q := by
  refine R_iconst dX13_readBookLine_200 (by decide) (fun l z h k => ?_) k
  exact R_goto dX13_readBookLine_201 (by decide) (fun _ _ _ k => k) k
theorem bX13_readBookLine_204 {G : Gt} {d bc bs : Nat} {Q : QT} {l : Ls} {z : List Value} {h : Hp} (k : (tPush (.int 0) ((fun l z h => T G d bc bs mX13_readBookLine 205 l z h Q))) l z h) : T G d bc bs mX13_readBookLine 204 l z h Q := by
  refine R_iconst dX13_readBookLine_204 (by decide) (fun l z h k => ?_) k
  exact k
theorem bX13_readBookLine_205 {G : Gt} {d bc bs : Nat} {Q : QT} {l : Ls} {z : List Value} {h : Hp} (k : (tRetZ Q) l z h) : T G d bc bs mX13_readBookLine 205 l z h Q := by
  exact R_zret dX13_readBookLine_205 rfl k
theorem bX13_readBookLine_206 {G : Gt} {d bc bs : Nat} {Q : QT} {l : Ls} {z : List Value} {h : Hp} (k : (tIld 2 (tIf (fun x => x = 0) (fun l z h => T G d bc bs mX13_readBookLine 230 l z h Q) (fun l z h => T G d bc bs mX13_readBookLine 210 l z h Q))) l z h) : T G d bc bs mX13_readBookLine 206 l z h Q := by
  refine R_iload_n dX13_readBookLine_206 rfl (fun l z h k => ?_) k
  exact R_if_eq dX13_readBookLine_207 (by decide) (fun _ _ _ k => k) (fun _ _ _ k => k) k
theorem bX13_readBookLine_210 {G : Gt} {d bc bs : Nat} {Q : QT} {l : Ls} {z : List Value} {h : Hp} (k : (tAld 0 (tIld 3 (tPush (.int 1) (tB (fun x y => x + y) (tAld 0 (tPush (.int 1) (tPush (.int 60) (tCV2 G d 0 0 11 mX13_readNumber (fun l z h => T G d bc bs mX13_readBookLine 221 l z h Q))))))))) l z h) : T G d bc bs mX13_readBookLine 210 l z h Q := by
  refine R_aload_n dX13_readBookLine_210 rfl (fun l z h k => ?_) k
  refine R_iload_n dX13_readBookLine_211 rfl (fun l z h k => ?_) k
  refine R_iconst dX13_readBookLine_212 (by decide) (fun l z h k => ?_) k
  refine R_iadd dX13_readBookLine_213 (fun l z h k => ?_) k
  refine R_aload_n dX13_readBookLine_214 rfl (fun l z h k => ?_) k
  refine R_iconst dX13_readBookLine_215 (by decide) (fun l z h k => ?_) k
  refine R_bipush dX13_readBookLine_216 (by decide) (fun l z h k => ?_) k
  exact R_cv2 (M := mX13_readBookLine) (pc := 218) (bc := bc) (bs := bs) (cb := 0) (cs := 0) (M' := mX13_readNumber) dX13_readBookLine_218 rfl (by decide) w_1708 w_144 w_1705 w_1707 w_58 (by decide +kernel) (fun _ _ _ k => k) k
theorem bX13_readBookLine_221 {G : Gt} {d bc bs : Nat} {Q : QT} {l : Ls} {z : List Value} {h : Hp} (k : (tCV2 G d 0 0 11 mX13_keep (fun l z h => T G d bc bs mX13_readBookLine 224 l z h Q)) l z h) : T G d bc bs mX13_readBookLine 221 l z h Q := by
  exact R_cv2 (M := mX13_readBookLine) (pc := 221) (bc := bc) (bs := bs) (cb := 0) (cs := 0) (M' := mX13_keep) dX13_readBookLine_221 rfl (by decide) w_2068 w_144 w_2065 w_2067 w_113 (by decide +kernel) (fun _ _ _ k => k) k
theorem bX13_readBookLine_224 {G : Gt} {d bc bs : Nat} {Q : QT} {l : Ls} {z : List Value} {h : Hp} (k : (tIf (fun x => x = 0) (fun l z h => T G d bc bs mX13_readBookLine 249 l z h Q) (fun l z h => T G d bc bs mX13_readBookLine 227 l z h Q)) l z h) : T G d bc bs mX13_readBookLine 224 l z h Q := by
  exact R_if_eq dX13_readBookLine_224 (by decide) (fun _ _ _ k => k) (fun _ _ _ k => k) k
theorem bX13_readBookLine_227 {G : Gt} {d bc bs : Nat} {Q : QT} {l : Ls} {z : List Value} {h : Hp} (k : (fun l z h => T G d bc bs mX13_readBookLine 238 l z h Q) l z h) : T G d bc bs mX13_readBookLine 227 l z h Q := by
  exact R_goto dX13_readBookLine_227 (by decide) (fun _ _ _ k => k) k
theorem bX13_readBookLine_230 {G : Gt} {d bc bs : Nat} {Q : QT} {l : Ls} {z : List Value} {h : Hp} (k : (tAld 0 (tIld 3 (tCV1 G d 0 0 11 mX13_readDoes (fun l z h => T G d bc bs mX13_readBookLine 235 l z h Q)))) l z h) : T G d bc bs mX13_readBookLine 230 l z h Q := by
  refine R_aload_n dX13_readBookLine_230 rfl (fun l z h k => ?_) k
  refine R_iload_n dX13_readBookLine_231 rfl (fun l z h k => ?_) k
  exact R_cv1 (M := mX13_readBookLine) (pc := 232) (bc := bc) (bs := bs) (cb := 0) (cs := 0) (M' := mX13_readDoes) dX13_readBookLine_232 rfl (by decide) w_2080 w_144 w_2077 w_2079 w_116 (by decide +kernel) (fun _ _ _ k => k) k
theorem bX13_readBookLine_235 {G : Gt} {d bc bs : Nat} {Q : QT} {l : Ls} {z : List Value} {h : Hp} (k : (tIf (fun x => x = 0) (fun l z h => T G d bc bs mX13_readBookLine 249 l z h Q) (fun l z h => T G d bc bs mX13_readBookLine 238 l z h Q)) l z h) : T G d bc bs mX13_readBookLine 235 l z h Q := by
  exact R_if_eq dX13_readBookLine_235 (by decide) (fun _ _ _ k => k) (fun _ _ _ k => k) k
theorem bX13_readBookLine_238 {G : Gt} {d bc bs : Nat} {Q : QT} {l : Ls} {z : List Value} {h : Hp} (k : (tAld 0 (tCV0 G d 0 0 11 mX13_readEnd (fun l z h => T G d bc bs mX13_readBookLine 242 l z h Q))) l z h) : T G d bc bs mX13_readBookLine 238 l z h Q := by
  refine R_aload_n dX13_readBookLine_238 rfl (fun l z h k => ?_) k
  exact R_cv0 (M := mX13_readBookLine) (pc := 239) (bc := bc) (bs := bs) (cb := 0) (cs := 0) (M' := mX13_readEnd) dX13_readBookLine_239 rfl (by decide) w_1747 w_144 w_1744 w_1746 w_67 (by decide +kernel) (fun _ _ _ k => k) k
theorem bX13_readBookLine_242 {G : Gt} {d bc bs : Nat} {Q : QT} {l : Ls} {z : List Value} {h : Hp} (k : (tIf (fun x => x = 0) (fun l z h => T G d bc bs mX13_readBookLine 249 l z h Q) (fun l z h => T G d bc bs mX13_readBookLine 245 l z h Q)) l z h) : T G d bc bs mX13_readBookLine 242 l z h Q := by
  exact R_if_eq dX13_readBookLine_242 (by decide) (fun _ _ _ k => k) (fun _ _ _ k => k) k
theorem bX13_readBookLine_245 {G : Gt} {d bc bs : Nat} {Q : QT} {l : Ls} {z : List Value} {h : Hp} (k : (tPush (.int 1) ((fun l z h => T G d bc bs mX13_readBookLine 250 l z h Q))) l z h) : T G d bc bs mX13_readBookLine 245 l z h Q := by
  refine R_iconst dX13_readBookLine_245 (by decide) (fun l z h k => ?_) k
  exact R_goto dX13_readBookLine_246 (by decide) (fun _ _ _ k => k) k
theorem bX13_readBookLine_249 {G : Gt} {d bc bs : Nat} {Q : QT} {l : Ls} {z : List Value} {h : Hp} (k : (tPush (.int 0) ((fun l z h => T G d bc bs mX13_readBookLine 250 l z h Q))) l z h) : T G d bc bs mX13_readBookLine 249 l z h Q := by
  refine R_iconst dX13_readBookLine_249 (by decide) (fun l z h k => ?_) k
  exact k
theorem bX13_readBookLine_250 {G : Gt} {d bc bs : Nat} {Q : QT} {l : Ls} {z : List Value} {h : Hp} (k : (tRetZ Q) l z h) : T G d bc bs mX13_readBookLine 250 l z h Q := by
  exact R_zret dX13_readBookLine_250 rfl k
theorem dX13_goBy_0 : decode cX13_goBy 0 = .ok (.aload_n 0, 1) := by decide +kernel
theorem dX13_goBy_1 : decode cX13_goBy 1 = .ok (.getfield 76, 3) := by decide +kernel
theorem dX13_goBy_4 : decode cX13_goBy 4 = .ok (.iload_n 1, 1) := by decide +kernel
theorem dX13_goBy_5 : decode cX13_goBy 5 = .ok (.iconst 1, 1) := by decide +kernel
theorem dX13_goBy_6 : decode cX13_goBy 6 = .ok (.iadd, 1) := by decide +kernel
theorem dX13_goBy_7 : decode cX13_goBy 7 = .ok (.iaload, 1) := by decide +kernel
theorem dX13_goBy_8 : decode cX13_goBy 8 = .ok (.istore_n 2, 1) := by decide +kernel
theorem dX13_goBy_9 : decode cX13_goBy 9 = .ok (.aload_n 0, 1) := by decide +kernel
theorem dX13_goBy_10 : decode cX13_goBy 10 = .ok (.getfield 76, 3) := by decide +kernel
theorem dX13_goBy_13 : decode cX13_goBy 13 = .ok (.iload_n 1, 1) := by decide +kernel
theorem dX13_goBy_14 : decode cX13_goBy 14 = .ok (.iaload, 1) := by decide +kernel
theorem dX13_goBy_15 : decode cX13_goBy 15 = .ok (.iconst 5, 1) := by decide +kernel
theorem dX13_goBy_16 : decode cX13_goBy 16 = .ok (.if_icmp .ne 29, 3) := by decide +kernel
theorem dX13_goBy_19 : decode cX13_goBy 19 = .ok (.aload_n 0, 1) := by decide +kernel
theorem dX13_goBy_20 : decode cX13_goBy 20 = .ok (.getfield 13, 3) := by decide +kernel
theorem dX13_goBy_23 : decode cX13_goBy 23 = .ok (.bipush 98, 2) := by decide +kernel
theorem dX13_goBy_25 : decode cX13_goBy 25 = .ok (.iaload, 1) := by decide +kernel
theorem dX13_goBy_26 : decode cX13_goBy 26 = .ok (.iload_n 2, 1) := by decide +kernel
theorem dX13_goBy_27 : decode cX13_goBy 27 = .ok (.iadd, 1) := by decide +kernel
theorem dX13_goBy_28 : decode cX13_goBy 28 = .ok (.sipush 400, 3) := by decide +kernel
theorem dX13_goBy_31 : decode cX13_goBy 31 = .ok (.if_icmp .le 6, 3) := by decide +kernel
theorem dX13_goBy_34 : decode cX13_goBy 34 = .ok (.bipush 51, 2) := by decide +kernel
theorem dX13_goBy_36 : decode cX13_goBy 36 = .ok (.ireturn, 1) := by decide +kernel
theorem dX13_goBy_37 : decode cX13_goBy 37 = .ok (.aload_n 0, 1) := by decide +kernel
theorem dX13_goBy_38 : decode cX13_goBy 38 = .ok (.iload_n 2, 1) := by decide +kernel
theorem dX13_goBy_39 : decode cX13_goBy 39 = .ok (.invokevirtual 320, 3) := by decide +kernel
theorem dX13_goBy_42 : decode cX13_goBy 42 = .ok (.pop, 1) := by decide +kernel
theorem dX13_goBy_43 : decode cX13_goBy 43 = .ok (.iconst 0, 1) := by decide +kernel
theorem dX13_goBy_44 : decode cX13_goBy 44 = .ok (.ireturn, 1) := by decide +kernel
theorem dX13_goBy_45 : decode cX13_goBy 45 = .ok (.aload_n 0, 1) := by decide +kernel
theorem dX13_goBy_46 : decode cX13_goBy 46 = .ok (.aload_n 0, 1) := by decide +kernel
theorem dX13_goBy_47 : decode cX13_goBy 47 = .ok (.getfield 76, 3) := by decide +kernel
theorem dX13_goBy_50 : decode cX13_goBy 50 = .ok (.iload_n 1, 1) := by decide +kernel
theorem dX13_goBy_51 : decode cX13_goBy 51 = .ok (.iaload, 1) := by decide +kernel
theorem dX13_goBy_52 : decode cX13_goBy 52 = .ok (.iload_n 2, 1) := by decide +kernel
theorem dX13_goBy_53 : decode cX13_goBy 53 = .ok (.aload_n 0, 1) := by decide +kernel
theorem dX13_goBy_54 : decode cX13_goBy 54 = .ok (.getfield 76, 3) := by decide +kernel
theorem dX13_goBy_57 : decode cX13_goBy 57 = .ok (.iload_n 1, 1) := by decide +kernel
theorem dX13_goBy_58 : decode cX13_goBy 58 = .ok (.iconst 2, 1) := by decide +kernel
theorem dX13_goBy_59 : decode cX13_goBy 59 = .ok (.iadd, 1) := by decide +kernel
theorem dX13_goBy_60 : decode cX13_goBy 60 = .ok (.iaload, 1) := by decide +kernel
theorem dX13_goBy_61 : decode cX13_goBy 61 = .ok (.aload_n 0, 1) := by decide +kernel
theorem dX13_goBy_62 : decode cX13_goBy 62 = .ok (.getfield 76, 3) := by decide +kernel
theorem dX13_goBy_65 : decode cX13_goBy 65 = .ok (.iload_n 1, 1) := by decide +kernel
theorem dX13_goBy_66 : decode cX13_goBy 66 = .ok (.iconst 3, 1) := by decide +kernel
theorem dX13_goBy_67 : decode cX13_goBy 67 = .ok (.iadd, 1) := by decide +kernel
theorem dX13_goBy_68 : decode cX13_goBy 68 = .ok (.iaload, 1) := by decide +kernel
theorem dX13_goBy_69 : decode cX13_goBy 69 = .ok (.aload_n 0, 1) := by decide +kernel
theorem dX13_goBy_70 : decode cX13_goBy 70 = .ok (.getfield 76, 3) := by decide +kernel
theorem dX13_goBy_73 : decode cX13_goBy 73 = .ok (.iload_n 1, 1) := by decide +kernel
theorem dX13_goBy_74 : decode cX13_goBy 74 = .ok (.iconst 4, 1) := by decide +kernel
theorem dX13_goBy_75 : decode cX13_goBy 75 = .ok (.iadd, 1) := by decide +kernel
theorem dX13_goBy_76 : decode cX13_goBy 76 = .ok (.iaload, 1) := by decide +kernel
theorem dX13_goBy_77 : decode cX13_goBy 77 = .ok (.invokevirtual 297, 3) := by decide +kernel
theorem dX13_goBy_80 : decode cX13_goBy 80 = .ok (.istore_n 3, 1) := by decide +kernel
theorem dX13_goBy_81 : decode cX13_goBy 81 = .ok (.iload_n 3, 1) := by decide +kernel
theorem dX13_goBy_82 : decode cX13_goBy 82 = .ok (.ifCond .eq 15, 3) := by decide +kernel
theorem dX13_goBy_85 : decode cX13_goBy 85 = .ok (.bipush 10, 2) := by decide +kernel
theorem dX13_goBy_87 : decode cX13_goBy 87 = .ok (.aload_n 0, 1) := by decide +kernel
theorem dX13_goBy_88 : decode cX13_goBy 88 = .ok (.getfield 76, 3) := by decide +kernel
theorem dX13_goBy_91 : decode cX13_goBy 91 = .ok (.iload_n 1, 1) := by decide +kernel
theorem dX13_goBy_92 : decode cX13_goBy 92 = .ok (.iaload, 1) := by decide +kernel
theorem dX13_goBy_93 : decode cX13_goBy 93 = .ok (.imul, 1) := by decide +kernel
theorem dX13_goBy_94 : decode cX13_goBy 94 = .ok (.iload_n 3, 1) := by decide +kernel
theorem dX13_goBy_95 : decode cX13_goBy 95 = .ok (.iadd, 1) := by decide +kernel
theorem dX13_goBy_96 : decode cX13_goBy 96 = .ok (.ireturn, 1) := by decide +kernel
theorem dX13_goBy_97 : decode cX13_goBy 97 = .ok (.aload_n 0, 1) := by decide +kernel
theorem dX13_goBy_98 : decode cX13_goBy 98 = .ok (.aload_n 0, 1) := by decide +kernel
theorem dX13_goBy_99 : decode cX13_goBy 99 = .ok (.getfield 76, 3) := by decide +kernel
theorem dX13_goBy_102 : decode cX13_goBy 102 = .ok (.iload_n 1, 1) := by decide +kernel
theorem dX13_goBy_103 : decode cX13_goBy 103 = .ok (.iaload, 1) := by decide +kernel
theorem dX13_goBy_104 : decode cX13_goBy 104 = .ok (.iload_n 2, 1) := by decide +kernel
theorem dX13_goBy_105 : decode cX13_goBy 105 = .ok (.aload_n 0, 1) := by decide +kernel
theorem dX13_goBy_106 : decode cX13_goBy 106 = .ok (.getfield 76, 3) := by decide +kernel
theorem dX13_goBy_109 : decode cX13_goBy 109 = .ok (.iload_n 1, 1) := by decide +kernel
theorem dX13_goBy_110 : decode cX13_goBy 110 = .ok (.iconst 2, 1) := by decide +kernel
theorem dX13_goBy_111 : decode cX13_goBy 111 = .ok (.iadd, 1) := by decide +kernel
theorem dX13_goBy_112 : decode cX13_goBy 112 = .ok (.iaload, 1) := by decide +kernel
theorem dX13_goBy_113 : decode cX13_goBy 113 = .ok (.aload_n 0, 1) := by decide +kernel
theorem dX13_goBy_114 : decode cX13_goBy 114 = .ok (.getfield 76, 3) := by decide +kernel
theorem dX13_goBy_117 : decode cX13_goBy 117 = .ok (.iload_n 1, 1) := by decide +kernel
theorem dX13_goBy_118 : decode cX13_goBy 118 = .ok (.iconst 3, 1) := by decide +kernel
theorem dX13_goBy_119 : decode cX13_goBy 119 = .ok (.iadd, 1) := by decide +kernel
theorem dX13_goBy_120 : decode cX13_goBy 120 = .ok (.iaload, 1) := by decide +kernel
theorem dX13_goBy_121 : decode cX13_goBy 121 = .ok (.aload_n 0, 1) := by decide +kernel
theorem dX13_goBy_122 : decode cX13_goBy 122 = .ok (.getfield 76, 3) := by decide +kernel
theorem dX13_goBy_125 : decode cX13_goBy 125 = .ok (.iload_n 1, 1) := by decide +kernel
theorem dX13_goBy_126 : decode cX13_goBy 126 = .ok (.iconst 4, 1) := by decide +kernel
theorem dX13_goBy_127 : decode cX13_goBy 127 = .ok (.iadd, 1) := by decide +kernel
theorem dX13_goBy_128 : decode cX13_goBy 128 = .ok (.iaload, 1) := by decide +kernel
theorem dX13_goBy_129 : decode cX13_goBy 129 = .ok (.invokevirtual 304, 3) := by decide +kernel
theorem dX13_goBy_132 : decode cX13_goBy 132 = .ok (.iconst 0, 1) := by decide +kernel
theorem dX13_goBy_133 : decode cX13_goBy 133 = .ok (.ireturn, 1) := by decide +kernel
theorem bX13_goBy_0 {G : Gt} {d bc bs : Nat} {Q : QT} {l : Ls} {z : List Value} {h : Hp} (k : (tAld 0 (tGetf 11 40 (tIld 1 (tPush (.int 1) (tB (fun x y => x + y) (tXald 0 (tIst 2 (tAld 0 (tGetf 11 40 (tIld 1 (tXald 0 (tPush (.int 5) (tIf2 (fun x y => x = y) (fun l z h => T G d bc bs mX13_goBy 19 l z h Q) (fun l z h => T G d bc bs mX13_goBy 45 l z h Q)))))))))))))) l z h) : T G d bc bs mX13_goBy 0 l z h Q := by
  refine R_aload_n dX13_goBy_0 rfl (fun l z h k => ?_) k
  refine R_getf (ci := 11) (f := 40) (C := RX13) (N := 49) (Tt := TX13) dX13_goBy_1 rfl i_X13 (by decide) w_1507 (fun l z h k => ?_) k
  refine R_iload_n dX13_goBy_4 rfl (fun l z h k => ?_) k
  refine R_iconst dX13_goBy_5 (by decide) (fun l z h k => ?_) k
  refine R_iadd dX13_goBy_6 (fun l z h k => ?_) k
  refine R_iaload dX13_goBy_7 (fun l z h k => ?_) k
  refine R_istore_n dX13_goBy_8 rfl (by decide) (fun l z h k => ?_) k
  refine R_aload_n dX13_goBy_9 rfl (fun l z h k => ?_) k
  refine R_getf (ci := 11) (f := 40) (C := RX13) (N := 49) (Tt := TX13) dX13_goBy_10 rfl i_X13 (by decide) w_1507 (fun l z h k => ?_) k
  refine R_iload_n dX13_goBy_13 rfl (fun l z h k => ?_) k
  refine R_iaload dX13_goBy_14 (fun l z h k => ?_) k
  refine R_iconst dX13_goBy_15 (by decide) (fun l z h k => ?_) k
  exact R_icmp_ne dX13_goBy_16 (by decide) (fun _ _ _ k => k) (fun _ _ _ k => k) k
theorem bX13_goBy_19 {G : Gt} {d bc bs : Nat} {Q : QT} {l : Ls} {z : List Value} {h : Hp} (k : (tAld 0 (tGetf 11 14 (tPush (.int 98) (tXald 0 (tIld 2 (tB (fun x y => x + y) (tPush (.int 400) (tIf2 (fun x y => x ≤ y) (fun l z h => T G d bc bs mX13_goBy 37 l z h Q) (fun l z h => T G d bc bs mX13_goBy 34 l z h Q))))))))) l z h) : T G d bc bs mX13_goBy 19 l z h Q := by
  refine R_aload_n dX13_goBy_19 rfl (fun l z h k => ?_) k
  refine R_getf (ci := 11) (f := 14) (C := RX13) (N := 49) (Tt := TX13) dX13_goBy_20 rfl i_X13 (by decide) w_1481 (fun l z h k => ?_) k
  refine R_bipush dX13_goBy_23 (by decide) (fun l z h k => ?_) k
  refine R_iaload dX13_goBy_25 (fun l z h k => ?_) k
  refine R_iload_n dX13_goBy_26 rfl (fun l z h k => ?_) k
  refine R_iadd dX13_goBy_27 (fun l z h k => ?_) k
  refine R_sipush dX13_goBy_28 (by decide) (fun l z h k => ?_) k
  exact R_icmp_le dX13_goBy_31 (by decide) (fun _ _ _ k => k) (fun _ _ _ k => k) k
theorem bX13_goBy_34 {G : Gt} {d bc bs : Nat} {Q : QT} {l : Ls} {z : List Value} {h : Hp} (k : (tPush (.int 51) (tRetI Q)) l z h) : T G d bc bs mX13_goBy 34 l z h Q := by
  refine R_bipush dX13_goBy_34 (by decide) (fun l z h k => ?_) k
  exact R_iret dX13_goBy_36 rfl k
theorem bX13_goBy_37 {G : Gt} {d bc bs : Nat} {Q : QT} {l : Ls} {z : List Value} {h : Hp} (k : (tAld 0 (tIld 2 (tCV1 G d 0 0 11 mX13_passDays (fun l z h => T G d bc bs mX13_goBy 42 l z h Q)))) l z h) : T G d bc bs mX13_goBy 37 l z h Q := by
  refine R_aload_n dX13_goBy_37 rfl (fun l z h k => ?_) k
  refine R_iload_n dX13_goBy_38 rfl (fun l z h k => ?_) k
  exact R_cv1 (M := mX13_goBy) (pc := 39) (bc := bc) (bs := bs) (cb := 0) (cs := 0) (M' := mX13_passDays) dX13_goBy_39 rfl (by decide) w_1897 w_144 w_1894 w_1896 w_90 (by decide +kernel) (fun _ _ _ k => k) k
theorem bX13_goBy_42 {G : Gt} {d bc bs : Nat} {Q : QT} {l : Ls} {z : List Value} {h : Hp} (k : (tPop (tPush (.int 0) (tRetI Q))) l z h) : T G d bc bs mX13_goBy 42 l z h Q := by
  refine R_pop dX13_goBy_42 (fun l z h k => ?_) k
  refine R_iconst dX13_goBy_43 (by decide) (fun l z h k => ?_) k
  exact R_iret dX13_goBy_44 rfl k
theorem bX13_goBy_45 {G : Gt} {d bc bs : Nat} {Q : QT} {l : Ls} {z : List Value} {h : Hp} (k : (tAld 0 (tAld 0 (tGetf 11 40 (tIld 1 (tXald 0 (tIld 2 (tAld 0 (tGetf 11 40 (tIld 1 (tPush (.int 2) (tB (fun x y => x + y) (tXald 0 (tAld 0 (tGetf 11 40 (tIld 1 (tPush (.int 3) (tB (fun x y => x + y) (tXald 0 (tAld 0 (tGetf 11 40 (tIld 1 (tPush (.int 4) (tB (fun x y => x + y) (tXald 0 (tCV5 G d 0 0 11 mX13_why (fun l z h => T G d bc bs mX13_goBy 80 l z h Q)))))))))))))))))))))))))) l z h) : T G d bc bs mX13_goBy 45 l z h Q := by
  refine R_aload_n dX13_goBy_45 rfl (fun l z h k => ?_) k
  refine R_aload_n dX13_goBy_46 rfl (fun l z h k => ?_) k
  refine R_getf (ci := 11) (f := 40) (C := RX13) (N := 49) (Tt := TX13) dX13_goBy_47 rfl i_X13 (by decide) w_1507 (fun l z h k => ?_) k
  refine R_iload_n dX13_goBy_50 rfl (fun l z h k => ?_) k
  refine R_iaload dX13_goBy_51 (fun l z h k => ?_) k
  refine R_iload_n dX13_goBy_52 rfl (fun l z h k => ?_) k
  refine R_aload_n dX13_goBy_53 rfl (fun l z h k => ?_) k
  refine R_getf (ci := 11) (f := 40) (C := RX13) (N := 49) (Tt := TX13) dX13_goBy_54 rfl i_X13 (by decide) w_1507 (fun l z h k => ?_) k
  refine R_iload_n dX13_goBy_57 rfl (fun l z h k => ?_) k
  refine R_iconst dX13_goBy_58 (by decide) (fun l z h k => ?_) k
  refine R_iadd dX13_goBy_59 (fun l z h k => ?_) k
  refine R_iaload dX13_goBy_60 (fun l z h k => ?_) k
  refine R_aload_n dX13_goBy_61 rfl (fun l z h k => ?_) k
  refine R_getf (ci := 11) (f := 40) (C := RX13) (N := 49) (Tt := TX13) dX13_goBy_62 rfl i_X13 (by decide) w_1507 (fun l z h k => ?_) k
  refine R_iload_n dX13_goBy_65 rfl (fun l z h k => ?_) k
  refine R_iconst dX13_goBy_66 (by decide) (fun l z h k => ?_) k
  refine R_iadd dX13_goBy_67 (fun l z h k => ?_) k
  refine R_iaload dX13_goBy_68 (fun l z h k => ?_) k
  refine R_aload_n dX13_goBy_69 rfl (fun l z h k => ?_) k
  refine R_getf (ci := 11) (f := 40) (C := RX13) (N := 49) (Tt := TX13) dX13_goBy_70 rfl i_X13 (by decide) w_1507 (fun l z h k => ?_) k
  refine R_iload_n dX13_goBy_73 rfl (fun l z h k => ?_) k
  refine R_iconst dX13_goBy_74 (by decide) (fun l z h k => ?_) k
  refine R_iadd dX13_goBy_75 (fun l z h k => ?_) k
  refine R_iaload dX13_goBy_76 (fun l z h k => ?_) k
  exact R_cv5 (M := mX13_goBy) (pc := 77) (bc := bc) (bs := bs) (cb := 0) (cs := 0) (M' := mX13_why) dX13_goBy_77 rfl (by decide) w_1835 w_144 w_1832 w_1834 w_82 (by decide +kernel) (fun _ _ _ k => k) k
theorem bX13_goBy_80 {G : Gt} {d bc bs : Nat} {Q : QT} {l : Ls} {z : List Value} {h : Hp} (k : (tIst 3 (tIld 3 (tIf (fun x => x = 0) (fun l z h => T G d bc bs mX13_goBy 97 l z h Q) (fun l z h => T G d bc bs mX13_goBy 85 l z h Q)))) l z h) : T G d bc bs mX13_goBy 80 l z h Q := by
  refine R_istore_n dX13_goBy_80 rfl (by decide) (fun l z h k => ?_) k
  refine R_iload_n dX13_goBy_81 rfl (fun l z h k => ?_) k
  exact R_if_eq dX13_goBy_82 (by decide) (fun _ _ _ k => k) (fun _ _ _ k => k) k
theorem bX13_goBy_85 {G : Gt} {d bc bs : Nat} {Q : QT} {l : Ls} {z : List Value} {h : Hp} (k : (tPush (.int 10) (tAld 0 (tGetf 11 40 (tIld 1 (tXald 0 (tB (fun x y => x * y) (tIld 3 (tB (fun x y => x + y) (tRetI Q))))))))) l z h) : T G d bc bs mX13_goBy 85 l z h Q := by
  refine R_bipush dX13_goBy_85 (by decide) (fun l z h k => ?_) k
  refine R_aload_n dX13_goBy_87 rfl (fun l z h k => ?_) k
  refine R_getf (ci := 11) (f := 40) (C := RX13) (N := 49) (Tt := TX13) dX13_goBy_88 rfl i_X13 (by decide) w_1507 (fun l z h k => ?_) k
  refine R_iload_n dX13_goBy_91 rfl (fun l z h k => ?_) k
  refine R_iaload dX13_goBy_92 (fun l z h k => ?_) k
  refine R_imul dX13_goBy_93 (fun l z h k => ?_) k
  refine R_iload_n dX13_goBy_94 rfl (fun l z h k => ?_) k
  refine R_iadd dX13_goBy_95 (fun l z h k => ?_) k
  exact R_iret dX13_goBy_96 rfl k
theorem bX13_goBy_97 {G : Gt} {d bc bs : Nat} {Q : QT} {l : Ls} {z : List Value} {h : Hp} (k : (tAld 0 (tAld 0 (tGetf 11 40 (tIld 1 (tXald 0 (tIld 2 (tAld 0 (tGetf 11 40 (tIld 1 (tPush (.int 2) (tB (fun x y => x + y) (tXald 0 (tAld 0 (tGetf 11 40 (tIld 1 (tPush (.int 3) (tB (fun x y => x + y) (tXald 0 (tAld 0 (tGetf 11 40 (tIld 1 (tPush (.int 4) (tB (fun x y => x + y) (tXald 0 (tCV5 G d 0 0 11 mX13_live (fun l z h => T G d bc bs mX13_goBy 132 l z h Q)))))))))))))))))))))))))) l z h) : T G d bc bs mX13_goBy 97 l z h Q := by
  refine R_aload_n dX13_goBy_97 rfl (fun l z h k => ?_) k
  refine R_aload_n dX13_goBy_98 rfl (fun l z h k => ?_) k
  refine R_getf (ci := 11) (f := 40) (C := RX13) (N := 49) (Tt := TX13) dX13_goBy_99 rfl i_X13 (by decide) w_1507 (fun l z h k => ?_) k
  refine R_iload_n dX13_goBy_102 rfl (fun l z h k => ?_) k
  refine R_iaload dX13_goBy_103 (fun l z h k => ?_) k
  refine R_iload_n dX13_goBy_104 rfl (fun l z h k => ?_) k
  refine R_aload_n dX13_goBy_105 rfl (fun l z h k => ?_) k
  refine R_getf (ci := 11) (f := 40) (C := RX13) (N := 49) (Tt := TX13) dX13_goBy_106 rfl i_X13 (by decide) w_1507 (fun l z h k => ?_) k
  refine R_iload_n dX13_goBy_109 rfl (fun l z h k => ?_) k
  refine R_iconst dX13_goBy_110 (by decide) (fun l z h k => ?_) k
  refine R_iadd dX13_goBy_111 (fun l z h k => ?_) k
  refine R_iaload dX13_goBy_112 (fun l z h k => ?_) k
  refine R_aload_n dX13_goBy_113 rfl (fun l z h k => ?_) k
  refine R_getf (ci := 11) (f := 40) (C := RX13) (N := 49) (Tt := TX13) dX13_goBy_114 rfl i_X13 (by decide) w_1507 (fun l z h k => ?_) k
  refine R_iload_n dX13_goBy_117 rfl (fun l z h k => ?_) k
  refine R_iconst dX13_goBy_118 (by decide) (fun l z h k => ?_) k
  refine R_iadd dX13_goBy_119 (fun l z h k => ?_) k
  refine R_iaload dX13_goBy_120 (fun l z h k => ?_) k
  refine R_aload_n dX13_goBy_121 rfl (fun l z h k => ?_) k
  refine R_getf (ci := 11) (f := 40) (C := RX13) (N := 49) (Tt := TX13) dX13_goBy_122 rfl i_X13 (by decide) w_1507 (fun l z h k => ?_) k
  refine R_iload_n dX13_goBy_125 rfl (fun l z h k => ?_) k
  refine R_iconst dX13_goBy_126 (by decide) (fun l z h k => ?_) k
  refine R_iadd dX13_goBy_127 (fun l z h k => ?_) k
  refine R_iaload dX13_goBy_128 (fun l z h k => ?_) k
  exact R_cv5 (M := mX13_goBy) (pc := 129) (bc := bc) (bs := bs) (cb := 0) (cs := 0) (M' := mX13_live) dX13_goBy_129 rfl (by decide) w_1854 w_144 w_1851 w_1853 w_86 (by decide +kernel) (fun _ _ _ k => k) k
theorem bX13_goBy_132 {G : Gt} {d bc bs : Nat} {Q : QT} {l : Ls} {z : List Value} {h : Hp} (k : (tPush (.int 0) (tRetI Q)) l z h) : T G d bc bs mX13_goBy 132 l z h Q := by
  refine R_iconst dX13_goBy_132 (by decide) (fun l z h k => ?_) k
  exact R_iret dX13_goBy_133 rfl k
